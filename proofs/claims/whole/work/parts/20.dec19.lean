def f190_serves_L35 (v1 : Int32) (s : (Int32 × Int32 × Int32 × Int32 × (Nat → Nat → Int32))) : Option ((Int32 × Int32 × Int32 × Int32 × (Nat → Nat → Int32)) ⊕ (Int32 × Int32 × Int32 × Int32 × (Nat → Nat → Int32))) :=
  if (s.2.2.2.2 73 31) ≤ s.2.2.2.1 then
    some (.inl (s.1, s.2.1, s.2.2.1, s.2.2.2.1, s.2.2.2.2))
  else
    Option.bind (f171_goTo (s.2.2.2.2 73 15) (zu s.2.2.2.2 73 51 s.2.2.2.1)) fun t4 =>
    bif zin v1 8 then
    if t4.1 = (t4.2 81 v1.toNatClampNeg) then
      if s.1 < 0 then
        if (1 : Int32) = 0 then
          some (.inr (s.1, s.2.1, s.2.2.1, (s.2.2.2.1 + 1), t4.2))
        else
          some (.inr (s.2.2.2.1, (1 : Int32), (t4.2 73 54), (s.2.2.2.1 + 1), t4.2))
      else
        if (1 : Int32) = 0 then
          if (1 : Int32) = s.2.1 then
            if (1 : Int32) = 0 then
              if s.2.2.1 ≤ (t4.2 73 54) then
                if (0 : Int32) = 0 then
                  some (.inr (s.1, s.2.1, s.2.2.1, (s.2.2.2.1 + 1), t4.2))
                else
                  some (.inr (s.2.2.2.1, (1 : Int32), (t4.2 73 54), (s.2.2.2.1 + 1), t4.2))
              else
                if (1 : Int32) = 0 then
                  some (.inr (s.1, s.2.1, s.2.2.1, (s.2.2.2.1 + 1), t4.2))
                else
                  some (.inr (s.2.2.2.1, (1 : Int32), (t4.2 73 54), (s.2.2.2.1 + 1), t4.2))
            else
              if (t4.2 73 54) ≤ s.2.2.1 then
                if (0 : Int32) = 0 then
                  some (.inr (s.1, s.2.1, s.2.2.1, (s.2.2.2.1 + 1), t4.2))
                else
                  some (.inr (s.2.2.2.1, (1 : Int32), (t4.2 73 54), (s.2.2.2.1 + 1), t4.2))
              else
                if (1 : Int32) = 0 then
                  some (.inr (s.1, s.2.1, s.2.2.1, (s.2.2.2.1 + 1), t4.2))
                else
                  some (.inr (s.2.2.2.1, (1 : Int32), (t4.2 73 54), (s.2.2.2.1 + 1), t4.2))
          else
            if (0 : Int32) = 0 then
              some (.inr (s.1, s.2.1, s.2.2.1, (s.2.2.2.1 + 1), t4.2))
            else
              some (.inr (s.2.2.2.1, (1 : Int32), (t4.2 73 54), (s.2.2.2.1 + 1), t4.2))
        else
          if s.2.1 = 0 then
            if (1 : Int32) = 0 then
              some (.inr (s.1, s.2.1, s.2.2.1, (s.2.2.2.1 + 1), t4.2))
            else
              some (.inr (s.2.2.2.1, (1 : Int32), (t4.2 73 54), (s.2.2.2.1 + 1), t4.2))
          else
            if (1 : Int32) = s.2.1 then
              if (1 : Int32) = 0 then
                if s.2.2.1 ≤ (t4.2 73 54) then
                  if (0 : Int32) = 0 then
                    some (.inr (s.1, s.2.1, s.2.2.1, (s.2.2.2.1 + 1), t4.2))
                  else
                    some (.inr (s.2.2.2.1, (1 : Int32), (t4.2 73 54), (s.2.2.2.1 + 1), t4.2))
                else
                  if (1 : Int32) = 0 then
                    some (.inr (s.1, s.2.1, s.2.2.1, (s.2.2.2.1 + 1), t4.2))
                  else
                    some (.inr (s.2.2.2.1, (1 : Int32), (t4.2 73 54), (s.2.2.2.1 + 1), t4.2))
              else
                if (t4.2 73 54) ≤ s.2.2.1 then
                  if (0 : Int32) = 0 then
                    some (.inr (s.1, s.2.1, s.2.2.1, (s.2.2.2.1 + 1), t4.2))
                  else
                    some (.inr (s.2.2.2.1, (1 : Int32), (t4.2 73 54), (s.2.2.2.1 + 1), t4.2))
                else
                  if (1 : Int32) = 0 then
                    some (.inr (s.1, s.2.1, s.2.2.1, (s.2.2.2.1 + 1), t4.2))
                  else
                    some (.inr (s.2.2.2.1, (1 : Int32), (t4.2 73 54), (s.2.2.2.1 + 1), t4.2))
            else
              if (0 : Int32) = 0 then
                some (.inr (s.1, s.2.1, s.2.2.1, (s.2.2.2.1 + 1), t4.2))
              else
                some (.inr (s.2.2.2.1, (1 : Int32), (t4.2 73 54), (s.2.2.2.1 + 1), t4.2))
    else
      if s.1 < 0 then
        if (1 : Int32) = 0 then
          some (.inr (s.1, s.2.1, s.2.2.1, (s.2.2.2.1 + 1), t4.2))
        else
          some (.inr (s.2.2.2.1, (0 : Int32), (t4.2 73 54), (s.2.2.2.1 + 1), t4.2))
      else
        if (0 : Int32) = 0 then
          if (0 : Int32) = s.2.1 then
            if (0 : Int32) = 0 then
              if s.2.2.1 ≤ (t4.2 73 54) then
                if (0 : Int32) = 0 then
                  some (.inr (s.1, s.2.1, s.2.2.1, (s.2.2.2.1 + 1), t4.2))
                else
                  some (.inr (s.2.2.2.1, (0 : Int32), (t4.2 73 54), (s.2.2.2.1 + 1), t4.2))
              else
                if (1 : Int32) = 0 then
                  some (.inr (s.1, s.2.1, s.2.2.1, (s.2.2.2.1 + 1), t4.2))
                else
                  some (.inr (s.2.2.2.1, (0 : Int32), (t4.2 73 54), (s.2.2.2.1 + 1), t4.2))
            else
              if (t4.2 73 54) ≤ s.2.2.1 then
                if (0 : Int32) = 0 then
                  some (.inr (s.1, s.2.1, s.2.2.1, (s.2.2.2.1 + 1), t4.2))
                else
                  some (.inr (s.2.2.2.1, (0 : Int32), (t4.2 73 54), (s.2.2.2.1 + 1), t4.2))
              else
                if (1 : Int32) = 0 then
                  some (.inr (s.1, s.2.1, s.2.2.1, (s.2.2.2.1 + 1), t4.2))
                else
                  some (.inr (s.2.2.2.1, (0 : Int32), (t4.2 73 54), (s.2.2.2.1 + 1), t4.2))
          else
            if (0 : Int32) = 0 then
              some (.inr (s.1, s.2.1, s.2.2.1, (s.2.2.2.1 + 1), t4.2))
            else
              some (.inr (s.2.2.2.1, (0 : Int32), (t4.2 73 54), (s.2.2.2.1 + 1), t4.2))
        else
          if s.2.1 = 0 then
            if (1 : Int32) = 0 then
              some (.inr (s.1, s.2.1, s.2.2.1, (s.2.2.2.1 + 1), t4.2))
            else
              some (.inr (s.2.2.2.1, (0 : Int32), (t4.2 73 54), (s.2.2.2.1 + 1), t4.2))
          else
            if (0 : Int32) = s.2.1 then
              if (0 : Int32) = 0 then
                if s.2.2.1 ≤ (t4.2 73 54) then
                  if (0 : Int32) = 0 then
                    some (.inr (s.1, s.2.1, s.2.2.1, (s.2.2.2.1 + 1), t4.2))
                  else
                    some (.inr (s.2.2.2.1, (0 : Int32), (t4.2 73 54), (s.2.2.2.1 + 1), t4.2))
                else
                  if (1 : Int32) = 0 then
                    some (.inr (s.1, s.2.1, s.2.2.1, (s.2.2.2.1 + 1), t4.2))
                  else
                    some (.inr (s.2.2.2.1, (0 : Int32), (t4.2 73 54), (s.2.2.2.1 + 1), t4.2))
              else
                if (t4.2 73 54) ≤ s.2.2.1 then
                  if (0 : Int32) = 0 then
                    some (.inr (s.1, s.2.1, s.2.2.1, (s.2.2.2.1 + 1), t4.2))
                  else
                    some (.inr (s.2.2.2.1, (0 : Int32), (t4.2 73 54), (s.2.2.2.1 + 1), t4.2))
                else
                  if (1 : Int32) = 0 then
                    some (.inr (s.1, s.2.1, s.2.2.1, (s.2.2.2.1 + 1), t4.2))
                  else
                    some (.inr (s.2.2.2.1, (0 : Int32), (t4.2 73 54), (s.2.2.2.1 + 1), t4.2))
            else
              if (0 : Int32) = 0 then
                some (.inr (s.1, s.2.1, s.2.2.1, (s.2.2.2.1 + 1), t4.2))
              else
                some (.inr (s.2.2.2.1, (0 : Int32), (t4.2 73 54), (s.2.2.2.1 + 1), t4.2))
    else none
def f190_serves (v1 : Int32) (I : (Nat → Nat → Int32)) : Option (Int32 × (Nat → Nat → Int32)) :=
  Option.bind (f131_isSort v1 I) fun t2 =>
  if t2 = 0 then
    some ((-1), I)
  else
    if (I 73 31) = 0 then
      some ((-5), I)
    else
      Option.bind (zloop (f190_serves_L35 v1) 5000 (((-1) : Int32), (0 : Int32), (0 : Int32), (0 : Int32), (zu I 73 50 v1))) fun s54 =>
      some (s54.1, (zu s54.2.2.2.2 73 50 (-1)))
theorem ok_f190_serves_L35 {X : zX} {d : Nat} {r : Option Value} {M' : zM} (hd : 6 ≤ d) (v1 : Int32) {J : (Nat → Nat → Int64)} : ∀ (n : Nat) (s x : (Int32 × Int32 × Int32 × Int32 × (Nat → Nat → Int32))), zloop (f190_serves_L35 v1) n s = some x → (fun (x : (Int32 × Int32 × Int32 × Int32 × (Nat → Nat → Int32))) => zRun X d 190 152 [some (.ref 73), none, some (.int x.1), none, none, none, none, none] [] (SH, x.2.2.2.2, J) r M') x → (fun (s : (Int32 × Int32 × Int32 × Int32 × (Nat → Nat → Int32))) => zRun X d 190 35 [some (.ref 73), some (.int v1), some (.int s.1), some (.int s.2.1), some (.int s.2.2.1), some (.int s.2.2.2.1), none, none] [] (SH, s.2.2.2.2, J) r M') s := zloop_ok (Wh := fun (s : (Int32 × Int32 × Int32 × Int32 × (Nat → Nat → Int32))) => zRun X d 190 35 [some (.ref 73), some (.int v1), some (.int s.1), some (.int s.2.1), some (.int s.2.2.1), some (.int s.2.2.2.1), none, none] [] (SH, s.2.2.2.2, J) r M') (Wx := fun (x : (Int32 × Int32 × Int32 × Int32 × (Nat → Nat → Int32))) => zRun X d 190 152 [some (.ref 73), none, some (.int x.1), none, none, none, none, none] [] (SH, x.2.2.2.2, J) r M') (fun s y h w => by
  unfold f190_serves_L35 at h
  refine zr_steps 3 (41, [some (.ref 73), some (.int v1), some (.int s.1), some (.int s.2.1), some (.int s.2.2.1), some (.int s.2.2.2.1), none, none], [.int (s.2.2.2.2 73 31), .int s.2.2.2.1], (SH, s.2.2.2.2, J)) rfl ?_
  refine zr_one (if (s.2.2.2.2 73 31) ≤ s.2.2.2.1 then zN 152 [some (.ref 73), some (.int v1), some (.int s.1), some (.int s.2.1), some (.int s.2.2.1), some (.int s.2.2.2.1), none, none] [] (SH, s.2.2.2.2, J) else zN 44 [some (.ref 73), some (.int v1), some (.int s.1), some (.int s.2.1), some (.int s.2.2.1), some (.int s.2.2.2.1), none, none] [] (SH, s.2.2.2.2, J)) rfl (zR_if (fun hc53 => zR_go ?_) (fun hc53 => zR_go ?_))
  · rw [if_pos hc53] at h
    have he := Option.some.inj h
    subst he
    exact zr_hdr rfl rfl (show zRun X d 190 152 [some (.ref 73), none, some (.int s.1), none, none, none, none, none] [] (SH, s.2.2.2.2, J) r M' from w)
  · rw [if_neg hc53] at h
    refine zr_steps 6 (55, [some (.ref 73), some (.int v1), some (.int s.1), some (.int s.2.1), some (.int s.2.2.1), some (.int s.2.2.2.1), none, none], [.int (s.2.2.2.2 73 15), .ref 73], (SH, (zu s.2.2.2.2 73 51 s.2.2.2.1), J)) rfl ?_
    obtain ⟨t4, hc3, h⟩ := zbind h
    refine zr_one (some (.inr (.inl (171, [.ref 73, .int (s.2.2.2.2 73 15)], [], 58)))) rfl (zR_call (by omega) rfl (ok_f171_goTo (by omega) (s.2.2.2.2 73 15) _ hc3) ?_)
    refine zr_steps 3 (63, [some (.ref 73), some (.int v1), some (.int s.1), some (.int s.2.1), some (.int s.2.2.1), some (.int s.2.2.2.1), none, none], [.int v1, .ref 81, .int t4.1], (SH, t4.2, J)) rfl ?_
    obtain ⟨hc5, h⟩ := zbifo h
    refine zr_one (bif zin v1 8 then zN 64 [some (.ref 73), some (.int v1), some (.int s.1), some (.int s.2.1), some (.int s.2.2.1), some (.int s.2.2.2.1), none, none] [.int (t4.2 81 v1.toNatClampNeg), .int t4.1] (SH, t4.2, J) else none) rfl (zR_bif hc5 (zR_go ?_))
    refine zr_one (if t4.1 = (t4.2 81 v1.toNatClampNeg) then zN 67 [some (.ref 73), some (.int v1), some (.int s.1), some (.int s.2.1), some (.int s.2.2.1), some (.int s.2.2.2.1), none, none] [] (SH, t4.2, J) else zN 71 [some (.ref 73), some (.int v1), some (.int s.1), some (.int s.2.1), some (.int s.2.2.1), some (.int s.2.2.2.1), none, none] [] (SH, t4.2, J)) rfl (zR_if (fun hc52 => zR_go ?_) (fun hc52 => zR_go ?_))
    · rw [if_pos hc52] at h
      refine zr_steps 4 (75, [some (.ref 73), some (.int v1), some (.int s.1), some (.int s.2.1), some (.int s.2.2.1), some (.int s.2.2.2.1), some (.int 1), none], [.int s.1], (SH, t4.2, J)) rfl ?_
      refine zr_one (if s.1 < 0 then zN 119 [some (.ref 73), some (.int v1), some (.int s.1), some (.int s.2.1), some (.int s.2.2.1), some (.int s.2.2.2.1), some (.int 1), none] [] (SH, t4.2, J) else zN 78 [some (.ref 73), some (.int v1), some (.int s.1), some (.int s.2.1), some (.int s.2.2.1), some (.int s.2.2.2.1), some (.int 1), none] [] (SH, t4.2, J)) rfl (zR_if (fun hc28 => zR_go ?_) (fun hc28 => zR_go ?_))
      · rw [if_pos hc28] at h
        refine zr_steps 4 (128, [some (.ref 73), some (.int v1), some (.int s.1), some (.int s.2.1), some (.int s.2.2.1), some (.int s.2.2.2.1), some (.int 1), some (.int 1)], [.int 1], (SH, t4.2, J)) rfl ?_
        refine zr_one (if (1 : Int32) = 0 then zN 131 [some (.ref 73), some (.int v1), some (.int s.1), some (.int s.2.1), some (.int s.2.2.1), some (.int s.2.2.2.1), some (.int 1), some (.int 1)] [] (SH, t4.2, J) else zN 134 [some (.ref 73), some (.int v1), some (.int s.1), some (.int s.2.1), some (.int s.2.2.1), some (.int s.2.2.2.1), some (.int 1), some (.int 1)] [] (SH, t4.2, J)) rfl (zR_if (fun hc6 => zR_go ?_) (fun hc6 => zR_go ?_))
        · rw [if_pos hc6] at h
          refine zr_steps 3 (35, [some (.ref 73), some (.int v1), some (.int s.1), some (.int s.2.1), some (.int s.2.2.1), some (.int (s.2.2.2.1 + 1)), some (.int 1), some (.int 1)], [], (SH, t4.2, J)) rfl ?_
          have he := Option.some.inj h
          subst he
          exact zr_hdr rfl rfl (show zRun X d 190 35 [some (.ref 73), some (.int v1), some (.int s.1), some (.int s.2.1), some (.int s.2.2.1), some (.int (s.2.2.2.1 + 1)), none, none] [] (SH, t4.2, J) r M' from w)
        · rw [if_neg hc6] at h
          refine zr_steps 9 (35, [some (.ref 73), some (.int v1), some (.int s.2.2.2.1), some (.int 1), some (.int (t4.2 73 54)), some (.int (s.2.2.2.1 + 1)), some (.int 1), some (.int 1)], [], (SH, t4.2, J)) rfl ?_
          have he := Option.some.inj h
          subst he
          exact zr_hdr rfl rfl (show zRun X d 190 35 [some (.ref 73), some (.int v1), some (.int s.2.2.2.1), some (.int 1), some (.int (t4.2 73 54)), some (.int (s.2.2.2.1 + 1)), none, none] [] (SH, t4.2, J) r M' from w)
      · rw [if_neg hc28] at h
        refine zr_steps 1 (80, [some (.ref 73), some (.int v1), some (.int s.1), some (.int s.2.1), some (.int s.2.2.1), some (.int s.2.2.2.1), some (.int 1), none], [.int 1], (SH, t4.2, J)) rfl ?_
        refine zr_one (if (1 : Int32) = 0 then zN 87 [some (.ref 73), some (.int v1), some (.int s.1), some (.int s.2.1), some (.int s.2.2.1), some (.int s.2.2.2.1), some (.int 1), none] [] (SH, t4.2, J) else zN 83 [some (.ref 73), some (.int v1), some (.int s.1), some (.int s.2.1), some (.int s.2.2.1), some (.int s.2.2.2.1), some (.int 1), none] [] (SH, t4.2, J)) rfl (zR_if (fun hc27 => zR_go ?_) (fun hc27 => zR_go ?_))
        · rw [if_pos hc27] at h
          refine zr_steps 2 (90, [some (.ref 73), some (.int v1), some (.int s.1), some (.int s.2.1), some (.int s.2.2.1), some (.int s.2.2.2.1), some (.int 1), none], [.int s.2.1, .int 1], (SH, t4.2, J)) rfl ?_
          refine zr_one (if (1 : Int32) = s.2.1 then zN 93 [some (.ref 73), some (.int v1), some (.int s.1), some (.int s.2.1), some (.int s.2.2.1), some (.int s.2.2.2.1), some (.int 1), none] [] (SH, t4.2, J) else zN 123 [some (.ref 73), some (.int v1), some (.int s.1), some (.int s.2.1), some (.int s.2.2.1), some (.int s.2.2.2.1), some (.int 1), none] [] (SH, t4.2, J)) rfl (zR_if (fun hc15 => zR_go ?_) (fun hc15 => zR_go ?_))
          · rw [if_pos hc15] at h
            refine zr_steps 1 (95, [some (.ref 73), some (.int v1), some (.int s.1), some (.int s.2.1), some (.int s.2.2.1), some (.int s.2.2.2.1), some (.int 1), none], [.int 1], (SH, t4.2, J)) rfl ?_
            refine zr_one (if (1 : Int32) = 0 then zN 110 [some (.ref 73), some (.int v1), some (.int s.1), some (.int s.2.1), some (.int s.2.2.1), some (.int s.2.2.2.1), some (.int 1), none] [] (SH, t4.2, J) else zN 98 [some (.ref 73), some (.int v1), some (.int s.1), some (.int s.2.1), some (.int s.2.2.1), some (.int s.2.2.2.1), some (.int 1), none] [] (SH, t4.2, J)) rfl (zR_if (fun hc13 => zR_go ?_) (fun hc13 => zR_go ?_))
            · rw [if_pos hc13] at h
              refine zr_steps 3 (116, [some (.ref 73), some (.int v1), some (.int s.1), some (.int s.2.1), some (.int s.2.2.1), some (.int s.2.2.2.1), some (.int 1), none], [.int s.2.2.1, .int (t4.2 73 54)], (SH, t4.2, J)) rfl ?_
              refine zr_one (if s.2.2.1 ≤ (t4.2 73 54) then zN 123 [some (.ref 73), some (.int v1), some (.int s.1), some (.int s.2.1), some (.int s.2.2.1), some (.int s.2.2.2.1), some (.int 1), none] [] (SH, t4.2, J) else zN 119 [some (.ref 73), some (.int v1), some (.int s.1), some (.int s.2.1), some (.int s.2.2.1), some (.int s.2.2.2.1), some (.int 1), none] [] (SH, t4.2, J)) rfl (zR_if (fun hc9 => zR_go ?_) (fun hc9 => zR_go ?_))
              · rw [if_pos hc9] at h
                refine zr_steps 3 (128, [some (.ref 73), some (.int v1), some (.int s.1), some (.int s.2.1), some (.int s.2.2.1), some (.int s.2.2.2.1), some (.int 1), some (.int 0)], [.int 0], (SH, t4.2, J)) rfl ?_
                refine zr_one (if (0 : Int32) = 0 then zN 131 [some (.ref 73), some (.int v1), some (.int s.1), some (.int s.2.1), some (.int s.2.2.1), some (.int s.2.2.2.1), some (.int 1), some (.int 0)] [] (SH, t4.2, J) else zN 134 [some (.ref 73), some (.int v1), some (.int s.1), some (.int s.2.1), some (.int s.2.2.1), some (.int s.2.2.2.1), some (.int 1), some (.int 0)] [] (SH, t4.2, J)) rfl (zR_if (fun hc7 => zR_go ?_) (fun hc7 => zR_go ?_))
                · rw [if_pos hc7] at h
                  refine zr_steps 3 (35, [some (.ref 73), some (.int v1), some (.int s.1), some (.int s.2.1), some (.int s.2.2.1), some (.int (s.2.2.2.1 + 1)), some (.int 1), some (.int 0)], [], (SH, t4.2, J)) rfl ?_
                  have he := Option.some.inj h
                  subst he
                  exact zr_hdr rfl rfl (show zRun X d 190 35 [some (.ref 73), some (.int v1), some (.int s.1), some (.int s.2.1), some (.int s.2.2.1), some (.int (s.2.2.2.1 + 1)), none, none] [] (SH, t4.2, J) r M' from w)
                · rw [if_neg hc7] at h
                  refine zr_steps 9 (35, [some (.ref 73), some (.int v1), some (.int s.2.2.2.1), some (.int 1), some (.int (t4.2 73 54)), some (.int (s.2.2.2.1 + 1)), some (.int 1), some (.int 0)], [], (SH, t4.2, J)) rfl ?_
                  have he := Option.some.inj h
                  subst he
                  exact zr_hdr rfl rfl (show zRun X d 190 35 [some (.ref 73), some (.int v1), some (.int s.2.2.2.1), some (.int 1), some (.int (t4.2 73 54)), some (.int (s.2.2.2.1 + 1)), none, none] [] (SH, t4.2, J) r M' from w)
              · rw [if_neg hc9] at h
                refine zr_steps 4 (128, [some (.ref 73), some (.int v1), some (.int s.1), some (.int s.2.1), some (.int s.2.2.1), some (.int s.2.2.2.1), some (.int 1), some (.int 1)], [.int 1], (SH, t4.2, J)) rfl ?_
                refine zr_one (if (1 : Int32) = 0 then zN 131 [some (.ref 73), some (.int v1), some (.int s.1), some (.int s.2.1), some (.int s.2.2.1), some (.int s.2.2.2.1), some (.int 1), some (.int 1)] [] (SH, t4.2, J) else zN 134 [some (.ref 73), some (.int v1), some (.int s.1), some (.int s.2.1), some (.int s.2.2.1), some (.int s.2.2.2.1), some (.int 1), some (.int 1)] [] (SH, t4.2, J)) rfl (zR_if (fun hc8 => zR_go ?_) (fun hc8 => zR_go ?_))
                · rw [if_pos hc8] at h
                  refine zr_steps 3 (35, [some (.ref 73), some (.int v1), some (.int s.1), some (.int s.2.1), some (.int s.2.2.1), some (.int (s.2.2.2.1 + 1)), some (.int 1), some (.int 1)], [], (SH, t4.2, J)) rfl ?_
                  have he := Option.some.inj h
                  subst he
                  exact zr_hdr rfl rfl (show zRun X d 190 35 [some (.ref 73), some (.int v1), some (.int s.1), some (.int s.2.1), some (.int s.2.2.1), some (.int (s.2.2.2.1 + 1)), none, none] [] (SH, t4.2, J) r M' from w)
                · rw [if_neg hc8] at h
                  refine zr_steps 9 (35, [some (.ref 73), some (.int v1), some (.int s.2.2.2.1), some (.int 1), some (.int (t4.2 73 54)), some (.int (s.2.2.2.1 + 1)), some (.int 1), some (.int 1)], [], (SH, t4.2, J)) rfl ?_
                  have he := Option.some.inj h
                  subst he
                  exact zr_hdr rfl rfl (show zRun X d 190 35 [some (.ref 73), some (.int v1), some (.int s.2.2.2.1), some (.int 1), some (.int (t4.2 73 54)), some (.int (s.2.2.2.1 + 1)), none, none] [] (SH, t4.2, J) r M' from w)
            · rw [if_neg hc13] at h
              refine zr_steps 3 (104, [some (.ref 73), some (.int v1), some (.int s.1), some (.int s.2.1), some (.int s.2.2.1), some (.int s.2.2.2.1), some (.int 1), none], [.int s.2.2.1, .int (t4.2 73 54)], (SH, t4.2, J)) rfl ?_
              refine zr_one (if (t4.2 73 54) ≤ s.2.2.1 then zN 123 [some (.ref 73), some (.int v1), some (.int s.1), some (.int s.2.1), some (.int s.2.2.1), some (.int s.2.2.2.1), some (.int 1), none] [] (SH, t4.2, J) else zN 107 [some (.ref 73), some (.int v1), some (.int s.1), some (.int s.2.1), some (.int s.2.2.1), some (.int s.2.2.2.1), some (.int 1), none] [] (SH, t4.2, J)) rfl (zR_if (fun hc12 => zR_go ?_) (fun hc12 => zR_go ?_))
              · rw [if_pos hc12] at h
                refine zr_steps 3 (128, [some (.ref 73), some (.int v1), some (.int s.1), some (.int s.2.1), some (.int s.2.2.1), some (.int s.2.2.2.1), some (.int 1), some (.int 0)], [.int 0], (SH, t4.2, J)) rfl ?_
                refine zr_one (if (0 : Int32) = 0 then zN 131 [some (.ref 73), some (.int v1), some (.int s.1), some (.int s.2.1), some (.int s.2.2.1), some (.int s.2.2.2.1), some (.int 1), some (.int 0)] [] (SH, t4.2, J) else zN 134 [some (.ref 73), some (.int v1), some (.int s.1), some (.int s.2.1), some (.int s.2.2.1), some (.int s.2.2.2.1), some (.int 1), some (.int 0)] [] (SH, t4.2, J)) rfl (zR_if (fun hc10 => zR_go ?_) (fun hc10 => zR_go ?_))
                · rw [if_pos hc10] at h
                  refine zr_steps 3 (35, [some (.ref 73), some (.int v1), some (.int s.1), some (.int s.2.1), some (.int s.2.2.1), some (.int (s.2.2.2.1 + 1)), some (.int 1), some (.int 0)], [], (SH, t4.2, J)) rfl ?_
                  have he := Option.some.inj h
                  subst he
                  exact zr_hdr rfl rfl (show zRun X d 190 35 [some (.ref 73), some (.int v1), some (.int s.1), some (.int s.2.1), some (.int s.2.2.1), some (.int (s.2.2.2.1 + 1)), none, none] [] (SH, t4.2, J) r M' from w)
                · rw [if_neg hc10] at h
                  refine zr_steps 9 (35, [some (.ref 73), some (.int v1), some (.int s.2.2.2.1), some (.int 1), some (.int (t4.2 73 54)), some (.int (s.2.2.2.1 + 1)), some (.int 1), some (.int 0)], [], (SH, t4.2, J)) rfl ?_
                  have he := Option.some.inj h
                  subst he
                  exact zr_hdr rfl rfl (show zRun X d 190 35 [some (.ref 73), some (.int v1), some (.int s.2.2.2.1), some (.int 1), some (.int (t4.2 73 54)), some (.int (s.2.2.2.1 + 1)), none, none] [] (SH, t4.2, J) r M' from w)
              · rw [if_neg hc12] at h
                refine zr_steps 5 (128, [some (.ref 73), some (.int v1), some (.int s.1), some (.int s.2.1), some (.int s.2.2.1), some (.int s.2.2.2.1), some (.int 1), some (.int 1)], [.int 1], (SH, t4.2, J)) rfl ?_
                refine zr_one (if (1 : Int32) = 0 then zN 131 [some (.ref 73), some (.int v1), some (.int s.1), some (.int s.2.1), some (.int s.2.2.1), some (.int s.2.2.2.1), some (.int 1), some (.int 1)] [] (SH, t4.2, J) else zN 134 [some (.ref 73), some (.int v1), some (.int s.1), some (.int s.2.1), some (.int s.2.2.1), some (.int s.2.2.2.1), some (.int 1), some (.int 1)] [] (SH, t4.2, J)) rfl (zR_if (fun hc11 => zR_go ?_) (fun hc11 => zR_go ?_))
                · rw [if_pos hc11] at h
                  refine zr_steps 3 (35, [some (.ref 73), some (.int v1), some (.int s.1), some (.int s.2.1), some (.int s.2.2.1), some (.int (s.2.2.2.1 + 1)), some (.int 1), some (.int 1)], [], (SH, t4.2, J)) rfl ?_
                  have he := Option.some.inj h
                  subst he
                  exact zr_hdr rfl rfl (show zRun X d 190 35 [some (.ref 73), some (.int v1), some (.int s.1), some (.int s.2.1), some (.int s.2.2.1), some (.int (s.2.2.2.1 + 1)), none, none] [] (SH, t4.2, J) r M' from w)
                · rw [if_neg hc11] at h
                  refine zr_steps 9 (35, [some (.ref 73), some (.int v1), some (.int s.2.2.2.1), some (.int 1), some (.int (t4.2 73 54)), some (.int (s.2.2.2.1 + 1)), some (.int 1), some (.int 1)], [], (SH, t4.2, J)) rfl ?_
                  have he := Option.some.inj h
                  subst he
                  exact zr_hdr rfl rfl (show zRun X d 190 35 [some (.ref 73), some (.int v1), some (.int s.2.2.2.1), some (.int 1), some (.int (t4.2 73 54)), some (.int (s.2.2.2.1 + 1)), none, none] [] (SH, t4.2, J) r M' from w)
          · rw [if_neg hc15] at h
            refine zr_steps 3 (128, [some (.ref 73), some (.int v1), some (.int s.1), some (.int s.2.1), some (.int s.2.2.1), some (.int s.2.2.2.1), some (.int 1), some (.int 0)], [.int 0], (SH, t4.2, J)) rfl ?_
            refine zr_one (if (0 : Int32) = 0 then zN 131 [some (.ref 73), some (.int v1), some (.int s.1), some (.int s.2.1), some (.int s.2.2.1), some (.int s.2.2.2.1), some (.int 1), some (.int 0)] [] (SH, t4.2, J) else zN 134 [some (.ref 73), some (.int v1), some (.int s.1), some (.int s.2.1), some (.int s.2.2.1), some (.int s.2.2.2.1), some (.int 1), some (.int 0)] [] (SH, t4.2, J)) rfl (zR_if (fun hc14 => zR_go ?_) (fun hc14 => zR_go ?_))
            · rw [if_pos hc14] at h
              refine zr_steps 3 (35, [some (.ref 73), some (.int v1), some (.int s.1), some (.int s.2.1), some (.int s.2.2.1), some (.int (s.2.2.2.1 + 1)), some (.int 1), some (.int 0)], [], (SH, t4.2, J)) rfl ?_
              have he := Option.some.inj h
              subst he
              exact zr_hdr rfl rfl (show zRun X d 190 35 [some (.ref 73), some (.int v1), some (.int s.1), some (.int s.2.1), some (.int s.2.2.1), some (.int (s.2.2.2.1 + 1)), none, none] [] (SH, t4.2, J) r M' from w)
            · rw [if_neg hc14] at h
              refine zr_steps 9 (35, [some (.ref 73), some (.int v1), some (.int s.2.2.2.1), some (.int 1), some (.int (t4.2 73 54)), some (.int (s.2.2.2.1 + 1)), some (.int 1), some (.int 0)], [], (SH, t4.2, J)) rfl ?_
              have he := Option.some.inj h
              subst he
              exact zr_hdr rfl rfl (show zRun X d 190 35 [some (.ref 73), some (.int v1), some (.int s.2.2.2.1), some (.int 1), some (.int (t4.2 73 54)), some (.int (s.2.2.2.1 + 1)), none, none] [] (SH, t4.2, J) r M' from w)
        · rw [if_neg hc27] at h
          refine zr_steps 1 (84, [some (.ref 73), some (.int v1), some (.int s.1), some (.int s.2.1), some (.int s.2.2.1), some (.int s.2.2.2.1), some (.int 1), none], [.int s.2.1], (SH, t4.2, J)) rfl ?_
          refine zr_one (if s.2.1 = 0 then zN 119 [some (.ref 73), some (.int v1), some (.int s.1), some (.int s.2.1), some (.int s.2.2.1), some (.int s.2.2.2.1), some (.int 1), none] [] (SH, t4.2, J) else zN 87 [some (.ref 73), some (.int v1), some (.int s.1), some (.int s.2.1), some (.int s.2.2.1), some (.int s.2.2.2.1), some (.int 1), none] [] (SH, t4.2, J)) rfl (zR_if (fun hc26 => zR_go ?_) (fun hc26 => zR_go ?_))
          · rw [if_pos hc26] at h
            refine zr_steps 4 (128, [some (.ref 73), some (.int v1), some (.int s.1), some (.int s.2.1), some (.int s.2.2.1), some (.int s.2.2.2.1), some (.int 1), some (.int 1)], [.int 1], (SH, t4.2, J)) rfl ?_
            refine zr_one (if (1 : Int32) = 0 then zN 131 [some (.ref 73), some (.int v1), some (.int s.1), some (.int s.2.1), some (.int s.2.2.1), some (.int s.2.2.2.1), some (.int 1), some (.int 1)] [] (SH, t4.2, J) else zN 134 [some (.ref 73), some (.int v1), some (.int s.1), some (.int s.2.1), some (.int s.2.2.1), some (.int s.2.2.2.1), some (.int 1), some (.int 1)] [] (SH, t4.2, J)) rfl (zR_if (fun hc16 => zR_go ?_) (fun hc16 => zR_go ?_))
            · rw [if_pos hc16] at h
              refine zr_steps 3 (35, [some (.ref 73), some (.int v1), some (.int s.1), some (.int s.2.1), some (.int s.2.2.1), some (.int (s.2.2.2.1 + 1)), some (.int 1), some (.int 1)], [], (SH, t4.2, J)) rfl ?_
              have he := Option.some.inj h
              subst he
              exact zr_hdr rfl rfl (show zRun X d 190 35 [some (.ref 73), some (.int v1), some (.int s.1), some (.int s.2.1), some (.int s.2.2.1), some (.int (s.2.2.2.1 + 1)), none, none] [] (SH, t4.2, J) r M' from w)
            · rw [if_neg hc16] at h
              refine zr_steps 9 (35, [some (.ref 73), some (.int v1), some (.int s.2.2.2.1), some (.int 1), some (.int (t4.2 73 54)), some (.int (s.2.2.2.1 + 1)), some (.int 1), some (.int 1)], [], (SH, t4.2, J)) rfl ?_
              have he := Option.some.inj h
              subst he
              exact zr_hdr rfl rfl (show zRun X d 190 35 [some (.ref 73), some (.int v1), some (.int s.2.2.2.1), some (.int 1), some (.int (t4.2 73 54)), some (.int (s.2.2.2.1 + 1)), none, none] [] (SH, t4.2, J) r M' from w)
          · rw [if_neg hc26] at h
            refine zr_steps 2 (90, [some (.ref 73), some (.int v1), some (.int s.1), some (.int s.2.1), some (.int s.2.2.1), some (.int s.2.2.2.1), some (.int 1), none], [.int s.2.1, .int 1], (SH, t4.2, J)) rfl ?_
            refine zr_one (if (1 : Int32) = s.2.1 then zN 93 [some (.ref 73), some (.int v1), some (.int s.1), some (.int s.2.1), some (.int s.2.2.1), some (.int s.2.2.2.1), some (.int 1), none] [] (SH, t4.2, J) else zN 123 [some (.ref 73), some (.int v1), some (.int s.1), some (.int s.2.1), some (.int s.2.2.1), some (.int s.2.2.2.1), some (.int 1), none] [] (SH, t4.2, J)) rfl (zR_if (fun hc25 => zR_go ?_) (fun hc25 => zR_go ?_))
            · rw [if_pos hc25] at h
              refine zr_steps 1 (95, [some (.ref 73), some (.int v1), some (.int s.1), some (.int s.2.1), some (.int s.2.2.1), some (.int s.2.2.2.1), some (.int 1), none], [.int 1], (SH, t4.2, J)) rfl ?_
              refine zr_one (if (1 : Int32) = 0 then zN 110 [some (.ref 73), some (.int v1), some (.int s.1), some (.int s.2.1), some (.int s.2.2.1), some (.int s.2.2.2.1), some (.int 1), none] [] (SH, t4.2, J) else zN 98 [some (.ref 73), some (.int v1), some (.int s.1), some (.int s.2.1), some (.int s.2.2.1), some (.int s.2.2.2.1), some (.int 1), none] [] (SH, t4.2, J)) rfl (zR_if (fun hc23 => zR_go ?_) (fun hc23 => zR_go ?_))
              · rw [if_pos hc23] at h
                refine zr_steps 3 (116, [some (.ref 73), some (.int v1), some (.int s.1), some (.int s.2.1), some (.int s.2.2.1), some (.int s.2.2.2.1), some (.int 1), none], [.int s.2.2.1, .int (t4.2 73 54)], (SH, t4.2, J)) rfl ?_
                refine zr_one (if s.2.2.1 ≤ (t4.2 73 54) then zN 123 [some (.ref 73), some (.int v1), some (.int s.1), some (.int s.2.1), some (.int s.2.2.1), some (.int s.2.2.2.1), some (.int 1), none] [] (SH, t4.2, J) else zN 119 [some (.ref 73), some (.int v1), some (.int s.1), some (.int s.2.1), some (.int s.2.2.1), some (.int s.2.2.2.1), some (.int 1), none] [] (SH, t4.2, J)) rfl (zR_if (fun hc19 => zR_go ?_) (fun hc19 => zR_go ?_))
                · rw [if_pos hc19] at h
                  refine zr_steps 3 (128, [some (.ref 73), some (.int v1), some (.int s.1), some (.int s.2.1), some (.int s.2.2.1), some (.int s.2.2.2.1), some (.int 1), some (.int 0)], [.int 0], (SH, t4.2, J)) rfl ?_
                  refine zr_one (if (0 : Int32) = 0 then zN 131 [some (.ref 73), some (.int v1), some (.int s.1), some (.int s.2.1), some (.int s.2.2.1), some (.int s.2.2.2.1), some (.int 1), some (.int 0)] [] (SH, t4.2, J) else zN 134 [some (.ref 73), some (.int v1), some (.int s.1), some (.int s.2.1), some (.int s.2.2.1), some (.int s.2.2.2.1), some (.int 1), some (.int 0)] [] (SH, t4.2, J)) rfl (zR_if (fun hc17 => zR_go ?_) (fun hc17 => zR_go ?_))
                  · rw [if_pos hc17] at h
                    refine zr_steps 3 (35, [some (.ref 73), some (.int v1), some (.int s.1), some (.int s.2.1), some (.int s.2.2.1), some (.int (s.2.2.2.1 + 1)), some (.int 1), some (.int 0)], [], (SH, t4.2, J)) rfl ?_
                    have he := Option.some.inj h
                    subst he
                    exact zr_hdr rfl rfl (show zRun X d 190 35 [some (.ref 73), some (.int v1), some (.int s.1), some (.int s.2.1), some (.int s.2.2.1), some (.int (s.2.2.2.1 + 1)), none, none] [] (SH, t4.2, J) r M' from w)
                  · rw [if_neg hc17] at h
                    refine zr_steps 9 (35, [some (.ref 73), some (.int v1), some (.int s.2.2.2.1), some (.int 1), some (.int (t4.2 73 54)), some (.int (s.2.2.2.1 + 1)), some (.int 1), some (.int 0)], [], (SH, t4.2, J)) rfl ?_
                    have he := Option.some.inj h
                    subst he
                    exact zr_hdr rfl rfl (show zRun X d 190 35 [some (.ref 73), some (.int v1), some (.int s.2.2.2.1), some (.int 1), some (.int (t4.2 73 54)), some (.int (s.2.2.2.1 + 1)), none, none] [] (SH, t4.2, J) r M' from w)
                · rw [if_neg hc19] at h
                  refine zr_steps 4 (128, [some (.ref 73), some (.int v1), some (.int s.1), some (.int s.2.1), some (.int s.2.2.1), some (.int s.2.2.2.1), some (.int 1), some (.int 1)], [.int 1], (SH, t4.2, J)) rfl ?_
                  refine zr_one (if (1 : Int32) = 0 then zN 131 [some (.ref 73), some (.int v1), some (.int s.1), some (.int s.2.1), some (.int s.2.2.1), some (.int s.2.2.2.1), some (.int 1), some (.int 1)] [] (SH, t4.2, J) else zN 134 [some (.ref 73), some (.int v1), some (.int s.1), some (.int s.2.1), some (.int s.2.2.1), some (.int s.2.2.2.1), some (.int 1), some (.int 1)] [] (SH, t4.2, J)) rfl (zR_if (fun hc18 => zR_go ?_) (fun hc18 => zR_go ?_))
                  · rw [if_pos hc18] at h
                    refine zr_steps 3 (35, [some (.ref 73), some (.int v1), some (.int s.1), some (.int s.2.1), some (.int s.2.2.1), some (.int (s.2.2.2.1 + 1)), some (.int 1), some (.int 1)], [], (SH, t4.2, J)) rfl ?_
                    have he := Option.some.inj h
                    subst he
                    exact zr_hdr rfl rfl (show zRun X d 190 35 [some (.ref 73), some (.int v1), some (.int s.1), some (.int s.2.1), some (.int s.2.2.1), some (.int (s.2.2.2.1 + 1)), none, none] [] (SH, t4.2, J) r M' from w)
                  · rw [if_neg hc18] at h
                    refine zr_steps 9 (35, [some (.ref 73), some (.int v1), some (.int s.2.2.2.1), some (.int 1), some (.int (t4.2 73 54)), some (.int (s.2.2.2.1 + 1)), some (.int 1), some (.int 1)], [], (SH, t4.2, J)) rfl ?_
                    have he := Option.some.inj h
                    subst he
                    exact zr_hdr rfl rfl (show zRun X d 190 35 [some (.ref 73), some (.int v1), some (.int s.2.2.2.1), some (.int 1), some (.int (t4.2 73 54)), some (.int (s.2.2.2.1 + 1)), none, none] [] (SH, t4.2, J) r M' from w)
              · rw [if_neg hc23] at h
                refine zr_steps 3 (104, [some (.ref 73), some (.int v1), some (.int s.1), some (.int s.2.1), some (.int s.2.2.1), some (.int s.2.2.2.1), some (.int 1), none], [.int s.2.2.1, .int (t4.2 73 54)], (SH, t4.2, J)) rfl ?_
                refine zr_one (if (t4.2 73 54) ≤ s.2.2.1 then zN 123 [some (.ref 73), some (.int v1), some (.int s.1), some (.int s.2.1), some (.int s.2.2.1), some (.int s.2.2.2.1), some (.int 1), none] [] (SH, t4.2, J) else zN 107 [some (.ref 73), some (.int v1), some (.int s.1), some (.int s.2.1), some (.int s.2.2.1), some (.int s.2.2.2.1), some (.int 1), none] [] (SH, t4.2, J)) rfl (zR_if (fun hc22 => zR_go ?_) (fun hc22 => zR_go ?_))
                · rw [if_pos hc22] at h
                  refine zr_steps 3 (128, [some (.ref 73), some (.int v1), some (.int s.1), some (.int s.2.1), some (.int s.2.2.1), some (.int s.2.2.2.1), some (.int 1), some (.int 0)], [.int 0], (SH, t4.2, J)) rfl ?_
                  refine zr_one (if (0 : Int32) = 0 then zN 131 [some (.ref 73), some (.int v1), some (.int s.1), some (.int s.2.1), some (.int s.2.2.1), some (.int s.2.2.2.1), some (.int 1), some (.int 0)] [] (SH, t4.2, J) else zN 134 [some (.ref 73), some (.int v1), some (.int s.1), some (.int s.2.1), some (.int s.2.2.1), some (.int s.2.2.2.1), some (.int 1), some (.int 0)] [] (SH, t4.2, J)) rfl (zR_if (fun hc20 => zR_go ?_) (fun hc20 => zR_go ?_))
                  · rw [if_pos hc20] at h
                    refine zr_steps 3 (35, [some (.ref 73), some (.int v1), some (.int s.1), some (.int s.2.1), some (.int s.2.2.1), some (.int (s.2.2.2.1 + 1)), some (.int 1), some (.int 0)], [], (SH, t4.2, J)) rfl ?_
                    have he := Option.some.inj h
                    subst he
                    exact zr_hdr rfl rfl (show zRun X d 190 35 [some (.ref 73), some (.int v1), some (.int s.1), some (.int s.2.1), some (.int s.2.2.1), some (.int (s.2.2.2.1 + 1)), none, none] [] (SH, t4.2, J) r M' from w)
                  · rw [if_neg hc20] at h
                    refine zr_steps 9 (35, [some (.ref 73), some (.int v1), some (.int s.2.2.2.1), some (.int 1), some (.int (t4.2 73 54)), some (.int (s.2.2.2.1 + 1)), some (.int 1), some (.int 0)], [], (SH, t4.2, J)) rfl ?_
                    have he := Option.some.inj h
                    subst he
                    exact zr_hdr rfl rfl (show zRun X d 190 35 [some (.ref 73), some (.int v1), some (.int s.2.2.2.1), some (.int 1), some (.int (t4.2 73 54)), some (.int (s.2.2.2.1 + 1)), none, none] [] (SH, t4.2, J) r M' from w)
                · rw [if_neg hc22] at h
                  refine zr_steps 5 (128, [some (.ref 73), some (.int v1), some (.int s.1), some (.int s.2.1), some (.int s.2.2.1), some (.int s.2.2.2.1), some (.int 1), some (.int 1)], [.int 1], (SH, t4.2, J)) rfl ?_
                  refine zr_one (if (1 : Int32) = 0 then zN 131 [some (.ref 73), some (.int v1), some (.int s.1), some (.int s.2.1), some (.int s.2.2.1), some (.int s.2.2.2.1), some (.int 1), some (.int 1)] [] (SH, t4.2, J) else zN 134 [some (.ref 73), some (.int v1), some (.int s.1), some (.int s.2.1), some (.int s.2.2.1), some (.int s.2.2.2.1), some (.int 1), some (.int 1)] [] (SH, t4.2, J)) rfl (zR_if (fun hc21 => zR_go ?_) (fun hc21 => zR_go ?_))
                  · rw [if_pos hc21] at h
                    refine zr_steps 3 (35, [some (.ref 73), some (.int v1), some (.int s.1), some (.int s.2.1), some (.int s.2.2.1), some (.int (s.2.2.2.1 + 1)), some (.int 1), some (.int 1)], [], (SH, t4.2, J)) rfl ?_
                    have he := Option.some.inj h
                    subst he
                    exact zr_hdr rfl rfl (show zRun X d 190 35 [some (.ref 73), some (.int v1), some (.int s.1), some (.int s.2.1), some (.int s.2.2.1), some (.int (s.2.2.2.1 + 1)), none, none] [] (SH, t4.2, J) r M' from w)
                  · rw [if_neg hc21] at h
                    refine zr_steps 9 (35, [some (.ref 73), some (.int v1), some (.int s.2.2.2.1), some (.int 1), some (.int (t4.2 73 54)), some (.int (s.2.2.2.1 + 1)), some (.int 1), some (.int 1)], [], (SH, t4.2, J)) rfl ?_
                    have he := Option.some.inj h
                    subst he
                    exact zr_hdr rfl rfl (show zRun X d 190 35 [some (.ref 73), some (.int v1), some (.int s.2.2.2.1), some (.int 1), some (.int (t4.2 73 54)), some (.int (s.2.2.2.1 + 1)), none, none] [] (SH, t4.2, J) r M' from w)
            · rw [if_neg hc25] at h
              refine zr_steps 3 (128, [some (.ref 73), some (.int v1), some (.int s.1), some (.int s.2.1), some (.int s.2.2.1), some (.int s.2.2.2.1), some (.int 1), some (.int 0)], [.int 0], (SH, t4.2, J)) rfl ?_
              refine zr_one (if (0 : Int32) = 0 then zN 131 [some (.ref 73), some (.int v1), some (.int s.1), some (.int s.2.1), some (.int s.2.2.1), some (.int s.2.2.2.1), some (.int 1), some (.int 0)] [] (SH, t4.2, J) else zN 134 [some (.ref 73), some (.int v1), some (.int s.1), some (.int s.2.1), some (.int s.2.2.1), some (.int s.2.2.2.1), some (.int 1), some (.int 0)] [] (SH, t4.2, J)) rfl (zR_if (fun hc24 => zR_go ?_) (fun hc24 => zR_go ?_))
              · rw [if_pos hc24] at h
                refine zr_steps 3 (35, [some (.ref 73), some (.int v1), some (.int s.1), some (.int s.2.1), some (.int s.2.2.1), some (.int (s.2.2.2.1 + 1)), some (.int 1), some (.int 0)], [], (SH, t4.2, J)) rfl ?_
                have he := Option.some.inj h
                subst he
                exact zr_hdr rfl rfl (show zRun X d 190 35 [some (.ref 73), some (.int v1), some (.int s.1), some (.int s.2.1), some (.int s.2.2.1), some (.int (s.2.2.2.1 + 1)), none, none] [] (SH, t4.2, J) r M' from w)
              · rw [if_neg hc24] at h
                refine zr_steps 9 (35, [some (.ref 73), some (.int v1), some (.int s.2.2.2.1), some (.int 1), some (.int (t4.2 73 54)), some (.int (s.2.2.2.1 + 1)), some (.int 1), some (.int 0)], [], (SH, t4.2, J)) rfl ?_
                have he := Option.some.inj h
                subst he
                exact zr_hdr rfl rfl (show zRun X d 190 35 [some (.ref 73), some (.int v1), some (.int s.2.2.2.1), some (.int 1), some (.int (t4.2 73 54)), some (.int (s.2.2.2.1 + 1)), none, none] [] (SH, t4.2, J) r M' from w)
    · rw [if_neg hc52] at h
      refine zr_steps 3 (75, [some (.ref 73), some (.int v1), some (.int s.1), some (.int s.2.1), some (.int s.2.2.1), some (.int s.2.2.2.1), some (.int 0), none], [.int s.1], (SH, t4.2, J)) rfl ?_
      refine zr_one (if s.1 < 0 then zN 119 [some (.ref 73), some (.int v1), some (.int s.1), some (.int s.2.1), some (.int s.2.2.1), some (.int s.2.2.2.1), some (.int 0), none] [] (SH, t4.2, J) else zN 78 [some (.ref 73), some (.int v1), some (.int s.1), some (.int s.2.1), some (.int s.2.2.1), some (.int s.2.2.2.1), some (.int 0), none] [] (SH, t4.2, J)) rfl (zR_if (fun hc51 => zR_go ?_) (fun hc51 => zR_go ?_))
      · rw [if_pos hc51] at h
        refine zr_steps 4 (128, [some (.ref 73), some (.int v1), some (.int s.1), some (.int s.2.1), some (.int s.2.2.1), some (.int s.2.2.2.1), some (.int 0), some (.int 1)], [.int 1], (SH, t4.2, J)) rfl ?_
        refine zr_one (if (1 : Int32) = 0 then zN 131 [some (.ref 73), some (.int v1), some (.int s.1), some (.int s.2.1), some (.int s.2.2.1), some (.int s.2.2.2.1), some (.int 0), some (.int 1)] [] (SH, t4.2, J) else zN 134 [some (.ref 73), some (.int v1), some (.int s.1), some (.int s.2.1), some (.int s.2.2.1), some (.int s.2.2.2.1), some (.int 0), some (.int 1)] [] (SH, t4.2, J)) rfl (zR_if (fun hc29 => zR_go ?_) (fun hc29 => zR_go ?_))
        · rw [if_pos hc29] at h
          refine zr_steps 3 (35, [some (.ref 73), some (.int v1), some (.int s.1), some (.int s.2.1), some (.int s.2.2.1), some (.int (s.2.2.2.1 + 1)), some (.int 0), some (.int 1)], [], (SH, t4.2, J)) rfl ?_
          have he := Option.some.inj h
          subst he
          exact zr_hdr rfl rfl (show zRun X d 190 35 [some (.ref 73), some (.int v1), some (.int s.1), some (.int s.2.1), some (.int s.2.2.1), some (.int (s.2.2.2.1 + 1)), none, none] [] (SH, t4.2, J) r M' from w)
        · rw [if_neg hc29] at h
          refine zr_steps 9 (35, [some (.ref 73), some (.int v1), some (.int s.2.2.2.1), some (.int 0), some (.int (t4.2 73 54)), some (.int (s.2.2.2.1 + 1)), some (.int 0), some (.int 1)], [], (SH, t4.2, J)) rfl ?_
          have he := Option.some.inj h
          subst he
          exact zr_hdr rfl rfl (show zRun X d 190 35 [some (.ref 73), some (.int v1), some (.int s.2.2.2.1), some (.int 0), some (.int (t4.2 73 54)), some (.int (s.2.2.2.1 + 1)), none, none] [] (SH, t4.2, J) r M' from w)
      · rw [if_neg hc51] at h
        refine zr_steps 1 (80, [some (.ref 73), some (.int v1), some (.int s.1), some (.int s.2.1), some (.int s.2.2.1), some (.int s.2.2.2.1), some (.int 0), none], [.int 0], (SH, t4.2, J)) rfl ?_
        refine zr_one (if (0 : Int32) = 0 then zN 87 [some (.ref 73), some (.int v1), some (.int s.1), some (.int s.2.1), some (.int s.2.2.1), some (.int s.2.2.2.1), some (.int 0), none] [] (SH, t4.2, J) else zN 83 [some (.ref 73), some (.int v1), some (.int s.1), some (.int s.2.1), some (.int s.2.2.1), some (.int s.2.2.2.1), some (.int 0), none] [] (SH, t4.2, J)) rfl (zR_if (fun hc50 => zR_go ?_) (fun hc50 => zR_go ?_))
        · rw [if_pos hc50] at h
          refine zr_steps 2 (90, [some (.ref 73), some (.int v1), some (.int s.1), some (.int s.2.1), some (.int s.2.2.1), some (.int s.2.2.2.1), some (.int 0), none], [.int s.2.1, .int 0], (SH, t4.2, J)) rfl ?_
          refine zr_one (if (0 : Int32) = s.2.1 then zN 93 [some (.ref 73), some (.int v1), some (.int s.1), some (.int s.2.1), some (.int s.2.2.1), some (.int s.2.2.2.1), some (.int 0), none] [] (SH, t4.2, J) else zN 123 [some (.ref 73), some (.int v1), some (.int s.1), some (.int s.2.1), some (.int s.2.2.1), some (.int s.2.2.2.1), some (.int 0), none] [] (SH, t4.2, J)) rfl (zR_if (fun hc38 => zR_go ?_) (fun hc38 => zR_go ?_))
          · rw [if_pos hc38] at h
            refine zr_steps 1 (95, [some (.ref 73), some (.int v1), some (.int s.1), some (.int s.2.1), some (.int s.2.2.1), some (.int s.2.2.2.1), some (.int 0), none], [.int 0], (SH, t4.2, J)) rfl ?_
            refine zr_one (if (0 : Int32) = 0 then zN 110 [some (.ref 73), some (.int v1), some (.int s.1), some (.int s.2.1), some (.int s.2.2.1), some (.int s.2.2.2.1), some (.int 0), none] [] (SH, t4.2, J) else zN 98 [some (.ref 73), some (.int v1), some (.int s.1), some (.int s.2.1), some (.int s.2.2.1), some (.int s.2.2.2.1), some (.int 0), none] [] (SH, t4.2, J)) rfl (zR_if (fun hc36 => zR_go ?_) (fun hc36 => zR_go ?_))
            · rw [if_pos hc36] at h
              refine zr_steps 3 (116, [some (.ref 73), some (.int v1), some (.int s.1), some (.int s.2.1), some (.int s.2.2.1), some (.int s.2.2.2.1), some (.int 0), none], [.int s.2.2.1, .int (t4.2 73 54)], (SH, t4.2, J)) rfl ?_
              refine zr_one (if s.2.2.1 ≤ (t4.2 73 54) then zN 123 [some (.ref 73), some (.int v1), some (.int s.1), some (.int s.2.1), some (.int s.2.2.1), some (.int s.2.2.2.1), some (.int 0), none] [] (SH, t4.2, J) else zN 119 [some (.ref 73), some (.int v1), some (.int s.1), some (.int s.2.1), some (.int s.2.2.1), some (.int s.2.2.2.1), some (.int 0), none] [] (SH, t4.2, J)) rfl (zR_if (fun hc32 => zR_go ?_) (fun hc32 => zR_go ?_))
              · rw [if_pos hc32] at h
                refine zr_steps 3 (128, [some (.ref 73), some (.int v1), some (.int s.1), some (.int s.2.1), some (.int s.2.2.1), some (.int s.2.2.2.1), some (.int 0), some (.int 0)], [.int 0], (SH, t4.2, J)) rfl ?_
                refine zr_one (if (0 : Int32) = 0 then zN 131 [some (.ref 73), some (.int v1), some (.int s.1), some (.int s.2.1), some (.int s.2.2.1), some (.int s.2.2.2.1), some (.int 0), some (.int 0)] [] (SH, t4.2, J) else zN 134 [some (.ref 73), some (.int v1), some (.int s.1), some (.int s.2.1), some (.int s.2.2.1), some (.int s.2.2.2.1), some (.int 0), some (.int 0)] [] (SH, t4.2, J)) rfl (zR_if (fun hc30 => zR_go ?_) (fun hc30 => zR_go ?_))
                · rw [if_pos hc30] at h
                  refine zr_steps 3 (35, [some (.ref 73), some (.int v1), some (.int s.1), some (.int s.2.1), some (.int s.2.2.1), some (.int (s.2.2.2.1 + 1)), some (.int 0), some (.int 0)], [], (SH, t4.2, J)) rfl ?_
                  have he := Option.some.inj h
                  subst he
                  exact zr_hdr rfl rfl (show zRun X d 190 35 [some (.ref 73), some (.int v1), some (.int s.1), some (.int s.2.1), some (.int s.2.2.1), some (.int (s.2.2.2.1 + 1)), none, none] [] (SH, t4.2, J) r M' from w)
                · rw [if_neg hc30] at h
                  refine zr_steps 9 (35, [some (.ref 73), some (.int v1), some (.int s.2.2.2.1), some (.int 0), some (.int (t4.2 73 54)), some (.int (s.2.2.2.1 + 1)), some (.int 0), some (.int 0)], [], (SH, t4.2, J)) rfl ?_
                  have he := Option.some.inj h
                  subst he
                  exact zr_hdr rfl rfl (show zRun X d 190 35 [some (.ref 73), some (.int v1), some (.int s.2.2.2.1), some (.int 0), some (.int (t4.2 73 54)), some (.int (s.2.2.2.1 + 1)), none, none] [] (SH, t4.2, J) r M' from w)
              · rw [if_neg hc32] at h
                refine zr_steps 4 (128, [some (.ref 73), some (.int v1), some (.int s.1), some (.int s.2.1), some (.int s.2.2.1), some (.int s.2.2.2.1), some (.int 0), some (.int 1)], [.int 1], (SH, t4.2, J)) rfl ?_
                refine zr_one (if (1 : Int32) = 0 then zN 131 [some (.ref 73), some (.int v1), some (.int s.1), some (.int s.2.1), some (.int s.2.2.1), some (.int s.2.2.2.1), some (.int 0), some (.int 1)] [] (SH, t4.2, J) else zN 134 [some (.ref 73), some (.int v1), some (.int s.1), some (.int s.2.1), some (.int s.2.2.1), some (.int s.2.2.2.1), some (.int 0), some (.int 1)] [] (SH, t4.2, J)) rfl (zR_if (fun hc31 => zR_go ?_) (fun hc31 => zR_go ?_))
                · rw [if_pos hc31] at h
                  refine zr_steps 3 (35, [some (.ref 73), some (.int v1), some (.int s.1), some (.int s.2.1), some (.int s.2.2.1), some (.int (s.2.2.2.1 + 1)), some (.int 0), some (.int 1)], [], (SH, t4.2, J)) rfl ?_
                  have he := Option.some.inj h
                  subst he
                  exact zr_hdr rfl rfl (show zRun X d 190 35 [some (.ref 73), some (.int v1), some (.int s.1), some (.int s.2.1), some (.int s.2.2.1), some (.int (s.2.2.2.1 + 1)), none, none] [] (SH, t4.2, J) r M' from w)
                · rw [if_neg hc31] at h
                  refine zr_steps 9 (35, [some (.ref 73), some (.int v1), some (.int s.2.2.2.1), some (.int 0), some (.int (t4.2 73 54)), some (.int (s.2.2.2.1 + 1)), some (.int 0), some (.int 1)], [], (SH, t4.2, J)) rfl ?_
                  have he := Option.some.inj h
                  subst he
                  exact zr_hdr rfl rfl (show zRun X d 190 35 [some (.ref 73), some (.int v1), some (.int s.2.2.2.1), some (.int 0), some (.int (t4.2 73 54)), some (.int (s.2.2.2.1 + 1)), none, none] [] (SH, t4.2, J) r M' from w)
            · rw [if_neg hc36] at h
              refine zr_steps 3 (104, [some (.ref 73), some (.int v1), some (.int s.1), some (.int s.2.1), some (.int s.2.2.1), some (.int s.2.2.2.1), some (.int 0), none], [.int s.2.2.1, .int (t4.2 73 54)], (SH, t4.2, J)) rfl ?_
              refine zr_one (if (t4.2 73 54) ≤ s.2.2.1 then zN 123 [some (.ref 73), some (.int v1), some (.int s.1), some (.int s.2.1), some (.int s.2.2.1), some (.int s.2.2.2.1), some (.int 0), none] [] (SH, t4.2, J) else zN 107 [some (.ref 73), some (.int v1), some (.int s.1), some (.int s.2.1), some (.int s.2.2.1), some (.int s.2.2.2.1), some (.int 0), none] [] (SH, t4.2, J)) rfl (zR_if (fun hc35 => zR_go ?_) (fun hc35 => zR_go ?_))
              · rw [if_pos hc35] at h
                refine zr_steps 3 (128, [some (.ref 73), some (.int v1), some (.int s.1), some (.int s.2.1), some (.int s.2.2.1), some (.int s.2.2.2.1), some (.int 0), some (.int 0)], [.int 0], (SH, t4.2, J)) rfl ?_
                refine zr_one (if (0 : Int32) = 0 then zN 131 [some (.ref 73), some (.int v1), some (.int s.1), some (.int s.2.1), some (.int s.2.2.1), some (.int s.2.2.2.1), some (.int 0), some (.int 0)] [] (SH, t4.2, J) else zN 134 [some (.ref 73), some (.int v1), some (.int s.1), some (.int s.2.1), some (.int s.2.2.1), some (.int s.2.2.2.1), some (.int 0), some (.int 0)] [] (SH, t4.2, J)) rfl (zR_if (fun hc33 => zR_go ?_) (fun hc33 => zR_go ?_))
                · rw [if_pos hc33] at h
                  refine zr_steps 3 (35, [some (.ref 73), some (.int v1), some (.int s.1), some (.int s.2.1), some (.int s.2.2.1), some (.int (s.2.2.2.1 + 1)), some (.int 0), some (.int 0)], [], (SH, t4.2, J)) rfl ?_
                  have he := Option.some.inj h
                  subst he
                  exact zr_hdr rfl rfl (show zRun X d 190 35 [some (.ref 73), some (.int v1), some (.int s.1), some (.int s.2.1), some (.int s.2.2.1), some (.int (s.2.2.2.1 + 1)), none, none] [] (SH, t4.2, J) r M' from w)
                · rw [if_neg hc33] at h
                  refine zr_steps 9 (35, [some (.ref 73), some (.int v1), some (.int s.2.2.2.1), some (.int 0), some (.int (t4.2 73 54)), some (.int (s.2.2.2.1 + 1)), some (.int 0), some (.int 0)], [], (SH, t4.2, J)) rfl ?_
                  have he := Option.some.inj h
                  subst he
                  exact zr_hdr rfl rfl (show zRun X d 190 35 [some (.ref 73), some (.int v1), some (.int s.2.2.2.1), some (.int 0), some (.int (t4.2 73 54)), some (.int (s.2.2.2.1 + 1)), none, none] [] (SH, t4.2, J) r M' from w)
              · rw [if_neg hc35] at h
                refine zr_steps 5 (128, [some (.ref 73), some (.int v1), some (.int s.1), some (.int s.2.1), some (.int s.2.2.1), some (.int s.2.2.2.1), some (.int 0), some (.int 1)], [.int 1], (SH, t4.2, J)) rfl ?_
                refine zr_one (if (1 : Int32) = 0 then zN 131 [some (.ref 73), some (.int v1), some (.int s.1), some (.int s.2.1), some (.int s.2.2.1), some (.int s.2.2.2.1), some (.int 0), some (.int 1)] [] (SH, t4.2, J) else zN 134 [some (.ref 73), some (.int v1), some (.int s.1), some (.int s.2.1), some (.int s.2.2.1), some (.int s.2.2.2.1), some (.int 0), some (.int 1)] [] (SH, t4.2, J)) rfl (zR_if (fun hc34 => zR_go ?_) (fun hc34 => zR_go ?_))
                · rw [if_pos hc34] at h
                  refine zr_steps 3 (35, [some (.ref 73), some (.int v1), some (.int s.1), some (.int s.2.1), some (.int s.2.2.1), some (.int (s.2.2.2.1 + 1)), some (.int 0), some (.int 1)], [], (SH, t4.2, J)) rfl ?_
                  have he := Option.some.inj h
                  subst he
                  exact zr_hdr rfl rfl (show zRun X d 190 35 [some (.ref 73), some (.int v1), some (.int s.1), some (.int s.2.1), some (.int s.2.2.1), some (.int (s.2.2.2.1 + 1)), none, none] [] (SH, t4.2, J) r M' from w)
                · rw [if_neg hc34] at h
                  refine zr_steps 9 (35, [some (.ref 73), some (.int v1), some (.int s.2.2.2.1), some (.int 0), some (.int (t4.2 73 54)), some (.int (s.2.2.2.1 + 1)), some (.int 0), some (.int 1)], [], (SH, t4.2, J)) rfl ?_
                  have he := Option.some.inj h
                  subst he
                  exact zr_hdr rfl rfl (show zRun X d 190 35 [some (.ref 73), some (.int v1), some (.int s.2.2.2.1), some (.int 0), some (.int (t4.2 73 54)), some (.int (s.2.2.2.1 + 1)), none, none] [] (SH, t4.2, J) r M' from w)
          · rw [if_neg hc38] at h
            refine zr_steps 3 (128, [some (.ref 73), some (.int v1), some (.int s.1), some (.int s.2.1), some (.int s.2.2.1), some (.int s.2.2.2.1), some (.int 0), some (.int 0)], [.int 0], (SH, t4.2, J)) rfl ?_
            refine zr_one (if (0 : Int32) = 0 then zN 131 [some (.ref 73), some (.int v1), some (.int s.1), some (.int s.2.1), some (.int s.2.2.1), some (.int s.2.2.2.1), some (.int 0), some (.int 0)] [] (SH, t4.2, J) else zN 134 [some (.ref 73), some (.int v1), some (.int s.1), some (.int s.2.1), some (.int s.2.2.1), some (.int s.2.2.2.1), some (.int 0), some (.int 0)] [] (SH, t4.2, J)) rfl (zR_if (fun hc37 => zR_go ?_) (fun hc37 => zR_go ?_))
            · rw [if_pos hc37] at h
              refine zr_steps 3 (35, [some (.ref 73), some (.int v1), some (.int s.1), some (.int s.2.1), some (.int s.2.2.1), some (.int (s.2.2.2.1 + 1)), some (.int 0), some (.int 0)], [], (SH, t4.2, J)) rfl ?_
              have he := Option.some.inj h
              subst he
              exact zr_hdr rfl rfl (show zRun X d 190 35 [some (.ref 73), some (.int v1), some (.int s.1), some (.int s.2.1), some (.int s.2.2.1), some (.int (s.2.2.2.1 + 1)), none, none] [] (SH, t4.2, J) r M' from w)
            · rw [if_neg hc37] at h
              refine zr_steps 9 (35, [some (.ref 73), some (.int v1), some (.int s.2.2.2.1), some (.int 0), some (.int (t4.2 73 54)), some (.int (s.2.2.2.1 + 1)), some (.int 0), some (.int 0)], [], (SH, t4.2, J)) rfl ?_
              have he := Option.some.inj h
              subst he
              exact zr_hdr rfl rfl (show zRun X d 190 35 [some (.ref 73), some (.int v1), some (.int s.2.2.2.1), some (.int 0), some (.int (t4.2 73 54)), some (.int (s.2.2.2.1 + 1)), none, none] [] (SH, t4.2, J) r M' from w)
        · rw [if_neg hc50] at h
          refine zr_steps 1 (84, [some (.ref 73), some (.int v1), some (.int s.1), some (.int s.2.1), some (.int s.2.2.1), some (.int s.2.2.2.1), some (.int 0), none], [.int s.2.1], (SH, t4.2, J)) rfl ?_
          refine zr_one (if s.2.1 = 0 then zN 119 [some (.ref 73), some (.int v1), some (.int s.1), some (.int s.2.1), some (.int s.2.2.1), some (.int s.2.2.2.1), some (.int 0), none] [] (SH, t4.2, J) else zN 87 [some (.ref 73), some (.int v1), some (.int s.1), some (.int s.2.1), some (.int s.2.2.1), some (.int s.2.2.2.1), some (.int 0), none] [] (SH, t4.2, J)) rfl (zR_if (fun hc49 => zR_go ?_) (fun hc49 => zR_go ?_))
          · rw [if_pos hc49] at h
            refine zr_steps 4 (128, [some (.ref 73), some (.int v1), some (.int s.1), some (.int s.2.1), some (.int s.2.2.1), some (.int s.2.2.2.1), some (.int 0), some (.int 1)], [.int 1], (SH, t4.2, J)) rfl ?_
            refine zr_one (if (1 : Int32) = 0 then zN 131 [some (.ref 73), some (.int v1), some (.int s.1), some (.int s.2.1), some (.int s.2.2.1), some (.int s.2.2.2.1), some (.int 0), some (.int 1)] [] (SH, t4.2, J) else zN 134 [some (.ref 73), some (.int v1), some (.int s.1), some (.int s.2.1), some (.int s.2.2.1), some (.int s.2.2.2.1), some (.int 0), some (.int 1)] [] (SH, t4.2, J)) rfl (zR_if (fun hc39 => zR_go ?_) (fun hc39 => zR_go ?_))
            · rw [if_pos hc39] at h
              refine zr_steps 3 (35, [some (.ref 73), some (.int v1), some (.int s.1), some (.int s.2.1), some (.int s.2.2.1), some (.int (s.2.2.2.1 + 1)), some (.int 0), some (.int 1)], [], (SH, t4.2, J)) rfl ?_
              have he := Option.some.inj h
              subst he
              exact zr_hdr rfl rfl (show zRun X d 190 35 [some (.ref 73), some (.int v1), some (.int s.1), some (.int s.2.1), some (.int s.2.2.1), some (.int (s.2.2.2.1 + 1)), none, none] [] (SH, t4.2, J) r M' from w)
            · rw [if_neg hc39] at h
              refine zr_steps 9 (35, [some (.ref 73), some (.int v1), some (.int s.2.2.2.1), some (.int 0), some (.int (t4.2 73 54)), some (.int (s.2.2.2.1 + 1)), some (.int 0), some (.int 1)], [], (SH, t4.2, J)) rfl ?_
              have he := Option.some.inj h
              subst he
              exact zr_hdr rfl rfl (show zRun X d 190 35 [some (.ref 73), some (.int v1), some (.int s.2.2.2.1), some (.int 0), some (.int (t4.2 73 54)), some (.int (s.2.2.2.1 + 1)), none, none] [] (SH, t4.2, J) r M' from w)
          · rw [if_neg hc49] at h
            refine zr_steps 2 (90, [some (.ref 73), some (.int v1), some (.int s.1), some (.int s.2.1), some (.int s.2.2.1), some (.int s.2.2.2.1), some (.int 0), none], [.int s.2.1, .int 0], (SH, t4.2, J)) rfl ?_
            refine zr_one (if (0 : Int32) = s.2.1 then zN 93 [some (.ref 73), some (.int v1), some (.int s.1), some (.int s.2.1), some (.int s.2.2.1), some (.int s.2.2.2.1), some (.int 0), none] [] (SH, t4.2, J) else zN 123 [some (.ref 73), some (.int v1), some (.int s.1), some (.int s.2.1), some (.int s.2.2.1), some (.int s.2.2.2.1), some (.int 0), none] [] (SH, t4.2, J)) rfl (zR_if (fun hc48 => zR_go ?_) (fun hc48 => zR_go ?_))
            · rw [if_pos hc48] at h
              refine zr_steps 1 (95, [some (.ref 73), some (.int v1), some (.int s.1), some (.int s.2.1), some (.int s.2.2.1), some (.int s.2.2.2.1), some (.int 0), none], [.int 0], (SH, t4.2, J)) rfl ?_
              refine zr_one (if (0 : Int32) = 0 then zN 110 [some (.ref 73), some (.int v1), some (.int s.1), some (.int s.2.1), some (.int s.2.2.1), some (.int s.2.2.2.1), some (.int 0), none] [] (SH, t4.2, J) else zN 98 [some (.ref 73), some (.int v1), some (.int s.1), some (.int s.2.1), some (.int s.2.2.1), some (.int s.2.2.2.1), some (.int 0), none] [] (SH, t4.2, J)) rfl (zR_if (fun hc46 => zR_go ?_) (fun hc46 => zR_go ?_))
              · rw [if_pos hc46] at h
                refine zr_steps 3 (116, [some (.ref 73), some (.int v1), some (.int s.1), some (.int s.2.1), some (.int s.2.2.1), some (.int s.2.2.2.1), some (.int 0), none], [.int s.2.2.1, .int (t4.2 73 54)], (SH, t4.2, J)) rfl ?_
                refine zr_one (if s.2.2.1 ≤ (t4.2 73 54) then zN 123 [some (.ref 73), some (.int v1), some (.int s.1), some (.int s.2.1), some (.int s.2.2.1), some (.int s.2.2.2.1), some (.int 0), none] [] (SH, t4.2, J) else zN 119 [some (.ref 73), some (.int v1), some (.int s.1), some (.int s.2.1), some (.int s.2.2.1), some (.int s.2.2.2.1), some (.int 0), none] [] (SH, t4.2, J)) rfl (zR_if (fun hc42 => zR_go ?_) (fun hc42 => zR_go ?_))
                · rw [if_pos hc42] at h
                  refine zr_steps 3 (128, [some (.ref 73), some (.int v1), some (.int s.1), some (.int s.2.1), some (.int s.2.2.1), some (.int s.2.2.2.1), some (.int 0), some (.int 0)], [.int 0], (SH, t4.2, J)) rfl ?_
                  refine zr_one (if (0 : Int32) = 0 then zN 131 [some (.ref 73), some (.int v1), some (.int s.1), some (.int s.2.1), some (.int s.2.2.1), some (.int s.2.2.2.1), some (.int 0), some (.int 0)] [] (SH, t4.2, J) else zN 134 [some (.ref 73), some (.int v1), some (.int s.1), some (.int s.2.1), some (.int s.2.2.1), some (.int s.2.2.2.1), some (.int 0), some (.int 0)] [] (SH, t4.2, J)) rfl (zR_if (fun hc40 => zR_go ?_) (fun hc40 => zR_go ?_))
                  · rw [if_pos hc40] at h
                    refine zr_steps 3 (35, [some (.ref 73), some (.int v1), some (.int s.1), some (.int s.2.1), some (.int s.2.2.1), some (.int (s.2.2.2.1 + 1)), some (.int 0), some (.int 0)], [], (SH, t4.2, J)) rfl ?_
                    have he := Option.some.inj h
                    subst he
                    exact zr_hdr rfl rfl (show zRun X d 190 35 [some (.ref 73), some (.int v1), some (.int s.1), some (.int s.2.1), some (.int s.2.2.1), some (.int (s.2.2.2.1 + 1)), none, none] [] (SH, t4.2, J) r M' from w)
                  · rw [if_neg hc40] at h
                    refine zr_steps 9 (35, [some (.ref 73), some (.int v1), some (.int s.2.2.2.1), some (.int 0), some (.int (t4.2 73 54)), some (.int (s.2.2.2.1 + 1)), some (.int 0), some (.int 0)], [], (SH, t4.2, J)) rfl ?_
                    have he := Option.some.inj h
                    subst he
                    exact zr_hdr rfl rfl (show zRun X d 190 35 [some (.ref 73), some (.int v1), some (.int s.2.2.2.1), some (.int 0), some (.int (t4.2 73 54)), some (.int (s.2.2.2.1 + 1)), none, none] [] (SH, t4.2, J) r M' from w)
                · rw [if_neg hc42] at h
                  refine zr_steps 4 (128, [some (.ref 73), some (.int v1), some (.int s.1), some (.int s.2.1), some (.int s.2.2.1), some (.int s.2.2.2.1), some (.int 0), some (.int 1)], [.int 1], (SH, t4.2, J)) rfl ?_
                  refine zr_one (if (1 : Int32) = 0 then zN 131 [some (.ref 73), some (.int v1), some (.int s.1), some (.int s.2.1), some (.int s.2.2.1), some (.int s.2.2.2.1), some (.int 0), some (.int 1)] [] (SH, t4.2, J) else zN 134 [some (.ref 73), some (.int v1), some (.int s.1), some (.int s.2.1), some (.int s.2.2.1), some (.int s.2.2.2.1), some (.int 0), some (.int 1)] [] (SH, t4.2, J)) rfl (zR_if (fun hc41 => zR_go ?_) (fun hc41 => zR_go ?_))
                  · rw [if_pos hc41] at h
                    refine zr_steps 3 (35, [some (.ref 73), some (.int v1), some (.int s.1), some (.int s.2.1), some (.int s.2.2.1), some (.int (s.2.2.2.1 + 1)), some (.int 0), some (.int 1)], [], (SH, t4.2, J)) rfl ?_
                    have he := Option.some.inj h
                    subst he
                    exact zr_hdr rfl rfl (show zRun X d 190 35 [some (.ref 73), some (.int v1), some (.int s.1), some (.int s.2.1), some (.int s.2.2.1), some (.int (s.2.2.2.1 + 1)), none, none] [] (SH, t4.2, J) r M' from w)
                  · rw [if_neg hc41] at h
                    refine zr_steps 9 (35, [some (.ref 73), some (.int v1), some (.int s.2.2.2.1), some (.int 0), some (.int (t4.2 73 54)), some (.int (s.2.2.2.1 + 1)), some (.int 0), some (.int 1)], [], (SH, t4.2, J)) rfl ?_
                    have he := Option.some.inj h
                    subst he
                    exact zr_hdr rfl rfl (show zRun X d 190 35 [some (.ref 73), some (.int v1), some (.int s.2.2.2.1), some (.int 0), some (.int (t4.2 73 54)), some (.int (s.2.2.2.1 + 1)), none, none] [] (SH, t4.2, J) r M' from w)
              · rw [if_neg hc46] at h
                refine zr_steps 3 (104, [some (.ref 73), some (.int v1), some (.int s.1), some (.int s.2.1), some (.int s.2.2.1), some (.int s.2.2.2.1), some (.int 0), none], [.int s.2.2.1, .int (t4.2 73 54)], (SH, t4.2, J)) rfl ?_
                refine zr_one (if (t4.2 73 54) ≤ s.2.2.1 then zN 123 [some (.ref 73), some (.int v1), some (.int s.1), some (.int s.2.1), some (.int s.2.2.1), some (.int s.2.2.2.1), some (.int 0), none] [] (SH, t4.2, J) else zN 107 [some (.ref 73), some (.int v1), some (.int s.1), some (.int s.2.1), some (.int s.2.2.1), some (.int s.2.2.2.1), some (.int 0), none] [] (SH, t4.2, J)) rfl (zR_if (fun hc45 => zR_go ?_) (fun hc45 => zR_go ?_))
                · rw [if_pos hc45] at h
                  refine zr_steps 3 (128, [some (.ref 73), some (.int v1), some (.int s.1), some (.int s.2.1), some (.int s.2.2.1), some (.int s.2.2.2.1), some (.int 0), some (.int 0)], [.int 0], (SH, t4.2, J)) rfl ?_
                  refine zr_one (if (0 : Int32) = 0 then zN 131 [some (.ref 73), some (.int v1), some (.int s.1), some (.int s.2.1), some (.int s.2.2.1), some (.int s.2.2.2.1), some (.int 0), some (.int 0)] [] (SH, t4.2, J) else zN 134 [some (.ref 73), some (.int v1), some (.int s.1), some (.int s.2.1), some (.int s.2.2.1), some (.int s.2.2.2.1), some (.int 0), some (.int 0)] [] (SH, t4.2, J)) rfl (zR_if (fun hc43 => zR_go ?_) (fun hc43 => zR_go ?_))
                  · rw [if_pos hc43] at h
                    refine zr_steps 3 (35, [some (.ref 73), some (.int v1), some (.int s.1), some (.int s.2.1), some (.int s.2.2.1), some (.int (s.2.2.2.1 + 1)), some (.int 0), some (.int 0)], [], (SH, t4.2, J)) rfl ?_
                    have he := Option.some.inj h
                    subst he
                    exact zr_hdr rfl rfl (show zRun X d 190 35 [some (.ref 73), some (.int v1), some (.int s.1), some (.int s.2.1), some (.int s.2.2.1), some (.int (s.2.2.2.1 + 1)), none, none] [] (SH, t4.2, J) r M' from w)
                  · rw [if_neg hc43] at h
                    refine zr_steps 9 (35, [some (.ref 73), some (.int v1), some (.int s.2.2.2.1), some (.int 0), some (.int (t4.2 73 54)), some (.int (s.2.2.2.1 + 1)), some (.int 0), some (.int 0)], [], (SH, t4.2, J)) rfl ?_
                    have he := Option.some.inj h
                    subst he
                    exact zr_hdr rfl rfl (show zRun X d 190 35 [some (.ref 73), some (.int v1), some (.int s.2.2.2.1), some (.int 0), some (.int (t4.2 73 54)), some (.int (s.2.2.2.1 + 1)), none, none] [] (SH, t4.2, J) r M' from w)
                · rw [if_neg hc45] at h
                  refine zr_steps 5 (128, [some (.ref 73), some (.int v1), some (.int s.1), some (.int s.2.1), some (.int s.2.2.1), some (.int s.2.2.2.1), some (.int 0), some (.int 1)], [.int 1], (SH, t4.2, J)) rfl ?_
                  refine zr_one (if (1 : Int32) = 0 then zN 131 [some (.ref 73), some (.int v1), some (.int s.1), some (.int s.2.1), some (.int s.2.2.1), some (.int s.2.2.2.1), some (.int 0), some (.int 1)] [] (SH, t4.2, J) else zN 134 [some (.ref 73), some (.int v1), some (.int s.1), some (.int s.2.1), some (.int s.2.2.1), some (.int s.2.2.2.1), some (.int 0), some (.int 1)] [] (SH, t4.2, J)) rfl (zR_if (fun hc44 => zR_go ?_) (fun hc44 => zR_go ?_))
                  · rw [if_pos hc44] at h
                    refine zr_steps 3 (35, [some (.ref 73), some (.int v1), some (.int s.1), some (.int s.2.1), some (.int s.2.2.1), some (.int (s.2.2.2.1 + 1)), some (.int 0), some (.int 1)], [], (SH, t4.2, J)) rfl ?_
                    have he := Option.some.inj h
                    subst he
                    exact zr_hdr rfl rfl (show zRun X d 190 35 [some (.ref 73), some (.int v1), some (.int s.1), some (.int s.2.1), some (.int s.2.2.1), some (.int (s.2.2.2.1 + 1)), none, none] [] (SH, t4.2, J) r M' from w)
                  · rw [if_neg hc44] at h
                    refine zr_steps 9 (35, [some (.ref 73), some (.int v1), some (.int s.2.2.2.1), some (.int 0), some (.int (t4.2 73 54)), some (.int (s.2.2.2.1 + 1)), some (.int 0), some (.int 1)], [], (SH, t4.2, J)) rfl ?_
                    have he := Option.some.inj h
                    subst he
                    exact zr_hdr rfl rfl (show zRun X d 190 35 [some (.ref 73), some (.int v1), some (.int s.2.2.2.1), some (.int 0), some (.int (t4.2 73 54)), some (.int (s.2.2.2.1 + 1)), none, none] [] (SH, t4.2, J) r M' from w)
            · rw [if_neg hc48] at h
              refine zr_steps 3 (128, [some (.ref 73), some (.int v1), some (.int s.1), some (.int s.2.1), some (.int s.2.2.1), some (.int s.2.2.2.1), some (.int 0), some (.int 0)], [.int 0], (SH, t4.2, J)) rfl ?_
              refine zr_one (if (0 : Int32) = 0 then zN 131 [some (.ref 73), some (.int v1), some (.int s.1), some (.int s.2.1), some (.int s.2.2.1), some (.int s.2.2.2.1), some (.int 0), some (.int 0)] [] (SH, t4.2, J) else zN 134 [some (.ref 73), some (.int v1), some (.int s.1), some (.int s.2.1), some (.int s.2.2.1), some (.int s.2.2.2.1), some (.int 0), some (.int 0)] [] (SH, t4.2, J)) rfl (zR_if (fun hc47 => zR_go ?_) (fun hc47 => zR_go ?_))
              · rw [if_pos hc47] at h
                refine zr_steps 3 (35, [some (.ref 73), some (.int v1), some (.int s.1), some (.int s.2.1), some (.int s.2.2.1), some (.int (s.2.2.2.1 + 1)), some (.int 0), some (.int 0)], [], (SH, t4.2, J)) rfl ?_
                have he := Option.some.inj h
                subst he
                exact zr_hdr rfl rfl (show zRun X d 190 35 [some (.ref 73), some (.int v1), some (.int s.1), some (.int s.2.1), some (.int s.2.2.1), some (.int (s.2.2.2.1 + 1)), none, none] [] (SH, t4.2, J) r M' from w)
              · rw [if_neg hc47] at h
                refine zr_steps 9 (35, [some (.ref 73), some (.int v1), some (.int s.2.2.2.1), some (.int 0), some (.int (t4.2 73 54)), some (.int (s.2.2.2.1 + 1)), some (.int 0), some (.int 0)], [], (SH, t4.2, J)) rfl ?_
                have he := Option.some.inj h
                subst he
                exact zr_hdr rfl rfl (show zRun X d 190 35 [some (.ref 73), some (.int v1), some (.int s.2.2.2.1), some (.int 0), some (.int (t4.2 73 54)), some (.int (s.2.2.2.1 + 1)), none, none] [] (SH, t4.2, J) r M' from w))
theorem ok_f190_serves {X : zX} {d : Nat} (hd : 6 ≤ d) (v1 : Int32) {I : (Nat → Nat → Int32)} {J : (Nat → Nat → Int64)} (t : (Int32 × (Nat → Nat → Int32))) (h : f190_serves v1 I = some t) : zRun X d 190 0 (zent 190 [.ref 73, .int v1]) [] (SH, I, J) (some (.int t.1)) (SH, t.2, J) := by
  unfold f190_serves at h
  refine zr_steps 2 (2, [some (.ref 73), some (.int v1), none, none, none, none, none, none], [.int v1, .ref 73], (SH, I, J)) rfl ?_
  obtain ⟨t2, hc1, h⟩ := zbind h
  refine zr_one (some (.inr (.inl (131, [.ref 73, .int v1], [], 5)))) rfl (zR_call (by omega) rfl (ok_f131_isSort (by omega) v1 _ hc1) ?_)
  refine zr_one (if t2 = 0 then zN 8 [some (.ref 73), some (.int v1), none, none, none, none, none, none] [] (SH, I, J) else zN 10 [some (.ref 73), some (.int v1), none, none, none, none, none, none] [] (SH, I, J)) rfl (zR_if (fun hc57 => zR_go ?_) (fun hc57 => zR_go ?_))
  · rw [if_pos hc57] at h
    refine zr_steps 1 (9, [some (.ref 73), some (.int v1), none, none, none, none, none, none], [.int (-1)], (SH, I, J)) rfl ?_
    have he := Option.some.inj h
    subst he
    exact zr_one (some (.inr (.inr (some (.int (-1)))))) rfl (zR_ret rfl rfl)
  · rw [if_neg hc57] at h
    refine zr_steps 2 (14, [some (.ref 73), some (.int v1), none, none, none, none, none, none], [.int (I 73 31)], (SH, I, J)) rfl ?_
    refine zr_one (if (I 73 31) = 0 then zN 17 [some (.ref 73), some (.int v1), none, none, none, none, none, none] [] (SH, I, J) else zN 20 [some (.ref 73), some (.int v1), none, none, none, none, none, none] [] (SH, I, J)) rfl (zR_if (fun hc56 => zR_go ?_) (fun hc56 => zR_go ?_))
    · rw [if_pos hc56] at h
      refine zr_steps 1 (19, [some (.ref 73), some (.int v1), none, none, none, none, none, none], [.int (-5)], (SH, I, J)) rfl ?_
      have he := Option.some.inj h
      subst he
      exact zr_one (some (.inr (.inr (some (.int (-5)))))) rfl (zR_ret rfl rfl)
    · rw [if_neg hc56] at h
      refine zr_steps 11 (35, [some (.ref 73), some (.int v1), some (.int (-1)), some (.int 0), some (.int 0), some (.int 0), none, none], [], (SH, (zu I 73 50 v1), J)) rfl ?_
      obtain ⟨s54, ho55, h⟩ := zbind h
      refine zr_hdr (ls2 := [some (.ref 73), some (.int v1), some (.int (-1)), some (.int 0), some (.int 0), some (.int 0), none, none]) rfl rfl ?_
      refine ok_f190_serves_L35 (by omega) v1 5000 (((-1) : Int32), (0 : Int32), (0 : Int32), (0 : Int32), (zu I 73 50 v1)) s54 ho55 ?_
      show zRun X d 190 152 [some (.ref 73), none, some (.int s54.1), none, none, none, none, none] [] (SH, s54.2.2.2.2, J) _ _
      refine zr_steps 4 (158, [some (.ref 73), none, some (.int s54.1), none, none, none, none, none], [.int s54.1], (SH, (zu s54.2.2.2.2 73 50 (-1)), J)) rfl ?_
      have he := Option.some.inj h
      subst he
      exact zr_one (some (.inr (.inr (some (.int s54.1))))) rfl (zR_ret rfl rfl)
def f79_couldCome_L4 (v1 : Int32) (I : (Nat → Nat → Int32)) (s : (Int32 × Int32)) : Option ((Int32 × Int32) ⊕ (Int32 × Int32)) :=
  if (I 1 2) ≤ s.2 then
    some (.inl (s.1, s.2))
  else
    bif zin s.2 8 then
    if (I 10 s.2.toNatClampNeg) = v1 then
      bif zin s.2 8 then
      some (.inr ((s.1 + (I 8 s.2.toNatClampNeg)), (s.2 + 1)))
      else none
    else
      bif zin s.2 8 then
      Option.bind (f77_lastMinute s.2 (I 10 s.2.toNatClampNeg) v1 I) fun t5 =>
      if t5 = (-2) then
        some (.inr (s.1, (s.2 + 1)))
      else
        bif zin s.2 8 then
        some (.inr ((s.1 + (I 8 s.2.toNatClampNeg)), (s.2 + 1)))
        else none
      else none
    else none
def f79_couldCome (v1 : Int32) (I : (Nat → Nat → Int32)) : Option Int32 :=
  Option.bind (zloop (f79_couldCome_L4 v1 I) 5000 ((0 : Int32), (0 : Int32))) fun s10 =>
  some s10.1
theorem ok_f79_couldCome_L4 {X : zX} {d : Nat} {r : Option Value} {M' : zM} (hd : 1 ≤ d) (v1 : Int32) {I : (Nat → Nat → Int32)} {J : (Nat → Nat → Int64)} : ∀ (n : Nat) (s x : (Int32 × Int32)), zloop (f79_couldCome_L4 v1 I) n s = some x → (fun (x : (Int32 × Int32)) => zRun X d 79 54 [none, none, some (.int x.1), none] [] (SH, I, J) r M') x → (fun (s : (Int32 × Int32)) => zRun X d 79 4 [some (.ref 1), some (.int v1), some (.int s.1), some (.int s.2)] [] (SH, I, J) r M') s := zloop_ok (Wh := fun (s : (Int32 × Int32)) => zRun X d 79 4 [some (.ref 1), some (.int v1), some (.int s.1), some (.int s.2)] [] (SH, I, J) r M') (Wx := fun (x : (Int32 × Int32)) => zRun X d 79 54 [none, none, some (.int x.1), none] [] (SH, I, J) r M') (fun s y h w => by
  unfold f79_couldCome_L4 at h
  refine zr_steps 3 (9, [some (.ref 1), some (.int v1), some (.int s.1), some (.int s.2)], [.int (I 1 2), .int s.2], (SH, I, J)) rfl ?_
  refine zr_one (if (I 1 2) ≤ s.2 then zN 54 [some (.ref 1), some (.int v1), some (.int s.1), some (.int s.2)] [] (SH, I, J) else zN 12 [some (.ref 1), some (.int v1), some (.int s.1), some (.int s.2)] [] (SH, I, J)) rfl (zR_if (fun hc9 => zR_go ?_) (fun hc9 => zR_go ?_))
  · rw [if_pos hc9] at h
    have he := Option.some.inj h
    subst he
    exact zr_hdr rfl rfl (show zRun X d 79 54 [none, none, some (.int s.1), none] [] (SH, I, J) r M' from w)
  · rw [if_neg hc9] at h
    refine zr_steps 3 (17, [some (.ref 1), some (.int v1), some (.int s.1), some (.int s.2)], [.int s.2, .ref 10], (SH, I, J)) rfl ?_
    obtain ⟨hc1, h⟩ := zbifo h
    refine zr_one (bif zin s.2 8 then zN 18 [some (.ref 1), some (.int v1), some (.int s.1), some (.int s.2)] [.int (I 10 s.2.toNatClampNeg)] (SH, I, J) else none) rfl (zR_bif hc1 (zR_go ?_))
    refine zr_steps 1 (19, [some (.ref 1), some (.int v1), some (.int s.1), some (.int s.2)], [.int v1, .int (I 10 s.2.toNatClampNeg)], (SH, I, J)) rfl ?_
    refine zr_one (if (I 10 s.2.toNatClampNeg) = v1 then zN 39 [some (.ref 1), some (.int v1), some (.int s.1), some (.int s.2)] [] (SH, I, J) else zN 22 [some (.ref 1), some (.int v1), some (.int s.1), some (.int s.2)] [] (SH, I, J)) rfl (zR_if (fun hc8 => zR_go ?_) (fun hc8 => zR_go ?_))
    · rw [if_pos hc8] at h
      refine zr_steps 4 (45, [some (.ref 1), some (.int v1), some (.int s.1), some (.int s.2)], [.int s.2, .ref 8, .int s.1], (SH, I, J)) rfl ?_
      obtain ⟨hc2, h⟩ := zbifo h
      refine zr_one (bif zin s.2 8 then zN 46 [some (.ref 1), some (.int v1), some (.int s.1), some (.int s.2)] [.int (I 8 s.2.toNatClampNeg), .int s.1] (SH, I, J) else none) rfl (zR_bif hc2 (zR_go ?_))
      refine zr_steps 4 (4, [some (.ref 1), some (.int v1), some (.int (s.1 + (I 8 s.2.toNatClampNeg))), some (.int (s.2 + 1))], [], (SH, I, J)) rfl ?_
      have he := Option.some.inj h
      subst he
      exact zr_hdr rfl rfl (show zRun X d 79 4 [some (.ref 1), some (.int v1), some (.int (s.1 + (I 8 s.2.toNatClampNeg))), some (.int (s.2 + 1))] [] (SH, I, J) r M' from w)
    · rw [if_neg hc8] at h
      refine zr_steps 5 (29, [some (.ref 1), some (.int v1), some (.int s.1), some (.int s.2)], [.int s.2, .ref 10, .int s.2, .ref 1], (SH, I, J)) rfl ?_
      obtain ⟨hc3, h⟩ := zbifo h
      refine zr_one (bif zin s.2 8 then zN 30 [some (.ref 1), some (.int v1), some (.int s.1), some (.int s.2)] [.int (I 10 s.2.toNatClampNeg), .int s.2, .ref 1] (SH, I, J) else none) rfl (zR_bif hc3 (zR_go ?_))
      refine zr_steps 1 (31, [some (.ref 1), some (.int v1), some (.int s.1), some (.int s.2)], [.int v1, .int (I 10 s.2.toNatClampNeg), .int s.2, .ref 1], (SH, I, J)) rfl ?_
      obtain ⟨t5, hc4, h⟩ := zbind h
      refine zr_one (some (.inr (.inl (77, [.ref 1, .int s.2, .int (I 10 s.2.toNatClampNeg), .int v1], [], 34)))) rfl (zR_call (by omega) rfl (ok_f77_lastMinute (by omega) s.2 (I 10 s.2.toNatClampNeg) v1 _ hc4) ?_)
      refine zr_steps 1 (36, [some (.ref 1), some (.int v1), some (.int s.1), some (.int s.2)], [.int (-2), .int t5], (SH, I, J)) rfl ?_
      refine zr_one (if t5 = (-2) then zN 48 [some (.ref 1), some (.int v1), some (.int s.1), some (.int s.2)] [] (SH, I, J) else zN 39 [some (.ref 1), some (.int v1), some (.int s.1), some (.int s.2)] [] (SH, I, J)) rfl (zR_if (fun hc7 => zR_go ?_) (fun hc7 => zR_go ?_))
      · rw [if_pos hc7] at h
        refine zr_steps 2 (4, [some (.ref 1), some (.int v1), some (.int s.1), some (.int (s.2 + 1))], [], (SH, I, J)) rfl ?_
        have he := Option.some.inj h
        subst he
        exact zr_hdr rfl rfl (show zRun X d 79 4 [some (.ref 1), some (.int v1), some (.int s.1), some (.int (s.2 + 1))] [] (SH, I, J) r M' from w)
      · rw [if_neg hc7] at h
        refine zr_steps 4 (45, [some (.ref 1), some (.int v1), some (.int s.1), some (.int s.2)], [.int s.2, .ref 8, .int s.1], (SH, I, J)) rfl ?_
        obtain ⟨hc6, h⟩ := zbifo h
        refine zr_one (bif zin s.2 8 then zN 46 [some (.ref 1), some (.int v1), some (.int s.1), some (.int s.2)] [.int (I 8 s.2.toNatClampNeg), .int s.1] (SH, I, J) else none) rfl (zR_bif hc6 (zR_go ?_))
        refine zr_steps 4 (4, [some (.ref 1), some (.int v1), some (.int (s.1 + (I 8 s.2.toNatClampNeg))), some (.int (s.2 + 1))], [], (SH, I, J)) rfl ?_
        have he := Option.some.inj h
        subst he
        exact zr_hdr rfl rfl (show zRun X d 79 4 [some (.ref 1), some (.int v1), some (.int (s.1 + (I 8 s.2.toNatClampNeg))), some (.int (s.2 + 1))] [] (SH, I, J) r M' from w))
theorem ok_f79_couldCome {X : zX} {d : Nat} (hd : 1 ≤ d) (v1 : Int32) {I : (Nat → Nat → Int32)} {J : (Nat → Nat → Int64)} (t : Int32) (h : f79_couldCome v1 I = some t) : zRun X d 79 0 (zent 79 [.ref 1, .int v1]) [] (SH, I, J) (some (.int t)) (SH, I, J) := by
  unfold f79_couldCome at h
  refine zr_steps 4 (4, [some (.ref 1), some (.int v1), some (.int 0), some (.int 0)], [], (SH, I, J)) rfl ?_
  obtain ⟨s10, ho11, h⟩ := zbind h
  refine zr_hdr (ls2 := [some (.ref 1), some (.int v1), some (.int 0), some (.int 0)]) rfl rfl ?_
  refine ok_f79_couldCome_L4 (by omega) v1 5000 ((0 : Int32), (0 : Int32)) s10 ho11 ?_
  show zRun X d 79 54 [none, none, some (.int s10.1), none] [] (SH, I, J) _ _
  refine zr_steps 1 (55, [none, none, some (.int s10.1), none], [.int s10.1], (SH, I, J)) rfl ?_
  have he := Option.some.inj h
  subst he
  exact zr_one (some (.inr (.inr (some (.int s10.1))))) rfl (zR_ret rfl rfl)
def f112_judged_L5 (v1 : Nat) (I : (Nat → Nat → Int32)) (J : (Nat → Nat → Int64)) (s : (Int64 × Int32)) : Option (Int32 ⊕ ((Int64 × Int32) ⊕ (Int64 × Int32))) :=
  if (I 1 0) ≤ s.2 then
    some (.inr (.inl (s.1, s.2)))
  else
    Option.bind (f57_at v1 s.2 I J) fun t2 =>
    bif zin s.2 4 then
    if (0 : Int32) < (lg_cmp t2 (I 2 s.2.toNatClampNeg).toInt64) then
      some (.inl s.2)
    else
      Option.bind (f79_couldCome s.2 I) fun t5 =>
      if (lg_cmp t2 t5.toInt64) ≤ 0 then
        some (.inr (.inr ((s.1 + t2), (s.2 + 1))))
      else
        some (.inl s.2)
    else none
def f112_judged (v1 : Nat) (I : (Nat → Nat → Int32)) (J : (Nat → Nat → Int64)) : Option Int32 :=
  zbR (zloopR (f112_judged_L5 v1 I J) 5000 ((0 : Int64), (0 : Int32))) (fun rr => some rr) fun s9 =>
  Option.bind (f73_people I) fun t12 =>
  if (lg_cmp s9.1 t12.toInt64) ≤ 0 then
    some (-2)
  else
    some 9
theorem ok_f112_judged_L5 {X : zX} {d : Nat} {r : Option Value} {M' : zM} (hd : 2 ≤ d) (v1 : Nat) (hs1 : zIsShelf v1) {I : (Nat → Nat → Int32)} {J : (Nat → Nat → Int64)} : ∀ (n : Nat) (s : (Int64 × Int32)) (t : Int32 ⊕ (Int64 × Int32)), zloopR (f112_judged_L5 v1 I J) n s = some t → (match t with
    | .inl x => (fun (x : Int32) => r = (some (.int x)) ∧ M' = (SH, I, J)) x
    | .inr x => (fun (x : (Int64 × Int32)) => zRun X d 112 72 [some (.ref 0), none, some (.long x.1), none, none, none, none] [] (SH, I, J) r M') x) → (fun (s : (Int64 × Int32)) => zRun X d 112 5 [some (.ref 0), some (.ref v1), some (.long s.1), none, some (.int s.2), none, none] [] (SH, I, J) r M') s := zloopR_ok (Wh := fun (s : (Int64 × Int32)) => zRun X d 112 5 [some (.ref 0), some (.ref v1), some (.long s.1), none, some (.int s.2), none, none] [] (SH, I, J) r M') (Wx := fun (x : (Int64 × Int32)) => zRun X d 112 72 [some (.ref 0), none, some (.long x.1), none, none, none, none] [] (SH, I, J) r M') (Wr := fun (x : Int32) => r = (some (.int x)) ∧ M' = (SH, I, J)) (fun s y h w => by
  unfold f112_judged_L5 at h
  refine zr_steps 4 (14, [some (.ref 0), some (.ref v1), some (.long s.1), none, some (.int s.2), none, none], [.int (I 1 0), .int s.2], (SH, I, J)) rfl ?_
  refine zr_one (if (I 1 0) ≤ s.2 then zN 72 [some (.ref 0), some (.ref v1), some (.long s.1), none, some (.int s.2), none, none] [] (SH, I, J) else zN 17 [some (.ref 0), some (.ref v1), some (.long s.1), none, some (.int s.2), none, none] [] (SH, I, J)) rfl (zR_if (fun hc8 => zR_go ?_) (fun hc8 => zR_go ?_))
  · rw [if_pos hc8] at h
    have he := Option.some.inj h
    subst he
    exact zr_hdr rfl rfl (show zRun X d 112 72 [some (.ref 0), none, some (.long s.1), none, none, none, none] [] (SH, I, J) r M' from w)
  · rw [if_neg hc8] at h
    refine zr_steps 2 (20, [some (.ref 0), some (.ref v1), some (.long s.1), none, some (.int s.2), none, none], [.int s.2, .ref v1], (SH, I, J)) rfl ?_
    obtain ⟨t2, hc1, h⟩ := zbind h
    refine zr_one (bif zrcv (SH, I, J) 57 [.ref v1, .int s.2] then some (.inr (.inl (57, [.ref v1, .int s.2], [], 23))) else none) rfl (zR_bif (sh_rcv hs1 rfl rfl) (zR_call (by omega) rfl (ok_f57_at (by omega) v1 s.2 hs1 _ hc1) ?_))
    refine zr_steps 6 (36, [some (.ref 0), some (.ref v1), some (.long s.1), none, some (.int s.2), some (.long t2), none], [.int s.2, .ref 2, .long t2], (SH, I, J)) rfl ?_
    obtain ⟨hc3, h⟩ := zbifo h
    refine zr_one (bif zin s.2 4 then zN 37 [some (.ref 0), some (.ref v1), some (.long s.1), none, some (.int s.2), some (.long t2), none] [.int (I 2 s.2.toNatClampNeg), .long t2] (SH, I, J) else none) rfl (zR_bif hc3 (zR_go ?_))
    refine zr_steps 2 (39, [some (.ref 0), some (.ref v1), some (.long s.1), none, some (.int s.2), some (.long t2), none], [.int (lg_cmp t2 (I 2 s.2.toNatClampNeg).toInt64)], (SH, I, J)) rfl ?_
    refine zr_one (if (0 : Int32) < (lg_cmp t2 (I 2 s.2.toNatClampNeg).toInt64) then zN 58 [some (.ref 0), some (.ref v1), some (.long s.1), none, some (.int s.2), some (.long t2), none] [] (SH, I, J) else zN 42 [some (.ref 0), some (.ref v1), some (.long s.1), none, some (.int s.2), some (.long t2), none] [] (SH, I, J)) rfl (zR_if (fun hc7 => zR_go ?_) (fun hc7 => zR_go ?_))
    · rw [if_pos hc7] at h
      refine zr_steps 1 (60, [some (.ref 0), some (.ref v1), some (.long s.1), none, some (.int s.2), some (.long t2), none], [.int s.2], (SH, I, J)) rfl ?_
      have he := Option.some.inj h
      subst he
      obtain ⟨e1, e2⟩ := (show r = (some (.int s.2)) ∧ M' = (SH, I, J) from w)
      exact zr_one (some (.inr (.inr (some (.int s.2))))) rfl (zR_ret e1.symm e2.symm)
    · rw [if_neg hc7] at h
      refine zr_steps 4 (50, [some (.ref 0), some (.ref v1), some (.long s.1), none, some (.int s.2), some (.long t2), none], [.int s.2, .ref 1, .long t2], (SH, I, J)) rfl ?_
      obtain ⟨t5, hc4, h⟩ := zbind h
      refine zr_one (some (.inr (.inl (79, [.ref 1, .int s.2], [.long t2], 53)))) rfl (zR_call (by omega) rfl (ok_f79_couldCome (by omega) s.2 _ hc4) ?_)
      refine zr_steps 2 (55, [some (.ref 0), some (.ref v1), some (.long s.1), none, some (.int s.2), some (.long t2), none], [.int (lg_cmp t2 t5.toInt64)], (SH, I, J)) rfl ?_
      refine zr_one (if (lg_cmp t2 t5.toInt64) ≤ 0 then zN 61 [some (.ref 0), some (.ref v1), some (.long s.1), none, some (.int s.2), some (.long t2), none] [] (SH, I, J) else zN 58 [some (.ref 0), some (.ref v1), some (.long s.1), none, some (.int s.2), some (.long t2), none] [] (SH, I, J)) rfl (zR_if (fun hc6 => zR_go ?_) (fun hc6 => zR_go ?_))
      · rw [if_pos hc6] at h
        refine zr_steps 6 (5, [some (.ref 0), some (.ref v1), some (.long (s.1 + t2)), none, some (.int (s.2 + 1)), some (.long t2), none], [], (SH, I, J)) rfl ?_
        have he := Option.some.inj h
        subst he
        exact zr_hdr rfl rfl (show zRun X d 112 5 [some (.ref 0), some (.ref v1), some (.long (s.1 + t2)), none, some (.int (s.2 + 1)), none, none] [] (SH, I, J) r M' from w)
      · rw [if_neg hc6] at h
        refine zr_steps 1 (60, [some (.ref 0), some (.ref v1), some (.long s.1), none, some (.int s.2), some (.long t2), none], [.int s.2], (SH, I, J)) rfl ?_
        have he := Option.some.inj h
        subst he
        obtain ⟨e1, e2⟩ := (show r = (some (.int s.2)) ∧ M' = (SH, I, J) from w)
        exact zr_one (some (.inr (.inr (some (.int s.2))))) rfl (zR_ret e1.symm e2.symm))
theorem ok_f112_judged {X : zX} {d : Nat} (hd : 2 ≤ d) (v1 : Nat) (hs1 : zIsShelf v1) {I : (Nat → Nat → Int32)} {J : (Nat → Nat → Int64)} (t : Int32) (h : f112_judged v1 I J = some t) : zRun X d 112 0 (zent 112 [.ref 0, .ref v1]) [] (SH, I, J) (some (.int t)) (SH, I, J) := by
  unfold f112_judged at h
  refine zr_steps 4 (5, [some (.ref 0), some (.ref v1), some (.long 0), none, some (.int 0), none, none], [], (SH, I, J)) rfl ?_
  obtain ⟨y14, ho10, hy⟩ := zbRe h
  refine zr_hdr (ls2 := [some (.ref 0), some (.ref v1), some (.long 0), none, some (.int 0), none, none]) rfl rfl ?_
  refine ok_f112_judged_L5 (by omega) v1 hs1 5000 ((0 : Int64), (0 : Int32)) y14 ho10 ?_
  rcases hy with ⟨rr, rfl, h⟩ | ⟨s9, rfl, h⟩
  · have he := Option.some.inj h
    subst he
    exact ⟨rfl, rfl⟩
  · show zRun X d 112 72 [some (.ref 0), none, some (.long s9.1), none, none, none, none] [] (SH, I, J) _ _
    refine zr_steps 3 (77, [some (.ref 0), none, some (.long s9.1), none, none, none, none], [.ref 1, .long s9.1], (SH, I, J)) rfl ?_
    obtain ⟨t12, hc11, h⟩ := zbind h
    refine zr_one (some (.inr (.inl (73, [.ref 1], [.long s9.1], 80)))) rfl (zR_call (by omega) rfl (ok_f73_people (by omega)  _ hc11) ?_)
    refine zr_steps 2 (82, [some (.ref 0), none, some (.long s9.1), none, none, none, none], [.int (lg_cmp s9.1 t12.toInt64)], (SH, I, J)) rfl ?_
    refine zr_one (if (lg_cmp s9.1 t12.toInt64) ≤ 0 then zN 90 [some (.ref 0), none, some (.long s9.1), none, none, none, none] [] (SH, I, J) else zN 85 [some (.ref 0), none, some (.long s9.1), none, none, none, none] [] (SH, I, J)) rfl (zR_if (fun hc13 => zR_go ?_) (fun hc13 => zR_go ?_))
    · rw [if_pos hc13] at h
      refine zr_steps 1 (92, [some (.ref 0), none, some (.long s9.1), none, none, none, none], [.int (-2)], (SH, I, J)) rfl ?_
      have he := Option.some.inj h
      subst he
      exact zr_one (some (.inr (.inr (some (.int (-2)))))) rfl (zR_ret rfl rfl)
    · rw [if_neg hc13] at h
      refine zr_steps 2 (92, [some (.ref 0), none, some (.long s9.1), none, none, none, none], [.int 9], (SH, I, J)) rfl ?_
      have he := Option.some.inj h
      subst he
      exact zr_one (some (.inr (.inr (some (.int 9))))) rfl (zR_ret rfl rfl)
def f111_judge (v1 : Int32) (I : (Nat → Nat → Int32)) (J : (Nat → Nat → Int64)) : Option Int32 :=
  Option.bind (f127_isShelf v1) fun t2 =>
  if t2 = 0 then
    some (-1)
  else
    bif zin v1 6 then
    Option.bind (f55_refusal (zshelf v1) 1 I) fun t5 =>
    if t5 = 0 then
      if (I 1 0) ≤ (I (zshelf v1) 2) then
        Option.bind (f112_judged (zshelf v1) I J) fun t7 =>
        some t7
      else
        some (-13)
    else
      some t5
    else none
theorem ok_f111_judge {X : zX} {d : Nat} (hd : 3 ≤ d) (v1 : Int32) {I : (Nat → Nat → Int32)} {J : (Nat → Nat → Int64)} (t : Int32) (h : f111_judge v1 I J = some t) : zRun X d 111 0 (zent 111 [.ref 0, .int v1]) [] (SH, I, J) (some (.int t)) (SH, I, J) := by
  unfold f111_judge at h
  refine zr_steps 1 (1, [some (.ref 0), some (.int v1), none, none], [.int v1], (SH, I, J)) rfl ?_
  obtain ⟨t2, hc1, h⟩ := zbind h
  refine zr_one (some (.inr (.inl (127, [.int v1], [], 4)))) rfl (zR_call (by omega) rfl (ok_f127_isShelf (by omega) v1 _ hc1) ?_)
  refine zr_one (if t2 = 0 then zN 7 [some (.ref 0), some (.int v1), none, none] [] (SH, I, J) else zN 9 [some (.ref 0), some (.int v1), none, none] [] (SH, I, J)) rfl (zR_if (fun hc10 => zR_go ?_) (fun hc10 => zR_go ?_))
  · rw [if_pos hc10] at h
    refine zr_steps 1 (8, [some (.ref 0), some (.int v1), none, none], [.int (-1)], (SH, I, J)) rfl ?_
    have he := Option.some.inj h
    subst he
    exact zr_one (some (.inr (.inr (some (.int (-1)))))) rfl (zR_ret rfl rfl)
  · rw [if_neg hc10] at h
    refine zr_steps 3 (14, [some (.ref 0), some (.int v1), none, none], [.int v1, .ref 60], (SH, I, J)) rfl ?_
    obtain ⟨hc3, h⟩ := zbifo h
    refine zr_one (bif zin v1 6 then zrefr 15 [some (.ref 0), some (.int v1), none, none] [] (SH, I, J) (zri (SH, I, J) 60 v1.toNatClampNeg) else none) rfl (zR_bif hc3 (zR_ref (sh_at hc3) ?_))
    refine zr_steps 3 (18, [some (.ref 0), some (.int v1), some (.ref (zshelf v1)), none], [.int 1, .ref (zshelf v1)], (SH, I, J)) rfl ?_
    obtain ⟨t5, hc4, h⟩ := zbind h
    refine zr_one (bif zrcv (SH, I, J) 55 [.ref (zshelf v1), .int 1] then some (.inr (.inl (55, [.ref (zshelf v1), .int 1], [], 21))) else none) rfl (zR_bif (sh_rcv (sh_is hc3) rfl rfl) (zR_call (by omega) rfl (ok_f55_refusal (by omega) (zshelf v1) 1 (sh_is hc3) _ hc4) ?_))
    refine zr_steps 2 (23, [some (.ref 0), some (.int v1), some (.ref (zshelf v1)), some (.int t5)], [.int t5], (SH, I, J)) rfl ?_
    refine zr_one (if t5 = 0 then zN 28 [some (.ref 0), some (.int v1), some (.ref (zshelf v1)), some (.int t5)] [] (SH, I, J) else zN 26 [some (.ref 0), some (.int v1), some (.ref (zshelf v1)), some (.int t5)] [] (SH, I, J)) rfl (zR_if (fun hc9 => zR_go ?_) (fun hc9 => zR_go ?_))
    · rw [if_pos hc9] at h
      refine zr_steps 1 (29, [some (.ref 0), some (.int v1), some (.ref (zshelf v1)), some (.int t5)], [.ref (zshelf v1)], (SH, I, J)) rfl ?_
      refine zr_one (zfget 29 4 2 [some (.ref 0), some (.int v1), some (.ref (zshelf v1)), some (.int t5)] [.ref (zshelf v1)] (SH, I, J)) rfl (sR_get (sh_is hc3) (by decide) ?_)
      refine zr_steps 3 (39, [some (.ref 0), some (.int v1), some (.ref (zshelf v1)), some (.int t5)], [.int (I 1 0), .int (I (zshelf v1) 2)], (SH, I, J)) rfl ?_
      refine zr_one (if (I 1 0) ≤ (I (zshelf v1) 2) then zN 47 [some (.ref 0), some (.int v1), some (.ref (zshelf v1)), some (.int t5)] [] (SH, I, J) else zN 42 [some (.ref 0), some (.int v1), some (.ref (zshelf v1)), some (.int t5)] [] (SH, I, J)) rfl (zR_if (fun hc8 => zR_go ?_) (fun hc8 => zR_go ?_))
      · rw [if_pos hc8] at h
        refine zr_steps 2 (49, [some (.ref 0), some (.int v1), some (.ref (zshelf v1)), some (.int t5)], [.ref (zshelf v1), .ref 0], (SH, I, J)) rfl ?_
        obtain ⟨t7, hc6, h⟩ := zbind h
        refine zr_one (some (.inr (.inl (112, [.ref 0, .ref (zshelf v1)], [], 52)))) rfl (zR_call (by omega) rfl (ok_f112_judged (by omega) (zshelf v1) (sh_is hc3) _ hc6) ?_)
        have he := Option.some.inj h
        subst he
        exact zr_one (some (.inr (.inr (some (.int t7))))) rfl (zR_ret rfl rfl)
      · rw [if_neg hc8] at h
        refine zr_steps 2 (52, [some (.ref 0), some (.int v1), some (.ref (zshelf v1)), some (.int t5)], [.int (-13)], (SH, I, J)) rfl ?_
        have he := Option.some.inj h
        subst he
        exact zr_one (some (.inr (.inr (some (.int (-13)))))) rfl (zR_ret rfl rfl)
    · rw [if_neg hc9] at h
      refine zr_steps 1 (27, [some (.ref 0), some (.int v1), some (.ref (zshelf v1)), some (.int t5)], [.int t5], (SH, I, J)) rfl ?_
      have he := Option.some.inj h
      subst he
      exact zr_one (some (.inr (.inr (some (.int t5))))) rfl (zR_ret rfl rfl)
def f191_judge_L89 (v1 : Int32) (v2 : Int32) (v3 : Int32) (v4 : Int32) (J : (Nat → Nat → Int64)) (s : (Int32 × Int32 × (Nat → Nat → Int32))) : Option ((Int32 × Int32 × (Nat → Nat → Int32)) ⊕ (Int32 × Int32 × (Nat → Nat → Int32))) :=
  if (s.2.2 73 9) ≤ s.2.1 then
    some (.inl (s.1, s.2.1, s.2.2))
  else
    bif zin s.2.1 8 then
    if (s.2.2 82 s.2.1.toNatClampNeg) = v3 then
      bif zin s.2.1 8 then
      some (.inr ((s.1 + (s.2.2 80 s.2.1.toNatClampNeg)), (s.2.1 + 1), s.2.2))
      else none
    else
      bif zin s.2.1 8 then
      Option.bind (f179_lastOf s.2.1 (s.2.2 82 s.2.1.toNatClampNeg) v3 s.2.2) fun t11 =>
      if t11.1 < 0 then
        some (.inr (s.1, (s.2.1 + 1), t11.2))
      else
        bif zin s.2.1 8 then
        some (.inr ((s.1 + (t11.2 80 s.2.1.toNatClampNeg)), (s.2.1 + 1), t11.2))
        else none
      else none
    else none
def f191_judge_L56 (v1 : Int32) (J : (Nat → Nat → Int64)) (s : (Int32 × Int32 × (Nat → Nat → Int32))) : Option ((Int32 × (Nat → Nat → Int32)) ⊕ ((Int32 × Int32 × (Nat → Nat → Int32)) ⊕ (Int32 × Int32 × (Nat → Nat → Int32)))) :=
  if (s.2.2 73 1) ≤ s.2.1 then
    some (.inr (.inl (s.1, s.2.1, s.2.2)))
  else
    bif zin ((60 * v1) + s.2.1) 360 then
    Option.bind (zloop (f191_judge_L89 v1 (s.1 + (J 112 ((60 * v1) + s.2.1).toNatClampNeg).toInt32) s.2.1 (J 112 ((60 * v1) + s.2.1).toNatClampNeg).toInt32 J) 5000 ((0 : Int32), (0 : Int32), s.2.2)) fun s16 =>
    bif zin s.2.1 4 then
    if (s16.2.2 74 s.2.1.toNatClampNeg) < (J 112 ((60 * v1) + s.2.1).toNatClampNeg).toInt32 then
      some (.inl (s.2.1, s16.2.2))
    else
      if (J 112 ((60 * v1) + s.2.1).toNatClampNeg).toInt32 ≤ s16.1 then
        some (.inr (.inr ((s.1 + (J 112 ((60 * v1) + s.2.1).toNatClampNeg).toInt32), (s.2.1 + 1), s16.2.2)))
      else
        some (.inl (s.2.1, s16.2.2))
    else none
    else none
def f191_judge (v1 : Int32) (I : (Nat → Nat → Int32)) (J : (Nat → Nat → Int64)) : Option (Int32 × (Nat → Nat → Int32)) :=
  Option.bind (f210_isShelf v1) fun t2 =>
  if t2 = 0 then
    some ((-1), I)
  else
    bif zin v1 6 then
    if (I 110 v1.toNatClampNeg) = (-1) then
      some ((-11), I)
    else
      bif zin v1 6 then
      if (I 110 v1.toNatClampNeg) = (-3) then
        bif zin v1 6 then
        if (I 73 1) ≤ (I 111 v1.toNatClampNeg) then
          zbR (zloopR (f191_judge_L56 v1 J) 5000 ((0 : Int32), (0 : Int32), I)) (fun rr => some rr) fun s22 =>
          Option.bind (f183_wanting 0 s22.2.2) fun t25 =>
          Option.bind (f183_wanting 1 s22.2.2) fun t27 =>
          if s22.1 ≤ (t25 + t27) then
            some ((-2), s22.2.2)
          else
            some (9, s22.2.2)
        else
          some ((-13), I)
        else none
      else
        some ((-12), I)
      else none
    else none
theorem ok_f191_judge_L89 {X : zX} {d : Nat} {r : Option Value} {M' : zM} (hd : 3 ≤ d) (v1 : Int32) (v2 : Int32) (v3 : Int32) (v4 : Int32) {J : (Nat → Nat → Int64)} : ∀ (n : Nat) (s x : (Int32 × Int32 × (Nat → Nat → Int32))), zloop (f191_judge_L89 v1 v2 v3 v4 J) n s = some x → (fun (x : (Int32 × Int32 × (Nat → Nat → Int32))) => zRun X d 191 144 [some (.ref 73), some (.int v1), some (.int v2), some (.int v3), some (.int v4), some (.int x.1), none] [] (SH, x.2.2, J) r M') x → (fun (s : (Int32 × Int32 × (Nat → Nat → Int32))) => zRun X d 191 89 [some (.ref 73), some (.int v1), some (.int v2), some (.int v3), some (.int v4), some (.int s.1), some (.int s.2.1)] [] (SH, s.2.2, J) r M') s := zloop_ok (Wh := fun (s : (Int32 × Int32 × (Nat → Nat → Int32))) => zRun X d 191 89 [some (.ref 73), some (.int v1), some (.int v2), some (.int v3), some (.int v4), some (.int s.1), some (.int s.2.1)] [] (SH, s.2.2, J) r M') (Wx := fun (x : (Int32 × Int32 × (Nat → Nat → Int32))) => zRun X d 191 144 [some (.ref 73), some (.int v1), some (.int v2), some (.int v3), some (.int v4), some (.int x.1), none] [] (SH, x.2.2, J) r M') (fun s y h w => by
  unfold f191_judge_L89 at h
  refine zr_steps 3 (95, [some (.ref 73), some (.int v1), some (.int v2), some (.int v3), some (.int v4), some (.int s.1), some (.int s.2.1)], [.int (s.2.2 73 9), .int s.2.1], (SH, s.2.2, J)) rfl ?_
  refine zr_one (if (s.2.2 73 9) ≤ s.2.1 then zN 144 [some (.ref 73), some (.int v1), some (.int v2), some (.int v3), some (.int v4), some (.int s.1), some (.int s.2.1)] [] (SH, s.2.2, J) else zN 98 [some (.ref 73), some (.int v1), some (.int v2), some (.int v3), some (.int v4), some (.int s.1), some (.int s.2.1)] [] (SH, s.2.2, J)) rfl (zR_if (fun hc15 => zR_go ?_) (fun hc15 => zR_go ?_))
  · rw [if_pos hc15] at h
    have he := Option.some.inj h
    subst he
    exact zr_hdr rfl rfl (show zRun X d 191 144 [some (.ref 73), some (.int v1), some (.int v2), some (.int v3), some (.int v4), some (.int s.1), none] [] (SH, s.2.2, J) r M' from w)
  · rw [if_neg hc15] at h
    refine zr_steps 3 (104, [some (.ref 73), some (.int v1), some (.int v2), some (.int v3), some (.int v4), some (.int s.1), some (.int s.2.1)], [.int s.2.1, .ref 82], (SH, s.2.2, J)) rfl ?_
    obtain ⟨hc7, h⟩ := zbifo h
    refine zr_one (bif zin s.2.1 8 then zN 105 [some (.ref 73), some (.int v1), some (.int v2), some (.int v3), some (.int v4), some (.int s.1), some (.int s.2.1)] [.int (s.2.2 82 s.2.1.toNatClampNeg)] (SH, s.2.2, J) else none) rfl (zR_bif hc7 (zR_go ?_))
    refine zr_steps 1 (106, [some (.ref 73), some (.int v1), some (.int v2), some (.int v3), some (.int v4), some (.int s.1), some (.int s.2.1)], [.int v3, .int (s.2.2 82 s.2.1.toNatClampNeg)], (SH, s.2.2, J)) rfl ?_
    refine zr_one (if (s.2.2 82 s.2.1.toNatClampNeg) = v3 then zN 126 [some (.ref 73), some (.int v1), some (.int v2), some (.int v3), some (.int v4), some (.int s.1), some (.int s.2.1)] [] (SH, s.2.2, J) else zN 109 [some (.ref 73), some (.int v1), some (.int v2), some (.int v3), some (.int v4), some (.int s.1), some (.int s.2.1)] [] (SH, s.2.2, J)) rfl (zR_if (fun hc14 => zR_go ?_) (fun hc14 => zR_go ?_))
    · rw [if_pos hc14] at h
      refine zr_steps 4 (134, [some (.ref 73), some (.int v1), some (.int v2), some (.int v3), some (.int v4), some (.int s.1), some (.int s.2.1)], [.int s.2.1, .ref 80, .int s.1], (SH, s.2.2, J)) rfl ?_
      obtain ⟨hc8, h⟩ := zbifo h
      refine zr_one (bif zin s.2.1 8 then zN 135 [some (.ref 73), some (.int v1), some (.int v2), some (.int v3), some (.int v4), some (.int s.1), some (.int s.2.1)] [.int (s.2.2 80 s.2.1.toNatClampNeg), .int s.1] (SH, s.2.2, J) else none) rfl (zR_bif hc8 (zR_go ?_))
      refine zr_steps 4 (89, [some (.ref 73), some (.int v1), some (.int v2), some (.int v3), some (.int v4), some (.int (s.1 + (s.2.2 80 s.2.1.toNatClampNeg))), some (.int (s.2.1 + 1))], [], (SH, s.2.2, J)) rfl ?_
      have he := Option.some.inj h
      subst he
      exact zr_hdr rfl rfl (show zRun X d 191 89 [some (.ref 73), some (.int v1), some (.int v2), some (.int v3), some (.int v4), some (.int (s.1 + (s.2.2 80 s.2.1.toNatClampNeg))), some (.int (s.2.1 + 1))] [] (SH, s.2.2, J) r M' from w)
    · rw [if_neg hc14] at h
      refine zr_steps 5 (118, [some (.ref 73), some (.int v1), some (.int v2), some (.int v3), some (.int v4), some (.int s.1), some (.int s.2.1)], [.int s.2.1, .ref 82, .int s.2.1, .ref 73], (SH, s.2.2, J)) rfl ?_
      obtain ⟨hc9, h⟩ := zbifo h
      refine zr_one (bif zin s.2.1 8 then zN 119 [some (.ref 73), some (.int v1), some (.int v2), some (.int v3), some (.int v4), some (.int s.1), some (.int s.2.1)] [.int (s.2.2 82 s.2.1.toNatClampNeg), .int s.2.1, .ref 73] (SH, s.2.2, J) else none) rfl (zR_bif hc9 (zR_go ?_))
      refine zr_steps 1 (120, [some (.ref 73), some (.int v1), some (.int v2), some (.int v3), some (.int v4), some (.int s.1), some (.int s.2.1)], [.int v3, .int (s.2.2 82 s.2.1.toNatClampNeg), .int s.2.1, .ref 73], (SH, s.2.2, J)) rfl ?_
      obtain ⟨t11, hc10, h⟩ := zbind h
      refine zr_one (some (.inr (.inl (179, [.ref 73, .int s.2.1, .int (s.2.2 82 s.2.1.toNatClampNeg), .int v3], [], 123)))) rfl (zR_call (by omega) rfl (ok_f179_lastOf (by omega) s.2.1 (s.2.2 82 s.2.1.toNatClampNeg) v3 _ hc10) ?_)
      refine zr_one (if t11.1 < 0 then zN 138 [some (.ref 73), some (.int v1), some (.int v2), some (.int v3), some (.int v4), some (.int s.1), some (.int s.2.1)] [] (SH, t11.2, J) else zN 126 [some (.ref 73), some (.int v1), some (.int v2), some (.int v3), some (.int v4), some (.int s.1), some (.int s.2.1)] [] (SH, t11.2, J)) rfl (zR_if (fun hc13 => zR_go ?_) (fun hc13 => zR_go ?_))
      · rw [if_pos hc13] at h
        refine zr_steps 2 (89, [some (.ref 73), some (.int v1), some (.int v2), some (.int v3), some (.int v4), some (.int s.1), some (.int (s.2.1 + 1))], [], (SH, t11.2, J)) rfl ?_
        have he := Option.some.inj h
        subst he
        exact zr_hdr rfl rfl (show zRun X d 191 89 [some (.ref 73), some (.int v1), some (.int v2), some (.int v3), some (.int v4), some (.int s.1), some (.int (s.2.1 + 1))] [] (SH, t11.2, J) r M' from w)
      · rw [if_neg hc13] at h
        refine zr_steps 4 (134, [some (.ref 73), some (.int v1), some (.int v2), some (.int v3), some (.int v4), some (.int s.1), some (.int s.2.1)], [.int s.2.1, .ref 80, .int s.1], (SH, t11.2, J)) rfl ?_
        obtain ⟨hc12, h⟩ := zbifo h
        refine zr_one (bif zin s.2.1 8 then zN 135 [some (.ref 73), some (.int v1), some (.int v2), some (.int v3), some (.int v4), some (.int s.1), some (.int s.2.1)] [.int (t11.2 80 s.2.1.toNatClampNeg), .int s.1] (SH, t11.2, J) else none) rfl (zR_bif hc12 (zR_go ?_))
        refine zr_steps 4 (89, [some (.ref 73), some (.int v1), some (.int v2), some (.int v3), some (.int v4), some (.int (s.1 + (t11.2 80 s.2.1.toNatClampNeg))), some (.int (s.2.1 + 1))], [], (SH, t11.2, J)) rfl ?_
        have he := Option.some.inj h
        subst he
        exact zr_hdr rfl rfl (show zRun X d 191 89 [some (.ref 73), some (.int v1), some (.int v2), some (.int v3), some (.int v4), some (.int (s.1 + (t11.2 80 s.2.1.toNatClampNeg))), some (.int (s.2.1 + 1))] [] (SH, t11.2, J) r M' from w))
theorem ok_f191_judge_L56 {X : zX} {d : Nat} {r : Option Value} {M' : zM} (hd : 3 ≤ d) (v1 : Int32) {J : (Nat → Nat → Int64)} : ∀ (n : Nat) (s : (Int32 × Int32 × (Nat → Nat → Int32))) (t : (Int32 × (Nat → Nat → Int32)) ⊕ (Int32 × Int32 × (Nat → Nat → Int32))), zloopR (f191_judge_L56 v1 J) n s = some t → (match t with
    | .inl x => (fun (x : (Int32 × (Nat → Nat → Int32))) => r = (some (.int x.1)) ∧ M' = (SH, x.2, J)) x
    | .inr x => (fun (x : (Int32 × Int32 × (Nat → Nat → Int32))) => zRun X d 191 170 [some (.ref 73), none, some (.int x.1), none, none, none, none] [] (SH, x.2.2, J) r M') x) → (fun (s : (Int32 × Int32 × (Nat → Nat → Int32))) => zRun X d 191 56 [some (.ref 73), some (.int v1), some (.int s.1), some (.int s.2.1), none, none, none] [] (SH, s.2.2, J) r M') s := zloopR_ok (Wh := fun (s : (Int32 × Int32 × (Nat → Nat → Int32))) => zRun X d 191 56 [some (.ref 73), some (.int v1), some (.int s.1), some (.int s.2.1), none, none, none] [] (SH, s.2.2, J) r M') (Wx := fun (x : (Int32 × Int32 × (Nat → Nat → Int32))) => zRun X d 191 170 [some (.ref 73), none, some (.int x.1), none, none, none, none] [] (SH, x.2.2, J) r M') (Wr := fun (x : (Int32 × (Nat → Nat → Int32))) => r = (some (.int x.1)) ∧ M' = (SH, x.2, J)) (fun s y h w => by
  unfold f191_judge_L56 at h
  refine zr_steps 3 (61, [some (.ref 73), some (.int v1), some (.int s.1), some (.int s.2.1), none, none, none], [.int (s.2.2 73 1), .int s.2.1], (SH, s.2.2, J)) rfl ?_
  refine zr_one (if (s.2.2 73 1) ≤ s.2.1 then zN 170 [some (.ref 73), some (.int v1), some (.int s.1), some (.int s.2.1), none, none, none] [] (SH, s.2.2, J) else zN 64 [some (.ref 73), some (.int v1), some (.int s.1), some (.int s.2.1), none, none, none] [] (SH, s.2.2, J)) rfl (zR_if (fun hc21 => zR_go ?_) (fun hc21 => zR_go ?_))
  · rw [if_pos hc21] at h
    have he := Option.some.inj h
    subst he
    exact zr_hdr rfl rfl (show zRun X d 191 170 [some (.ref 73), none, some (.int s.1), none, none, none, none] [] (SH, s.2.2, J) r M' from w)
  · rw [if_neg hc21] at h
    refine zr_steps 7 (74, [some (.ref 73), some (.int v1), some (.int s.1), some (.int s.2.1), none, none, none], [.int ((60 * v1) + s.2.1), .ref 112], (SH, s.2.2, J)) rfl ?_
    obtain ⟨hc6, h⟩ := zbifo h
    refine zr_one (bif zin ((60 * v1) + s.2.1) 360 then zN 75 [some (.ref 73), some (.int v1), some (.int s.1), some (.int s.2.1), none, none, none] [.long (J 112 ((60 * v1) + s.2.1).toNatClampNeg)] (SH, s.2.2, J) else none) rfl (zR_bif hc6 (zR_go ?_))
    refine zr_steps 10 (89, [some (.ref 73), some (.int v1), some (.int (s.1 + (J 112 ((60 * v1) + s.2.1).toNatClampNeg).toInt32)), some (.int s.2.1), some (.int (J 112 ((60 * v1) + s.2.1).toNatClampNeg).toInt32), some (.int 0), some (.int 0)], [], (SH, s.2.2, J)) rfl ?_
    obtain ⟨s16, ho17, h⟩ := zbind h
    refine zr_hdr (ls2 := [some (.ref 73), some (.int v1), some (.int (s.1 + (J 112 ((60 * v1) + s.2.1).toNatClampNeg).toInt32)), some (.int s.2.1), some (.int (J 112 ((60 * v1) + s.2.1).toNatClampNeg).toInt32), some (.int 0), some (.int 0)]) rfl rfl ?_
    refine ok_f191_judge_L89 (by omega) v1 (s.1 + (J 112 ((60 * v1) + s.2.1).toNatClampNeg).toInt32) s.2.1 (J 112 ((60 * v1) + s.2.1).toNatClampNeg).toInt32 5000 ((0 : Int32), (0 : Int32), s.2.2) s16 ho17 ?_
    show zRun X d 191 144 [some (.ref 73), some (.int v1), some (.int (s.1 + (J 112 ((60 * v1) + s.2.1).toNatClampNeg).toInt32)), some (.int s.2.1), some (.int (J 112 ((60 * v1) + s.2.1).toNatClampNeg).toInt32), some (.int s16.1), none] [] (SH, s16.2.2, J) _ _
    refine zr_steps 3 (149, [some (.ref 73), some (.int v1), some (.int (s.1 + (J 112 ((60 * v1) + s.2.1).toNatClampNeg).toInt32)), some (.int s.2.1), some (.int (J 112 ((60 * v1) + s.2.1).toNatClampNeg).toInt32), some (.int s16.1), none], [.int s.2.1, .ref 74], (SH, s16.2.2, J)) rfl ?_
    obtain ⟨hc18, h⟩ := zbifo h
    refine zr_one (bif zin s.2.1 4 then zN 150 [some (.ref 73), some (.int v1), some (.int (s.1 + (J 112 ((60 * v1) + s.2.1).toNatClampNeg).toInt32)), some (.int s.2.1), some (.int (J 112 ((60 * v1) + s.2.1).toNatClampNeg).toInt32), some (.int s16.1), none] [.int (s16.2.2 74 s.2.1.toNatClampNeg)] (SH, s16.2.2, J) else none) rfl (zR_bif hc18 (zR_go ?_))
    refine zr_steps 1 (152, [some (.ref 73), some (.int v1), some (.int (s.1 + (J 112 ((60 * v1) + s.2.1).toNatClampNeg).toInt32)), some (.int s.2.1), some (.int (J 112 ((60 * v1) + s.2.1).toNatClampNeg).toInt32), some (.int s16.1), none], [.int (J 112 ((60 * v1) + s.2.1).toNatClampNeg).toInt32, .int (s16.2.2 74 s.2.1.toNatClampNeg)], (SH, s16.2.2, J)) rfl ?_
    refine zr_one (if (s16.2.2 74 s.2.1.toNatClampNeg) < (J 112 ((60 * v1) + s.2.1).toNatClampNeg).toInt32 then zN 162 [some (.ref 73), some (.int v1), some (.int (s.1 + (J 112 ((60 * v1) + s.2.1).toNatClampNeg).toInt32)), some (.int s.2.1), some (.int (J 112 ((60 * v1) + s.2.1).toNatClampNeg).toInt32), some (.int s16.1), none] [] (SH, s16.2.2, J) else zN 155 [some (.ref 73), some (.int v1), some (.int (s.1 + (J 112 ((60 * v1) + s.2.1).toNatClampNeg).toInt32)), some (.int s.2.1), some (.int (J 112 ((60 * v1) + s.2.1).toNatClampNeg).toInt32), some (.int s16.1), none] [] (SH, s16.2.2, J)) rfl (zR_if (fun hc20 => zR_go ?_) (fun hc20 => zR_go ?_))
    · rw [if_pos hc20] at h
      refine zr_steps 1 (163, [some (.ref 73), some (.int v1), some (.int (s.1 + (J 112 ((60 * v1) + s.2.1).toNatClampNeg).toInt32)), some (.int s.2.1), some (.int (J 112 ((60 * v1) + s.2.1).toNatClampNeg).toInt32), some (.int s16.1), none], [.int s.2.1], (SH, s16.2.2, J)) rfl ?_
      have he := Option.some.inj h
      subst he
      obtain ⟨e1, e2⟩ := (show r = (some (.int s.2.1)) ∧ M' = (SH, s16.2.2, J) from w)
      exact zr_one (some (.inr (.inr (some (.int s.2.1))))) rfl (zR_ret e1.symm e2.symm)
    · rw [if_neg hc20] at h
      refine zr_steps 2 (159, [some (.ref 73), some (.int v1), some (.int (s.1 + (J 112 ((60 * v1) + s.2.1).toNatClampNeg).toInt32)), some (.int s.2.1), some (.int (J 112 ((60 * v1) + s.2.1).toNatClampNeg).toInt32), some (.int s16.1), none], [.int (J 112 ((60 * v1) + s.2.1).toNatClampNeg).toInt32, .int s16.1], (SH, s16.2.2, J)) rfl ?_
      refine zr_one (if (J 112 ((60 * v1) + s.2.1).toNatClampNeg).toInt32 ≤ s16.1 then zN 164 [some (.ref 73), some (.int v1), some (.int (s.1 + (J 112 ((60 * v1) + s.2.1).toNatClampNeg).toInt32)), some (.int s.2.1), some (.int (J 112 ((60 * v1) + s.2.1).toNatClampNeg).toInt32), some (.int s16.1), none] [] (SH, s16.2.2, J) else zN 162 [some (.ref 73), some (.int v1), some (.int (s.1 + (J 112 ((60 * v1) + s.2.1).toNatClampNeg).toInt32)), some (.int s.2.1), some (.int (J 112 ((60 * v1) + s.2.1).toNatClampNeg).toInt32), some (.int s16.1), none] [] (SH, s16.2.2, J)) rfl (zR_if (fun hc19 => zR_go ?_) (fun hc19 => zR_go ?_))
      · rw [if_pos hc19] at h
        refine zr_steps 2 (56, [some (.ref 73), some (.int v1), some (.int (s.1 + (J 112 ((60 * v1) + s.2.1).toNatClampNeg).toInt32)), some (.int (s.2.1 + 1)), some (.int (J 112 ((60 * v1) + s.2.1).toNatClampNeg).toInt32), some (.int s16.1), none], [], (SH, s16.2.2, J)) rfl ?_
        have he := Option.some.inj h
        subst he
        exact zr_hdr rfl rfl (show zRun X d 191 56 [some (.ref 73), some (.int v1), some (.int (s.1 + (J 112 ((60 * v1) + s.2.1).toNatClampNeg).toInt32)), some (.int (s.2.1 + 1)), none, none, none] [] (SH, s16.2.2, J) r M' from w)
      · rw [if_neg hc19] at h
        refine zr_steps 1 (163, [some (.ref 73), some (.int v1), some (.int (s.1 + (J 112 ((60 * v1) + s.2.1).toNatClampNeg).toInt32)), some (.int s.2.1), some (.int (J 112 ((60 * v1) + s.2.1).toNatClampNeg).toInt32), some (.int s16.1), none], [.int s.2.1], (SH, s16.2.2, J)) rfl ?_
        have he := Option.some.inj h
        subst he
        obtain ⟨e1, e2⟩ := (show r = (some (.int s.2.1)) ∧ M' = (SH, s16.2.2, J) from w)
        exact zr_one (some (.inr (.inr (some (.int s.2.1))))) rfl (zR_ret e1.symm e2.symm))
theorem ok_f191_judge {X : zX} {d : Nat} (hd : 3 ≤ d) (v1 : Int32) {I : (Nat → Nat → Int32)} {J : (Nat → Nat → Int64)} (t : (Int32 × (Nat → Nat → Int32))) (h : f191_judge v1 I J = some t) : zRun X d 191 0 (zent 191 [.ref 73, .int v1]) [] (SH, I, J) (some (.int t.1)) (SH, t.2, J) := by
  unfold f191_judge at h
  refine zr_steps 1 (1, [some (.ref 73), some (.int v1), none, none, none, none, none], [.int v1], (SH, I, J)) rfl ?_
  obtain ⟨t2, hc1, h⟩ := zbind h
  refine zr_one (some (.inr (.inl (210, [.int v1], [], 4)))) rfl (zR_call (by omega) rfl (ok_f210_isShelf (by omega) v1 _ hc1) ?_)
  refine zr_one (if t2 = 0 then zN 7 [some (.ref 73), some (.int v1), none, none, none, none, none] [] (SH, I, J) else zN 9 [some (.ref 73), some (.int v1), none, none, none, none, none] [] (SH, I, J)) rfl (zR_if (fun hc33 => zR_go ?_) (fun hc33 => zR_go ?_))
  · rw [if_pos hc33] at h
    refine zr_steps 1 (8, [some (.ref 73), some (.int v1), none, none, none, none, none], [.int (-1)], (SH, I, J)) rfl ?_
    have he := Option.some.inj h
    subst he
    exact zr_one (some (.inr (.inr (some (.int (-1)))))) rfl (zR_ret rfl rfl)
  · rw [if_neg hc33] at h
    refine zr_steps 3 (14, [some (.ref 73), some (.int v1), none, none, none, none, none], [.int v1, .ref 110], (SH, I, J)) rfl ?_
    obtain ⟨hc3, h⟩ := zbifo h
    refine zr_one (bif zin v1 6 then zN 15 [some (.ref 73), some (.int v1), none, none, none, none, none] [.int (I 110 v1.toNatClampNeg)] (SH, I, J) else none) rfl (zR_bif hc3 (zR_go ?_))
    refine zr_steps 1 (16, [some (.ref 73), some (.int v1), none, none, none, none, none], [.int (-1), .int (I 110 v1.toNatClampNeg)], (SH, I, J)) rfl ?_
    refine zr_one (if (I 110 v1.toNatClampNeg) = (-1) then zN 19 [some (.ref 73), some (.int v1), none, none, none, none, none] [] (SH, I, J) else zN 22 [some (.ref 73), some (.int v1), none, none, none, none, none] [] (SH, I, J)) rfl (zR_if (fun hc32 => zR_go ?_) (fun hc32 => zR_go ?_))
    · rw [if_pos hc32] at h
      refine zr_steps 1 (21, [some (.ref 73), some (.int v1), none, none, none, none, none], [.int (-11)], (SH, I, J)) rfl ?_
      have he := Option.some.inj h
      subst he
      exact zr_one (some (.inr (.inr (some (.int (-11)))))) rfl (zR_ret rfl rfl)
    · rw [if_neg hc32] at h
      refine zr_steps 3 (27, [some (.ref 73), some (.int v1), none, none, none, none, none], [.int v1, .ref 110], (SH, I, J)) rfl ?_
      obtain ⟨hc4, h⟩ := zbifo h
      refine zr_one (bif zin v1 6 then zN 28 [some (.ref 73), some (.int v1), none, none, none, none, none] [.int (I 110 v1.toNatClampNeg)] (SH, I, J) else none) rfl (zR_bif hc4 (zR_go ?_))
      refine zr_steps 1 (30, [some (.ref 73), some (.int v1), none, none, none, none, none], [.int (-3), .int (I 110 v1.toNatClampNeg)], (SH, I, J)) rfl ?_
      refine zr_one (if (I 110 v1.toNatClampNeg) = (-3) then zN 36 [some (.ref 73), some (.int v1), none, none, none, none, none] [] (SH, I, J) else zN 33 [some (.ref 73), some (.int v1), none, none, none, none, none] [] (SH, I, J)) rfl (zR_if (fun hc31 => zR_go ?_) (fun hc31 => zR_go ?_))
      · rw [if_pos hc31] at h
        refine zr_steps 3 (41, [some (.ref 73), some (.int v1), none, none, none, none, none], [.int v1, .ref 111], (SH, I, J)) rfl ?_
        obtain ⟨hc5, h⟩ := zbifo h
        refine zr_one (bif zin v1 6 then zN 42 [some (.ref 73), some (.int v1), none, none, none, none, none] [.int (I 111 v1.toNatClampNeg)] (SH, I, J) else none) rfl (zR_bif hc5 (zR_go ?_))
        refine zr_steps 2 (46, [some (.ref 73), some (.int v1), none, none, none, none, none], [.int (I 73 1), .int (I 111 v1.toNatClampNeg)], (SH, I, J)) rfl ?_
        refine zr_one (if (I 73 1) ≤ (I 111 v1.toNatClampNeg) then zN 52 [some (.ref 73), some (.int v1), none, none, none, none, none] [] (SH, I, J) else zN 49 [some (.ref 73), some (.int v1), none, none, none, none, none] [] (SH, I, J)) rfl (zR_if (fun hc30 => zR_go ?_) (fun hc30 => zR_go ?_))
        · rw [if_pos hc30] at h
          refine zr_steps 4 (56, [some (.ref 73), some (.int v1), some (.int 0), some (.int 0), none, none, none], [], (SH, I, J)) rfl ?_
          obtain ⟨y29, ho23, hy⟩ := zbRe h
          refine zr_hdr (ls2 := [some (.ref 73), some (.int v1), some (.int 0), some (.int 0), none, none, none]) rfl rfl ?_
          refine ok_f191_judge_L56 (by omega) v1 5000 ((0 : Int32), (0 : Int32), I) y29 ho23 ?_
          rcases hy with ⟨rr, rfl, h⟩ | ⟨s22, rfl, h⟩
          · have he := Option.some.inj h
            subst he
            exact ⟨rfl, rfl⟩
          · show zRun X d 191 170 [some (.ref 73), none, some (.int s22.1), none, none, none, none] [] (SH, s22.2.2, J) _ _
            refine zr_steps 3 (173, [some (.ref 73), none, some (.int s22.1), none, none, none, none], [.int 0, .ref 73, .int s22.1], (SH, s22.2.2, J)) rfl ?_
            obtain ⟨t25, hc24, h⟩ := zbind h
            refine zr_one (some (.inr (.inl (183, [.ref 73, .int 0], [.int s22.1], 176)))) rfl (zR_call (by omega) rfl (ok_f183_wanting (by omega) 0 _ hc24) ?_)
            refine zr_steps 2 (178, [some (.ref 73), none, some (.int s22.1), none, none, none, none], [.int 1, .ref 73, .int t25, .int s22.1], (SH, s22.2.2, J)) rfl ?_
            obtain ⟨t27, hc26, h⟩ := zbind h
            refine zr_one (some (.inr (.inl (183, [.ref 73, .int 1], [.int t25, .int s22.1], 181)))) rfl (zR_call (by omega) rfl (ok_f183_wanting (by omega) 1 _ hc26) ?_)
            refine zr_steps 1 (182, [some (.ref 73), none, some (.int s22.1), none, none, none, none], [.int (t25 + t27), .int s22.1], (SH, s22.2.2, J)) rfl ?_
            refine zr_one (if s22.1 ≤ (t25 + t27) then zN 190 [some (.ref 73), none, some (.int s22.1), none, none, none, none] [] (SH, s22.2.2, J) else zN 185 [some (.ref 73), none, some (.int s22.1), none, none, none, none] [] (SH, s22.2.2, J)) rfl (zR_if (fun hc28 => zR_go ?_) (fun hc28 => zR_go ?_))
            · rw [if_pos hc28] at h
              refine zr_steps 1 (192, [some (.ref 73), none, some (.int s22.1), none, none, none, none], [.int (-2)], (SH, s22.2.2, J)) rfl ?_
              have he := Option.some.inj h
              subst he
              exact zr_one (some (.inr (.inr (some (.int (-2)))))) rfl (zR_ret rfl rfl)
            · rw [if_neg hc28] at h
              refine zr_steps 2 (192, [some (.ref 73), none, some (.int s22.1), none, none, none, none], [.int 9], (SH, s22.2.2, J)) rfl ?_
              have he := Option.some.inj h
              subst he
              exact zr_one (some (.inr (.inr (some (.int 9))))) rfl (zR_ret rfl rfl)
        · rw [if_neg hc30] at h
          refine zr_steps 1 (51, [some (.ref 73), some (.int v1), none, none, none, none, none], [.int (-13)], (SH, I, J)) rfl ?_
          have he := Option.some.inj h
          subst he
          exact zr_one (some (.inr (.inr (some (.int (-13)))))) rfl (zR_ret rfl rfl)
      · rw [if_neg hc31] at h
        refine zr_steps 1 (35, [some (.ref 73), some (.int v1), none, none, none, none, none], [.int (-12)], (SH, I, J)) rfl ?_
        have he := Option.some.inj h
        subst he
        exact zr_one (some (.inr (.inr (some (.int (-12)))))) rfl (zR_ret rfl rfl)
