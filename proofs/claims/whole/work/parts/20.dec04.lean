def f93_set (v1 : Int32) (v2 : Int32) (I : (Nat → Nat → Int32)) : Option (Int32 × (Nat → Nat → Int32)) :=
  if v1 = 0 then
    Option.bind (f126_within v2 1 60) fun t2 =>
    if t2 = 0 then
      if v1 = 1 then
        Option.bind (f126_within v2 0 9) fun t4 =>
        if t4 = 0 then
          if v1 = 2 then
            Option.bind (f126_within v2 0 20) fun t6 =>
            if t6 = 0 then
              some ((-1), I)
            else
              some ((I 1 5), (zu I 1 5 v2))
          else
            some ((-1), I)
        else
          some ((I 1 4), (zu I 1 4 v2))
      else
        if v1 = 2 then
          Option.bind (f126_within v2 0 20) fun t11 =>
          if t11 = 0 then
            some ((-1), I)
          else
            some ((I 1 5), (zu I 1 5 v2))
        else
          some ((-1), I)
    else
      some ((I 1 3), (zu I 1 3 v2))
  else
    if v1 = 1 then
      Option.bind (f126_within v2 0 9) fun t17 =>
      if t17 = 0 then
        if v1 = 2 then
          Option.bind (f126_within v2 0 20) fun t19 =>
          if t19 = 0 then
            some ((-1), I)
          else
            some ((I 1 5), (zu I 1 5 v2))
        else
          some ((-1), I)
      else
        some ((I 1 4), (zu I 1 4 v2))
    else
      if v1 = 2 then
        Option.bind (f126_within v2 0 20) fun t24 =>
        if t24 = 0 then
          some ((-1), I)
        else
          some ((I 1 5), (zu I 1 5 v2))
      else
        some ((-1), I)
theorem ok_f93_set {X : zX} {d : Nat} (hd : 1 ≤ d) (v1 : Int32) (v2 : Int32) {I : (Nat → Nat → Int32)} {J : (Nat → Nat → Int64)} (t : (Int32 × (Nat → Nat → Int32))) (h : f93_set v1 v2 I = some t) : zRun X d 93 0 (zent 93 [.ref 0, .int v1, .int v2]) [] (SH, I, J) (some (.int t.1)) (SH, t.2, J) := by
  unfold f93_set at h
  refine zr_steps 1 (1, [some (.ref 0), some (.int v1), some (.int v2), none], [.int v1], (SH, I, J)) rfl ?_
  refine zr_one (if v1 = 0 then zN 4 [some (.ref 0), some (.int v1), some (.int v2), none] [] (SH, I, J) else zN 33 [some (.ref 0), some (.int v1), some (.int v2), none] [] (SH, I, J)) rfl (zR_if (fun hc28 => zR_go ?_) (fun hc28 => zR_go ?_))
  · rw [if_pos hc28] at h
    refine zr_steps 3 (8, [some (.ref 0), some (.int v1), some (.int v2), none], [.int 60, .int 1, .int v2], (SH, I, J)) rfl ?_
    obtain ⟨t2, hc1, h⟩ := zbind h
    refine zr_one (some (.inr (.inl (126, [.int v2, .int 1, .int 60], [], 11)))) rfl (zR_call (by omega) rfl (ok_f126_within (by omega) v2 1 60 _ hc1) ?_)
    refine zr_one (if t2 = 0 then zN 33 [some (.ref 0), some (.int v1), some (.int v2), none] [] (SH, I, J) else zN 14 [some (.ref 0), some (.int v1), some (.int v2), none] [] (SH, I, J)) rfl (zR_if (fun hc15 => zR_go ?_) (fun hc15 => zR_go ?_))
    · rw [if_pos hc15] at h
      refine zr_steps 2 (35, [some (.ref 0), some (.int v1), some (.int v2), none], [.int 1, .int v1], (SH, I, J)) rfl ?_
      refine zr_one (if v1 = 1 then zN 38 [some (.ref 0), some (.int v1), some (.int v2), none] [] (SH, I, J) else zN 67 [some (.ref 0), some (.int v1), some (.int v2), none] [] (SH, I, J)) rfl (zR_if (fun hc14 => zR_go ?_) (fun hc14 => zR_go ?_))
      · rw [if_pos hc14] at h
        refine zr_steps 3 (42, [some (.ref 0), some (.int v1), some (.int v2), none], [.int 9, .int 0, .int v2], (SH, I, J)) rfl ?_
        obtain ⟨t4, hc3, h⟩ := zbind h
        refine zr_one (some (.inr (.inl (126, [.int v2, .int 0, .int 9], [], 45)))) rfl (zR_call (by omega) rfl (ok_f126_within (by omega) v2 0 9 _ hc3) ?_)
        refine zr_one (if t4 = 0 then zN 67 [some (.ref 0), some (.int v1), some (.int v2), none] [] (SH, I, J) else zN 48 [some (.ref 0), some (.int v1), some (.int v2), none] [] (SH, I, J)) rfl (zR_if (fun hc9 => zR_go ?_) (fun hc9 => zR_go ?_))
        · rw [if_pos hc9] at h
          refine zr_steps 2 (69, [some (.ref 0), some (.int v1), some (.int v2), none], [.int 2, .int v1], (SH, I, J)) rfl ?_
          refine zr_one (if v1 = 2 then zN 72 [some (.ref 0), some (.int v1), some (.int v2), none] [] (SH, I, J) else zN 101 [some (.ref 0), some (.int v1), some (.int v2), none] [] (SH, I, J)) rfl (zR_if (fun hc8 => zR_go ?_) (fun hc8 => zR_go ?_))
          · rw [if_pos hc8] at h
            refine zr_steps 3 (76, [some (.ref 0), some (.int v1), some (.int v2), none], [.int 20, .int 0, .int v2], (SH, I, J)) rfl ?_
            obtain ⟨t6, hc5, h⟩ := zbind h
            refine zr_one (some (.inr (.inl (126, [.int v2, .int 0, .int 20], [], 79)))) rfl (zR_call (by omega) rfl (ok_f126_within (by omega) v2 0 20 _ hc5) ?_)
            refine zr_one (if t6 = 0 then zN 101 [some (.ref 0), some (.int v1), some (.int v2), none] [] (SH, I, J) else zN 82 [some (.ref 0), some (.int v1), some (.int v2), none] [] (SH, I, J)) rfl (zR_if (fun hc7 => zR_go ?_) (fun hc7 => zR_go ?_))
            · rw [if_pos hc7] at h
              refine zr_steps 1 (102, [some (.ref 0), some (.int v1), some (.int v2), none], [.int (-1)], (SH, I, J)) rfl ?_
              have he := Option.some.inj h
              subst he
              exact zr_one (some (.inr (.inr (some (.int (-1)))))) rfl (zR_ret rfl rfl)
            · rw [if_neg hc7] at h
              refine zr_steps 10 (104, [some (.ref 0), some (.int v1), some (.int v2), some (.int (I 1 5))], [.int (I 1 5)], (SH, (zu I 1 5 v2), J)) rfl ?_
              have he := Option.some.inj h
              subst he
              exact zr_one (some (.inr (.inr (some (.int (I 1 5)))))) rfl (zR_ret rfl rfl)
          · rw [if_neg hc8] at h
            refine zr_steps 1 (102, [some (.ref 0), some (.int v1), some (.int v2), none], [.int (-1)], (SH, I, J)) rfl ?_
            have he := Option.some.inj h
            subst he
            exact zr_one (some (.inr (.inr (some (.int (-1)))))) rfl (zR_ret rfl rfl)
        · rw [if_neg hc9] at h
          refine zr_steps 10 (104, [some (.ref 0), some (.int v1), some (.int v2), some (.int (I 1 4))], [.int (I 1 4)], (SH, (zu I 1 4 v2), J)) rfl ?_
          have he := Option.some.inj h
          subst he
          exact zr_one (some (.inr (.inr (some (.int (I 1 4)))))) rfl (zR_ret rfl rfl)
      · rw [if_neg hc14] at h
        refine zr_steps 2 (69, [some (.ref 0), some (.int v1), some (.int v2), none], [.int 2, .int v1], (SH, I, J)) rfl ?_
        refine zr_one (if v1 = 2 then zN 72 [some (.ref 0), some (.int v1), some (.int v2), none] [] (SH, I, J) else zN 101 [some (.ref 0), some (.int v1), some (.int v2), none] [] (SH, I, J)) rfl (zR_if (fun hc13 => zR_go ?_) (fun hc13 => zR_go ?_))
        · rw [if_pos hc13] at h
          refine zr_steps 3 (76, [some (.ref 0), some (.int v1), some (.int v2), none], [.int 20, .int 0, .int v2], (SH, I, J)) rfl ?_
          obtain ⟨t11, hc10, h⟩ := zbind h
          refine zr_one (some (.inr (.inl (126, [.int v2, .int 0, .int 20], [], 79)))) rfl (zR_call (by omega) rfl (ok_f126_within (by omega) v2 0 20 _ hc10) ?_)
          refine zr_one (if t11 = 0 then zN 101 [some (.ref 0), some (.int v1), some (.int v2), none] [] (SH, I, J) else zN 82 [some (.ref 0), some (.int v1), some (.int v2), none] [] (SH, I, J)) rfl (zR_if (fun hc12 => zR_go ?_) (fun hc12 => zR_go ?_))
          · rw [if_pos hc12] at h
            refine zr_steps 1 (102, [some (.ref 0), some (.int v1), some (.int v2), none], [.int (-1)], (SH, I, J)) rfl ?_
            have he := Option.some.inj h
            subst he
            exact zr_one (some (.inr (.inr (some (.int (-1)))))) rfl (zR_ret rfl rfl)
          · rw [if_neg hc12] at h
            refine zr_steps 10 (104, [some (.ref 0), some (.int v1), some (.int v2), some (.int (I 1 5))], [.int (I 1 5)], (SH, (zu I 1 5 v2), J)) rfl ?_
            have he := Option.some.inj h
            subst he
            exact zr_one (some (.inr (.inr (some (.int (I 1 5)))))) rfl (zR_ret rfl rfl)
        · rw [if_neg hc13] at h
          refine zr_steps 1 (102, [some (.ref 0), some (.int v1), some (.int v2), none], [.int (-1)], (SH, I, J)) rfl ?_
          have he := Option.some.inj h
          subst he
          exact zr_one (some (.inr (.inr (some (.int (-1)))))) rfl (zR_ret rfl rfl)
    · rw [if_neg hc15] at h
      refine zr_steps 10 (104, [some (.ref 0), some (.int v1), some (.int v2), some (.int (I 1 3))], [.int (I 1 3)], (SH, (zu I 1 3 v2), J)) rfl ?_
      have he := Option.some.inj h
      subst he
      exact zr_one (some (.inr (.inr (some (.int (I 1 3)))))) rfl (zR_ret rfl rfl)
  · rw [if_neg hc28] at h
    refine zr_steps 2 (35, [some (.ref 0), some (.int v1), some (.int v2), none], [.int 1, .int v1], (SH, I, J)) rfl ?_
    refine zr_one (if v1 = 1 then zN 38 [some (.ref 0), some (.int v1), some (.int v2), none] [] (SH, I, J) else zN 67 [some (.ref 0), some (.int v1), some (.int v2), none] [] (SH, I, J)) rfl (zR_if (fun hc27 => zR_go ?_) (fun hc27 => zR_go ?_))
    · rw [if_pos hc27] at h
      refine zr_steps 3 (42, [some (.ref 0), some (.int v1), some (.int v2), none], [.int 9, .int 0, .int v2], (SH, I, J)) rfl ?_
      obtain ⟨t17, hc16, h⟩ := zbind h
      refine zr_one (some (.inr (.inl (126, [.int v2, .int 0, .int 9], [], 45)))) rfl (zR_call (by omega) rfl (ok_f126_within (by omega) v2 0 9 _ hc16) ?_)
      refine zr_one (if t17 = 0 then zN 67 [some (.ref 0), some (.int v1), some (.int v2), none] [] (SH, I, J) else zN 48 [some (.ref 0), some (.int v1), some (.int v2), none] [] (SH, I, J)) rfl (zR_if (fun hc22 => zR_go ?_) (fun hc22 => zR_go ?_))
      · rw [if_pos hc22] at h
        refine zr_steps 2 (69, [some (.ref 0), some (.int v1), some (.int v2), none], [.int 2, .int v1], (SH, I, J)) rfl ?_
        refine zr_one (if v1 = 2 then zN 72 [some (.ref 0), some (.int v1), some (.int v2), none] [] (SH, I, J) else zN 101 [some (.ref 0), some (.int v1), some (.int v2), none] [] (SH, I, J)) rfl (zR_if (fun hc21 => zR_go ?_) (fun hc21 => zR_go ?_))
        · rw [if_pos hc21] at h
          refine zr_steps 3 (76, [some (.ref 0), some (.int v1), some (.int v2), none], [.int 20, .int 0, .int v2], (SH, I, J)) rfl ?_
          obtain ⟨t19, hc18, h⟩ := zbind h
          refine zr_one (some (.inr (.inl (126, [.int v2, .int 0, .int 20], [], 79)))) rfl (zR_call (by omega) rfl (ok_f126_within (by omega) v2 0 20 _ hc18) ?_)
          refine zr_one (if t19 = 0 then zN 101 [some (.ref 0), some (.int v1), some (.int v2), none] [] (SH, I, J) else zN 82 [some (.ref 0), some (.int v1), some (.int v2), none] [] (SH, I, J)) rfl (zR_if (fun hc20 => zR_go ?_) (fun hc20 => zR_go ?_))
          · rw [if_pos hc20] at h
            refine zr_steps 1 (102, [some (.ref 0), some (.int v1), some (.int v2), none], [.int (-1)], (SH, I, J)) rfl ?_
            have he := Option.some.inj h
            subst he
            exact zr_one (some (.inr (.inr (some (.int (-1)))))) rfl (zR_ret rfl rfl)
          · rw [if_neg hc20] at h
            refine zr_steps 10 (104, [some (.ref 0), some (.int v1), some (.int v2), some (.int (I 1 5))], [.int (I 1 5)], (SH, (zu I 1 5 v2), J)) rfl ?_
            have he := Option.some.inj h
            subst he
            exact zr_one (some (.inr (.inr (some (.int (I 1 5)))))) rfl (zR_ret rfl rfl)
        · rw [if_neg hc21] at h
          refine zr_steps 1 (102, [some (.ref 0), some (.int v1), some (.int v2), none], [.int (-1)], (SH, I, J)) rfl ?_
          have he := Option.some.inj h
          subst he
          exact zr_one (some (.inr (.inr (some (.int (-1)))))) rfl (zR_ret rfl rfl)
      · rw [if_neg hc22] at h
        refine zr_steps 10 (104, [some (.ref 0), some (.int v1), some (.int v2), some (.int (I 1 4))], [.int (I 1 4)], (SH, (zu I 1 4 v2), J)) rfl ?_
        have he := Option.some.inj h
        subst he
        exact zr_one (some (.inr (.inr (some (.int (I 1 4)))))) rfl (zR_ret rfl rfl)
    · rw [if_neg hc27] at h
      refine zr_steps 2 (69, [some (.ref 0), some (.int v1), some (.int v2), none], [.int 2, .int v1], (SH, I, J)) rfl ?_
      refine zr_one (if v1 = 2 then zN 72 [some (.ref 0), some (.int v1), some (.int v2), none] [] (SH, I, J) else zN 101 [some (.ref 0), some (.int v1), some (.int v2), none] [] (SH, I, J)) rfl (zR_if (fun hc26 => zR_go ?_) (fun hc26 => zR_go ?_))
      · rw [if_pos hc26] at h
        refine zr_steps 3 (76, [some (.ref 0), some (.int v1), some (.int v2), none], [.int 20, .int 0, .int v2], (SH, I, J)) rfl ?_
        obtain ⟨t24, hc23, h⟩ := zbind h
        refine zr_one (some (.inr (.inl (126, [.int v2, .int 0, .int 20], [], 79)))) rfl (zR_call (by omega) rfl (ok_f126_within (by omega) v2 0 20 _ hc23) ?_)
        refine zr_one (if t24 = 0 then zN 101 [some (.ref 0), some (.int v1), some (.int v2), none] [] (SH, I, J) else zN 82 [some (.ref 0), some (.int v1), some (.int v2), none] [] (SH, I, J)) rfl (zR_if (fun hc25 => zR_go ?_) (fun hc25 => zR_go ?_))
        · rw [if_pos hc25] at h
          refine zr_steps 1 (102, [some (.ref 0), some (.int v1), some (.int v2), none], [.int (-1)], (SH, I, J)) rfl ?_
          have he := Option.some.inj h
          subst he
          exact zr_one (some (.inr (.inr (some (.int (-1)))))) rfl (zR_ret rfl rfl)
        · rw [if_neg hc25] at h
          refine zr_steps 10 (104, [some (.ref 0), some (.int v1), some (.int v2), some (.int (I 1 5))], [.int (I 1 5)], (SH, (zu I 1 5 v2), J)) rfl ?_
          have he := Option.some.inj h
          subst he
          exact zr_one (some (.inr (.inr (some (.int (I 1 5)))))) rfl (zR_ret rfl rfl)
      · rw [if_neg hc26] at h
        refine zr_steps 1 (102, [some (.ref 0), some (.int v1), some (.int v2), none], [.int (-1)], (SH, I, J)) rfl ?_
        have he := Option.some.inj h
        subst he
        exact zr_one (some (.inr (.inr (some (.int (-1)))))) rfl (zR_ret rfl rfl)
def f158_set (v1 : Int32) (v2 : Int32) (I : (Nat → Nat → Int32)) : Option (Int32 × (Nat → Nat → Int32)) :=
  if v1.toInt = 0 then
    Option.bind (f129_in v2 1 60) fun t2 =>
    if t2 = 0 then
      some ((-1), I)
    else
      some ((I 73 15), (zu I 73 15 v2))
  else
  if v1.toInt = 1 then
    Option.bind (f129_in v2 0 9) fun t5 =>
    if t5 = 0 then
      some ((-1), I)
    else
      some ((I 73 16), (zu I 73 16 v2))
  else
  if v1.toInt = 2 then
    Option.bind (f129_in v2 0 20) fun t8 =>
    if t8 = 0 then
      some ((-1), I)
    else
      some ((I 73 17), (zu I 73 17 v2))
  else
  some ((-1), I)
theorem ok_f158_set {X : zX} {d : Nat} (hd : 1 ≤ d) (v1 : Int32) (v2 : Int32) {I : (Nat → Nat → Int32)} {J : (Nat → Nat → Int64)} (t : (Int32 × (Nat → Nat → Int32))) (h : f158_set v1 v2 I = some t) : zRun X d 158 0 (zent 158 [.ref 73, .int v1, .int v2]) [] (SH, I, J) (some (.int t.1)) (SH, t.2, J) := by
  unfold f158_set at h
  refine zr_steps 1 (1, [some (.ref 73), some (.int v1), some (.int v2), none], [.int v1], (SH, I, J)) rfl ?_
  refine zr_one (if v1.toInt = 0 then zN 28 [some (.ref 73), some (.int v1), some (.int v2), none] [] (SH, I, J) else (if v1.toInt = 1 then zN 52 [some (.ref 73), some (.int v1), some (.int v2), none] [] (SH, I, J) else (if v1.toInt = 2 then zN 76 [some (.ref 73), some (.int v1), some (.int v2), none] [] (SH, I, J) else zN 100 [some (.ref 73), some (.int v1), some (.int v2), none] [] (SH, I, J)))) rfl ?_
  refine zR_if (fun hc12 => zR_go ?_) (fun hc12 => ?_)
  · rw [if_pos hc12] at h
    refine zr_steps 3 (32, [some (.ref 73), some (.int v1), some (.int v2), none], [.int 60, .int 1, .int v2], (SH, I, J)) rfl ?_
    obtain ⟨t2, hc1, h⟩ := zbind h
    refine zr_one (some (.inr (.inl (129, [.int v2, .int 1, .int 60], [], 35)))) rfl (zR_call (by omega) rfl (ok_f129_in (by omega) v2 1 60 _ hc1) ?_)
    refine zr_one (if t2 = 0 then zN 38 [some (.ref 73), some (.int v1), some (.int v2), none] [] (SH, I, J) else zN 40 [some (.ref 73), some (.int v1), some (.int v2), none] [] (SH, I, J)) rfl (zR_if (fun hc3 => zR_go ?_) (fun hc3 => zR_go ?_))
    · rw [if_pos hc3] at h
      refine zr_steps 1 (39, [some (.ref 73), some (.int v1), some (.int v2), none], [.int (-1)], (SH, I, J)) rfl ?_
      have he := Option.some.inj h
      subst he
      exact zr_one (some (.inr (.inr (some (.int (-1)))))) rfl (zR_ret rfl rfl)
    · rw [if_neg hc3] at h
      refine zr_steps 7 (51, [some (.ref 73), some (.int v1), some (.int v2), some (.int (I 73 15))], [.int (I 73 15)], (SH, (zu I 73 15 v2), J)) rfl ?_
      have he := Option.some.inj h
      subst he
      exact zr_one (some (.inr (.inr (some (.int (I 73 15)))))) rfl (zR_ret rfl rfl)
  rw [if_neg hc12] at h
  refine zR_if (fun hc11 => zR_go ?_) (fun hc11 => ?_)
  · rw [if_pos hc11] at h
    refine zr_steps 3 (56, [some (.ref 73), some (.int v1), some (.int v2), none], [.int 9, .int 0, .int v2], (SH, I, J)) rfl ?_
    obtain ⟨t5, hc4, h⟩ := zbind h
    refine zr_one (some (.inr (.inl (129, [.int v2, .int 0, .int 9], [], 59)))) rfl (zR_call (by omega) rfl (ok_f129_in (by omega) v2 0 9 _ hc4) ?_)
    refine zr_one (if t5 = 0 then zN 62 [some (.ref 73), some (.int v1), some (.int v2), none] [] (SH, I, J) else zN 64 [some (.ref 73), some (.int v1), some (.int v2), none] [] (SH, I, J)) rfl (zR_if (fun hc6 => zR_go ?_) (fun hc6 => zR_go ?_))
    · rw [if_pos hc6] at h
      refine zr_steps 1 (63, [some (.ref 73), some (.int v1), some (.int v2), none], [.int (-1)], (SH, I, J)) rfl ?_
      have he := Option.some.inj h
      subst he
      exact zr_one (some (.inr (.inr (some (.int (-1)))))) rfl (zR_ret rfl rfl)
    · rw [if_neg hc6] at h
      refine zr_steps 7 (75, [some (.ref 73), some (.int v1), some (.int v2), some (.int (I 73 16))], [.int (I 73 16)], (SH, (zu I 73 16 v2), J)) rfl ?_
      have he := Option.some.inj h
      subst he
      exact zr_one (some (.inr (.inr (some (.int (I 73 16)))))) rfl (zR_ret rfl rfl)
  rw [if_neg hc11] at h
  refine zR_if (fun hc10 => zR_go ?_) (fun hc10 => ?_)
  · rw [if_pos hc10] at h
    refine zr_steps 3 (80, [some (.ref 73), some (.int v1), some (.int v2), none], [.int 20, .int 0, .int v2], (SH, I, J)) rfl ?_
    obtain ⟨t8, hc7, h⟩ := zbind h
    refine zr_one (some (.inr (.inl (129, [.int v2, .int 0, .int 20], [], 83)))) rfl (zR_call (by omega) rfl (ok_f129_in (by omega) v2 0 20 _ hc7) ?_)
    refine zr_one (if t8 = 0 then zN 86 [some (.ref 73), some (.int v1), some (.int v2), none] [] (SH, I, J) else zN 88 [some (.ref 73), some (.int v1), some (.int v2), none] [] (SH, I, J)) rfl (zR_if (fun hc9 => zR_go ?_) (fun hc9 => zR_go ?_))
    · rw [if_pos hc9] at h
      refine zr_steps 1 (87, [some (.ref 73), some (.int v1), some (.int v2), none], [.int (-1)], (SH, I, J)) rfl ?_
      have he := Option.some.inj h
      subst he
      exact zr_one (some (.inr (.inr (some (.int (-1)))))) rfl (zR_ret rfl rfl)
    · rw [if_neg hc9] at h
      refine zr_steps 7 (99, [some (.ref 73), some (.int v1), some (.int v2), some (.int (I 73 17))], [.int (I 73 17)], (SH, (zu I 73 17 v2), J)) rfl ?_
      have he := Option.some.inj h
      subst he
      exact zr_one (some (.inr (.inr (some (.int (I 73 17)))))) rfl (zR_ret rfl rfl)
  rw [if_neg hc10] at h
  refine zR_go ?_
  refine zr_steps 1 (101, [some (.ref 73), some (.int v1), some (.int v2), none], [.int (-1)], (SH, I, J)) rfl ?_
  have he := Option.some.inj h
  subst he
  exact zr_one (some (.inr (.inr (some (.int (-1)))))) rfl (zR_ret rfl rfl)
def f62_isSort (v1 : Int32) (I : (Nat → Nat → Int32)) : Option Int32 :=
  if v1 < 0 then
    some 0
  else
    if (I 1 2) ≤ v1 then
      some 0
    else
      some 1
theorem ok_f62_isSort {X : zX} {d : Nat} (hd : 0 ≤ d) (v1 : Int32) {I : (Nat → Nat → Int32)} {J : (Nat → Nat → Int64)} (t : Int32) (h : f62_isSort v1 I = some t) : zRun X d 62 0 (zent 62 [.ref 1, .int v1]) [] (SH, I, J) (some (.int t)) (SH, I, J) := by
  unfold f62_isSort at h
  refine zr_steps 1 (1, [some (.ref 1), some (.int v1)], [.int v1], (SH, I, J)) rfl ?_
  refine zr_one (if v1 < 0 then zN 16 [some (.ref 1), some (.int v1)] [] (SH, I, J) else zN 4 [some (.ref 1), some (.int v1)] [] (SH, I, J)) rfl (zR_if (fun hc2 => zR_go ?_) (fun hc2 => zR_go ?_))
  · rw [if_pos hc2] at h
    refine zr_steps 1 (17, [some (.ref 1), some (.int v1)], [.int 0], (SH, I, J)) rfl ?_
    have he := Option.some.inj h
    subst he
    exact zr_one (if ((0 : Int32) = 0 ∨ (0 : Int32) = 1) then some (.inr (.inr (some (.int 0)))) else none) rfl (zR_pos (by decide) (zR_ret rfl rfl))
  · rw [if_neg hc2] at h
    refine zr_steps 3 (9, [some (.ref 1), some (.int v1)], [.int (I 1 2), .int v1], (SH, I, J)) rfl ?_
    refine zr_one (if (I 1 2) ≤ v1 then zN 16 [some (.ref 1), some (.int v1)] [] (SH, I, J) else zN 12 [some (.ref 1), some (.int v1)] [] (SH, I, J)) rfl (zR_if (fun hc1 => zR_go ?_) (fun hc1 => zR_go ?_))
    · rw [if_pos hc1] at h
      refine zr_steps 1 (17, [some (.ref 1), some (.int v1)], [.int 0], (SH, I, J)) rfl ?_
      have he := Option.some.inj h
      subst he
      exact zr_one (if ((0 : Int32) = 0 ∨ (0 : Int32) = 1) then some (.inr (.inr (some (.int 0)))) else none) rfl (zR_pos (by decide) (zR_ret rfl rfl))
    · rw [if_neg hc1] at h
      refine zr_steps 2 (17, [some (.ref 1), some (.int v1)], [.int 1], (SH, I, J)) rfl ?_
      have he := Option.some.inj h
      subst he
      exact zr_one (if ((1 : Int32) = 0 ∨ (1 : Int32) = 1) then some (.inr (.inr (some (.int 1)))) else none) rfl (zR_pos (by decide) (zR_ret rfl rfl))
def f69_mended (v1 : Int32) (v2 : Int32) (v3 : Int32) (I : (Nat → Nat → Int32)) : Option (Int32 × (Nat → Nat → Int32)) :=
  if v2 = 0 then
    bif zin v1 8 then
    bif zin v1 8 then
    some ((I 8 v1.toNatClampNeg), (zu I 8 v1.toNatClampNeg v3))
    else none
    else none
  else
    bif zin v1 4 then
    bif zin v1 4 then
    some ((I 2 v1.toNatClampNeg), (zu I 2 v1.toNatClampNeg v3))
    else none
    else none
theorem ok_f69_mended {X : zX} {d : Nat} (hd : 0 ≤ d) (v1 : Int32) (v2 : Int32) (v3 : Int32) {I : (Nat → Nat → Int32)} {J : (Nat → Nat → Int64)} (t : (Int32 × (Nat → Nat → Int32))) (h : f69_mended v1 v2 v3 I = some t) : zRun X d 69 0 (zent 69 [.ref 1, .int v1, .int v2, .int v3]) [] (SH, I, J) (some (.int t.1)) (SH, t.2, J) := by
  unfold f69_mended at h
  refine zr_steps 1 (1, [some (.ref 1), some (.int v1), some (.int v2), some (.int v3), none, none], [.int v2], (SH, I, J)) rfl ?_
  refine zr_one (if v2 = 0 then zN 4 [some (.ref 1), some (.int v1), some (.int v2), some (.int v3), none, none] [] (SH, I, J) else zN 11 [some (.ref 1), some (.int v1), some (.int v2), some (.int v3), none, none] [] (SH, I, J)) rfl (zR_if (fun hc5 => zR_go ?_) (fun hc5 => zR_go ?_))
  · rw [if_pos hc5] at h
    refine zr_steps 6 (20, [some (.ref 1), some (.int v1), some (.int v2), some (.int v3), some (.ref 8), none], [.int v1, .ref 8], (SH, I, J)) rfl ?_
    obtain ⟨hc1, h⟩ := zbifo h
    refine zr_one (bif zin v1 8 then zN 21 [some (.ref 1), some (.int v1), some (.int v2), some (.int v3), some (.ref 8), none] [.int (I 8 v1.toNatClampNeg)] (SH, I, J) else none) rfl (zR_bif hc1 (zR_go ?_))
    refine zr_steps 4 (27, [some (.ref 1), some (.int v1), some (.int v2), some (.int v3), some (.ref 8), some (.int (I 8 v1.toNatClampNeg))], [.int v3, .int v1, .ref 8], (SH, I, J)) rfl ?_
    obtain ⟨hc2, h⟩ := zbifo h
    refine zr_one (bif zin v1 8 then zN 28 [some (.ref 1), some (.int v1), some (.int v2), some (.int v3), some (.ref 8), some (.int (I 8 v1.toNatClampNeg))] [] (SH, (zu I 8 v1.toNatClampNeg v3), J) else none) rfl (zR_bif hc2 (zR_go ?_))
    refine zr_steps 1 (30, [some (.ref 1), some (.int v1), some (.int v2), some (.int v3), some (.ref 8), some (.int (I 8 v1.toNatClampNeg))], [.int (I 8 v1.toNatClampNeg)], (SH, (zu I 8 v1.toNatClampNeg v3), J)) rfl ?_
    have he := Option.some.inj h
    subst he
    exact zr_one (some (.inr (.inr (some (.int (I 8 v1.toNatClampNeg)))))) rfl (zR_ret rfl rfl)
  · rw [if_neg hc5] at h
    refine zr_steps 5 (20, [some (.ref 1), some (.int v1), some (.int v2), some (.int v3), some (.ref 2), none], [.int v1, .ref 2], (SH, I, J)) rfl ?_
    obtain ⟨hc3, h⟩ := zbifo h
    refine zr_one (bif zin v1 4 then zN 21 [some (.ref 1), some (.int v1), some (.int v2), some (.int v3), some (.ref 2), none] [.int (I 2 v1.toNatClampNeg)] (SH, I, J) else none) rfl (zR_bif hc3 (zR_go ?_))
    refine zr_steps 4 (27, [some (.ref 1), some (.int v1), some (.int v2), some (.int v3), some (.ref 2), some (.int (I 2 v1.toNatClampNeg))], [.int v3, .int v1, .ref 2], (SH, I, J)) rfl ?_
    obtain ⟨hc4, h⟩ := zbifo h
    refine zr_one (bif zin v1 4 then zN 28 [some (.ref 1), some (.int v1), some (.int v2), some (.int v3), some (.ref 2), some (.int (I 2 v1.toNatClampNeg))] [] (SH, (zu I 2 v1.toNatClampNeg v3), J) else none) rfl (zR_bif hc4 (zR_go ?_))
    refine zr_steps 1 (30, [some (.ref 1), some (.int v1), some (.int v2), some (.int v3), some (.ref 2), some (.int (I 2 v1.toNatClampNeg))], [.int (I 2 v1.toNatClampNeg)], (SH, (zu I 2 v1.toNatClampNeg v3), J)) rfl ?_
    have he := Option.some.inj h
    subst he
    exact zr_one (some (.inr (.inr (some (.int (I 2 v1.toNatClampNeg)))))) rfl (zR_ret rfl rfl)
def f14_forgetFirst (I : (Nat → Nat → Int32)) : Option (Nat → Nat → Int32) :=
  bif zcpok 1 0 39 40 40 then
  bif zcpok 1 0 39 40 40 then
  bif zcpok 1 0 39 40 40 then
  bif zcpok 1 0 39 40 40 then
  some (zu (zcp (zcp (zcp (zcp I 53 53 1 0 39) 54 54 1 0 39) 55 55 1 0 39) 56 56 1 0 39) 52 5 ((I 52 5) - 1))
  else none
  else none
  else none
  else none
theorem ok_f14_forgetFirst {X : zX} {d : Nat} (hd : 0 ≤ d) {I : (Nat → Nat → Int32)} {J : (Nat → Nat → Int64)} (t : (Nat → Nat → Int32)) (h : f14_forgetFirst I = some t) : zRun X d 14 0 (zent 14 [.ref 52]) [] (SH, I, J) none (SH, t, J) := by
  unfold f14_forgetFirst at h
  refine zr_steps 7 (12, [some (.ref 52)], [.int 39, .int 0, .ref 53, .int 1, .ref 53], (SH, I, J)) rfl ?_
  obtain ⟨hc1, h⟩ := zbifo h
  refine zr_one (zcopy 12 [some (.ref 52)] [.int 39, .int 0, .ref 53, .int 1, .ref 53] (SH, I, J)) rfl (zR_copy (na := 40) (nb := 40) rfl rfl rfl rfl hc1 rfl ?_)
  refine zr_steps 7 (27, [some (.ref 52)], [.int 39, .int 0, .ref 54, .int 1, .ref 54], (SH, (zcp I 53 53 1 0 39), J)) rfl ?_
  obtain ⟨hc2, h⟩ := zbifo h
  refine zr_one (zcopy 27 [some (.ref 52)] [.int 39, .int 0, .ref 54, .int 1, .ref 54] (SH, (zcp I 53 53 1 0 39), J)) rfl (zR_copy (na := 40) (nb := 40) rfl rfl rfl rfl hc2 rfl ?_)
  refine zr_steps 7 (42, [some (.ref 52)], [.int 39, .int 0, .ref 55, .int 1, .ref 55], (SH, (zcp (zcp I 53 53 1 0 39) 54 54 1 0 39), J)) rfl ?_
  obtain ⟨hc3, h⟩ := zbifo h
  refine zr_one (zcopy 42 [some (.ref 52)] [.int 39, .int 0, .ref 55, .int 1, .ref 55] (SH, (zcp (zcp I 53 53 1 0 39) 54 54 1 0 39), J)) rfl (zR_copy (na := 40) (nb := 40) rfl rfl rfl rfl hc3 rfl ?_)
  refine zr_steps 7 (57, [some (.ref 52)], [.int 39, .int 0, .ref 56, .int 1, .ref 56], (SH, (zcp (zcp (zcp I 53 53 1 0 39) 54 54 1 0 39) 55 55 1 0 39), J)) rfl ?_
  obtain ⟨hc4, h⟩ := zbifo h
  refine zr_one (zcopy 57 [some (.ref 52)] [.int 39, .int 0, .ref 56, .int 1, .ref 56] (SH, (zcp (zcp (zcp I 53 53 1 0 39) 54 54 1 0 39) 55 55 1 0 39), J)) rfl (zR_copy (na := 40) (nb := 40) rfl rfl rfl rfl hc4 rfl ?_)
  refine zr_steps 6 (70, [some (.ref 52)], [], (SH, (zu (zcp (zcp (zcp (zcp I 53 53 1 0 39) 54 54 1 0 39) 55 55 1 0 39) 56 56 1 0 39) 52 5 ((I 52 5) - 1)), J)) rfl ?_
  have he := Option.some.inj h
  subst he
  exact zr_one (some (.inr (.inr none))) rfl (zR_ret rfl rfl)
def f13_add (v1 : Int32) (v2 : Int32) (v3 : Int32) (v4 : Int32) (I : (Nat → Nat → Int32)) : Option (Nat → Nat → Int32) :=
  if (I 52 5) = 40 then
    Option.bind (f14_forgetFirst I) fun t2 =>
    bif zin (t2 52 5) 40 then
    bif zin (t2 52 5) 40 then
    bif zin (t2 52 5) 40 then
    bif zin (t2 52 5) 40 then
    some (zu (zu (zu (zu (zu (zu t2 53 (t2 52 5).toNatClampNeg v1) 54 (t2 52 5).toNatClampNeg v2) 55 (t2 52 5).toNatClampNeg v3) 56 (t2 52 5).toNatClampNeg v4) 52 5 ((t2 52 5) + 1)) 52 4 ((t2 52 5) + 1))
    else none
    else none
    else none
    else none
  else
    bif zin (I 52 5) 40 then
    bif zin (I 52 5) 40 then
    bif zin (I 52 5) 40 then
    bif zin (I 52 5) 40 then
    some (zu (zu (zu (zu (zu (zu I 53 (I 52 5).toNatClampNeg v1) 54 (I 52 5).toNatClampNeg v2) 55 (I 52 5).toNatClampNeg v3) 56 (I 52 5).toNatClampNeg v4) 52 5 ((I 52 5) + 1)) 52 4 ((I 52 5) + 1))
    else none
    else none
    else none
    else none
theorem ok_f13_add {X : zX} {d : Nat} (hd : 1 ≤ d) (v1 : Int32) (v2 : Int32) (v3 : Int32) (v4 : Int32) {I : (Nat → Nat → Int32)} {J : (Nat → Nat → Int64)} (t : (Nat → Nat → Int32)) (h : f13_add v1 v2 v3 v4 I = some t) : zRun X d 13 0 (zent 13 [.ref 52, .int v1, .int v2, .int v3, .int v4]) [] (SH, I, J) none (SH, t, J) := by
  unfold f13_add at h
  refine zr_steps 3 (6, [some (.ref 52), some (.int v1), some (.int v2), some (.int v3), some (.int v4)], [.int 40, .int (I 52 5)], (SH, I, J)) rfl ?_
  refine zr_one (if (I 52 5) = 40 then zN 9 [some (.ref 52), some (.int v1), some (.int v2), some (.int v3), some (.int v4)] [] (SH, I, J) else zN 13 [some (.ref 52), some (.int v1), some (.int v2), some (.int v3), some (.int v4)] [] (SH, I, J)) rfl (zR_if (fun hc11 => zR_go ?_) (fun hc11 => zR_go ?_))
  · rw [if_pos hc11] at h
    refine zr_steps 1 (10, [some (.ref 52), some (.int v1), some (.int v2), some (.int v3), some (.int v4)], [.ref 52], (SH, I, J)) rfl ?_
    obtain ⟨t2, hc1, h⟩ := zbind h
    refine zr_one (some (.inr (.inl (14, [.ref 52], [], 13)))) rfl (zR_call (by omega) rfl (ok_f14_forgetFirst (by omega)  _ hc1) ?_)
    refine zr_steps 5 (22, [some (.ref 52), some (.int v1), some (.int v2), some (.int v3), some (.int v4)], [.int v1, .int (t2 52 5), .ref 53], (SH, t2, J)) rfl ?_
    obtain ⟨hc3, h⟩ := zbifo h
    refine zr_one (bif zin (t2 52 5) 40 then zN 23 [some (.ref 52), some (.int v1), some (.int v2), some (.int v3), some (.int v4)] [] (SH, (zu t2 53 (t2 52 5).toNatClampNeg v1), J) else none) rfl (zR_bif hc3 (zR_go ?_))
    refine zr_steps 5 (32, [some (.ref 52), some (.int v1), some (.int v2), some (.int v3), some (.int v4)], [.int v2, .int (t2 52 5), .ref 54], (SH, (zu t2 53 (t2 52 5).toNatClampNeg v1), J)) rfl ?_
    obtain ⟨hc4, h⟩ := zbifo h
    refine zr_one (bif zin (t2 52 5) 40 then zN 33 [some (.ref 52), some (.int v1), some (.int v2), some (.int v3), some (.int v4)] [] (SH, (zu (zu t2 53 (t2 52 5).toNatClampNeg v1) 54 (t2 52 5).toNatClampNeg v2), J) else none) rfl (zR_bif hc4 (zR_go ?_))
    refine zr_steps 5 (42, [some (.ref 52), some (.int v1), some (.int v2), some (.int v3), some (.int v4)], [.int v3, .int (t2 52 5), .ref 55], (SH, (zu (zu t2 53 (t2 52 5).toNatClampNeg v1) 54 (t2 52 5).toNatClampNeg v2), J)) rfl ?_
    obtain ⟨hc5, h⟩ := zbifo h
    refine zr_one (bif zin (t2 52 5) 40 then zN 43 [some (.ref 52), some (.int v1), some (.int v2), some (.int v3), some (.int v4)] [] (SH, (zu (zu (zu t2 53 (t2 52 5).toNatClampNeg v1) 54 (t2 52 5).toNatClampNeg v2) 55 (t2 52 5).toNatClampNeg v3), J) else none) rfl (zR_bif hc5 (zR_go ?_))
    refine zr_steps 5 (53, [some (.ref 52), some (.int v1), some (.int v2), some (.int v3), some (.int v4)], [.int v4, .int (t2 52 5), .ref 56], (SH, (zu (zu (zu t2 53 (t2 52 5).toNatClampNeg v1) 54 (t2 52 5).toNatClampNeg v2) 55 (t2 52 5).toNatClampNeg v3), J)) rfl ?_
    obtain ⟨hc6, h⟩ := zbifo h
    refine zr_one (bif zin (t2 52 5) 40 then zN 54 [some (.ref 52), some (.int v1), some (.int v2), some (.int v3), some (.int v4)] [] (SH, (zu (zu (zu (zu t2 53 (t2 52 5).toNatClampNeg v1) 54 (t2 52 5).toNatClampNeg v2) 55 (t2 52 5).toNatClampNeg v3) 56 (t2 52 5).toNatClampNeg v4), J) else none) rfl (zR_bif hc6 (zR_go ?_))
    refine zr_steps 10 (72, [some (.ref 52), some (.int v1), some (.int v2), some (.int v3), some (.int v4)], [], (SH, (zu (zu (zu (zu (zu (zu t2 53 (t2 52 5).toNatClampNeg v1) 54 (t2 52 5).toNatClampNeg v2) 55 (t2 52 5).toNatClampNeg v3) 56 (t2 52 5).toNatClampNeg v4) 52 5 ((t2 52 5) + 1)) 52 4 ((t2 52 5) + 1)), J)) rfl ?_
    have he := Option.some.inj h
    subst he
    exact zr_one (some (.inr (.inr none))) rfl (zR_ret rfl rfl)
  · rw [if_neg hc11] at h
    refine zr_steps 5 (22, [some (.ref 52), some (.int v1), some (.int v2), some (.int v3), some (.int v4)], [.int v1, .int (I 52 5), .ref 53], (SH, I, J)) rfl ?_
    obtain ⟨hc7, h⟩ := zbifo h
    refine zr_one (bif zin (I 52 5) 40 then zN 23 [some (.ref 52), some (.int v1), some (.int v2), some (.int v3), some (.int v4)] [] (SH, (zu I 53 (I 52 5).toNatClampNeg v1), J) else none) rfl (zR_bif hc7 (zR_go ?_))
    refine zr_steps 5 (32, [some (.ref 52), some (.int v1), some (.int v2), some (.int v3), some (.int v4)], [.int v2, .int (I 52 5), .ref 54], (SH, (zu I 53 (I 52 5).toNatClampNeg v1), J)) rfl ?_
    obtain ⟨hc8, h⟩ := zbifo h
    refine zr_one (bif zin (I 52 5) 40 then zN 33 [some (.ref 52), some (.int v1), some (.int v2), some (.int v3), some (.int v4)] [] (SH, (zu (zu I 53 (I 52 5).toNatClampNeg v1) 54 (I 52 5).toNatClampNeg v2), J) else none) rfl (zR_bif hc8 (zR_go ?_))
    refine zr_steps 5 (42, [some (.ref 52), some (.int v1), some (.int v2), some (.int v3), some (.int v4)], [.int v3, .int (I 52 5), .ref 55], (SH, (zu (zu I 53 (I 52 5).toNatClampNeg v1) 54 (I 52 5).toNatClampNeg v2), J)) rfl ?_
    obtain ⟨hc9, h⟩ := zbifo h
    refine zr_one (bif zin (I 52 5) 40 then zN 43 [some (.ref 52), some (.int v1), some (.int v2), some (.int v3), some (.int v4)] [] (SH, (zu (zu (zu I 53 (I 52 5).toNatClampNeg v1) 54 (I 52 5).toNatClampNeg v2) 55 (I 52 5).toNatClampNeg v3), J) else none) rfl (zR_bif hc9 (zR_go ?_))
    refine zr_steps 5 (53, [some (.ref 52), some (.int v1), some (.int v2), some (.int v3), some (.int v4)], [.int v4, .int (I 52 5), .ref 56], (SH, (zu (zu (zu I 53 (I 52 5).toNatClampNeg v1) 54 (I 52 5).toNatClampNeg v2) 55 (I 52 5).toNatClampNeg v3), J)) rfl ?_
    obtain ⟨hc10, h⟩ := zbifo h
    refine zr_one (bif zin (I 52 5) 40 then zN 54 [some (.ref 52), some (.int v1), some (.int v2), some (.int v3), some (.int v4)] [] (SH, (zu (zu (zu (zu I 53 (I 52 5).toNatClampNeg v1) 54 (I 52 5).toNatClampNeg v2) 55 (I 52 5).toNatClampNeg v3) 56 (I 52 5).toNatClampNeg v4), J) else none) rfl (zR_bif hc10 (zR_go ?_))
    refine zr_steps 10 (72, [some (.ref 52), some (.int v1), some (.int v2), some (.int v3), some (.int v4)], [], (SH, (zu (zu (zu (zu (zu (zu I 53 (I 52 5).toNatClampNeg v1) 54 (I 52 5).toNatClampNeg v2) 55 (I 52 5).toNatClampNeg v3) 56 (I 52 5).toNatClampNeg v4) 52 5 ((I 52 5) + 1)) 52 4 ((I 52 5) + 1)), J)) rfl ?_
    have he := Option.some.inj h
    subst he
    exact zr_one (some (.inr (.inr none))) rfl (zR_ret rfl rfl)
