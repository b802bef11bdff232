def f97_led (v1 : Int32) (v2 : Int32) (v3 : Int32) (I : (Nat → Nat → Int32)) : Option Int32 :=
  if (I 0 7) = 0 then
    some (-2000000000)
  else
    Option.bind (f126_within v1 0 (I 25 0)) fun t2 =>
    if t2 = 0 then
      some (-2000000000)
    else
      Option.bind (f36_hasSquare_24 v2 I) fun t4 =>
      if t4 = 0 then
        some (-2000000000)
      else
        if v3 = (-1) then
          Option.bind (f39_allAtEnd_24 v1 v2 I) fun t6 =>
          some t6
        else
          Option.bind (f37_hasSort_24 v3 I) fun t8 =>
          if t8 = 0 then
            some (-2000000000)
          else
            Option.bind (f38_atEnd_24 v1 v2 v3 I) fun t10 =>
            some t10
theorem ok_f97_led {X : zX} {d : Nat} (hd : 2 ≤ d) (v1 : Int32) (v2 : Int32) (v3 : Int32) {I : (Nat → Nat → Int32)} {J : (Nat → Nat → Int64)} (t : Int32) (h : f97_led v1 v2 v3 I = some t) : zRun X d 97 0 (zent 97 [.ref 0, .int v1, .int v2, .int v3]) [] (SH, I, J) (some (.int t)) (SH, I, J) := by
  unfold f97_led at h
  refine zr_steps 2 (4, [some (.ref 0), some (.int v1), some (.int v2), some (.int v3)], [.int (I 0 7)], (SH, I, J)) rfl ?_
  refine zr_one (if (I 0 7) = 0 then zN 36 [some (.ref 0), some (.int v1), some (.int v2), some (.int v3)] [] (SH, I, J) else zN 7 [some (.ref 0), some (.int v1), some (.int v2), some (.int v3)] [] (SH, I, J)) rfl (zR_if (fun hc15 => zR_go ?_) (fun hc15 => zR_go ?_))
  · rw [if_pos hc15] at h
    refine zr_steps 1 (38, [some (.ref 0), some (.int v1), some (.int v2), some (.int v3)], [.int (-2000000000)], (SH, I, J)) rfl ?_
    have he := Option.some.inj h
    subst he
    exact zr_one (some (.inr (.inr (some (.int (-2000000000)))))) rfl (zR_ret rfl rfl)
  · rw [if_neg hc15] at h
    refine zr_steps 6 (19, [some (.ref 0), some (.int v1), some (.int v2), some (.int v3)], [.int (I 25 0), .int 0, .int v1], (SH, I, J)) rfl ?_
    obtain ⟨t2, hc1, h⟩ := zbind h
    refine zr_one (some (.inr (.inl (126, [.int v1, .int 0, .int (I 25 0)], [], 22)))) rfl (zR_call (by omega) rfl (ok_f126_within (by omega) v1 0 (I 25 0) _ hc1) ?_)
    refine zr_one (if t2 = 0 then zN 36 [some (.ref 0), some (.int v1), some (.int v2), some (.int v3)] [] (SH, I, J) else zN 25 [some (.ref 0), some (.int v1), some (.int v2), some (.int v3)] [] (SH, I, J)) rfl (zR_if (fun hc14 => zR_go ?_) (fun hc14 => zR_go ?_))
    · rw [if_pos hc14] at h
      refine zr_steps 1 (38, [some (.ref 0), some (.int v1), some (.int v2), some (.int v3)], [.int (-2000000000)], (SH, I, J)) rfl ?_
      have he := Option.some.inj h
      subst he
      exact zr_one (some (.inr (.inr (some (.int (-2000000000)))))) rfl (zR_ret rfl rfl)
    · rw [if_neg hc14] at h
      refine zr_steps 3 (30, [some (.ref 0), some (.int v1), some (.int v2), some (.int v3)], [.int v2, .ref 24], (SH, I, J)) rfl ?_
      obtain ⟨t4, hc3, h⟩ := zbind h
      refine zr_one (some (.inr (.inl (36, [.ref 24, .int v2], [], 33)))) rfl (zR_call (by omega) rfl (ok_f36_hasSquare_24 (by omega) v2 _ hc3) ?_)
      refine zr_one (if t4 = 0 then zN 36 [some (.ref 0), some (.int v1), some (.int v2), some (.int v3)] [] (SH, I, J) else zN 39 [some (.ref 0), some (.int v1), some (.int v2), some (.int v3)] [] (SH, I, J)) rfl (zR_if (fun hc13 => zR_go ?_) (fun hc13 => zR_go ?_))
      · rw [if_pos hc13] at h
        refine zr_steps 1 (38, [some (.ref 0), some (.int v1), some (.int v2), some (.int v3)], [.int (-2000000000)], (SH, I, J)) rfl ?_
        have he := Option.some.inj h
        subst he
        exact zr_one (some (.inr (.inr (some (.int (-2000000000)))))) rfl (zR_ret rfl rfl)
      · rw [if_neg hc13] at h
        refine zr_steps 2 (41, [some (.ref 0), some (.int v1), some (.int v2), some (.int v3)], [.int (-1), .int v3], (SH, I, J)) rfl ?_
        refine zr_one (if v3 = (-1) then zN 44 [some (.ref 0), some (.int v1), some (.int v2), some (.int v3)] [] (SH, I, J) else zN 54 [some (.ref 0), some (.int v1), some (.int v2), some (.int v3)] [] (SH, I, J)) rfl (zR_if (fun hc12 => zR_go ?_) (fun hc12 => zR_go ?_))
        · rw [if_pos hc12] at h
          refine zr_steps 4 (50, [some (.ref 0), some (.int v1), some (.int v2), some (.int v3)], [.int v2, .int v1, .ref 24], (SH, I, J)) rfl ?_
          obtain ⟨t6, hc5, h⟩ := zbind h
          refine zr_one (some (.inr (.inl (39, [.ref 24, .int v1, .int v2], [], 53)))) rfl (zR_call (by omega) rfl (ok_f39_allAtEnd_24 (by omega) v1 v2 _ hc5) ?_)
          have he := Option.some.inj h
          subst he
          exact zr_one (some (.inr (.inr (some (.int t6))))) rfl (zR_ret rfl rfl)
        · rw [if_neg hc12] at h
          refine zr_steps 3 (59, [some (.ref 0), some (.int v1), some (.int v2), some (.int v3)], [.int v3, .ref 24], (SH, I, J)) rfl ?_
          obtain ⟨t8, hc7, h⟩ := zbind h
          refine zr_one (some (.inr (.inl (37, [.ref 24, .int v3], [], 62)))) rfl (zR_call (by omega) rfl (ok_f37_hasSort_24 (by omega) v3 _ hc7) ?_)
          refine zr_one (if t8 = 0 then zN 78 [some (.ref 0), some (.int v1), some (.int v2), some (.int v3)] [] (SH, I, J) else zN 65 [some (.ref 0), some (.int v1), some (.int v2), some (.int v3)] [] (SH, I, J)) rfl (zR_if (fun hc11 => zR_go ?_) (fun hc11 => zR_go ?_))
          · rw [if_pos hc11] at h
            refine zr_steps 1 (80, [some (.ref 0), some (.int v1), some (.int v2), some (.int v3)], [.int (-2000000000)], (SH, I, J)) rfl ?_
            have he := Option.some.inj h
            subst he
            exact zr_one (some (.inr (.inr (some (.int (-2000000000)))))) rfl (zR_ret rfl rfl)
          · rw [if_neg hc11] at h
            refine zr_steps 5 (72, [some (.ref 0), some (.int v1), some (.int v2), some (.int v3)], [.int v3, .int v2, .int v1, .ref 24], (SH, I, J)) rfl ?_
            obtain ⟨t10, hc9, h⟩ := zbind h
            refine zr_one (some (.inr (.inl (38, [.ref 24, .int v1, .int v2, .int v3], [], 75)))) rfl (zR_call (by omega) rfl (ok_f38_atEnd_24 (by omega) v1 v2 v3 _ hc9) ?_)
            refine zr_steps 1 (80, [some (.ref 0), some (.int v1), some (.int v2), some (.int v3)], [.int t10], (SH, I, J)) rfl ?_
            have he := Option.some.inj h
            subst he
            exact zr_one (some (.inr (.inr (some (.int t10))))) rfl (zR_ret rfl rfl)
def f175_led_L57 (v1 : Int32) (v2 : Int32) (v3 : Int32) (I : (Nat → Nat → Int32)) (s : (Int32 × Int32)) : Option ((Int32 × Int32) ⊕ (Int32 × Int32)) :=
  if (I 73 61) ≤ s.2 then
    some (.inl (s.1, s.2))
  else
    if v3 < 0 then
      bif zin (((32 * v1) + (8 * v2)) + s.2) 1952 then
      some (.inr ((s.1 + (I 104 (((32 * v1) + (8 * v2)) + s.2).toNatClampNeg)), (s.2 + 1)))
      else none
    else
      if s.2 = v3 then
        bif zin (((32 * v1) + (8 * v2)) + s.2) 1952 then
        some (.inr ((s.1 + (I 104 (((32 * v1) + (8 * v2)) + s.2).toNatClampNeg)), (s.2 + 1)))
        else none
      else
        some (.inr (s.1, (s.2 + 1)))
def f175_led (v1 : Int32) (v2 : Int32) (v3 : Int32) (I : (Nat → Nat → Int32)) : Option Int32 :=
  if (I 73 55) < 0 then
    some (-2000000000)
  else
    Option.bind (f129_in v1 0 (I 73 55)) fun t2 =>
    if t2 = 0 then
      some (-2000000000)
    else
      Option.bind (f129_in v2 0 ((I 73 60) - 1)) fun t4 =>
      if t4 = 0 then
        some (-2000000000)
      else
        Option.bind (f129_in v3 (-1) ((I 73 61) - 1)) fun t6 =>
        if t6 = 0 then
          some (-2000000000)
        else
          Option.bind (zloop (f175_led_L57 v1 v2 v3 I) 5000 ((0 : Int32), (0 : Int32))) fun s12 =>
          some s12.1
theorem ok_f175_led_L57 {X : zX} {d : Nat} {r : Option Value} {M' : zM} (hd : 1 ≤ d) (v1 : Int32) (v2 : Int32) (v3 : Int32) {I : (Nat → Nat → Int32)} {J : (Nat → Nat → Int64)} : ∀ (n : Nat) (s x : (Int32 × Int32)), zloop (f175_led_L57 v1 v2 v3 I) n s = some x → (fun (x : (Int32 × Int32)) => zRun X d 175 104 [none, none, none, none, some (.int x.1), none] [] (SH, I, J) r M') x → (fun (s : (Int32 × Int32)) => zRun X d 175 57 [some (.ref 73), some (.int v1), some (.int v2), some (.int v3), some (.int s.1), some (.int s.2)] [] (SH, I, J) r M') s := zloop_ok (Wh := fun (s : (Int32 × Int32)) => zRun X d 175 57 [some (.ref 73), some (.int v1), some (.int v2), some (.int v3), some (.int s.1), some (.int s.2)] [] (SH, I, J) r M') (Wx := fun (x : (Int32 × Int32)) => zRun X d 175 104 [none, none, none, none, some (.int x.1), none] [] (SH, I, J) r M') (fun s y h w => by
  unfold f175_led_L57 at h
  refine zr_steps 3 (63, [some (.ref 73), some (.int v1), some (.int v2), some (.int v3), some (.int s.1), some (.int s.2)], [.int (I 73 61), .int s.2], (SH, I, J)) rfl ?_
  refine zr_one (if (I 73 61) ≤ s.2 then zN 104 [some (.ref 73), some (.int v1), some (.int v2), some (.int v3), some (.int s.1), some (.int s.2)] [] (SH, I, J) else zN 66 [some (.ref 73), some (.int v1), some (.int v2), some (.int v3), some (.int s.1), some (.int s.2)] [] (SH, I, J)) rfl (zR_if (fun hc11 => zR_go ?_) (fun hc11 => zR_go ?_))
  · rw [if_pos hc11] at h
    have he := Option.some.inj h
    subst he
    exact zr_hdr rfl rfl (show zRun X d 175 104 [none, none, none, none, some (.int s.1), none] [] (SH, I, J) r M' from w)
  · rw [if_neg hc11] at h
    refine zr_steps 1 (67, [some (.ref 73), some (.int v1), some (.int v2), some (.int v3), some (.int s.1), some (.int s.2)], [.int v3], (SH, I, J)) rfl ?_
    refine zr_one (if v3 < 0 then zN 76 [some (.ref 73), some (.int v1), some (.int v2), some (.int v3), some (.int s.1), some (.int s.2)] [] (SH, I, J) else zN 70 [some (.ref 73), some (.int v1), some (.int v2), some (.int v3), some (.int s.1), some (.int s.2)] [] (SH, I, J)) rfl (zR_if (fun hc10 => zR_go ?_) (fun hc10 => zR_go ?_))
    · rw [if_pos hc10] at h
      refine zr_steps 12 (94, [some (.ref 73), some (.int v1), some (.int v2), some (.int v3), some (.int s.1), some (.int s.2)], [.int (((32 * v1) + (8 * v2)) + s.2), .ref 104, .int s.1], (SH, I, J)) rfl ?_
      obtain ⟨hc7, h⟩ := zbifo h
      refine zr_one (bif zin (((32 * v1) + (8 * v2)) + s.2) 1952 then zN 95 [some (.ref 73), some (.int v1), some (.int v2), some (.int v3), some (.int s.1), some (.int s.2)] [.int (I 104 (((32 * v1) + (8 * v2)) + s.2).toNatClampNeg), .int s.1] (SH, I, J) else none) rfl (zR_bif hc7 (zR_go ?_))
      refine zr_steps 4 (57, [some (.ref 73), some (.int v1), some (.int v2), some (.int v3), some (.int (s.1 + (I 104 (((32 * v1) + (8 * v2)) + s.2).toNatClampNeg))), some (.int (s.2 + 1))], [], (SH, I, J)) rfl ?_
      have he := Option.some.inj h
      subst he
      exact zr_hdr rfl rfl (show zRun X d 175 57 [some (.ref 73), some (.int v1), some (.int v2), some (.int v3), some (.int (s.1 + (I 104 (((32 * v1) + (8 * v2)) + s.2).toNatClampNeg))), some (.int (s.2 + 1))] [] (SH, I, J) r M' from w)
    · rw [if_neg hc10] at h
      refine zr_steps 2 (73, [some (.ref 73), some (.int v1), some (.int v2), some (.int v3), some (.int s.1), some (.int s.2)], [.int v3, .int s.2], (SH, I, J)) rfl ?_
      refine zr_one (if s.2 = v3 then zN 76 [some (.ref 73), some (.int v1), some (.int v2), some (.int v3), some (.int s.1), some (.int s.2)] [] (SH, I, J) else zN 98 [some (.ref 73), some (.int v1), some (.int v2), some (.int v3), some (.int s.1), some (.int s.2)] [] (SH, I, J)) rfl (zR_if (fun hc9 => zR_go ?_) (fun hc9 => zR_go ?_))
      · rw [if_pos hc9] at h
        refine zr_steps 12 (94, [some (.ref 73), some (.int v1), some (.int v2), some (.int v3), some (.int s.1), some (.int s.2)], [.int (((32 * v1) + (8 * v2)) + s.2), .ref 104, .int s.1], (SH, I, J)) rfl ?_
        obtain ⟨hc8, h⟩ := zbifo h
        refine zr_one (bif zin (((32 * v1) + (8 * v2)) + s.2) 1952 then zN 95 [some (.ref 73), some (.int v1), some (.int v2), some (.int v3), some (.int s.1), some (.int s.2)] [.int (I 104 (((32 * v1) + (8 * v2)) + s.2).toNatClampNeg), .int s.1] (SH, I, J) else none) rfl (zR_bif hc8 (zR_go ?_))
        refine zr_steps 4 (57, [some (.ref 73), some (.int v1), some (.int v2), some (.int v3), some (.int (s.1 + (I 104 (((32 * v1) + (8 * v2)) + s.2).toNatClampNeg))), some (.int (s.2 + 1))], [], (SH, I, J)) rfl ?_
        have he := Option.some.inj h
        subst he
        exact zr_hdr rfl rfl (show zRun X d 175 57 [some (.ref 73), some (.int v1), some (.int v2), some (.int v3), some (.int (s.1 + (I 104 (((32 * v1) + (8 * v2)) + s.2).toNatClampNeg))), some (.int (s.2 + 1))] [] (SH, I, J) r M' from w)
      · rw [if_neg hc9] at h
        refine zr_steps 2 (57, [some (.ref 73), some (.int v1), some (.int v2), some (.int v3), some (.int s.1), some (.int (s.2 + 1))], [], (SH, I, J)) rfl ?_
        have he := Option.some.inj h
        subst he
        exact zr_hdr rfl rfl (show zRun X d 175 57 [some (.ref 73), some (.int v1), some (.int v2), some (.int v3), some (.int s.1), some (.int (s.2 + 1))] [] (SH, I, J) r M' from w))
theorem ok_f175_led {X : zX} {d : Nat} (hd : 1 ≤ d) (v1 : Int32) (v2 : Int32) (v3 : Int32) {I : (Nat → Nat → Int32)} {J : (Nat → Nat → Int64)} (t : Int32) (h : f175_led v1 v2 v3 I = some t) : zRun X d 175 0 (zent 175 [.ref 73, .int v1, .int v2, .int v3]) [] (SH, I, J) (some (.int t)) (SH, I, J) := by
  unfold f175_led at h
  refine zr_steps 2 (4, [some (.ref 73), some (.int v1), some (.int v2), some (.int v3), none, none], [.int (I 73 55)], (SH, I, J)) rfl ?_
  refine zr_one (if (I 73 55) < 0 then zN 47 [some (.ref 73), some (.int v1), some (.int v2), some (.int v3), none, none] [] (SH, I, J) else zN 7 [some (.ref 73), some (.int v1), some (.int v2), some (.int v3), none, none] [] (SH, I, J)) rfl (zR_if (fun hc17 => zR_go ?_) (fun hc17 => zR_go ?_))
  · rw [if_pos hc17] at h
    refine zr_steps 1 (50, [some (.ref 73), some (.int v1), some (.int v2), some (.int v3), none, none], [.int (-2000000000)], (SH, I, J)) rfl ?_
    have he := Option.some.inj h
    subst he
    exact zr_one (some (.inr (.inr (some (.int (-2000000000)))))) rfl (zR_ret rfl rfl)
  · rw [if_neg hc17] at h
    refine zr_steps 4 (13, [some (.ref 73), some (.int v1), some (.int v2), some (.int v3), none, none], [.int (I 73 55), .int 0, .int v1], (SH, I, J)) rfl ?_
    obtain ⟨t2, hc1, h⟩ := zbind h
    refine zr_one (some (.inr (.inl (129, [.int v1, .int 0, .int (I 73 55)], [], 16)))) rfl (zR_call (by omega) rfl (ok_f129_in (by omega) v1 0 (I 73 55) _ hc1) ?_)
    refine zr_one (if t2 = 0 then zN 47 [some (.ref 73), some (.int v1), some (.int v2), some (.int v3), none, none] [] (SH, I, J) else zN 19 [some (.ref 73), some (.int v1), some (.int v2), some (.int v3), none, none] [] (SH, I, J)) rfl (zR_if (fun hc16 => zR_go ?_) (fun hc16 => zR_go ?_))
    · rw [if_pos hc16] at h
      refine zr_steps 1 (50, [some (.ref 73), some (.int v1), some (.int v2), some (.int v3), none, none], [.int (-2000000000)], (SH, I, J)) rfl ?_
      have he := Option.some.inj h
      subst he
      exact zr_one (some (.inr (.inr (some (.int (-2000000000)))))) rfl (zR_ret rfl rfl)
    · rw [if_neg hc16] at h
      refine zr_steps 6 (27, [some (.ref 73), some (.int v1), some (.int v2), some (.int v3), none, none], [.int ((I 73 60) - 1), .int 0, .int v2], (SH, I, J)) rfl ?_
      obtain ⟨t4, hc3, h⟩ := zbind h
      refine zr_one (some (.inr (.inl (129, [.int v2, .int 0, .int ((I 73 60) - 1)], [], 30)))) rfl (zR_call (by omega) rfl (ok_f129_in (by omega) v2 0 ((I 73 60) - 1) _ hc3) ?_)
      refine zr_one (if t4 = 0 then zN 47 [some (.ref 73), some (.int v1), some (.int v2), some (.int v3), none, none] [] (SH, I, J) else zN 33 [some (.ref 73), some (.int v1), some (.int v2), some (.int v3), none, none] [] (SH, I, J)) rfl (zR_if (fun hc15 => zR_go ?_) (fun hc15 => zR_go ?_))
      · rw [if_pos hc15] at h
        refine zr_steps 1 (50, [some (.ref 73), some (.int v1), some (.int v2), some (.int v3), none, none], [.int (-2000000000)], (SH, I, J)) rfl ?_
        have he := Option.some.inj h
        subst he
        exact zr_one (some (.inr (.inr (some (.int (-2000000000)))))) rfl (zR_ret rfl rfl)
      · rw [if_neg hc15] at h
        refine zr_steps 6 (41, [some (.ref 73), some (.int v1), some (.int v2), some (.int v3), none, none], [.int ((I 73 61) - 1), .int (-1), .int v3], (SH, I, J)) rfl ?_
        obtain ⟨t6, hc5, h⟩ := zbind h
        refine zr_one (some (.inr (.inl (129, [.int v3, .int (-1), .int ((I 73 61) - 1)], [], 44)))) rfl (zR_call (by omega) rfl (ok_f129_in (by omega) v3 (-1) ((I 73 61) - 1) _ hc5) ?_)
        refine zr_one (if t6 = 0 then zN 47 [some (.ref 73), some (.int v1), some (.int v2), some (.int v3), none, none] [] (SH, I, J) else zN 51 [some (.ref 73), some (.int v1), some (.int v2), some (.int v3), none, none] [] (SH, I, J)) rfl (zR_if (fun hc14 => zR_go ?_) (fun hc14 => zR_go ?_))
        · rw [if_pos hc14] at h
          refine zr_steps 1 (50, [some (.ref 73), some (.int v1), some (.int v2), some (.int v3), none, none], [.int (-2000000000)], (SH, I, J)) rfl ?_
          have he := Option.some.inj h
          subst he
          exact zr_one (some (.inr (.inr (some (.int (-2000000000)))))) rfl (zR_ret rfl rfl)
        · rw [if_neg hc14] at h
          refine zr_steps 4 (57, [some (.ref 73), some (.int v1), some (.int v2), some (.int v3), some (.int 0), some (.int 0)], [], (SH, I, J)) rfl ?_
          obtain ⟨s12, ho13, h⟩ := zbind h
          refine zr_hdr (ls2 := [some (.ref 73), some (.int v1), some (.int v2), some (.int v3), some (.int 0), some (.int 0)]) rfl rfl ?_
          refine ok_f175_led_L57 (by omega) v1 v2 v3 5000 ((0 : Int32), (0 : Int32)) s12 ho13 ?_
          show zRun X d 175 104 [none, none, none, none, some (.int s12.1), none] [] (SH, I, J) _ _
          refine zr_steps 1 (106, [none, none, none, none, some (.int s12.1), none], [.int s12.1], (SH, I, J)) rfl ?_
          have he := Option.some.inj h
          subst he
          exact zr_one (some (.inr (.inr (some (.int s12.1))))) rfl (zR_ret rfl rfl)
def f98_told (v1 : Int32) (I : (Nat → Nat → Int32)) : Option Int32 :=
  if (I 0 7) = 0 then
    some (-2000000000)
  else
    if v1.toInt = 0 then
      some (I 25 0)
    else
    if v1.toInt = 1 then
      some (I 24 16)
    else
    if v1.toInt = 2 then
      some (I 24 17)
    else
    if v1.toInt = 3 then
      some (I 24 18)
    else
    if v1.toInt = 4 then
      some (I 24 19)
    else
    if v1 < 10 then
      some (-2000000000)
    else
      Option.bind (f36_hasSquare_24 (v1 - 10) I) fun t2 =>
      if t2 = 0 then
        some (-2000000000)
      else
        bif zin (v1 - 10) 4 then
        some (I 37 (v1 - 10).toNatClampNeg)
        else none
theorem ok_f98_told {X : zX} {d : Nat} (hd : 1 ≤ d) (v1 : Int32) {I : (Nat → Nat → Int32)} {J : (Nat → Nat → Int64)} (t : Int32) (h : f98_told v1 I = some t) : zRun X d 98 0 (zent 98 [.ref 0, .int v1]) [] (SH, I, J) (some (.int t)) (SH, I, J) := by
  unfold f98_told at h
  refine zr_steps 2 (4, [some (.ref 0), some (.int v1)], [.int (I 0 7)], (SH, I, J)) rfl ?_
  refine zr_one (if (I 0 7) = 0 then zN 7 [some (.ref 0), some (.int v1)] [] (SH, I, J) else zN 10 [some (.ref 0), some (.int v1)] [] (SH, I, J)) rfl (zR_if (fun hc11 => zR_go ?_) (fun hc11 => zR_go ?_))
  · rw [if_pos hc11] at h
    refine zr_steps 1 (9, [some (.ref 0), some (.int v1)], [.int (-2000000000)], (SH, I, J)) rfl ?_
    have he := Option.some.inj h
    subst he
    exact zr_one (some (.inr (.inr (some (.int (-2000000000)))))) rfl (zR_ret rfl rfl)
  · rw [if_neg hc11] at h
    refine zr_steps 1 (11, [some (.ref 0), some (.int v1)], [.int v1], (SH, I, J)) rfl ?_
    refine zr_one (if v1.toInt = 0 then zN 44 [some (.ref 0), some (.int v1)] [] (SH, I, J) else (if v1.toInt = 1 then zN 55 [some (.ref 0), some (.int v1)] [] (SH, I, J) else (if v1.toInt = 2 then zN 63 [some (.ref 0), some (.int v1)] [] (SH, I, J) else (if v1.toInt = 3 then zN 71 [some (.ref 0), some (.int v1)] [] (SH, I, J) else (if v1.toInt = 4 then zN 79 [some (.ref 0), some (.int v1)] [] (SH, I, J) else zN 87 [some (.ref 0), some (.int v1)] [] (SH, I, J)))))) rfl ?_
    refine zR_if (fun hc10 => zR_go ?_) (fun hc10 => ?_)
    · rw [if_pos hc10] at h
      refine zr_steps 4 (54, [some (.ref 0), some (.int v1)], [.int (I 25 0)], (SH, I, J)) rfl ?_
      have he := Option.some.inj h
      subst he
      exact zr_one (some (.inr (.inr (some (.int (I 25 0)))))) rfl (zR_ret rfl rfl)
    rw [if_neg hc10] at h
    refine zR_if (fun hc9 => zR_go ?_) (fun hc9 => ?_)
    · rw [if_pos hc9] at h
      refine zr_steps 3 (62, [some (.ref 0), some (.int v1)], [.int (I 24 16)], (SH, I, J)) rfl ?_
      have he := Option.some.inj h
      subst he
      exact zr_one (some (.inr (.inr (some (.int (I 24 16)))))) rfl (zR_ret rfl rfl)
    rw [if_neg hc9] at h
    refine zR_if (fun hc8 => zR_go ?_) (fun hc8 => ?_)
    · rw [if_pos hc8] at h
      refine zr_steps 3 (70, [some (.ref 0), some (.int v1)], [.int (I 24 17)], (SH, I, J)) rfl ?_
      have he := Option.some.inj h
      subst he
      exact zr_one (some (.inr (.inr (some (.int (I 24 17)))))) rfl (zR_ret rfl rfl)
    rw [if_neg hc8] at h
    refine zR_if (fun hc7 => zR_go ?_) (fun hc7 => ?_)
    · rw [if_pos hc7] at h
      refine zr_steps 3 (78, [some (.ref 0), some (.int v1)], [.int (I 24 18)], (SH, I, J)) rfl ?_
      have he := Option.some.inj h
      subst he
      exact zr_one (some (.inr (.inr (some (.int (I 24 18)))))) rfl (zR_ret rfl rfl)
    rw [if_neg hc7] at h
    refine zR_if (fun hc6 => zR_go ?_) (fun hc6 => ?_)
    · rw [if_pos hc6] at h
      refine zr_steps 3 (86, [some (.ref 0), some (.int v1)], [.int (I 24 19)], (SH, I, J)) rfl ?_
      have he := Option.some.inj h
      subst he
      exact zr_one (some (.inr (.inr (some (.int (I 24 19)))))) rfl (zR_ret rfl rfl)
    rw [if_neg hc6] at h
    refine zR_go ?_
    refine zr_steps 2 (90, [some (.ref 0), some (.int v1)], [.int 10, .int v1], (SH, I, J)) rfl ?_
    refine zr_one (if v1 < 10 then zN 122 [some (.ref 0), some (.int v1)] [] (SH, I, J) else zN 93 [some (.ref 0), some (.int v1)] [] (SH, I, J)) rfl (zR_if (fun hc5 => zR_go ?_) (fun hc5 => zR_go ?_))
    · rw [if_pos hc5] at h
      refine zr_steps 1 (124, [some (.ref 0), some (.int v1)], [.int (-2000000000)], (SH, I, J)) rfl ?_
      have he := Option.some.inj h
      subst he
      exact zr_one (some (.inr (.inr (some (.int (-2000000000)))))) rfl (zR_ret rfl rfl)
    · rw [if_neg hc5] at h
      refine zr_steps 5 (101, [some (.ref 0), some (.int v1)], [.int (v1 - 10), .ref 24], (SH, I, J)) rfl ?_
      obtain ⟨t2, hc1, h⟩ := zbind h
      refine zr_one (some (.inr (.inl (36, [.ref 24, .int (v1 - 10)], [], 104)))) rfl (zR_call (by omega) rfl (ok_f36_hasSquare_24 (by omega) (v1 - 10) _ hc1) ?_)
      refine zr_one (if t2 = 0 then zN 122 [some (.ref 0), some (.int v1)] [] (SH, I, J) else zN 107 [some (.ref 0), some (.int v1)] [] (SH, I, J)) rfl (zR_if (fun hc4 => zR_go ?_) (fun hc4 => zR_go ?_))
      · rw [if_pos hc4] at h
        refine zr_steps 1 (124, [some (.ref 0), some (.int v1)], [.int (-2000000000)], (SH, I, J)) rfl ?_
        have he := Option.some.inj h
        subst he
        exact zr_one (some (.inr (.inr (some (.int (-2000000000)))))) rfl (zR_ret rfl rfl)
      · rw [if_neg hc4] at h
        refine zr_steps 6 (118, [some (.ref 0), some (.int v1)], [.int (v1 - 10), .ref 37], (SH, I, J)) rfl ?_
        obtain ⟨hc3, h⟩ := zbifo h
        refine zr_one (bif zin (v1 - 10) 4 then zN 119 [some (.ref 0), some (.int v1)] [.int (I 37 (v1 - 10).toNatClampNeg)] (SH, I, J) else none) rfl (zR_bif hc3 (zR_go ?_))
        refine zr_steps 1 (124, [some (.ref 0), some (.int v1)], [.int (I 37 (v1 - 10).toNatClampNeg)], (SH, I, J)) rfl ?_
        have he := Option.some.inj h
        subst he
        exact zr_one (some (.inr (.inr (some (.int (I 37 (v1 - 10).toNatClampNeg)))))) rfl (zR_ret rfl rfl)
def f176_told (v1 : Int32) (I : (Nat → Nat → Int32)) : Option Int32 :=
  if (0 : Int32) ≤ (I 73 55) then
    Option.bind (f129_in v1 10 (9 + (I 73 60))) fun t2 =>
    if t2 = 0 then
      if v1.toInt = 0 then
        some (I 73 55)
      else
      if v1.toInt = 1 then
        some (I 73 56)
      else
      if v1.toInt = 2 then
        some (I 73 57)
      else
      if v1.toInt = 3 then
        some (I 73 58)
      else
      if v1.toInt = 4 then
        some (I 73 59)
      else
      some (-2000000000)
    else
      bif zin (v1 - 10) 4 then
      some (I 105 (v1 - 10).toNatClampNeg)
      else none
  else
    some (-2000000000)
theorem ok_f176_told {X : zX} {d : Nat} (hd : 1 ≤ d) (v1 : Int32) {I : (Nat → Nat → Int32)} {J : (Nat → Nat → Int64)} (t : Int32) (h : f176_told v1 I = some t) : zRun X d 176 0 (zent 176 [.ref 73, .int v1]) [] (SH, I, J) (some (.int t)) (SH, I, J) := by
  unfold f176_told at h
  refine zr_steps 2 (4, [some (.ref 73), some (.int v1)], [.int (I 73 55)], (SH, I, J)) rfl ?_
  refine zr_one (if (0 : Int32) ≤ (I 73 55) then zN 11 [some (.ref 73), some (.int v1)] [] (SH, I, J) else zN 7 [some (.ref 73), some (.int v1)] [] (SH, I, J)) rfl (zR_if (fun hc10 => zR_go ?_) (fun hc10 => zR_go ?_))
  · rw [if_pos hc10] at h
    refine zr_steps 6 (21, [some (.ref 73), some (.int v1)], [.int (9 + (I 73 60)), .int 10, .int v1], (SH, I, J)) rfl ?_
    obtain ⟨t2, hc1, h⟩ := zbind h
    refine zr_one (some (.inr (.inl (129, [.int v1, .int 10, .int (9 + (I 73 60))], [], 24)))) rfl (zR_call (by omega) rfl (ok_f129_in (by omega) v1 10 (9 + (I 73 60)) _ hc1) ?_)
    refine zr_one (if t2 = 0 then zN 37 [some (.ref 73), some (.int v1)] [] (SH, I, J) else zN 27 [some (.ref 73), some (.int v1)] [] (SH, I, J)) rfl (zR_if (fun hc9 => zR_go ?_) (fun hc9 => zR_go ?_))
    · rw [if_pos hc9] at h
      refine zr_steps 1 (38, [some (.ref 73), some (.int v1)], [.int v1], (SH, I, J)) rfl ?_
      refine zr_one (if v1.toInt = 0 then zN 72 [some (.ref 73), some (.int v1)] [] (SH, I, J) else (if v1.toInt = 1 then zN 77 [some (.ref 73), some (.int v1)] [] (SH, I, J) else (if v1.toInt = 2 then zN 82 [some (.ref 73), some (.int v1)] [] (SH, I, J) else (if v1.toInt = 3 then zN 87 [some (.ref 73), some (.int v1)] [] (SH, I, J) else (if v1.toInt = 4 then zN 92 [some (.ref 73), some (.int v1)] [] (SH, I, J) else zN 97 [some (.ref 73), some (.int v1)] [] (SH, I, J)))))) rfl ?_
      refine zR_if (fun hc7 => zR_go ?_) (fun hc7 => ?_)
      · rw [if_pos hc7] at h
        refine zr_steps 2 (76, [some (.ref 73), some (.int v1)], [.int (I 73 55)], (SH, I, J)) rfl ?_
        have he := Option.some.inj h
        subst he
        exact zr_one (some (.inr (.inr (some (.int (I 73 55)))))) rfl (zR_ret rfl rfl)
      rw [if_neg hc7] at h
      refine zR_if (fun hc6 => zR_go ?_) (fun hc6 => ?_)
      · rw [if_pos hc6] at h
        refine zr_steps 2 (81, [some (.ref 73), some (.int v1)], [.int (I 73 56)], (SH, I, J)) rfl ?_
        have he := Option.some.inj h
        subst he
        exact zr_one (some (.inr (.inr (some (.int (I 73 56)))))) rfl (zR_ret rfl rfl)
      rw [if_neg hc6] at h
      refine zR_if (fun hc5 => zR_go ?_) (fun hc5 => ?_)
      · rw [if_pos hc5] at h
        refine zr_steps 2 (86, [some (.ref 73), some (.int v1)], [.int (I 73 57)], (SH, I, J)) rfl ?_
        have he := Option.some.inj h
        subst he
        exact zr_one (some (.inr (.inr (some (.int (I 73 57)))))) rfl (zR_ret rfl rfl)
      rw [if_neg hc5] at h
      refine zR_if (fun hc4 => zR_go ?_) (fun hc4 => ?_)
      · rw [if_pos hc4] at h
        refine zr_steps 2 (91, [some (.ref 73), some (.int v1)], [.int (I 73 58)], (SH, I, J)) rfl ?_
        have he := Option.some.inj h
        subst he
        exact zr_one (some (.inr (.inr (some (.int (I 73 58)))))) rfl (zR_ret rfl rfl)
      rw [if_neg hc4] at h
      refine zR_if (fun hc3 => zR_go ?_) (fun hc3 => ?_)
      · rw [if_pos hc3] at h
        refine zr_steps 2 (96, [some (.ref 73), some (.int v1)], [.int (I 73 59)], (SH, I, J)) rfl ?_
        have he := Option.some.inj h
        subst he
        exact zr_one (some (.inr (.inr (some (.int (I 73 59)))))) rfl (zR_ret rfl rfl)
      rw [if_neg hc3] at h
      refine zR_go ?_
      refine zr_steps 1 (100, [some (.ref 73), some (.int v1)], [.int (-2000000000)], (SH, I, J)) rfl ?_
      have he := Option.some.inj h
      subst he
      exact zr_one (some (.inr (.inr (some (.int (-2000000000)))))) rfl (zR_ret rfl rfl)
    · rw [if_neg hc9] at h
      refine zr_steps 5 (35, [some (.ref 73), some (.int v1)], [.int (v1 - 10), .ref 105], (SH, I, J)) rfl ?_
      obtain ⟨hc8, h⟩ := zbifo h
      refine zr_one (bif zin (v1 - 10) 4 then zN 36 [some (.ref 73), some (.int v1)] [.int (I 105 (v1 - 10).toNatClampNeg)] (SH, I, J) else none) rfl (zR_bif hc8 (zR_go ?_))
      have he := Option.some.inj h
      subst he
      exact zr_one (some (.inr (.inr (some (.int (I 105 (v1 - 10).toNatClampNeg)))))) rfl (zR_ret rfl rfl)
  · rw [if_neg hc10] at h
    refine zr_steps 1 (10, [some (.ref 73), some (.int v1)], [.int (-2000000000)], (SH, I, J)) rfl ?_
    have he := Option.some.inj h
    subst he
    exact zr_one (some (.inr (.inr (some (.int (-2000000000)))))) rfl (zR_ret rfl rfl)
def f101_isSortAndWay (v1 : Int32) (I : (Nat → Nat → Int32)) : Option Int32 :=
  if v1 < 0 then
    some 0
  else
    Option.bind (f62_isSort (v1 / 100) I) fun t2 =>
    if t2 = 0 then
      some 0
    else
      Option.bind (f63_areTwoSquares (v1 - v1 / 100 * 100) I) fun t4 =>
      if t4 = 0 then
        some 0
      else
        some 1
theorem ok_f101_isSortAndWay {X : zX} {d : Nat} (hd : 2 ≤ d) (v1 : Int32) {I : (Nat → Nat → Int32)} {J : (Nat → Nat → Int64)} (t : Int32) (h : f101_isSortAndWay v1 I = some t) : zRun X d 101 0 (zent 101 [.ref 0, .int v1]) [] (SH, I, J) (some (.int t)) (SH, I, J) := by
  unfold f101_isSortAndWay at h
  refine zr_steps 1 (1, [some (.ref 0), some (.int v1)], [.int v1], (SH, I, J)) rfl ?_
  refine zr_one (if v1 < 0 then zN 36 [some (.ref 0), some (.int v1)] [] (SH, I, J) else zN 4 [some (.ref 0), some (.int v1)] [] (SH, I, J)) rfl (zR_if (fun hc7 => zR_go ?_) (fun hc7 => zR_go ?_))
  · rw [if_pos hc7] at h
    refine zr_steps 1 (37, [some (.ref 0), some (.int v1)], [.int 0], (SH, I, J)) rfl ?_
    have he := Option.some.inj h
    subst he
    exact zr_one (if ((0 : Int32) = 0 ∨ (0 : Int32) = 1) then some (.inr (.inr (some (.int 0)))) else none) rfl (zR_pos (by decide) (zR_ret rfl rfl))
  · rw [if_neg hc7] at h
    refine zr_steps 4 (11, [some (.ref 0), some (.int v1)], [.int 100, .int v1, .ref 1], (SH, I, J)) rfl ?_
    refine zr_one (if (100 : Int32) = 0 then none else zN 12 [some (.ref 0), some (.int v1)] [.int (v1 / 100), .ref 1] (SH, I, J)) rfl (zR_div (by decide) (zR_go ?_))
    obtain ⟨t2, hc1, h⟩ := zbind h
    refine zr_one (some (.inr (.inl (62, [.ref 1, .int (v1 / 100)], [], 15)))) rfl (zR_call (by omega) rfl (ok_f62_isSort (by omega) (v1 / 100) _ hc1) ?_)
    refine zr_one (if t2 = 0 then zN 36 [some (.ref 0), some (.int v1)] [] (SH, I, J) else zN 18 [some (.ref 0), some (.int v1)] [] (SH, I, J)) rfl (zR_if (fun hc6 => zR_go ?_) (fun hc6 => zR_go ?_))
    · rw [if_pos hc6] at h
      refine zr_steps 1 (37, [some (.ref 0), some (.int v1)], [.int 0], (SH, I, J)) rfl ?_
      have he := Option.some.inj h
      subst he
      exact zr_one (if ((0 : Int32) = 0 ∨ (0 : Int32) = 1) then some (.inr (.inr (some (.int 0)))) else none) rfl (zR_pos (by decide) (zR_ret rfl rfl))
    · rw [if_neg hc6] at h
      refine zr_steps 4 (25, [some (.ref 0), some (.int v1)], [.int 100, .int v1, .ref 1], (SH, I, J)) rfl ?_
      refine zr_one (if (100 : Int32) = 0 then none else zN 26 [some (.ref 0), some (.int v1)] [.int (v1 - v1 / 100 * 100), .ref 1] (SH, I, J)) rfl (zR_div (by decide) (zR_go ?_))
      obtain ⟨t4, hc3, h⟩ := zbind h
      refine zr_one (some (.inr (.inl (63, [.ref 1, .int (v1 - v1 / 100 * 100)], [], 29)))) rfl (zR_call (by omega) rfl (ok_f63_areTwoSquares (by omega) (v1 - v1 / 100 * 100) _ hc3) ?_)
      refine zr_one (if t4 = 0 then zN 36 [some (.ref 0), some (.int v1)] [] (SH, I, J) else zN 32 [some (.ref 0), some (.int v1)] [] (SH, I, J)) rfl (zR_if (fun hc5 => zR_go ?_) (fun hc5 => zR_go ?_))
      · rw [if_pos hc5] at h
        refine zr_steps 1 (37, [some (.ref 0), some (.int v1)], [.int 0], (SH, I, J)) rfl ?_
        have he := Option.some.inj h
        subst he
        exact zr_one (if ((0 : Int32) = 0 ∨ (0 : Int32) = 1) then some (.inr (.inr (some (.int 0)))) else none) rfl (zR_pos (by decide) (zR_ret rfl rfl))
      · rw [if_neg hc5] at h
        refine zr_steps 2 (37, [some (.ref 0), some (.int v1)], [.int 1], (SH, I, J)) rfl ?_
        have he := Option.some.inj h
        subst he
        exact zr_one (if ((1 : Int32) = 0 ∨ (1 : Int32) = 1) then some (.inr (.inr (some (.int 1)))) else none) rfl (zR_pos (by decide) (zR_ret rfl rfl))
def f77_lastMinute (v1 : Int32) (v2 : Int32) (v3 : Int32) (I : (Nat → Nat → Int32)) : Option Int32 :=
  bif zin v1 8 then
  bif zin ((v2 * 4) + v3) 16 then
  if (0 : Int32) ≤ ((I 1 3) - ((I 11 v1.toNatClampNeg) * (I 14 ((v2 * 4) + v3).toNatClampNeg))) then
    some ((I 1 3) - ((I 11 v1.toNatClampNeg) * (I 14 ((v2 * 4) + v3).toNatClampNeg)))
  else
    some (-2)
  else none
  else none
theorem ok_f77_lastMinute {X : zX} {d : Nat} (hd : 0 ≤ d) (v1 : Int32) (v2 : Int32) (v3 : Int32) {I : (Nat → Nat → Int32)} {J : (Nat → Nat → Int64)} (t : Int32) (h : f77_lastMinute v1 v2 v3 I = some t) : zRun X d 77 0 (zent 77 [.ref 1, .int v1, .int v2, .int v3]) [] (SH, I, J) (some (.int t)) (SH, I, J) := by
  unfold f77_lastMinute at h
  refine zr_steps 5 (9, [some (.ref 1), some (.int v1), some (.int v2), some (.int v3), none], [.int v1, .ref 11, .int (I 1 3)], (SH, I, J)) rfl ?_
  obtain ⟨hc1, h⟩ := zbifo h
  refine zr_one (bif zin v1 8 then zN 10 [some (.ref 1), some (.int v1), some (.int v2), some (.int v3), none] [.int (I 11 v1.toNatClampNeg), .int (I 1 3)] (SH, I, J) else none) rfl (zR_bif hc1 (zR_go ?_))
  refine zr_steps 7 (19, [some (.ref 1), some (.int v1), some (.int v2), some (.int v3), none], [.int ((v2 * 4) + v3), .ref 14, .int (I 11 v1.toNatClampNeg), .int (I 1 3)], (SH, I, J)) rfl ?_
  obtain ⟨hc2, h⟩ := zbifo h
  refine zr_one (bif zin ((v2 * 4) + v3) 16 then zN 20 [some (.ref 1), some (.int v1), some (.int v2), some (.int v3), none] [.int (I 14 ((v2 * 4) + v3).toNatClampNeg), .int (I 11 v1.toNatClampNeg), .int (I 1 3)] (SH, I, J) else none) rfl (zR_bif hc2 (zR_go ?_))
  refine zr_steps 4 (26, [some (.ref 1), some (.int v1), some (.int v2), some (.int v3), some (.int ((I 1 3) - ((I 11 v1.toNatClampNeg) * (I 14 ((v2 * 4) + v3).toNatClampNeg))))], [.int ((I 1 3) - ((I 11 v1.toNatClampNeg) * (I 14 ((v2 * 4) + v3).toNatClampNeg)))], (SH, I, J)) rfl ?_
  refine zr_one (if (0 : Int32) ≤ ((I 1 3) - ((I 11 v1.toNatClampNeg) * (I 14 ((v2 * 4) + v3).toNatClampNeg))) then zN 34 [some (.ref 1), some (.int v1), some (.int v2), some (.int v3), some (.int ((I 1 3) - ((I 11 v1.toNatClampNeg) * (I 14 ((v2 * 4) + v3).toNatClampNeg))))] [] (SH, I, J) else zN 29 [some (.ref 1), some (.int v1), some (.int v2), some (.int v3), some (.int ((I 1 3) - ((I 11 v1.toNatClampNeg) * (I 14 ((v2 * 4) + v3).toNatClampNeg))))] [] (SH, I, J)) rfl (zR_if (fun hc3 => zR_go ?_) (fun hc3 => zR_go ?_))
  · rw [if_pos hc3] at h
    refine zr_steps 1 (36, [some (.ref 1), some (.int v1), some (.int v2), some (.int v3), some (.int ((I 1 3) - ((I 11 v1.toNatClampNeg) * (I 14 ((v2 * 4) + v3).toNatClampNeg))))], [.int ((I 1 3) - ((I 11 v1.toNatClampNeg) * (I 14 ((v2 * 4) + v3).toNatClampNeg)))], (SH, I, J)) rfl ?_
    have he := Option.some.inj h
    subst he
    exact zr_one (some (.inr (.inr (some (.int ((I 1 3) - ((I 11 v1.toNatClampNeg) * (I 14 ((v2 * 4) + v3).toNatClampNeg)))))))) rfl (zR_ret rfl rfl)
  · rw [if_neg hc3] at h
    refine zr_steps 2 (36, [some (.ref 1), some (.int v1), some (.int v2), some (.int v3), some (.int ((I 1 3) - ((I 11 v1.toNatClampNeg) * (I 14 ((v2 * 4) + v3).toNatClampNeg))))], [.int (-2)], (SH, I, J)) rfl ?_
    have he := Option.some.inj h
    subst he
    exact zr_one (some (.inr (.inr (some (.int (-2)))))) rfl (zR_ret rfl rfl)
def f99_last (v1 : Int32) (I : (Nat → Nat → Int32)) : Option Int32 :=
  Option.bind (f101_isSortAndWay v1 I) fun t2 =>
  if t2 = 0 then
    some (-1)
  else
    Option.bind (f77_lastMinute (v1 / 100) ((v1 / 10) - (v1 / 10) / 10 * 10) (v1 - v1 / 10 * 10) I) fun t4 =>
    some t4
theorem ok_f99_last {X : zX} {d : Nat} (hd : 3 ≤ d) (v1 : Int32) {I : (Nat → Nat → Int32)} {J : (Nat → Nat → Int64)} (t : Int32) (h : f99_last v1 I = some t) : zRun X d 99 0 (zent 99 [.ref 0, .int v1]) [] (SH, I, J) (some (.int t)) (SH, I, J) := by
  unfold f99_last at h
  refine zr_steps 2 (2, [some (.ref 0), some (.int v1)], [.int v1, .ref 0], (SH, I, J)) rfl ?_
  obtain ⟨t2, hc1, h⟩ := zbind h
  refine zr_one (some (.inr (.inl (101, [.ref 0, .int v1], [], 5)))) rfl (zR_call (by omega) rfl (ok_f101_isSortAndWay (by omega) v1 _ hc1) ?_)
  refine zr_one (if t2 = 0 then zN 8 [some (.ref 0), some (.int v1)] [] (SH, I, J) else zN 10 [some (.ref 0), some (.int v1)] [] (SH, I, J)) rfl (zR_if (fun hc5 => zR_go ?_) (fun hc5 => zR_go ?_))
  · rw [if_pos hc5] at h
    refine zr_steps 1 (9, [some (.ref 0), some (.int v1)], [.int (-1)], (SH, I, J)) rfl ?_
    have he := Option.some.inj h
    subst he
    exact zr_one (some (.inr (.inr (some (.int (-1)))))) rfl (zR_ret rfl rfl)
  · rw [if_neg hc5] at h
    refine zr_steps 4 (17, [some (.ref 0), some (.int v1)], [.int 100, .int v1, .ref 1], (SH, I, J)) rfl ?_
    refine zr_one (if (100 : Int32) = 0 then none else zN 18 [some (.ref 0), some (.int v1)] [.int (v1 / 100), .ref 1] (SH, I, J)) rfl (zR_div (by decide) (zR_go ?_))
    refine zr_steps 2 (21, [some (.ref 0), some (.int v1)], [.int 10, .int v1, .int (v1 / 100), .ref 1], (SH, I, J)) rfl ?_
    refine zr_one (if (10 : Int32) = 0 then none else zN 22 [some (.ref 0), some (.int v1)] [.int (v1 / 10), .int (v1 / 100), .ref 1] (SH, I, J)) rfl (zR_div (by decide) (zR_go ?_))
    refine zr_steps 1 (24, [some (.ref 0), some (.int v1)], [.int 10, .int (v1 / 10), .int (v1 / 100), .ref 1], (SH, I, J)) rfl ?_
    refine zr_one (if (10 : Int32) = 0 then none else zN 25 [some (.ref 0), some (.int v1)] [.int ((v1 / 10) - (v1 / 10) / 10 * 10), .int (v1 / 100), .ref 1] (SH, I, J)) rfl (zR_div (by decide) (zR_go ?_))
    refine zr_steps 2 (28, [some (.ref 0), some (.int v1)], [.int 10, .int v1, .int ((v1 / 10) - (v1 / 10) / 10 * 10), .int (v1 / 100), .ref 1], (SH, I, J)) rfl ?_
    refine zr_one (if (10 : Int32) = 0 then none else zN 29 [some (.ref 0), some (.int v1)] [.int (v1 - v1 / 10 * 10), .int ((v1 / 10) - (v1 / 10) / 10 * 10), .int (v1 / 100), .ref 1] (SH, I, J)) rfl (zR_div (by decide) (zR_go ?_))
    obtain ⟨t4, hc3, h⟩ := zbind h
    refine zr_one (some (.inr (.inl (77, [.ref 1, .int (v1 / 100), .int ((v1 / 10) - (v1 / 10) / 10 * 10), .int (v1 - v1 / 10 * 10)], [], 32)))) rfl (zR_call (by omega) rfl (ok_f77_lastMinute (by omega) (v1 / 100) ((v1 / 10) - (v1 / 10) / 10 * 10) (v1 - v1 / 10 * 10) _ hc3) ?_)
    have he := Option.some.inj h
    subst he
    exact zr_one (some (.inr (.inr (some (.int t4))))) rfl (zR_ret rfl rfl)
def f180_isTrip (v1 : Int32) (I : (Nat → Nat → Int32)) : Option Int32 :=
  if v1 < 0 then
    some 0
  else
    Option.bind (f131_isSort (v1 / 100) I) fun t2 =>
    if t2 = 0 then
      some 0
    else
      Option.bind (f130_isSquare ((v1 / 10) - (v1 / 10) / 10 * 10) I) fun t4 =>
      if t4 = 0 then
        some 0
      else
        Option.bind (f130_isSquare (v1 - v1 / 10 * 10) I) fun t6 =>
        if t6 = 0 then
          some 0
        else
          if ((v1 / 10) - (v1 / 10) / 10 * 10) = (v1 - v1 / 10 * 10) then
            some 0
          else
            some 1
theorem ok_f180_isTrip {X : zX} {d : Nat} (hd : 2 ≤ d) (v1 : Int32) {I : (Nat → Nat → Int32)} {J : (Nat → Nat → Int64)} (t : Int32) (h : f180_isTrip v1 I = some t) : zRun X d 180 0 (zent 180 [.ref 73, .int v1]) [] (SH, I, J) (some (.int t)) (SH, I, J) := by
  unfold f180_isTrip at h
  refine zr_steps 1 (1, [some (.ref 73), some (.int v1)], [.int v1], (SH, I, J)) rfl ?_
  refine zr_one (if v1 < 0 then zN 58 [some (.ref 73), some (.int v1)] [] (SH, I, J) else zN 4 [some (.ref 73), some (.int v1)] [] (SH, I, J)) rfl (zR_if (fun hc11 => zR_go ?_) (fun hc11 => zR_go ?_))
  · rw [if_pos hc11] at h
    refine zr_steps 1 (59, [some (.ref 73), some (.int v1)], [.int 0], (SH, I, J)) rfl ?_
    have he := Option.some.inj h
    subst he
    exact zr_one (if ((0 : Int32) = 0 ∨ (0 : Int32) = 1) then some (.inr (.inr (some (.int 0)))) else none) rfl (zR_pos (by decide) (zR_ret rfl rfl))
  · rw [if_neg hc11] at h
    refine zr_steps 3 (8, [some (.ref 73), some (.int v1)], [.int 100, .int v1, .ref 73], (SH, I, J)) rfl ?_
    refine zr_one (if (100 : Int32) = 0 then none else zN 9 [some (.ref 73), some (.int v1)] [.int (v1 / 100), .ref 73] (SH, I, J)) rfl (zR_div (by decide) (zR_go ?_))
    obtain ⟨t2, hc1, h⟩ := zbind h
    refine zr_one (some (.inr (.inl (131, [.ref 73, .int (v1 / 100)], [], 12)))) rfl (zR_call (by omega) rfl (ok_f131_isSort (by omega) (v1 / 100) _ hc1) ?_)
    refine zr_one (if t2 = 0 then zN 58 [some (.ref 73), some (.int v1)] [] (SH, I, J) else zN 15 [some (.ref 73), some (.int v1)] [] (SH, I, J)) rfl (zR_if (fun hc10 => zR_go ?_) (fun hc10 => zR_go ?_))
    · rw [if_pos hc10] at h
      refine zr_steps 1 (59, [some (.ref 73), some (.int v1)], [.int 0], (SH, I, J)) rfl ?_
      have he := Option.some.inj h
      subst he
      exact zr_one (if ((0 : Int32) = 0 ∨ (0 : Int32) = 1) then some (.inr (.inr (some (.int 0)))) else none) rfl (zR_pos (by decide) (zR_ret rfl rfl))
    · rw [if_neg hc10] at h
      refine zr_steps 3 (19, [some (.ref 73), some (.int v1)], [.int 10, .int v1, .ref 73], (SH, I, J)) rfl ?_
      refine zr_one (if (10 : Int32) = 0 then none else zN 20 [some (.ref 73), some (.int v1)] [.int (v1 / 10), .ref 73] (SH, I, J)) rfl (zR_div (by decide) (zR_go ?_))
      refine zr_steps 1 (22, [some (.ref 73), some (.int v1)], [.int 10, .int (v1 / 10), .ref 73], (SH, I, J)) rfl ?_
      refine zr_one (if (10 : Int32) = 0 then none else zN 23 [some (.ref 73), some (.int v1)] [.int ((v1 / 10) - (v1 / 10) / 10 * 10), .ref 73] (SH, I, J)) rfl (zR_div (by decide) (zR_go ?_))
      obtain ⟨t4, hc3, h⟩ := zbind h
      refine zr_one (some (.inr (.inl (130, [.ref 73, .int ((v1 / 10) - (v1 / 10) / 10 * 10)], [], 26)))) rfl (zR_call (by omega) rfl (ok_f130_isSquare (by omega) ((v1 / 10) - (v1 / 10) / 10 * 10) _ hc3) ?_)
      refine zr_one (if t4 = 0 then zN 58 [some (.ref 73), some (.int v1)] [] (SH, I, J) else zN 29 [some (.ref 73), some (.int v1)] [] (SH, I, J)) rfl (zR_if (fun hc9 => zR_go ?_) (fun hc9 => zR_go ?_))
      · rw [if_pos hc9] at h
        refine zr_steps 1 (59, [some (.ref 73), some (.int v1)], [.int 0], (SH, I, J)) rfl ?_
        have he := Option.some.inj h
        subst he
        exact zr_one (if ((0 : Int32) = 0 ∨ (0 : Int32) = 1) then some (.inr (.inr (some (.int 0)))) else none) rfl (zR_pos (by decide) (zR_ret rfl rfl))
      · rw [if_neg hc9] at h
        refine zr_steps 3 (33, [some (.ref 73), some (.int v1)], [.int 10, .int v1, .ref 73], (SH, I, J)) rfl ?_
        refine zr_one (if (10 : Int32) = 0 then none else zN 34 [some (.ref 73), some (.int v1)] [.int (v1 - v1 / 10 * 10), .ref 73] (SH, I, J)) rfl (zR_div (by decide) (zR_go ?_))
        obtain ⟨t6, hc5, h⟩ := zbind h
        refine zr_one (some (.inr (.inl (130, [.ref 73, .int (v1 - v1 / 10 * 10)], [], 37)))) rfl (zR_call (by omega) rfl (ok_f130_isSquare (by omega) (v1 - v1 / 10 * 10) _ hc5) ?_)
        refine zr_one (if t6 = 0 then zN 58 [some (.ref 73), some (.int v1)] [] (SH, I, J) else zN 40 [some (.ref 73), some (.int v1)] [] (SH, I, J)) rfl (zR_if (fun hc8 => zR_go ?_) (fun hc8 => zR_go ?_))
        · rw [if_pos hc8] at h
          refine zr_steps 1 (59, [some (.ref 73), some (.int v1)], [.int 0], (SH, I, J)) rfl ?_
          have he := Option.some.inj h
          subst he
          exact zr_one (if ((0 : Int32) = 0 ∨ (0 : Int32) = 1) then some (.inr (.inr (some (.int 0)))) else none) rfl (zR_pos (by decide) (zR_ret rfl rfl))
        · rw [if_neg hc8] at h
          refine zr_steps 2 (43, [some (.ref 73), some (.int v1)], [.int 10, .int v1], (SH, I, J)) rfl ?_
          refine zr_one (if (10 : Int32) = 0 then none else zN 44 [some (.ref 73), some (.int v1)] [.int (v1 / 10)] (SH, I, J)) rfl (zR_div (by decide) (zR_go ?_))
          refine zr_steps 1 (46, [some (.ref 73), some (.int v1)], [.int 10, .int (v1 / 10)], (SH, I, J)) rfl ?_
          refine zr_one (if (10 : Int32) = 0 then none else zN 47 [some (.ref 73), some (.int v1)] [.int ((v1 / 10) - (v1 / 10) / 10 * 10)] (SH, I, J)) rfl (zR_div (by decide) (zR_go ?_))
          refine zr_steps 2 (50, [some (.ref 73), some (.int v1)], [.int 10, .int v1, .int ((v1 / 10) - (v1 / 10) / 10 * 10)], (SH, I, J)) rfl ?_
          refine zr_one (if (10 : Int32) = 0 then none else zN 51 [some (.ref 73), some (.int v1)] [.int (v1 - v1 / 10 * 10), .int ((v1 / 10) - (v1 / 10) / 10 * 10)] (SH, I, J)) rfl (zR_div (by decide) (zR_go ?_))
          refine zr_one (if ((v1 / 10) - (v1 / 10) / 10 * 10) = (v1 - v1 / 10 * 10) then zN 58 [some (.ref 73), some (.int v1)] [] (SH, I, J) else zN 54 [some (.ref 73), some (.int v1)] [] (SH, I, J)) rfl (zR_if (fun hc7 => zR_go ?_) (fun hc7 => zR_go ?_))
          · rw [if_pos hc7] at h
            refine zr_steps 1 (59, [some (.ref 73), some (.int v1)], [.int 0], (SH, I, J)) rfl ?_
            have he := Option.some.inj h
            subst he
            exact zr_one (if ((0 : Int32) = 0 ∨ (0 : Int32) = 1) then some (.inr (.inr (some (.int 0)))) else none) rfl (zR_pos (by decide) (zR_ret rfl rfl))
          · rw [if_neg hc7] at h
            refine zr_steps 2 (59, [some (.ref 73), some (.int v1)], [.int 1], (SH, I, J)) rfl ?_
            have he := Option.some.inj h
            subst he
            exact zr_one (if ((1 : Int32) = 0 ∨ (1 : Int32) = 1) then some (.inr (.inr (some (.int 1)))) else none) rfl (zR_pos (by decide) (zR_ret rfl rfl))
def f178_nearer (v1 : Int32) (v2 : Int32) (v3 : Int32) (I : (Nat → Nat → Int32)) : Option (Nat → Nat → Int32) :=
  bif zin v1 4 then
  if (I 106 v1.toNatClampNeg) < 0 then
    some I
  else
    bif zin v2 4 then
    if (I 106 v2.toNatClampNeg) < 0 then
      bif zin v1 4 then
      bif zin v2 4 then
      some (zu I 106 v2.toNatClampNeg ((I 106 v1.toNatClampNeg) + v3))
      else none
      else none
    else
      bif zin v1 4 then
      bif zin v2 4 then
      if (I 106 v2.toNatClampNeg) ≤ ((I 106 v1.toNatClampNeg) + v3) then
        some I
      else
        bif zin v1 4 then
        bif zin v2 4 then
        some (zu I 106 v2.toNatClampNeg ((I 106 v1.toNatClampNeg) + v3))
        else none
        else none
      else none
      else none
    else none
  else none
theorem ok_f178_nearer {X : zX} {d : Nat} (hd : 0 ≤ d) (v1 : Int32) (v2 : Int32) (v3 : Int32) {I : (Nat → Nat → Int32)} {J : (Nat → Nat → Int64)} (t : (Nat → Nat → Int32)) (h : f178_nearer v1 v2 v3 I = some t) : zRun X d 178 0 (zent 178 [.ref 73, .int v1, .int v2, .int v3]) [] (SH, I, J) none (SH, t, J) := by
  unfold f178_nearer at h
  refine zr_steps 3 (5, [some (.ref 73), some (.int v1), some (.int v2), some (.int v3)], [.int v1, .ref 106], (SH, I, J)) rfl ?_
  obtain ⟨hc1, h⟩ := zbifo h
  refine zr_one (bif zin v1 4 then zN 6 [some (.ref 73), some (.int v1), some (.int v2), some (.int v3)] [.int (I 106 v1.toNatClampNeg)] (SH, I, J) else none) rfl (zR_bif hc1 (zR_go ?_))
  refine zr_one (if (I 106 v1.toNatClampNeg) < 0 then zN 49 [some (.ref 73), some (.int v1), some (.int v2), some (.int v3)] [] (SH, I, J) else zN 9 [some (.ref 73), some (.int v1), some (.int v2), some (.int v3)] [] (SH, I, J)) rfl (zR_if (fun hc11 => zR_go ?_) (fun hc11 => zR_go ?_))
  · rw [if_pos hc11] at h
    have he := Option.some.inj h
    subst he
    exact zr_one (some (.inr (.inr none))) rfl (zR_ret rfl rfl)
  · rw [if_neg hc11] at h
    refine zr_steps 3 (14, [some (.ref 73), some (.int v1), some (.int v2), some (.int v3)], [.int v2, .ref 106], (SH, I, J)) rfl ?_
    obtain ⟨hc2, h⟩ := zbifo h
    refine zr_one (bif zin v2 4 then zN 15 [some (.ref 73), some (.int v1), some (.int v2), some (.int v3)] [.int (I 106 v2.toNatClampNeg)] (SH, I, J) else none) rfl (zR_bif hc2 (zR_go ?_))
    refine zr_one (if (I 106 v2.toNatClampNeg) < 0 then zN 35 [some (.ref 73), some (.int v1), some (.int v2), some (.int v3)] [] (SH, I, J) else zN 18 [some (.ref 73), some (.int v1), some (.int v2), some (.int v3)] [] (SH, I, J)) rfl (zR_if (fun hc10 => zR_go ?_) (fun hc10 => zR_go ?_))
    · rw [if_pos hc10] at h
      refine zr_steps 6 (45, [some (.ref 73), some (.int v1), some (.int v2), some (.int v3)], [.int v1, .ref 106, .int v2, .ref 106], (SH, I, J)) rfl ?_
      obtain ⟨hc3, h⟩ := zbifo h
      refine zr_one (bif zin v1 4 then zN 46 [some (.ref 73), some (.int v1), some (.int v2), some (.int v3)] [.int (I 106 v1.toNatClampNeg), .int v2, .ref 106] (SH, I, J) else none) rfl (zR_bif hc3 (zR_go ?_))
      refine zr_steps 2 (48, [some (.ref 73), some (.int v1), some (.int v2), some (.int v3)], [.int ((I 106 v1.toNatClampNeg) + v3), .int v2, .ref 106], (SH, I, J)) rfl ?_
      obtain ⟨hc4, h⟩ := zbifo h
      refine zr_one (bif zin v2 4 then zN 49 [some (.ref 73), some (.int v1), some (.int v2), some (.int v3)] [] (SH, (zu I 106 v2.toNatClampNeg ((I 106 v1.toNatClampNeg) + v3)), J) else none) rfl (zR_bif hc4 (zR_go ?_))
      have he := Option.some.inj h
      subst he
      exact zr_one (some (.inr (.inr none))) rfl (zR_ret rfl rfl)
    · rw [if_neg hc10] at h
      refine zr_steps 3 (23, [some (.ref 73), some (.int v1), some (.int v2), some (.int v3)], [.int v1, .ref 106], (SH, I, J)) rfl ?_
      obtain ⟨hc5, h⟩ := zbifo h
      refine zr_one (bif zin v1 4 then zN 24 [some (.ref 73), some (.int v1), some (.int v2), some (.int v3)] [.int (I 106 v1.toNatClampNeg)] (SH, I, J) else none) rfl (zR_bif hc5 (zR_go ?_))
      refine zr_steps 5 (31, [some (.ref 73), some (.int v1), some (.int v2), some (.int v3)], [.int v2, .ref 106, .int ((I 106 v1.toNatClampNeg) + v3)], (SH, I, J)) rfl ?_
      obtain ⟨hc6, h⟩ := zbifo h
      refine zr_one (bif zin v2 4 then zN 32 [some (.ref 73), some (.int v1), some (.int v2), some (.int v3)] [.int (I 106 v2.toNatClampNeg), .int ((I 106 v1.toNatClampNeg) + v3)] (SH, I, J) else none) rfl (zR_bif hc6 (zR_go ?_))
      refine zr_one (if (I 106 v2.toNatClampNeg) ≤ ((I 106 v1.toNatClampNeg) + v3) then zN 49 [some (.ref 73), some (.int v1), some (.int v2), some (.int v3)] [] (SH, I, J) else zN 35 [some (.ref 73), some (.int v1), some (.int v2), some (.int v3)] [] (SH, I, J)) rfl (zR_if (fun hc9 => zR_go ?_) (fun hc9 => zR_go ?_))
      · rw [if_pos hc9] at h
        have he := Option.some.inj h
        subst he
        exact zr_one (some (.inr (.inr none))) rfl (zR_ret rfl rfl)
      · rw [if_neg hc9] at h
        refine zr_steps 6 (45, [some (.ref 73), some (.int v1), some (.int v2), some (.int v3)], [.int v1, .ref 106, .int v2, .ref 106], (SH, I, J)) rfl ?_
        obtain ⟨hc7, h⟩ := zbifo h
        refine zr_one (bif zin v1 4 then zN 46 [some (.ref 73), some (.int v1), some (.int v2), some (.int v3)] [.int (I 106 v1.toNatClampNeg), .int v2, .ref 106] (SH, I, J) else none) rfl (zR_bif hc7 (zR_go ?_))
        refine zr_steps 2 (48, [some (.ref 73), some (.int v1), some (.int v2), some (.int v3)], [.int ((I 106 v1.toNatClampNeg) + v3), .int v2, .ref 106], (SH, I, J)) rfl ?_
        obtain ⟨hc8, h⟩ := zbifo h
        refine zr_one (bif zin v2 4 then zN 49 [some (.ref 73), some (.int v1), some (.int v2), some (.int v3)] [] (SH, (zu I 106 v2.toNatClampNeg ((I 106 v1.toNatClampNeg) + v3)), J) else none) rfl (zR_bif hc8 (zR_go ?_))
        have he := Option.some.inj h
        subst he
        exact zr_one (some (.inr (.inr none))) rfl (zR_ret rfl rfl)
def f177_fewest_L2 (v1 : Int32) (v2 : Int32) (s : (Int32 × (Nat → Nat → Int32))) : Option ((Int32 × (Nat → Nat → Int32)) ⊕ (Int32 × (Nat → Nat → Int32))) :=
  if (s.2 73 1) ≤ s.1 then
    some (.inl (s.1, s.2))
  else
    if s.1 = v1 then
      bif zin s.1 4 then
      some (.inr ((s.1 + 1), (zu s.2 106 s.1.toNatClampNeg 0)))
      else none
    else
      bif zin s.1 4 then
      some (.inr ((s.1 + 1), (zu s.2 106 s.1.toNatClampNeg (-1))))
      else none
def f177_fewest_L45 (v2 : Int32) (v3 : Int32) (s : (Int32 × (Nat → Nat → Int32))) : Option ((Int32 × (Nat → Nat → Int32)) ⊕ (Int32 × (Nat → Nat → Int32))) :=
  if (s.2 73 4) ≤ s.1 then
    some (.inl (s.1, s.2))
  else
    bif zin s.1 12 then
    bif zin s.1 12 then
    bif zin s.1 12 then
    Option.bind (f178_nearer (s.2 76 s.1.toNatClampNeg) (s.2 77 s.1.toNatClampNeg) (s.2 78 s.1.toNatClampNeg) s.2) fun t11 =>
    bif zin s.1 12 then
    bif zin s.1 12 then
    bif zin s.1 12 then
    Option.bind (f178_nearer (t11 77 s.1.toNatClampNeg) (t11 76 s.1.toNatClampNeg) (t11 78 s.1.toNatClampNeg) t11) fun t16 =>
    some (.inr ((s.1 + 1), t16))
    else none
    else none
    else none
    else none
    else none
    else none
def f177_fewest_L34 (v2 : Int32) (s : (Int32 × (Nat → Nat → Int32))) : Option ((Int32 × (Nat → Nat → Int32)) ⊕ (Int32 × (Nat → Nat → Int32))) :=
  if (s.2 73 1) ≤ s.1 then
    some (.inl (s.1, s.2))
  else
    Option.bind (zloop (f177_fewest_L45 v2 s.1) 5000 ((0 : Int32), s.2)) fun s18 =>
    some (.inr ((s.1 + 1), s18.2))
def f177_fewest (v1 : Int32) (v2 : Int32) (I : (Nat → Nat → Int32)) : Option (Int32 × (Nat → Nat → Int32)) :=
  Option.bind (zloop (f177_fewest_L2 v1 v2) 5000 ((0 : Int32), I)) fun s5 =>
  Option.bind (zloop (f177_fewest_L34 v2) 5000 ((0 : Int32), s5.2)) fun s21 =>
  bif zin v2 4 then
  some ((s21.2 106 v2.toNatClampNeg), s21.2)
  else none
theorem ok_f177_fewest_L2 {X : zX} {d : Nat} {r : Option Value} {M' : zM} (hd : 1 ≤ d) (v1 : Int32) (v2 : Int32) {J : (Nat → Nat → Int64)} : ∀ (n : Nat) (s x : (Int32 × (Nat → Nat → Int32))), zloop (f177_fewest_L2 v1 v2) n s = some x → (fun (x : (Int32 × (Nat → Nat → Int32))) => zRun X d 177 32 [some (.ref 73), none, some (.int v2), none, none] [] (SH, x.2, J) r M') x → (fun (s : (Int32 × (Nat → Nat → Int32))) => zRun X d 177 2 [some (.ref 73), some (.int v1), some (.int v2), some (.int s.1), none] [] (SH, s.2, J) r M') s := zloop_ok (Wh := fun (s : (Int32 × (Nat → Nat → Int32))) => zRun X d 177 2 [some (.ref 73), some (.int v1), some (.int v2), some (.int s.1), none] [] (SH, s.2, J) r M') (Wx := fun (x : (Int32 × (Nat → Nat → Int32))) => zRun X d 177 32 [some (.ref 73), none, some (.int v2), none, none] [] (SH, x.2, J) r M') (fun s y h w => by
  unfold f177_fewest_L2 at h
  refine zr_steps 3 (7, [some (.ref 73), some (.int v1), some (.int v2), some (.int s.1), none], [.int (s.2 73 1), .int s.1], (SH, s.2, J)) rfl ?_
  refine zr_one (if (s.2 73 1) ≤ s.1 then zN 32 [some (.ref 73), some (.int v1), some (.int v2), some (.int s.1), none] [] (SH, s.2, J) else zN 10 [some (.ref 73), some (.int v1), some (.int v2), some (.int s.1), none] [] (SH, s.2, J)) rfl (zR_if (fun hc4 => zR_go ?_) (fun hc4 => zR_go ?_))
  · rw [if_pos hc4] at h
    have he := Option.some.inj h
    subst he
    exact zr_hdr rfl rfl (show zRun X d 177 32 [some (.ref 73), none, some (.int v2), none, none] [] (SH, s.2, J) r M' from w)
  · rw [if_neg hc4] at h
    refine zr_steps 5 (17, [some (.ref 73), some (.int v1), some (.int v2), some (.int s.1), none], [.int v1, .int s.1, .int s.1, .ref 106], (SH, s.2, J)) rfl ?_
    refine zr_one (if s.1 = v1 then zN 20 [some (.ref 73), some (.int v1), some (.int v2), some (.int s.1), none] [.int s.1, .ref 106] (SH, s.2, J) else zN 24 [some (.ref 73), some (.int v1), some (.int v2), some (.int s.1), none] [.int s.1, .ref 106] (SH, s.2, J)) rfl (zR_if (fun hc3 => zR_go ?_) (fun hc3 => zR_go ?_))
    · rw [if_pos hc3] at h
      refine zr_steps 2 (25, [some (.ref 73), some (.int v1), some (.int v2), some (.int s.1), none], [.int 0, .int s.1, .ref 106], (SH, s.2, J)) rfl ?_
      obtain ⟨hc1, h⟩ := zbifo h
      refine zr_one (bif zin s.1 4 then zN 26 [some (.ref 73), some (.int v1), some (.int v2), some (.int s.1), none] [] (SH, (zu s.2 106 s.1.toNatClampNeg 0), J) else none) rfl (zR_bif hc1 (zR_go ?_))
      refine zr_steps 2 (2, [some (.ref 73), some (.int v1), some (.int v2), some (.int (s.1 + 1)), none], [], (SH, (zu s.2 106 s.1.toNatClampNeg 0), J)) rfl ?_
      have he := Option.some.inj h
      subst he
      exact zr_hdr rfl rfl (show zRun X d 177 2 [some (.ref 73), some (.int v1), some (.int v2), some (.int (s.1 + 1)), none] [] (SH, (zu s.2 106 s.1.toNatClampNeg 0), J) r M' from w)
    · rw [if_neg hc3] at h
      refine zr_steps 1 (25, [some (.ref 73), some (.int v1), some (.int v2), some (.int s.1), none], [.int (-1), .int s.1, .ref 106], (SH, s.2, J)) rfl ?_
      obtain ⟨hc2, h⟩ := zbifo h
      refine zr_one (bif zin s.1 4 then zN 26 [some (.ref 73), some (.int v1), some (.int v2), some (.int s.1), none] [] (SH, (zu s.2 106 s.1.toNatClampNeg (-1)), J) else none) rfl (zR_bif hc2 (zR_go ?_))
      refine zr_steps 2 (2, [some (.ref 73), some (.int v1), some (.int v2), some (.int (s.1 + 1)), none], [], (SH, (zu s.2 106 s.1.toNatClampNeg (-1)), J)) rfl ?_
      have he := Option.some.inj h
      subst he
      exact zr_hdr rfl rfl (show zRun X d 177 2 [some (.ref 73), some (.int v1), some (.int v2), some (.int (s.1 + 1)), none] [] (SH, (zu s.2 106 s.1.toNatClampNeg (-1)), J) r M' from w))
theorem ok_f177_fewest_L45 {X : zX} {d : Nat} {r : Option Value} {M' : zM} (hd : 1 ≤ d) (v2 : Int32) (v3 : Int32) {J : (Nat → Nat → Int64)} : ∀ (n : Nat) (s x : (Int32 × (Nat → Nat → Int32))), zloop (f177_fewest_L45 v2 v3) n s = some x → (fun (x : (Int32 × (Nat → Nat → Int32))) => zRun X d 177 110 [some (.ref 73), none, some (.int v2), some (.int v3), none] [] (SH, x.2, J) r M') x → (fun (s : (Int32 × (Nat → Nat → Int32))) => zRun X d 177 45 [some (.ref 73), none, some (.int v2), some (.int v3), some (.int s.1)] [] (SH, s.2, J) r M') s := zloop_ok (Wh := fun (s : (Int32 × (Nat → Nat → Int32))) => zRun X d 177 45 [some (.ref 73), none, some (.int v2), some (.int v3), some (.int s.1)] [] (SH, s.2, J) r M') (Wx := fun (x : (Int32 × (Nat → Nat → Int32))) => zRun X d 177 110 [some (.ref 73), none, some (.int v2), some (.int v3), none] [] (SH, x.2, J) r M') (fun s y h w => by
  unfold f177_fewest_L45 at h
  refine zr_steps 3 (51, [some (.ref 73), none, some (.int v2), some (.int v3), some (.int s.1)], [.int (s.2 73 4), .int s.1], (SH, s.2, J)) rfl ?_
  refine zr_one (if (s.2 73 4) ≤ s.1 then zN 110 [some (.ref 73), none, some (.int v2), some (.int v3), some (.int s.1)] [] (SH, s.2, J) else zN 54 [some (.ref 73), none, some (.int v2), some (.int v3), some (.int s.1)] [] (SH, s.2, J)) rfl (zR_if (fun hc17 => zR_go ?_) (fun hc17 => zR_go ?_))
  · rw [if_pos hc17] at h
    have he := Option.some.inj h
    subst he
    exact zr_hdr rfl rfl (show zRun X d 177 110 [some (.ref 73), none, some (.int v2), some (.int v3), none] [] (SH, s.2, J) r M' from w)
  · rw [if_neg hc17] at h
    refine zr_steps 4 (61, [some (.ref 73), none, some (.int v2), some (.int v3), some (.int s.1)], [.int s.1, .ref 76, .ref 73], (SH, s.2, J)) rfl ?_
    obtain ⟨hc7, h⟩ := zbifo h
    refine zr_one (bif zin s.1 12 then zN 62 [some (.ref 73), none, some (.int v2), some (.int v3), some (.int s.1)] [.int (s.2 76 s.1.toNatClampNeg), .ref 73] (SH, s.2, J) else none) rfl (zR_bif hc7 (zR_go ?_))
    refine zr_steps 3 (68, [some (.ref 73), none, some (.int v2), some (.int v3), some (.int s.1)], [.int s.1, .ref 77, .int (s.2 76 s.1.toNatClampNeg), .ref 73], (SH, s.2, J)) rfl ?_
    obtain ⟨hc8, h⟩ := zbifo h
    refine zr_one (bif zin s.1 12 then zN 69 [some (.ref 73), none, some (.int v2), some (.int v3), some (.int s.1)] [.int (s.2 77 s.1.toNatClampNeg), .int (s.2 76 s.1.toNatClampNeg), .ref 73] (SH, s.2, J) else none) rfl (zR_bif hc8 (zR_go ?_))
    refine zr_steps 3 (75, [some (.ref 73), none, some (.int v2), some (.int v3), some (.int s.1)], [.int s.1, .ref 78, .int (s.2 77 s.1.toNatClampNeg), .int (s.2 76 s.1.toNatClampNeg), .ref 73], (SH, s.2, J)) rfl ?_
    obtain ⟨hc9, h⟩ := zbifo h
    refine zr_one (bif zin s.1 12 then zN 76 [some (.ref 73), none, some (.int v2), some (.int v3), some (.int s.1)] [.int (s.2 78 s.1.toNatClampNeg), .int (s.2 77 s.1.toNatClampNeg), .int (s.2 76 s.1.toNatClampNeg), .ref 73] (SH, s.2, J) else none) rfl (zR_bif hc9 (zR_go ?_))
    obtain ⟨t11, hc10, h⟩ := zbind h
    refine zr_one (some (.inr (.inl (178, [.ref 73, .int (s.2 76 s.1.toNatClampNeg), .int (s.2 77 s.1.toNatClampNeg), .int (s.2 78 s.1.toNatClampNeg)], [], 79)))) rfl (zR_call (by omega) rfl (ok_f178_nearer (by omega) (s.2 76 s.1.toNatClampNeg) (s.2 77 s.1.toNatClampNeg) (s.2 78 s.1.toNatClampNeg) _ hc10) ?_)
    refine zr_steps 4 (86, [some (.ref 73), none, some (.int v2), some (.int v3), some (.int s.1)], [.int s.1, .ref 77, .ref 73], (SH, t11, J)) rfl ?_
    obtain ⟨hc12, h⟩ := zbifo h
    refine zr_one (bif zin s.1 12 then zN 87 [some (.ref 73), none, some (.int v2), some (.int v3), some (.int s.1)] [.int (t11 77 s.1.toNatClampNeg), .ref 73] (SH, t11, J) else none) rfl (zR_bif hc12 (zR_go ?_))
    refine zr_steps 3 (93, [some (.ref 73), none, some (.int v2), some (.int v3), some (.int s.1)], [.int s.1, .ref 76, .int (t11 77 s.1.toNatClampNeg), .ref 73], (SH, t11, J)) rfl ?_
    obtain ⟨hc13, h⟩ := zbifo h
    refine zr_one (bif zin s.1 12 then zN 94 [some (.ref 73), none, some (.int v2), some (.int v3), some (.int s.1)] [.int (t11 76 s.1.toNatClampNeg), .int (t11 77 s.1.toNatClampNeg), .ref 73] (SH, t11, J) else none) rfl (zR_bif hc13 (zR_go ?_))
    refine zr_steps 3 (100, [some (.ref 73), none, some (.int v2), some (.int v3), some (.int s.1)], [.int s.1, .ref 78, .int (t11 76 s.1.toNatClampNeg), .int (t11 77 s.1.toNatClampNeg), .ref 73], (SH, t11, J)) rfl ?_
    obtain ⟨hc14, h⟩ := zbifo h
    refine zr_one (bif zin s.1 12 then zN 101 [some (.ref 73), none, some (.int v2), some (.int v3), some (.int s.1)] [.int (t11 78 s.1.toNatClampNeg), .int (t11 76 s.1.toNatClampNeg), .int (t11 77 s.1.toNatClampNeg), .ref 73] (SH, t11, J) else none) rfl (zR_bif hc14 (zR_go ?_))
    obtain ⟨t16, hc15, h⟩ := zbind h
    refine zr_one (some (.inr (.inl (178, [.ref 73, .int (t11 77 s.1.toNatClampNeg), .int (t11 76 s.1.toNatClampNeg), .int (t11 78 s.1.toNatClampNeg)], [], 104)))) rfl (zR_call (by omega) rfl (ok_f178_nearer (by omega) (t11 77 s.1.toNatClampNeg) (t11 76 s.1.toNatClampNeg) (t11 78 s.1.toNatClampNeg) _ hc15) ?_)
    refine zr_steps 2 (45, [some (.ref 73), none, some (.int v2), some (.int v3), some (.int (s.1 + 1))], [], (SH, t16, J)) rfl ?_
    have he := Option.some.inj h
    subst he
    exact zr_hdr rfl rfl (show zRun X d 177 45 [some (.ref 73), none, some (.int v2), some (.int v3), some (.int (s.1 + 1))] [] (SH, t16, J) r M' from w))
theorem ok_f177_fewest_L34 {X : zX} {d : Nat} {r : Option Value} {M' : zM} (hd : 1 ≤ d) (v2 : Int32) {J : (Nat → Nat → Int64)} : ∀ (n : Nat) (s x : (Int32 × (Nat → Nat → Int32))), zloop (f177_fewest_L34 v2) n s = some x → (fun (x : (Int32 × (Nat → Nat → Int32))) => zRun X d 177 116 [some (.ref 73), none, some (.int v2), none, none] [] (SH, x.2, J) r M') x → (fun (s : (Int32 × (Nat → Nat → Int32))) => zRun X d 177 34 [some (.ref 73), none, some (.int v2), some (.int s.1), none] [] (SH, s.2, J) r M') s := zloop_ok (Wh := fun (s : (Int32 × (Nat → Nat → Int32))) => zRun X d 177 34 [some (.ref 73), none, some (.int v2), some (.int s.1), none] [] (SH, s.2, J) r M') (Wx := fun (x : (Int32 × (Nat → Nat → Int32))) => zRun X d 177 116 [some (.ref 73), none, some (.int v2), none, none] [] (SH, x.2, J) r M') (fun s y h w => by
  unfold f177_fewest_L34 at h
  refine zr_steps 3 (39, [some (.ref 73), none, some (.int v2), some (.int s.1), none], [.int (s.2 73 1), .int s.1], (SH, s.2, J)) rfl ?_
  refine zr_one (if (s.2 73 1) ≤ s.1 then zN 116 [some (.ref 73), none, some (.int v2), some (.int s.1), none] [] (SH, s.2, J) else zN 42 [some (.ref 73), none, some (.int v2), some (.int s.1), none] [] (SH, s.2, J)) rfl (zR_if (fun hc20 => zR_go ?_) (fun hc20 => zR_go ?_))
  · rw [if_pos hc20] at h
    have he := Option.some.inj h
    subst he
    exact zr_hdr rfl rfl (show zRun X d 177 116 [some (.ref 73), none, some (.int v2), none, none] [] (SH, s.2, J) r M' from w)
  · rw [if_neg hc20] at h
    refine zr_steps 2 (45, [some (.ref 73), none, some (.int v2), some (.int s.1), some (.int 0)], [], (SH, s.2, J)) rfl ?_
    obtain ⟨s18, ho19, h⟩ := zbind h
    refine zr_hdr (ls2 := [some (.ref 73), none, some (.int v2), some (.int s.1), some (.int 0)]) rfl rfl ?_
    refine ok_f177_fewest_L45 (by omega) v2 s.1 5000 ((0 : Int32), s.2) s18 ho19 ?_
    show zRun X d 177 110 [some (.ref 73), none, some (.int v2), some (.int s.1), none] [] (SH, s18.2, J) _ _
    refine zr_steps 2 (34, [some (.ref 73), none, some (.int v2), some (.int (s.1 + 1)), none], [], (SH, s18.2, J)) rfl ?_
    have he := Option.some.inj h
    subst he
    exact zr_hdr rfl rfl (show zRun X d 177 34 [some (.ref 73), none, some (.int v2), some (.int (s.1 + 1)), none] [] (SH, s18.2, J) r M' from w))
theorem ok_f177_fewest {X : zX} {d : Nat} (hd : 1 ≤ d) (v1 : Int32) (v2 : Int32) {I : (Nat → Nat → Int32)} {J : (Nat → Nat → Int64)} (t : (Int32 × (Nat → Nat → Int32))) (h : f177_fewest v1 v2 I = some t) : zRun X d 177 0 (zent 177 [.ref 73, .int v1, .int v2]) [] (SH, I, J) (some (.int t.1)) (SH, t.2, J) := by
  unfold f177_fewest at h
  refine zr_steps 2 (2, [some (.ref 73), some (.int v1), some (.int v2), some (.int 0), none], [], (SH, I, J)) rfl ?_
  obtain ⟨s5, ho6, h⟩ := zbind h
  refine zr_hdr (ls2 := [some (.ref 73), some (.int v1), some (.int v2), some (.int 0), none]) rfl rfl ?_
  refine ok_f177_fewest_L2 (by omega) v1 v2 5000 ((0 : Int32), I) s5 ho6 ?_
  show zRun X d 177 32 [some (.ref 73), none, some (.int v2), none, none] [] (SH, s5.2, J) _ _
  refine zr_steps 2 (34, [some (.ref 73), none, some (.int v2), some (.int 0), none], [], (SH, s5.2, J)) rfl ?_
  obtain ⟨s21, ho22, h⟩ := zbind h
  refine zr_hdr (ls2 := [some (.ref 73), none, some (.int v2), some (.int 0), none]) rfl rfl ?_
  refine ok_f177_fewest_L34 (by omega) v2 5000 ((0 : Int32), s5.2) s21 ho22 ?_
  show zRun X d 177 116 [some (.ref 73), none, some (.int v2), none, none] [] (SH, s21.2, J) _ _
  refine zr_steps 3 (121, [some (.ref 73), none, some (.int v2), none, none], [.int v2, .ref 106], (SH, s21.2, J)) rfl ?_
  obtain ⟨hc23, h⟩ := zbifo h
  refine zr_one (bif zin v2 4 then zN 122 [some (.ref 73), none, some (.int v2), none, none] [.int (s21.2 106 v2.toNatClampNeg)] (SH, s21.2, J) else none) rfl (zR_bif hc23 (zR_go ?_))
  have he := Option.some.inj h
  subst he
  exact zr_one (some (.inr (.inr (some (.int (s21.2 106 v2.toNatClampNeg)))))) rfl (zR_ret rfl rfl)
def f179_lastOf (v1 : Int32) (v2 : Int32) (v3 : Int32) (I : (Nat → Nat → Int32)) : Option (Int32 × (Nat → Nat → Int32)) :=
  Option.bind (f177_fewest v2 v3 I) fun t2 =>
  if t2.1 < 0 then
    some ((-2), t2.2)
  else
    bif zin v1 8 then
    if ((t2.2 83 v1.toNatClampNeg) * t2.1) ≤ (t2.2 73 15) then
      bif zin v1 8 then
      some (((t2.2 73 15) - ((t2.2 83 v1.toNatClampNeg) * t2.1)), t2.2)
      else none
    else
      some ((-2), t2.2)
    else none
theorem ok_f179_lastOf {X : zX} {d : Nat} (hd : 2 ≤ d) (v1 : Int32) (v2 : Int32) (v3 : Int32) {I : (Nat → Nat → Int32)} {J : (Nat → Nat → Int64)} (t : (Int32 × (Nat → Nat → Int32))) (h : f179_lastOf v1 v2 v3 I = some t) : zRun X d 179 0 (zent 179 [.ref 73, .int v1, .int v2, .int v3]) [] (SH, I, J) (some (.int t.1)) (SH, t.2, J) := by
  unfold f179_lastOf at h
  refine zr_steps 3 (3, [some (.ref 73), some (.int v1), some (.int v2), some (.int v3), none], [.int v3, .int v2, .ref 73], (SH, I, J)) rfl ?_
  obtain ⟨t2, hc1, h⟩ := zbind h
  refine zr_one (some (.inr (.inl (177, [.ref 73, .int v2, .int v3], [], 6)))) rfl (zR_call (by omega) rfl (ok_f177_fewest (by omega) v2 v3 _ hc1) ?_)
  refine zr_steps 2 (10, [some (.ref 73), some (.int v1), some (.int v2), some (.int v3), some (.int t2.1)], [.int t2.1], (SH, t2.2, J)) rfl ?_
  refine zr_one (if t2.1 < 0 then zN 29 [some (.ref 73), some (.int v1), some (.int v2), some (.int v3), some (.int t2.1)] [] (SH, t2.2, J) else zN 13 [some (.ref 73), some (.int v1), some (.int v2), some (.int v3), some (.int t2.1)] [] (SH, t2.2, J)) rfl (zR_if (fun hc6 => zR_go ?_) (fun hc6 => zR_go ?_))
  · rw [if_pos hc6] at h
    refine zr_steps 1 (31, [some (.ref 73), some (.int v1), some (.int v2), some (.int v3), some (.int t2.1)], [.int (-2)], (SH, t2.2, J)) rfl ?_
    have he := Option.some.inj h
    subst he
    exact zr_one (some (.inr (.inr (some (.int (-2)))))) rfl (zR_ret rfl rfl)
  · rw [if_neg hc6] at h
    refine zr_steps 5 (22, [some (.ref 73), some (.int v1), some (.int v2), some (.int v3), some (.int t2.1)], [.int v1, .ref 83, .int (t2.2 73 15)], (SH, t2.2, J)) rfl ?_
    obtain ⟨hc3, h⟩ := zbifo h
    refine zr_one (bif zin v1 8 then zN 23 [some (.ref 73), some (.int v1), some (.int v2), some (.int v3), some (.int t2.1)] [.int (t2.2 83 v1.toNatClampNeg), .int (t2.2 73 15)] (SH, t2.2, J) else none) rfl (zR_bif hc3 (zR_go ?_))
    refine zr_steps 2 (26, [some (.ref 73), some (.int v1), some (.int v2), some (.int v3), some (.int t2.1)], [.int ((t2.2 83 v1.toNatClampNeg) * t2.1), .int (t2.2 73 15)], (SH, t2.2, J)) rfl ?_
    refine zr_one (if ((t2.2 83 v1.toNatClampNeg) * t2.1) ≤ (t2.2 73 15) then zN 32 [some (.ref 73), some (.int v1), some (.int v2), some (.int v3), some (.int t2.1)] [] (SH, t2.2, J) else zN 29 [some (.ref 73), some (.int v1), some (.int v2), some (.int v3), some (.int t2.1)] [] (SH, t2.2, J)) rfl (zR_if (fun hc5 => zR_go ?_) (fun hc5 => zR_go ?_))
    · rw [if_pos hc5] at h
      refine zr_steps 5 (41, [some (.ref 73), some (.int v1), some (.int v2), some (.int v3), some (.int t2.1)], [.int v1, .ref 83, .int (t2.2 73 15)], (SH, t2.2, J)) rfl ?_
      obtain ⟨hc4, h⟩ := zbifo h
      refine zr_one (bif zin v1 8 then zN 42 [some (.ref 73), some (.int v1), some (.int v2), some (.int v3), some (.int t2.1)] [.int (t2.2 83 v1.toNatClampNeg), .int (t2.2 73 15)] (SH, t2.2, J) else none) rfl (zR_bif hc4 (zR_go ?_))
      refine zr_steps 3 (46, [some (.ref 73), some (.int v1), some (.int v2), some (.int v3), some (.int t2.1)], [.int ((t2.2 73 15) - ((t2.2 83 v1.toNatClampNeg) * t2.1))], (SH, t2.2, J)) rfl ?_
      have he := Option.some.inj h
      subst he
      exact zr_one (some (.inr (.inr (some (.int ((t2.2 73 15) - ((t2.2 83 v1.toNatClampNeg) * t2.1))))))) rfl (zR_ret rfl rfl)
    · rw [if_neg hc5] at h
      refine zr_steps 1 (31, [some (.ref 73), some (.int v1), some (.int v2), some (.int v3), some (.int t2.1)], [.int (-2)], (SH, t2.2, J)) rfl ?_
      have he := Option.some.inj h
      subst he
      exact zr_one (some (.inr (.inr (some (.int (-2)))))) rfl (zR_ret rfl rfl)
def f181_last (v1 : Int32) (I : (Nat → Nat → Int32)) : Option (Int32 × (Nat → Nat → Int32)) :=
  Option.bind (f180_isTrip v1 I) fun t2 =>
  if t2 = 0 then
    some ((-1), I)
  else
    Option.bind (f179_lastOf (v1 / 100) ((v1 / 10) - (v1 / 10) / 10 * 10) (v1 - v1 / 10 * 10) I) fun t4 =>
    some (t4.1, t4.2)
theorem ok_f181_last {X : zX} {d : Nat} (hd : 3 ≤ d) (v1 : Int32) {I : (Nat → Nat → Int32)} {J : (Nat → Nat → Int64)} (t : (Int32 × (Nat → Nat → Int32))) (h : f181_last v1 I = some t) : zRun X d 181 0 (zent 181 [.ref 73, .int v1]) [] (SH, I, J) (some (.int t.1)) (SH, t.2, J) := by
  unfold f181_last at h
  refine zr_steps 2 (2, [some (.ref 73), some (.int v1)], [.int v1, .ref 73], (SH, I, J)) rfl ?_
  obtain ⟨t2, hc1, h⟩ := zbind h
  refine zr_one (some (.inr (.inl (180, [.ref 73, .int v1], [], 5)))) rfl (zR_call (by omega) rfl (ok_f180_isTrip (by omega) v1 _ hc1) ?_)
  refine zr_one (if t2 = 0 then zN 30 [some (.ref 73), some (.int v1)] [] (SH, I, J) else zN 8 [some (.ref 73), some (.int v1)] [] (SH, I, J)) rfl (zR_if (fun hc5 => zR_go ?_) (fun hc5 => zR_go ?_))
  · rw [if_pos hc5] at h
    refine zr_steps 1 (31, [some (.ref 73), some (.int v1)], [.int (-1)], (SH, I, J)) rfl ?_
    have he := Option.some.inj h
    subst he
    exact zr_one (some (.inr (.inr (some (.int (-1)))))) rfl (zR_ret rfl rfl)
  · rw [if_neg hc5] at h
    refine zr_steps 3 (12, [some (.ref 73), some (.int v1)], [.int 100, .int v1, .ref 73], (SH, I, J)) rfl ?_
    refine zr_one (if (100 : Int32) = 0 then none else zN 13 [some (.ref 73), some (.int v1)] [.int (v1 / 100), .ref 73] (SH, I, J)) rfl (zR_div (by decide) (zR_go ?_))
    refine zr_steps 2 (16, [some (.ref 73), some (.int v1)], [.int 10, .int v1, .int (v1 / 100), .ref 73], (SH, I, J)) rfl ?_
    refine zr_one (if (10 : Int32) = 0 then none else zN 17 [some (.ref 73), some (.int v1)] [.int (v1 / 10), .int (v1 / 100), .ref 73] (SH, I, J)) rfl (zR_div (by decide) (zR_go ?_))
    refine zr_steps 1 (19, [some (.ref 73), some (.int v1)], [.int 10, .int (v1 / 10), .int (v1 / 100), .ref 73], (SH, I, J)) rfl ?_
    refine zr_one (if (10 : Int32) = 0 then none else zN 20 [some (.ref 73), some (.int v1)] [.int ((v1 / 10) - (v1 / 10) / 10 * 10), .int (v1 / 100), .ref 73] (SH, I, J)) rfl (zR_div (by decide) (zR_go ?_))
    refine zr_steps 2 (23, [some (.ref 73), some (.int v1)], [.int 10, .int v1, .int ((v1 / 10) - (v1 / 10) / 10 * 10), .int (v1 / 100), .ref 73], (SH, I, J)) rfl ?_
    refine zr_one (if (10 : Int32) = 0 then none else zN 24 [some (.ref 73), some (.int v1)] [.int (v1 - v1 / 10 * 10), .int ((v1 / 10) - (v1 / 10) / 10 * 10), .int (v1 / 100), .ref 73] (SH, I, J)) rfl (zR_div (by decide) (zR_go ?_))
    obtain ⟨t4, hc3, h⟩ := zbind h
    refine zr_one (some (.inr (.inl (179, [.ref 73, .int (v1 / 100), .int ((v1 / 10) - (v1 / 10) / 10 * 10), .int (v1 - v1 / 10 * 10)], [], 27)))) rfl (zR_call (by omega) rfl (ok_f179_lastOf (by omega) (v1 / 100) ((v1 / 10) - (v1 / 10) / 10 * 10) (v1 - v1 / 10 * 10) _ hc3) ?_)
    refine zr_steps 1 (31, [some (.ref 73), some (.int v1)], [.int t4.1], (SH, t4.2, J)) rfl ?_
    have he := Option.some.inj h
    subst he
    exact zr_one (some (.inr (.inr (some (.int t4.1))))) rfl (zR_ret rfl rfl)
def f78_mostOver_L6 (v1 : Int32) (v2 : Int32) (v3 : Int32) (I : (Nat → Nat → Int32)) (s : (Int32 × Int32)) : Option ((Int32 × Int32) ⊕ (Int32 × Int32)) :=
  if (I 1 1) ≤ s.2 then
    some (.inl (s.1, s.2))
  else
    bif zin s.2 12 then
    if (I 4 s.2.toNatClampNeg) = v2 then
      bif zin s.2 12 then
      if (I 5 s.2.toNatClampNeg) = v3 then
        bif zin s.2 12 then
        bif zin v1 8 then
        bif zin s.2 12 then
        some (.inr ((s.1 + ((I 7 s.2.toNatClampNeg) * (zmax 0 (((I 1 3) + 1) - ((I 11 v1.toNatClampNeg) * (I 6 s.2.toNatClampNeg)))))), (s.2 + 1)))
        else none
        else none
        else none
      else
        bif zin s.2 12 then
        if (I 4 s.2.toNatClampNeg) = v3 then
          bif zin s.2 12 then
          if (I 5 s.2.toNatClampNeg) = v2 then
            bif zin s.2 12 then
            bif zin v1 8 then
            bif zin s.2 12 then
            some (.inr ((s.1 + ((I 7 s.2.toNatClampNeg) * (zmax 0 (((I 1 3) + 1) - ((I 11 v1.toNatClampNeg) * (I 6 s.2.toNatClampNeg)))))), (s.2 + 1)))
            else none
            else none
            else none
          else
            some (.inr (s.1, (s.2 + 1)))
          else none
        else
          some (.inr (s.1, (s.2 + 1)))
        else none
      else none
    else
      bif zin s.2 12 then
      if (I 4 s.2.toNatClampNeg) = v3 then
        bif zin s.2 12 then
        if (I 5 s.2.toNatClampNeg) = v2 then
          bif zin s.2 12 then
          bif zin v1 8 then
          bif zin s.2 12 then
          some (.inr ((s.1 + ((I 7 s.2.toNatClampNeg) * (zmax 0 (((I 1 3) + 1) - ((I 11 v1.toNatClampNeg) * (I 6 s.2.toNatClampNeg)))))), (s.2 + 1)))
          else none
          else none
          else none
        else
          some (.inr (s.1, (s.2 + 1)))
        else none
      else
        some (.inr (s.1, (s.2 + 1)))
      else none
    else none
def f78_mostOver (v1 : Int32) (v2 : Int32) (v3 : Int32) (I : (Nat → Nat → Int32)) : Option Int32 :=
  Option.bind (zloop (f78_mostOver_L6 v1 v2 v3 I) 5000 ((0 : Int32), (0 : Int32))) fun s23 =>
  some s23.1
theorem ok_f78_mostOver_L6 {X : zX} {d : Nat} {r : Option Value} {M' : zM} (hd : 0 ≤ d) (v1 : Int32) (v2 : Int32) (v3 : Int32) {I : (Nat → Nat → Int32)} {J : (Nat → Nat → Int64)} : ∀ (n : Nat) (s x : (Int32 × Int32)), zloop (f78_mostOver_L6 v1 v2 v3 I) n s = some x → (fun (x : (Int32 × Int32)) => zRun X d 78 103 [none, none, none, none, some (.int x.1), none] [] (SH, I, J) r M') x → (fun (s : (Int32 × Int32)) => zRun X d 78 6 [some (.ref 1), some (.int v1), some (.int v2), some (.int v3), some (.int s.1), some (.int s.2)] [] (SH, I, J) r M') s := zloop_ok (Wh := fun (s : (Int32 × Int32)) => zRun X d 78 6 [some (.ref 1), some (.int v1), some (.int v2), some (.int v3), some (.int s.1), some (.int s.2)] [] (SH, I, J) r M') (Wx := fun (x : (Int32 × Int32)) => zRun X d 78 103 [none, none, none, none, some (.int x.1), none] [] (SH, I, J) r M') (fun s y h w => by
  unfold f78_mostOver_L6 at h
  refine zr_steps 3 (12, [some (.ref 1), some (.int v1), some (.int v2), some (.int v3), some (.int s.1), some (.int s.2)], [.int (I 1 1), .int s.2], (SH, I, J)) rfl ?_
  refine zr_one (if (I 1 1) ≤ s.2 then zN 103 [some (.ref 1), some (.int v1), some (.int v2), some (.int v3), some (.int s.1), some (.int s.2)] [] (SH, I, J) else zN 15 [some (.ref 1), some (.int v1), some (.int v2), some (.int v3), some (.int s.1), some (.int s.2)] [] (SH, I, J)) rfl (zR_if (fun hc22 => zR_go ?_) (fun hc22 => zR_go ?_))
  · rw [if_pos hc22] at h
    have he := Option.some.inj h
    subst he
    exact zr_hdr rfl rfl (show zRun X d 78 103 [none, none, none, none, some (.int s.1), none] [] (SH, I, J) r M' from w)
  · rw [if_neg hc22] at h
    refine zr_steps 3 (21, [some (.ref 1), some (.int v1), some (.int v2), some (.int v3), some (.int s.1), some (.int s.2)], [.int s.2, .ref 4], (SH, I, J)) rfl ?_
    obtain ⟨hc1, h⟩ := zbifo h
    refine zr_one (bif zin s.2 12 then zN 22 [some (.ref 1), some (.int v1), some (.int v2), some (.int v3), some (.int s.1), some (.int s.2)] [.int (I 4 s.2.toNatClampNeg)] (SH, I, J) else none) rfl (zR_bif hc1 (zR_go ?_))
    refine zr_steps 1 (23, [some (.ref 1), some (.int v1), some (.int v2), some (.int v3), some (.int s.1), some (.int s.2)], [.int v2, .int (I 4 s.2.toNatClampNeg)], (SH, I, J)) rfl ?_
    refine zr_one (if (I 4 s.2.toNatClampNeg) = v2 then zN 26 [some (.ref 1), some (.int v1), some (.int v2), some (.int v3), some (.int s.1), some (.int s.2)] [] (SH, I, J) else zN 37 [some (.ref 1), some (.int v1), some (.int v2), some (.int v3), some (.int s.1), some (.int s.2)] [] (SH, I, J)) rfl (zR_if (fun hc21 => zR_go ?_) (fun hc21 => zR_go ?_))
    · rw [if_pos hc21] at h
      refine zr_steps 3 (32, [some (.ref 1), some (.int v1), some (.int v2), some (.int v3), some (.int s.1), some (.int s.2)], [.int s.2, .ref 5], (SH, I, J)) rfl ?_
      obtain ⟨hc2, h⟩ := zbifo h
      refine zr_one (bif zin s.2 12 then zN 33 [some (.ref 1), some (.int v1), some (.int v2), some (.int v3), some (.int s.1), some (.int s.2)] [.int (I 5 s.2.toNatClampNeg)] (SH, I, J) else none) rfl (zR_bif hc2 (zR_go ?_))
      refine zr_steps 1 (34, [some (.ref 1), some (.int v1), some (.int v2), some (.int v3), some (.int s.1), some (.int s.2)], [.int v3, .int (I 5 s.2.toNatClampNeg)], (SH, I, J)) rfl ?_
      refine zr_one (if (I 5 s.2.toNatClampNeg) = v3 then zN 59 [some (.ref 1), some (.int v1), some (.int v2), some (.int v3), some (.int s.1), some (.int s.2)] [] (SH, I, J) else zN 37 [some (.ref 1), some (.int v1), some (.int v2), some (.int v3), some (.int s.1), some (.int s.2)] [] (SH, I, J)) rfl (zR_if (fun hc13 => zR_go ?_) (fun hc13 => zR_go ?_))
      · rw [if_pos hc13] at h
        refine zr_steps 4 (67, [some (.ref 1), some (.int v1), some (.int v2), some (.int v3), some (.int s.1), some (.int s.2)], [.int s.2, .ref 7, .int s.1], (SH, I, J)) rfl ?_
        obtain ⟨hc3, h⟩ := zbifo h
        refine zr_one (bif zin s.2 12 then zN 68 [some (.ref 1), some (.int v1), some (.int v2), some (.int v3), some (.int s.1), some (.int s.2)] [.int (I 7 s.2.toNatClampNeg), .int s.1] (SH, I, J) else none) rfl (zR_bif hc3 (zR_go ?_))
        refine zr_steps 8 (80, [some (.ref 1), some (.int v1), some (.int v2), some (.int v3), some (.int s.1), some (.int s.2)], [.int v1, .ref 11, .int ((I 1 3) + 1), .int 0, .int (I 7 s.2.toNatClampNeg), .int s.1], (SH, I, J)) rfl ?_
        obtain ⟨hc4, h⟩ := zbifo h
        refine zr_one (bif zin v1 8 then zN 81 [some (.ref 1), some (.int v1), some (.int v2), some (.int v3), some (.int s.1), some (.int s.2)] [.int (I 11 v1.toNatClampNeg), .int ((I 1 3) + 1), .int 0, .int (I 7 s.2.toNatClampNeg), .int s.1] (SH, I, J) else none) rfl (zR_bif hc4 (zR_go ?_))
        refine zr_steps 3 (87, [some (.ref 1), some (.int v1), some (.int v2), some (.int v3), some (.int s.1), some (.int s.2)], [.int s.2, .ref 6, .int (I 11 v1.toNatClampNeg), .int ((I 1 3) + 1), .int 0, .int (I 7 s.2.toNatClampNeg), .int s.1], (SH, I, J)) rfl ?_
        obtain ⟨hc5, h⟩ := zbifo h
        refine zr_one (bif zin s.2 12 then zN 88 [some (.ref 1), some (.int v1), some (.int v2), some (.int v3), some (.int s.1), some (.int s.2)] [.int (I 6 s.2.toNatClampNeg), .int (I 11 v1.toNatClampNeg), .int ((I 1 3) + 1), .int 0, .int (I 7 s.2.toNatClampNeg), .int s.1] (SH, I, J) else none) rfl (zR_bif hc5 (zR_go ?_))
        refine zr_steps 8 (6, [some (.ref 1), some (.int v1), some (.int v2), some (.int v3), some (.int (s.1 + ((I 7 s.2.toNatClampNeg) * (zmax 0 (((I 1 3) + 1) - ((I 11 v1.toNatClampNeg) * (I 6 s.2.toNatClampNeg))))))), some (.int (s.2 + 1))], [], (SH, I, J)) rfl ?_
        have he := Option.some.inj h
        subst he
        exact zr_hdr rfl rfl (show zRun X d 78 6 [some (.ref 1), some (.int v1), some (.int v2), some (.int v3), some (.int (s.1 + ((I 7 s.2.toNatClampNeg) * (zmax 0 (((I 1 3) + 1) - ((I 11 v1.toNatClampNeg) * (I 6 s.2.toNatClampNeg))))))), some (.int (s.2 + 1))] [] (SH, I, J) r M' from w)
      · rw [if_neg hc13] at h
        refine zr_steps 3 (43, [some (.ref 1), some (.int v1), some (.int v2), some (.int v3), some (.int s.1), some (.int s.2)], [.int s.2, .ref 4], (SH, I, J)) rfl ?_
        obtain ⟨hc6, h⟩ := zbifo h
        refine zr_one (bif zin s.2 12 then zN 44 [some (.ref 1), some (.int v1), some (.int v2), some (.int v3), some (.int s.1), some (.int s.2)] [.int (I 4 s.2.toNatClampNeg)] (SH, I, J) else none) rfl (zR_bif hc6 (zR_go ?_))
        refine zr_steps 1 (45, [some (.ref 1), some (.int v1), some (.int v2), some (.int v3), some (.int s.1), some (.int s.2)], [.int v3, .int (I 4 s.2.toNatClampNeg)], (SH, I, J)) rfl ?_
        refine zr_one (if (I 4 s.2.toNatClampNeg) = v3 then zN 48 [some (.ref 1), some (.int v1), some (.int v2), some (.int v3), some (.int s.1), some (.int s.2)] [] (SH, I, J) else zN 97 [some (.ref 1), some (.int v1), some (.int v2), some (.int v3), some (.int s.1), some (.int s.2)] [] (SH, I, J)) rfl (zR_if (fun hc12 => zR_go ?_) (fun hc12 => zR_go ?_))
        · rw [if_pos hc12] at h
          refine zr_steps 3 (54, [some (.ref 1), some (.int v1), some (.int v2), some (.int v3), some (.int s.1), some (.int s.2)], [.int s.2, .ref 5], (SH, I, J)) rfl ?_
          obtain ⟨hc7, h⟩ := zbifo h
          refine zr_one (bif zin s.2 12 then zN 55 [some (.ref 1), some (.int v1), some (.int v2), some (.int v3), some (.int s.1), some (.int s.2)] [.int (I 5 s.2.toNatClampNeg)] (SH, I, J) else none) rfl (zR_bif hc7 (zR_go ?_))
          refine zr_steps 1 (56, [some (.ref 1), some (.int v1), some (.int v2), some (.int v3), some (.int s.1), some (.int s.2)], [.int v2, .int (I 5 s.2.toNatClampNeg)], (SH, I, J)) rfl ?_
          refine zr_one (if (I 5 s.2.toNatClampNeg) = v2 then zN 59 [some (.ref 1), some (.int v1), some (.int v2), some (.int v3), some (.int s.1), some (.int s.2)] [] (SH, I, J) else zN 97 [some (.ref 1), some (.int v1), some (.int v2), some (.int v3), some (.int s.1), some (.int s.2)] [] (SH, I, J)) rfl (zR_if (fun hc11 => zR_go ?_) (fun hc11 => zR_go ?_))
          · rw [if_pos hc11] at h
            refine zr_steps 4 (67, [some (.ref 1), some (.int v1), some (.int v2), some (.int v3), some (.int s.1), some (.int s.2)], [.int s.2, .ref 7, .int s.1], (SH, I, J)) rfl ?_
            obtain ⟨hc8, h⟩ := zbifo h
            refine zr_one (bif zin s.2 12 then zN 68 [some (.ref 1), some (.int v1), some (.int v2), some (.int v3), some (.int s.1), some (.int s.2)] [.int (I 7 s.2.toNatClampNeg), .int s.1] (SH, I, J) else none) rfl (zR_bif hc8 (zR_go ?_))
            refine zr_steps 8 (80, [some (.ref 1), some (.int v1), some (.int v2), some (.int v3), some (.int s.1), some (.int s.2)], [.int v1, .ref 11, .int ((I 1 3) + 1), .int 0, .int (I 7 s.2.toNatClampNeg), .int s.1], (SH, I, J)) rfl ?_
            obtain ⟨hc9, h⟩ := zbifo h
            refine zr_one (bif zin v1 8 then zN 81 [some (.ref 1), some (.int v1), some (.int v2), some (.int v3), some (.int s.1), some (.int s.2)] [.int (I 11 v1.toNatClampNeg), .int ((I 1 3) + 1), .int 0, .int (I 7 s.2.toNatClampNeg), .int s.1] (SH, I, J) else none) rfl (zR_bif hc9 (zR_go ?_))
            refine zr_steps 3 (87, [some (.ref 1), some (.int v1), some (.int v2), some (.int v3), some (.int s.1), some (.int s.2)], [.int s.2, .ref 6, .int (I 11 v1.toNatClampNeg), .int ((I 1 3) + 1), .int 0, .int (I 7 s.2.toNatClampNeg), .int s.1], (SH, I, J)) rfl ?_
            obtain ⟨hc10, h⟩ := zbifo h
            refine zr_one (bif zin s.2 12 then zN 88 [some (.ref 1), some (.int v1), some (.int v2), some (.int v3), some (.int s.1), some (.int s.2)] [.int (I 6 s.2.toNatClampNeg), .int (I 11 v1.toNatClampNeg), .int ((I 1 3) + 1), .int 0, .int (I 7 s.2.toNatClampNeg), .int s.1] (SH, I, J) else none) rfl (zR_bif hc10 (zR_go ?_))
            refine zr_steps 8 (6, [some (.ref 1), some (.int v1), some (.int v2), some (.int v3), some (.int (s.1 + ((I 7 s.2.toNatClampNeg) * (zmax 0 (((I 1 3) + 1) - ((I 11 v1.toNatClampNeg) * (I 6 s.2.toNatClampNeg))))))), some (.int (s.2 + 1))], [], (SH, I, J)) rfl ?_
            have he := Option.some.inj h
            subst he
            exact zr_hdr rfl rfl (show zRun X d 78 6 [some (.ref 1), some (.int v1), some (.int v2), some (.int v3), some (.int (s.1 + ((I 7 s.2.toNatClampNeg) * (zmax 0 (((I 1 3) + 1) - ((I 11 v1.toNatClampNeg) * (I 6 s.2.toNatClampNeg))))))), some (.int (s.2 + 1))] [] (SH, I, J) r M' from w)
          · rw [if_neg hc11] at h
            refine zr_steps 2 (6, [some (.ref 1), some (.int v1), some (.int v2), some (.int v3), some (.int s.1), some (.int (s.2 + 1))], [], (SH, I, J)) rfl ?_
            have he := Option.some.inj h
            subst he
            exact zr_hdr rfl rfl (show zRun X d 78 6 [some (.ref 1), some (.int v1), some (.int v2), some (.int v3), some (.int s.1), some (.int (s.2 + 1))] [] (SH, I, J) r M' from w)
        · rw [if_neg hc12] at h
          refine zr_steps 2 (6, [some (.ref 1), some (.int v1), some (.int v2), some (.int v3), some (.int s.1), some (.int (s.2 + 1))], [], (SH, I, J)) rfl ?_
          have he := Option.some.inj h
          subst he
          exact zr_hdr rfl rfl (show zRun X d 78 6 [some (.ref 1), some (.int v1), some (.int v2), some (.int v3), some (.int s.1), some (.int (s.2 + 1))] [] (SH, I, J) r M' from w)
    · rw [if_neg hc21] at h
      refine zr_steps 3 (43, [some (.ref 1), some (.int v1), some (.int v2), some (.int v3), some (.int s.1), some (.int s.2)], [.int s.2, .ref 4], (SH, I, J)) rfl ?_
      obtain ⟨hc14, h⟩ := zbifo h
      refine zr_one (bif zin s.2 12 then zN 44 [some (.ref 1), some (.int v1), some (.int v2), some (.int v3), some (.int s.1), some (.int s.2)] [.int (I 4 s.2.toNatClampNeg)] (SH, I, J) else none) rfl (zR_bif hc14 (zR_go ?_))
      refine zr_steps 1 (45, [some (.ref 1), some (.int v1), some (.int v2), some (.int v3), some (.int s.1), some (.int s.2)], [.int v3, .int (I 4 s.2.toNatClampNeg)], (SH, I, J)) rfl ?_
      refine zr_one (if (I 4 s.2.toNatClampNeg) = v3 then zN 48 [some (.ref 1), some (.int v1), some (.int v2), some (.int v3), some (.int s.1), some (.int s.2)] [] (SH, I, J) else zN 97 [some (.ref 1), some (.int v1), some (.int v2), some (.int v3), some (.int s.1), some (.int s.2)] [] (SH, I, J)) rfl (zR_if (fun hc20 => zR_go ?_) (fun hc20 => zR_go ?_))
      · rw [if_pos hc20] at h
        refine zr_steps 3 (54, [some (.ref 1), some (.int v1), some (.int v2), some (.int v3), some (.int s.1), some (.int s.2)], [.int s.2, .ref 5], (SH, I, J)) rfl ?_
        obtain ⟨hc15, h⟩ := zbifo h
        refine zr_one (bif zin s.2 12 then zN 55 [some (.ref 1), some (.int v1), some (.int v2), some (.int v3), some (.int s.1), some (.int s.2)] [.int (I 5 s.2.toNatClampNeg)] (SH, I, J) else none) rfl (zR_bif hc15 (zR_go ?_))
        refine zr_steps 1 (56, [some (.ref 1), some (.int v1), some (.int v2), some (.int v3), some (.int s.1), some (.int s.2)], [.int v2, .int (I 5 s.2.toNatClampNeg)], (SH, I, J)) rfl ?_
        refine zr_one (if (I 5 s.2.toNatClampNeg) = v2 then zN 59 [some (.ref 1), some (.int v1), some (.int v2), some (.int v3), some (.int s.1), some (.int s.2)] [] (SH, I, J) else zN 97 [some (.ref 1), some (.int v1), some (.int v2), some (.int v3), some (.int s.1), some (.int s.2)] [] (SH, I, J)) rfl (zR_if (fun hc19 => zR_go ?_) (fun hc19 => zR_go ?_))
        · rw [if_pos hc19] at h
          refine zr_steps 4 (67, [some (.ref 1), some (.int v1), some (.int v2), some (.int v3), some (.int s.1), some (.int s.2)], [.int s.2, .ref 7, .int s.1], (SH, I, J)) rfl ?_
          obtain ⟨hc16, h⟩ := zbifo h
          refine zr_one (bif zin s.2 12 then zN 68 [some (.ref 1), some (.int v1), some (.int v2), some (.int v3), some (.int s.1), some (.int s.2)] [.int (I 7 s.2.toNatClampNeg), .int s.1] (SH, I, J) else none) rfl (zR_bif hc16 (zR_go ?_))
          refine zr_steps 8 (80, [some (.ref 1), some (.int v1), some (.int v2), some (.int v3), some (.int s.1), some (.int s.2)], [.int v1, .ref 11, .int ((I 1 3) + 1), .int 0, .int (I 7 s.2.toNatClampNeg), .int s.1], (SH, I, J)) rfl ?_
          obtain ⟨hc17, h⟩ := zbifo h
          refine zr_one (bif zin v1 8 then zN 81 [some (.ref 1), some (.int v1), some (.int v2), some (.int v3), some (.int s.1), some (.int s.2)] [.int (I 11 v1.toNatClampNeg), .int ((I 1 3) + 1), .int 0, .int (I 7 s.2.toNatClampNeg), .int s.1] (SH, I, J) else none) rfl (zR_bif hc17 (zR_go ?_))
          refine zr_steps 3 (87, [some (.ref 1), some (.int v1), some (.int v2), some (.int v3), some (.int s.1), some (.int s.2)], [.int s.2, .ref 6, .int (I 11 v1.toNatClampNeg), .int ((I 1 3) + 1), .int 0, .int (I 7 s.2.toNatClampNeg), .int s.1], (SH, I, J)) rfl ?_
          obtain ⟨hc18, h⟩ := zbifo h
          refine zr_one (bif zin s.2 12 then zN 88 [some (.ref 1), some (.int v1), some (.int v2), some (.int v3), some (.int s.1), some (.int s.2)] [.int (I 6 s.2.toNatClampNeg), .int (I 11 v1.toNatClampNeg), .int ((I 1 3) + 1), .int 0, .int (I 7 s.2.toNatClampNeg), .int s.1] (SH, I, J) else none) rfl (zR_bif hc18 (zR_go ?_))
          refine zr_steps 8 (6, [some (.ref 1), some (.int v1), some (.int v2), some (.int v3), some (.int (s.1 + ((I 7 s.2.toNatClampNeg) * (zmax 0 (((I 1 3) + 1) - ((I 11 v1.toNatClampNeg) * (I 6 s.2.toNatClampNeg))))))), some (.int (s.2 + 1))], [], (SH, I, J)) rfl ?_
          have he := Option.some.inj h
          subst he
          exact zr_hdr rfl rfl (show zRun X d 78 6 [some (.ref 1), some (.int v1), some (.int v2), some (.int v3), some (.int (s.1 + ((I 7 s.2.toNatClampNeg) * (zmax 0 (((I 1 3) + 1) - ((I 11 v1.toNatClampNeg) * (I 6 s.2.toNatClampNeg))))))), some (.int (s.2 + 1))] [] (SH, I, J) r M' from w)
        · rw [if_neg hc19] at h
          refine zr_steps 2 (6, [some (.ref 1), some (.int v1), some (.int v2), some (.int v3), some (.int s.1), some (.int (s.2 + 1))], [], (SH, I, J)) rfl ?_
          have he := Option.some.inj h
          subst he
          exact zr_hdr rfl rfl (show zRun X d 78 6 [some (.ref 1), some (.int v1), some (.int v2), some (.int v3), some (.int s.1), some (.int (s.2 + 1))] [] (SH, I, J) r M' from w)
      · rw [if_neg hc20] at h
        refine zr_steps 2 (6, [some (.ref 1), some (.int v1), some (.int v2), some (.int v3), some (.int s.1), some (.int (s.2 + 1))], [], (SH, I, J)) rfl ?_
        have he := Option.some.inj h
        subst he
        exact zr_hdr rfl rfl (show zRun X d 78 6 [some (.ref 1), some (.int v1), some (.int v2), some (.int v3), some (.int s.1), some (.int (s.2 + 1))] [] (SH, I, J) r M' from w))
theorem ok_f78_mostOver {X : zX} {d : Nat} (hd : 0 ≤ d) (v1 : Int32) (v2 : Int32) (v3 : Int32) {I : (Nat → Nat → Int32)} {J : (Nat → Nat → Int64)} (t : Int32) (h : f78_mostOver v1 v2 v3 I = some t) : zRun X d 78 0 (zent 78 [.ref 1, .int v1, .int v2, .int v3]) [] (SH, I, J) (some (.int t)) (SH, I, J) := by
  unfold f78_mostOver at h
  refine zr_steps 4 (6, [some (.ref 1), some (.int v1), some (.int v2), some (.int v3), some (.int 0), some (.int 0)], [], (SH, I, J)) rfl ?_
  obtain ⟨s23, ho24, h⟩ := zbind h
  refine zr_hdr (ls2 := [some (.ref 1), some (.int v1), some (.int v2), some (.int v3), some (.int 0), some (.int 0)]) rfl rfl ?_
  refine ok_f78_mostOver_L6 (by omega) v1 v2 v3 5000 ((0 : Int32), (0 : Int32)) s23 ho24 ?_
  show zRun X d 78 103 [none, none, none, none, some (.int s23.1), none] [] (SH, I, J) _ _
  refine zr_steps 1 (105, [none, none, none, none, some (.int s23.1), none], [.int s23.1], (SH, I, J)) rfl ?_
  have he := Option.some.inj h
  subst he
  exact zr_one (some (.inr (.inr (some (.int s23.1))))) rfl (zR_ret rfl rfl)
def f100_flow (v1 : Int32) (I : (Nat → Nat → Int32)) : Option Int32 :=
  Option.bind (f101_isSortAndWay v1 I) fun t2 =>
  if t2 = 0 then
    some (-1)
  else
    Option.bind (f78_mostOver (v1 / 100) ((v1 / 10) - (v1 / 10) / 10 * 10) (v1 - v1 / 10 * 10) I) fun t4 =>
    some t4
theorem ok_f100_flow {X : zX} {d : Nat} (hd : 3 ≤ d) (v1 : Int32) {I : (Nat → Nat → Int32)} {J : (Nat → Nat → Int64)} (t : Int32) (h : f100_flow v1 I = some t) : zRun X d 100 0 (zent 100 [.ref 0, .int v1]) [] (SH, I, J) (some (.int t)) (SH, I, J) := by
  unfold f100_flow at h
  refine zr_steps 2 (2, [some (.ref 0), some (.int v1)], [.int v1, .ref 0], (SH, I, J)) rfl ?_
  obtain ⟨t2, hc1, h⟩ := zbind h
  refine zr_one (some (.inr (.inl (101, [.ref 0, .int v1], [], 5)))) rfl (zR_call (by omega) rfl (ok_f101_isSortAndWay (by omega) v1 _ hc1) ?_)
  refine zr_one (if t2 = 0 then zN 8 [some (.ref 0), some (.int v1)] [] (SH, I, J) else zN 10 [some (.ref 0), some (.int v1)] [] (SH, I, J)) rfl (zR_if (fun hc5 => zR_go ?_) (fun hc5 => zR_go ?_))
  · rw [if_pos hc5] at h
    refine zr_steps 1 (9, [some (.ref 0), some (.int v1)], [.int (-1)], (SH, I, J)) rfl ?_
    have he := Option.some.inj h
    subst he
    exact zr_one (some (.inr (.inr (some (.int (-1)))))) rfl (zR_ret rfl rfl)
  · rw [if_neg hc5] at h
    refine zr_steps 4 (17, [some (.ref 0), some (.int v1)], [.int 100, .int v1, .ref 1], (SH, I, J)) rfl ?_
    refine zr_one (if (100 : Int32) = 0 then none else zN 18 [some (.ref 0), some (.int v1)] [.int (v1 / 100), .ref 1] (SH, I, J)) rfl (zR_div (by decide) (zR_go ?_))
    refine zr_steps 2 (21, [some (.ref 0), some (.int v1)], [.int 10, .int v1, .int (v1 / 100), .ref 1], (SH, I, J)) rfl ?_
    refine zr_one (if (10 : Int32) = 0 then none else zN 22 [some (.ref 0), some (.int v1)] [.int (v1 / 10), .int (v1 / 100), .ref 1] (SH, I, J)) rfl (zR_div (by decide) (zR_go ?_))
    refine zr_steps 1 (24, [some (.ref 0), some (.int v1)], [.int 10, .int (v1 / 10), .int (v1 / 100), .ref 1], (SH, I, J)) rfl ?_
    refine zr_one (if (10 : Int32) = 0 then none else zN 25 [some (.ref 0), some (.int v1)] [.int ((v1 / 10) - (v1 / 10) / 10 * 10), .int (v1 / 100), .ref 1] (SH, I, J)) rfl (zR_div (by decide) (zR_go ?_))
    refine zr_steps 2 (28, [some (.ref 0), some (.int v1)], [.int 10, .int v1, .int ((v1 / 10) - (v1 / 10) / 10 * 10), .int (v1 / 100), .ref 1], (SH, I, J)) rfl ?_
    refine zr_one (if (10 : Int32) = 0 then none else zN 29 [some (.ref 0), some (.int v1)] [.int (v1 - v1 / 10 * 10), .int ((v1 / 10) - (v1 / 10) / 10 * 10), .int (v1 / 100), .ref 1] (SH, I, J)) rfl (zR_div (by decide) (zR_go ?_))
    obtain ⟨t4, hc3, h⟩ := zbind h
    refine zr_one (some (.inr (.inl (78, [.ref 1, .int (v1 / 100), .int ((v1 / 10) - (v1 / 10) / 10 * 10), .int (v1 - v1 / 10 * 10)], [], 32)))) rfl (zR_call (by omega) rfl (ok_f78_mostOver (by omega) (v1 / 100) ((v1 / 10) - (v1 / 10) / 10 * 10) (v1 - v1 / 10 * 10) _ hc3) ?_)
    have he := Option.some.inj h
    subst he
    exact zr_one (some (.inr (.inr (some (.int t4))))) rfl (zR_ret rfl rfl)
def f182_flow_L14 (v1 : Int32) (I : (Nat → Nat → Int32)) (s : (Int32 × Int32)) : Option ((Int32 × Int32) ⊕ (Int32 × Int32)) :=
  if (I 73 4) ≤ s.2 then
    some (.inl (s.1, s.2))
  else
    bif zin (v1 / 100) 8 then
    bif zin s.2 12 then
    if (((I 73 15) + 1) - ((I 83 (v1 / 100).toNatClampNeg) * (I 78 s.2.toNatClampNeg))) ≤ 0 then
      some (.inr (s.1, (s.2 + 1)))
    else
      bif zin s.2 12 then
      bif zin s.2 12 then
      Option.bind (f169_doesLead (I 76 s.2.toNatClampNeg) (I 77 s.2.toNatClampNeg) ((v1 / 10) - (v1 / 10) / 10 * 10) (v1 - v1 / 10 * 10)) fun t8 =>
      if t8 = 0 then
        some (.inr (s.1, (s.2 + 1)))
      else
        bif zin s.2 12 then
        some (.inr ((s.1 + ((I 79 s.2.toNatClampNeg) * (((I 73 15) + 1) - ((I 83 (v1 / 100).toNatClampNeg) * (I 78 s.2.toNatClampNeg))))), (s.2 + 1)))
        else none
      else none
      else none
    else none
    else none
def f182_flow (v1 : Int32) (I : (Nat → Nat → Int32)) : Option Int32 :=
  Option.bind (f180_isTrip v1 I) fun t2 =>
  if t2 = 0 then
    some (-1)
  else
    Option.bind (zloop (f182_flow_L14 v1 I) 5000 ((0 : Int32), (0 : Int32))) fun s13 =>
    some s13.1
theorem ok_f182_flow_L14 {X : zX} {d : Nat} {r : Option Value} {M' : zM} (hd : 3 ≤ d) (v1 : Int32) {I : (Nat → Nat → Int32)} {J : (Nat → Nat → Int64)} : ∀ (n : Nat) (s x : (Int32 × Int32)), zloop (f182_flow_L14 v1 I) n s = some x → (fun (x : (Int32 × Int32)) => zRun X d 182 99 [none, none, some (.int x.1), none, none] [] (SH, I, J) r M') x → (fun (s : (Int32 × Int32)) => zRun X d 182 14 [some (.ref 73), some (.int v1), some (.int s.1), some (.int s.2), none] [] (SH, I, J) r M') s := zloop_ok (Wh := fun (s : (Int32 × Int32)) => zRun X d 182 14 [some (.ref 73), some (.int v1), some (.int s.1), some (.int s.2), none] [] (SH, I, J) r M') (Wx := fun (x : (Int32 × Int32)) => zRun X d 182 99 [none, none, some (.int x.1), none, none] [] (SH, I, J) r M') (fun s y h w => by
  unfold f182_flow_L14 at h
  refine zr_steps 3 (19, [some (.ref 73), some (.int v1), some (.int s.1), some (.int s.2), none], [.int (I 73 4), .int s.2], (SH, I, J)) rfl ?_
  refine zr_one (if (I 73 4) ≤ s.2 then zN 99 [some (.ref 73), some (.int v1), some (.int s.1), some (.int s.2), none] [] (SH, I, J) else zN 22 [some (.ref 73), some (.int v1), some (.int s.1), some (.int s.2), none] [] (SH, I, J)) rfl (zR_if (fun hc12 => zR_go ?_) (fun hc12 => zR_go ?_))
  · rw [if_pos hc12] at h
    have he := Option.some.inj h
    subst he
    exact zr_hdr rfl rfl (show zRun X d 182 99 [none, none, some (.int s.1), none, none] [] (SH, I, J) r M' from w)
  · rw [if_neg hc12] at h
    refine zr_steps 8 (35, [some (.ref 73), some (.int v1), some (.int s.1), some (.int s.2), none], [.int 100, .int v1, .ref 83, .int ((I 73 15) + 1)], (SH, I, J)) rfl ?_
    refine zr_one (if (100 : Int32) = 0 then none else zN 36 [some (.ref 73), some (.int v1), some (.int s.1), some (.int s.2), none] [.int (v1 / 100), .ref 83, .int ((I 73 15) + 1)] (SH, I, J)) rfl (zR_div (by decide) (zR_go ?_))
    obtain ⟨hc3, h⟩ := zbifo h
    refine zr_one (bif zin (v1 / 100) 8 then zN 37 [some (.ref 73), some (.int v1), some (.int s.1), some (.int s.2), none] [.int (I 83 (v1 / 100).toNatClampNeg), .int ((I 73 15) + 1)] (SH, I, J) else none) rfl (zR_bif hc3 (zR_go ?_))
    refine zr_steps 3 (42, [some (.ref 73), some (.int v1), some (.int s.1), some (.int s.2), none], [.int s.2, .ref 78, .int (I 83 (v1 / 100).toNatClampNeg), .int ((I 73 15) + 1)], (SH, I, J)) rfl ?_
    obtain ⟨hc4, h⟩ := zbifo h
    refine zr_one (bif zin s.2 12 then zN 43 [some (.ref 73), some (.int v1), some (.int s.1), some (.int s.2), none] [.int (I 78 s.2.toNatClampNeg), .int (I 83 (v1 / 100).toNatClampNeg), .int ((I 73 15) + 1)] (SH, I, J) else none) rfl (zR_bif hc4 (zR_go ?_))
    refine zr_steps 4 (49, [some (.ref 73), some (.int v1), some (.int s.1), some (.int s.2), some (.int (((I 73 15) + 1) - ((I 83 (v1 / 100).toNatClampNeg) * (I 78 s.2.toNatClampNeg))))], [.int (((I 73 15) + 1) - ((I 83 (v1 / 100).toNatClampNeg) * (I 78 s.2.toNatClampNeg)))], (SH, I, J)) rfl ?_
    refine zr_one (if (((I 73 15) + 1) - ((I 83 (v1 / 100).toNatClampNeg) * (I 78 s.2.toNatClampNeg))) ≤ 0 then zN 93 [some (.ref 73), some (.int v1), some (.int s.1), some (.int s.2), some (.int (((I 73 15) + 1) - ((I 83 (v1 / 100).toNatClampNeg) * (I 78 s.2.toNatClampNeg))))] [] (SH, I, J) else zN 52 [some (.ref 73), some (.int v1), some (.int s.1), some (.int s.2), some (.int (((I 73 15) + 1) - ((I 83 (v1 / 100).toNatClampNeg) * (I 78 s.2.toNatClampNeg))))] [] (SH, I, J)) rfl (zR_if (fun hc11 => zR_go ?_) (fun hc11 => zR_go ?_))
    · rw [if_pos hc11] at h
      refine zr_steps 2 (14, [some (.ref 73), some (.int v1), some (.int s.1), some (.int (s.2 + 1)), some (.int (((I 73 15) + 1) - ((I 83 (v1 / 100).toNatClampNeg) * (I 78 s.2.toNatClampNeg))))], [], (SH, I, J)) rfl ?_
      have he := Option.some.inj h
      subst he
      exact zr_hdr rfl rfl (show zRun X d 182 14 [some (.ref 73), some (.int v1), some (.int s.1), some (.int (s.2 + 1)), none] [] (SH, I, J) r M' from w)
    · rw [if_neg hc11] at h
      refine zr_steps 3 (57, [some (.ref 73), some (.int v1), some (.int s.1), some (.int s.2), some (.int (((I 73 15) + 1) - ((I 83 (v1 / 100).toNatClampNeg) * (I 78 s.2.toNatClampNeg))))], [.int s.2, .ref 76], (SH, I, J)) rfl ?_
      obtain ⟨hc5, h⟩ := zbifo h
      refine zr_one (bif zin s.2 12 then zN 58 [some (.ref 73), some (.int v1), some (.int s.1), some (.int s.2), some (.int (((I 73 15) + 1) - ((I 83 (v1 / 100).toNatClampNeg) * (I 78 s.2.toNatClampNeg))))] [.int (I 76 s.2.toNatClampNeg)] (SH, I, J) else none) rfl (zR_bif hc5 (zR_go ?_))
      refine zr_steps 3 (63, [some (.ref 73), some (.int v1), some (.int s.1), some (.int s.2), some (.int (((I 73 15) + 1) - ((I 83 (v1 / 100).toNatClampNeg) * (I 78 s.2.toNatClampNeg))))], [.int s.2, .ref 77, .int (I 76 s.2.toNatClampNeg)], (SH, I, J)) rfl ?_
      obtain ⟨hc6, h⟩ := zbifo h
      refine zr_one (bif zin s.2 12 then zN 64 [some (.ref 73), some (.int v1), some (.int s.1), some (.int s.2), some (.int (((I 73 15) + 1) - ((I 83 (v1 / 100).toNatClampNeg) * (I 78 s.2.toNatClampNeg))))] [.int (I 77 s.2.toNatClampNeg), .int (I 76 s.2.toNatClampNeg)] (SH, I, J) else none) rfl (zR_bif hc6 (zR_go ?_))
      refine zr_steps 2 (67, [some (.ref 73), some (.int v1), some (.int s.1), some (.int s.2), some (.int (((I 73 15) + 1) - ((I 83 (v1 / 100).toNatClampNeg) * (I 78 s.2.toNatClampNeg))))], [.int 10, .int v1, .int (I 77 s.2.toNatClampNeg), .int (I 76 s.2.toNatClampNeg)], (SH, I, J)) rfl ?_
      refine zr_one (if (10 : Int32) = 0 then none else zN 68 [some (.ref 73), some (.int v1), some (.int s.1), some (.int s.2), some (.int (((I 73 15) + 1) - ((I 83 (v1 / 100).toNatClampNeg) * (I 78 s.2.toNatClampNeg))))] [.int (v1 / 10), .int (I 77 s.2.toNatClampNeg), .int (I 76 s.2.toNatClampNeg)] (SH, I, J)) rfl (zR_div (by decide) (zR_go ?_))
      refine zr_steps 1 (70, [some (.ref 73), some (.int v1), some (.int s.1), some (.int s.2), some (.int (((I 73 15) + 1) - ((I 83 (v1 / 100).toNatClampNeg) * (I 78 s.2.toNatClampNeg))))], [.int 10, .int (v1 / 10), .int (I 77 s.2.toNatClampNeg), .int (I 76 s.2.toNatClampNeg)], (SH, I, J)) rfl ?_
      refine zr_one (if (10 : Int32) = 0 then none else zN 71 [some (.ref 73), some (.int v1), some (.int s.1), some (.int s.2), some (.int (((I 73 15) + 1) - ((I 83 (v1 / 100).toNatClampNeg) * (I 78 s.2.toNatClampNeg))))] [.int ((v1 / 10) - (v1 / 10) / 10 * 10), .int (I 77 s.2.toNatClampNeg), .int (I 76 s.2.toNatClampNeg)] (SH, I, J)) rfl (zR_div (by decide) (zR_go ?_))
      refine zr_steps 2 (74, [some (.ref 73), some (.int v1), some (.int s.1), some (.int s.2), some (.int (((I 73 15) + 1) - ((I 83 (v1 / 100).toNatClampNeg) * (I 78 s.2.toNatClampNeg))))], [.int 10, .int v1, .int ((v1 / 10) - (v1 / 10) / 10 * 10), .int (I 77 s.2.toNatClampNeg), .int (I 76 s.2.toNatClampNeg)], (SH, I, J)) rfl ?_
      refine zr_one (if (10 : Int32) = 0 then none else zN 75 [some (.ref 73), some (.int v1), some (.int s.1), some (.int s.2), some (.int (((I 73 15) + 1) - ((I 83 (v1 / 100).toNatClampNeg) * (I 78 s.2.toNatClampNeg))))] [.int (v1 - v1 / 10 * 10), .int ((v1 / 10) - (v1 / 10) / 10 * 10), .int (I 77 s.2.toNatClampNeg), .int (I 76 s.2.toNatClampNeg)] (SH, I, J)) rfl (zR_div (by decide) (zR_go ?_))
      obtain ⟨t8, hc7, h⟩ := zbind h
      refine zr_one (some (.inr (.inl (169, [.int (I 76 s.2.toNatClampNeg), .int (I 77 s.2.toNatClampNeg), .int ((v1 / 10) - (v1 / 10) / 10 * 10), .int (v1 - v1 / 10 * 10)], [], 78)))) rfl (zR_call (by omega) rfl (ok_f169_doesLead (by omega) (I 76 s.2.toNatClampNeg) (I 77 s.2.toNatClampNeg) ((v1 / 10) - (v1 / 10) / 10 * 10) (v1 - v1 / 10 * 10) _ hc7) ?_)
      refine zr_one (if t8 = 0 then zN 93 [some (.ref 73), some (.int v1), some (.int s.1), some (.int s.2), some (.int (((I 73 15) + 1) - ((I 83 (v1 / 100).toNatClampNeg) * (I 78 s.2.toNatClampNeg))))] [] (SH, I, J) else zN 81 [some (.ref 73), some (.int v1), some (.int s.1), some (.int s.2), some (.int (((I 73 15) + 1) - ((I 83 (v1 / 100).toNatClampNeg) * (I 78 s.2.toNatClampNeg))))] [] (SH, I, J)) rfl (zR_if (fun hc10 => zR_go ?_) (fun hc10 => zR_go ?_))
      · rw [if_pos hc10] at h
        refine zr_steps 2 (14, [some (.ref 73), some (.int v1), some (.int s.1), some (.int (s.2 + 1)), some (.int (((I 73 15) + 1) - ((I 83 (v1 / 100).toNatClampNeg) * (I 78 s.2.toNatClampNeg))))], [], (SH, I, J)) rfl ?_
        have he := Option.some.inj h
        subst he
        exact zr_hdr rfl rfl (show zRun X d 182 14 [some (.ref 73), some (.int v1), some (.int s.1), some (.int (s.2 + 1)), none] [] (SH, I, J) r M' from w)
      · rw [if_neg hc10] at h
        refine zr_steps 4 (87, [some (.ref 73), some (.int v1), some (.int s.1), some (.int s.2), some (.int (((I 73 15) + 1) - ((I 83 (v1 / 100).toNatClampNeg) * (I 78 s.2.toNatClampNeg))))], [.int s.2, .ref 79, .int s.1], (SH, I, J)) rfl ?_
        obtain ⟨hc9, h⟩ := zbifo h
        refine zr_one (bif zin s.2 12 then zN 88 [some (.ref 73), some (.int v1), some (.int s.1), some (.int s.2), some (.int (((I 73 15) + 1) - ((I 83 (v1 / 100).toNatClampNeg) * (I 78 s.2.toNatClampNeg))))] [.int (I 79 s.2.toNatClampNeg), .int s.1] (SH, I, J) else none) rfl (zR_bif hc9 (zR_go ?_))
        refine zr_steps 6 (14, [some (.ref 73), some (.int v1), some (.int (s.1 + ((I 79 s.2.toNatClampNeg) * (((I 73 15) + 1) - ((I 83 (v1 / 100).toNatClampNeg) * (I 78 s.2.toNatClampNeg)))))), some (.int (s.2 + 1)), some (.int (((I 73 15) + 1) - ((I 83 (v1 / 100).toNatClampNeg) * (I 78 s.2.toNatClampNeg))))], [], (SH, I, J)) rfl ?_
        have he := Option.some.inj h
        subst he
        exact zr_hdr rfl rfl (show zRun X d 182 14 [some (.ref 73), some (.int v1), some (.int (s.1 + ((I 79 s.2.toNatClampNeg) * (((I 73 15) + 1) - ((I 83 (v1 / 100).toNatClampNeg) * (I 78 s.2.toNatClampNeg)))))), some (.int (s.2 + 1)), none] [] (SH, I, J) r M' from w))
theorem ok_f182_flow {X : zX} {d : Nat} (hd : 3 ≤ d) (v1 : Int32) {I : (Nat → Nat → Int32)} {J : (Nat → Nat → Int64)} (t : Int32) (h : f182_flow v1 I = some t) : zRun X d 182 0 (zent 182 [.ref 73, .int v1]) [] (SH, I, J) (some (.int t)) (SH, I, J) := by
  unfold f182_flow at h
  refine zr_steps 2 (2, [some (.ref 73), some (.int v1), none, none, none], [.int v1, .ref 73], (SH, I, J)) rfl ?_
  obtain ⟨t2, hc1, h⟩ := zbind h
  refine zr_one (some (.inr (.inl (180, [.ref 73, .int v1], [], 5)))) rfl (zR_call (by omega) rfl (ok_f180_isTrip (by omega) v1 _ hc1) ?_)
  refine zr_one (if t2 = 0 then zN 8 [some (.ref 73), some (.int v1), none, none, none] [] (SH, I, J) else zN 10 [some (.ref 73), some (.int v1), none, none, none] [] (SH, I, J)) rfl (zR_if (fun hc15 => zR_go ?_) (fun hc15 => zR_go ?_))
  · rw [if_pos hc15] at h
    refine zr_steps 1 (9, [some (.ref 73), some (.int v1), none, none, none], [.int (-1)], (SH, I, J)) rfl ?_
    have he := Option.some.inj h
    subst he
    exact zr_one (some (.inr (.inr (some (.int (-1)))))) rfl (zR_ret rfl rfl)
  · rw [if_neg hc15] at h
    refine zr_steps 4 (14, [some (.ref 73), some (.int v1), some (.int 0), some (.int 0), none], [], (SH, I, J)) rfl ?_
    obtain ⟨s13, ho14, h⟩ := zbind h
    refine zr_hdr (ls2 := [some (.ref 73), some (.int v1), some (.int 0), some (.int 0), none]) rfl rfl ?_
    refine ok_f182_flow_L14 (by omega) v1 5000 ((0 : Int32), (0 : Int32)) s13 ho14 ?_
    show zRun X d 182 99 [none, none, some (.int s13.1), none, none] [] (SH, I, J) _ _
    refine zr_steps 1 (100, [none, none, some (.int s13.1), none, none], [.int s13.1], (SH, I, J)) rfl ?_
    have he := Option.some.inj h
    subst he
    exact zr_one (some (.inr (.inr (some (.int s13.1))))) rfl (zR_ret rfl rfl)
def f75_fewerWant (I : (Nat → Nat → Int32)) : Option Int32 :=
  Option.bind (f74_wanting 0 I) fun t2 =>
  Option.bind (f74_wanting 1 I) fun t4 =>
  if (t2 - t4) = 0 then
    some (-2)
  else
    if (0 : Int32) ≤ (t2 - t4) then
      some 1
    else
      some 0
theorem ok_f75_fewerWant {X : zX} {d : Nat} (hd : 1 ≤ d) {I : (Nat → Nat → Int32)} {J : (Nat → Nat → Int64)} (t : Int32) (h : f75_fewerWant I = some t) : zRun X d 75 0 (zent 75 [.ref 1]) [] (SH, I, J) (some (.int t)) (SH, I, J) := by
  unfold f75_fewerWant at h
  refine zr_steps 2 (2, [some (.ref 1), none], [.int 0, .ref 1], (SH, I, J)) rfl ?_
  obtain ⟨t2, hc1, h⟩ := zbind h
  refine zr_one (some (.inr (.inl (74, [.ref 1, .int 0], [], 5)))) rfl (zR_call (by omega) rfl (ok_f74_wanting (by omega) 0 _ hc1) ?_)
  refine zr_steps 2 (7, [some (.ref 1), none], [.int 1, .ref 1, .int t2], (SH, I, J)) rfl ?_
  obtain ⟨t4, hc3, h⟩ := zbind h
  refine zr_one (some (.inr (.inl (74, [.ref 1, .int 1], [.int t2], 10)))) rfl (zR_call (by omega) rfl (ok_f74_wanting (by omega) 1 _ hc3) ?_)
  refine zr_steps 3 (13, [some (.ref 1), some (.int (t2 - t4))], [.int (t2 - t4)], (SH, I, J)) rfl ?_
  refine zr_one (if (t2 - t4) = 0 then zN 16 [some (.ref 1), some (.int (t2 - t4))] [] (SH, I, J) else zN 19 [some (.ref 1), some (.int (t2 - t4))] [] (SH, I, J)) rfl (zR_if (fun hc6 => zR_go ?_) (fun hc6 => zR_go ?_))
  · rw [if_pos hc6] at h
    refine zr_steps 1 (18, [some (.ref 1), some (.int (t2 - t4))], [.int (-2)], (SH, I, J)) rfl ?_
    have he := Option.some.inj h
    subst he
    exact zr_one (some (.inr (.inr (some (.int (-2)))))) rfl (zR_ret rfl rfl)
  · rw [if_neg hc6] at h
    refine zr_steps 1 (20, [some (.ref 1), some (.int (t2 - t4))], [.int (t2 - t4)], (SH, I, J)) rfl ?_
    refine zr_one (if (0 : Int32) ≤ (t2 - t4) then zN 27 [some (.ref 1), some (.int (t2 - t4))] [] (SH, I, J) else zN 23 [some (.ref 1), some (.int (t2 - t4))] [] (SH, I, J)) rfl (zR_if (fun hc5 => zR_go ?_) (fun hc5 => zR_go ?_))
    · rw [if_pos hc5] at h
      refine zr_steps 1 (28, [some (.ref 1), some (.int (t2 - t4))], [.int 1], (SH, I, J)) rfl ?_
      have he := Option.some.inj h
      subst he
      exact zr_one (some (.inr (.inr (some (.int 1))))) rfl (zR_ret rfl rfl)
    · rw [if_neg hc5] at h
      refine zr_steps 2 (28, [some (.ref 1), some (.int (t2 - t4))], [.int 0], (SH, I, J)) rfl ?_
      have he := Option.some.inj h
      subst he
      exact zr_one (some (.inr (.inr (some (.int 0))))) rfl (zR_ret rfl rfl)
def f81_asIn_39 (I : (Nat → Nat → Int32)) : Option (Nat → Nat → Int32) :=
  bif zcpok 0 0 8 8 8 then
  bif zcpok 0 0 8 8 8 then
  some (zcp (zcp (zu (zu (zu (zu I 39 0 (I 1 3)) 39 1 (I 1 4)) 39 3 0) 39 4 (-1)) 10 40 0 0 8) 12 41 0 0 8)
  else none
  else none
theorem ok_f81_asIn_39 {X : zX} {d : Nat} (hd : 0 ≤ d) {I : (Nat → Nat → Int32)} {J : (Nat → Nat → Int64)} (t : (Nat → Nat → Int32)) (h : f81_asIn_39 I = some t) : zRun X d 81 0 (zent 81 [.ref 39, .ref 1]) [] (SH, I, J) none (SH, t, J) := by
  unfold f81_asIn_39 at h
  refine zr_steps 21 (38, [some (.ref 39), some (.ref 1)], [.int 8, .int 0, .ref 40, .int 0, .ref 10], (SH, (zu (zu (zu (zu I 39 0 (I 1 3)) 39 1 (I 1 4)) 39 3 0) 39 4 (-1)), J)) rfl ?_
  obtain ⟨hc1, h⟩ := zbifo h
  refine zr_one (zcopy 38 [some (.ref 39), some (.ref 1)] [.int 8, .int 0, .ref 40, .int 0, .ref 10] (SH, (zu (zu (zu (zu I 39 0 (I 1 3)) 39 1 (I 1 4)) 39 3 0) 39 4 (-1)), J)) rfl (zR_copy (na := 8) (nb := 8) rfl rfl rfl rfl hc1 rfl ?_)
  refine zr_steps 7 (53, [some (.ref 39), some (.ref 1)], [.int 8, .int 0, .ref 41, .int 0, .ref 12], (SH, (zcp (zu (zu (zu (zu I 39 0 (I 1 3)) 39 1 (I 1 4)) 39 3 0) 39 4 (-1)) 10 40 0 0 8), J)) rfl ?_
  obtain ⟨hc2, h⟩ := zbifo h
  refine zr_one (zcopy 53 [some (.ref 39), some (.ref 1)] [.int 8, .int 0, .ref 41, .int 0, .ref 12] (SH, (zcp (zu (zu (zu (zu I 39 0 (I 1 3)) 39 1 (I 1 4)) 39 3 0) 39 4 (-1)) 10 40 0 0 8), J)) rfl (zR_copy (na := 8) (nb := 8) rfl rfl rfl rfl hc2 rfl ?_)
  have he := Option.some.inj h
  subst he
  exact zr_one (some (.inr (.inr none))) rfl (zR_ret rfl rfl)
