set_option maxRecDepth 100000 in
set_option maxHeartbeats 4000000 in
theorem ok_f183_wanting_L4 {X : zX} {d : Nat} {r : Option Value} {M' : zM} (hd : 0 ≤ d) (v1 : Int32) {I : (Nat → Nat → Int32)} {J : (Nat → Nat → Int64)} : ∀ (n : Nat) (s x : (Int32 × Int32)), zloop (f183_wanting_L4 v1 I) n s = some x → (fun (x : (Int32 × Int32)) => zRun X d 183 37 [none, none, some (.int x.1), none] [] (SH, I, J) r M') x → (fun (s : (Int32 × Int32)) => zRun X d 183 4 [some (.ref 73), some (.int v1), some (.int s.1), some (.int s.2)] [] (SH, I, J) r M') s := zloop_ok (B := (f183_wanting_L4 v1 I)) (Wh := fun (s : (Int32 × Int32)) => zRun X d 183 4 [some (.ref 73), some (.int v1), some (.int s.1), some (.int s.2)] [] (SH, I, J) r M') (Wx := fun (x : (Int32 × Int32)) => zRun X d 183 37 [none, none, some (.int x.1), none] [] (SH, I, J) r M') (fun s y h w => by
  unfold f183_wanting_L4 at h
  refine zr_steps 3 (9, [some (.ref 73), some (.int v1), some (.int s.1), some (.int s.2)], [.int (I 73 9), .int s.2], (SH, I, J)) rfl ?_
  refine zr_one (if (I 73 9) ≤ s.2 then zN 37 [some (.ref 73), some (.int v1), some (.int s.1), some (.int s.2)] [] (SH, I, J) else zN 12 [some (.ref 73), some (.int v1), some (.int s.1), some (.int s.2)] [] (SH, I, J)) rfl (zR_if (fun hc4 => zR_go ?_) (fun hc4 => zR_go ?_))
  · rw [if_pos hc4] at h
    have he := Option.some.inj h
    subst he
    exact zr_hdr (ls2 := [none, none, some (.int s.1), none]) rfl rfl (show zRun X d 183 37 [none, none, some (.int s.1), none] [] (SH, I, J) r M' from w)
  · rw [if_neg hc4] at h
    refine zr_steps 3 (17, [some (.ref 73), some (.int v1), some (.int s.1), some (.int s.2)], [.int s.2, .ref 81], (SH, I, J)) rfl ?_
    obtain ⟨hc1, h⟩ := zbifo h
    refine zr_one (bif zin s.2 8 then zN 18 [some (.ref 73), some (.int v1), some (.int s.1), some (.int s.2)] [.int (I 81 s.2.toNatClampNeg)] (SH, I, J) else none) rfl (zR_bif hc1 (zR_go ?_))
    refine zr_steps 1 (19, [some (.ref 73), some (.int v1), some (.int s.1), some (.int s.2)], [.int v1, .int (I 81 s.2.toNatClampNeg)], (SH, I, J)) rfl ?_
    refine zr_one (if (I 81 s.2.toNatClampNeg) = v1 then zN 22 [some (.ref 73), some (.int v1), some (.int s.1), some (.int s.2)] [] (SH, I, J) else zN 31 [some (.ref 73), some (.int v1), some (.int s.1), some (.int s.2)] [] (SH, I, J)) rfl (zR_if (fun hc3 => zR_go ?_) (fun hc3 => zR_go ?_))
    · rw [if_pos hc3] at h
      refine zr_steps 4 (28, [some (.ref 73), some (.int v1), some (.int s.1), some (.int s.2)], [.int s.2, .ref 80, .int s.1], (SH, I, J)) rfl ?_
      obtain ⟨hc2, h⟩ := zbifo h
      refine zr_one (bif zin s.2 8 then zN 29 [some (.ref 73), some (.int v1), some (.int s.1), some (.int s.2)] [.int (I 80 s.2.toNatClampNeg), .int s.1] (SH, I, J) else none) rfl (zR_bif hc2 (zR_go ?_))
      refine zr_steps 4 (4, [some (.ref 73), some (.int v1), some (.int (s.1 + (I 80 s.2.toNatClampNeg))), some (.int (s.2 + 1))], [], (SH, I, J)) rfl ?_
      have he := Option.some.inj h
      subst he
      exact zr_hdr (ls2 := [some (.ref 73), some (.int v1), some (.int (s.1 + (I 80 s.2.toNatClampNeg))), some (.int (s.2 + 1))]) rfl rfl (show zRun X d 183 4 [some (.ref 73), some (.int v1), some (.int (s.1 + (I 80 s.2.toNatClampNeg))), some (.int (s.2 + 1))] [] (SH, I, J) r M' from w)
    · rw [if_neg hc3] at h
      refine zr_steps 2 (4, [some (.ref 73), some (.int v1), some (.int s.1), some (.int (s.2 + 1))], [], (SH, I, J)) rfl ?_
      have he := Option.some.inj h
      subst he
      exact zr_hdr (ls2 := [some (.ref 73), some (.int v1), some (.int s.1), some (.int (s.2 + 1))]) rfl rfl (show zRun X d 183 4 [some (.ref 73), some (.int v1), some (.int s.1), some (.int (s.2 + 1))] [] (SH, I, J) r M' from w))
set_option maxRecDepth 100000 in
set_option maxHeartbeats 4000000 in
theorem ok_f183_wanting {X : zX} {d : Nat} (hd : 0 ≤ d) (v1 : Int32) {I : (Nat → Nat → Int32)} {J : (Nat → Nat → Int64)} (t : Int32) (h : f183_wanting v1 I = some t) : zRun X d 183 0 (zent 183 [.ref 73, .int v1]) [] (SH, I, J) (some (.int t)) (SH, I, J) := by
  unfold f183_wanting at h
  refine zr_steps 4 (4, [some (.ref 73), some (.int v1), some (.int 0), some (.int 0)], [], (SH, I, J)) rfl ?_
  obtain ⟨s5, ho6, h⟩ := zbind h
  refine zr_hdr (ls2 := [some (.ref 73), some (.int v1), some (.int 0), some (.int 0)]) rfl rfl ?_
  refine ok_f183_wanting_L4 (by omega) v1 5000 ((0 : Int32), (0 : Int32)) s5 ho6 ?_
  show zRun X d 183 37 [none, none, some (.int s5.1), none] [] (SH, I, J) _ _
  refine zr_steps 1 (38, [none, none, some (.int s5.1), none], [.int s5.1], (SH, I, J)) rfl ?_
  have he := Option.some.inj h
  subst he
  exact zr_one (some (.inr (.inr (some (.int s5.1))))) rfl (zR_ret rfl rfl)
set_option maxRecDepth 100000 in
set_option maxHeartbeats 4000000 in
theorem ok_f184_fewer {X : zX} {d : Nat} (hd : 6 ≤ d) (v1 : Int32) {I : (Nat → Nat → Int32)} {J : (Nat → Nat → Int64)} (t : (Int32 × (Nat → Nat → Int32))) (h : f184_fewer v1 I = some t) : zRun X d 184 0 (zent 184 [.ref 73, .int v1]) [] (SH, I, J) (some (.int t.1)) (SH, t.2, J) := by
  unfold f184_fewer at h
  refine zr_steps 3 (3, [some (.ref 73), some (.int v1), none], [.int 1, .int 0, .int v1], (SH, I, J)) rfl ?_
  obtain ⟨t2, hc1, h⟩ := zbind h
  refine zr_one (some (.inr (.inl (129, [.int v1, .int 0, .int 1], [], 6)))) rfl (zR_call (by omega) rfl (ok_f129_in (by omega) v1 0 1 _ hc1) ?_)
  refine zr_one (if t2 = 0 then zN 9 [some (.ref 73), some (.int v1), none] [] (SH, I, J) else zN 11 [some (.ref 73), some (.int v1), none] [] (SH, I, J)) rfl (zR_if (fun hc21 => zR_go ?_) (fun hc21 => zR_go ?_))
  · rw [if_pos hc21] at h
    refine zr_steps 1 (10, [some (.ref 73), some (.int v1), none], [.int (-1)], (SH, I, J)) rfl ?_
    have he := Option.some.inj h
    subst he
    exact zr_one (some (.inr (.inr (some (.int (-1)))))) rfl (zR_ret rfl rfl)
  · rw [if_neg hc21] at h
    refine zr_steps 2 (13, [some (.ref 73), some (.int v1), none], [.int 0, .ref 73], (SH, I, J)) rfl ?_
    obtain ⟨t4, hc3, h⟩ := zbind h
    refine zr_one (some (.inr (.inl (183, [.ref 73, .int 0], [], 16)))) rfl (zR_call (by omega) rfl (ok_f183_wanting (by omega) 0 _ hc3) ?_)
    refine zr_steps 2 (18, [some (.ref 73), some (.int v1), none], [.int 1, .ref 73, .int t4], (SH, I, J)) rfl ?_
    obtain ⟨t6, hc5, h⟩ := zbind h
    refine zr_one (some (.inr (.inl (183, [.ref 73, .int 1], [.int t4], 21)))) rfl (zR_call (by omega) rfl (ok_f183_wanting (by omega) 1 _ hc5) ?_)
    refine zr_one (if t4 = t6 then zN 24 [some (.ref 73), some (.int v1), none] [] (SH, I, J) else zN 27 [some (.ref 73), some (.int v1), none] [] (SH, I, J)) rfl (zR_if (fun hc20 => zR_go ?_) (fun hc20 => zR_go ?_))
    · rw [if_pos hc20] at h
      refine zr_steps 1 (26, [some (.ref 73), some (.int v1), none], [.int (-2)], (SH, I, J)) rfl ?_
      have he := Option.some.inj h
      subst he
      exact zr_one (some (.inr (.inr (some (.int (-2)))))) rfl (zR_ret rfl rfl)
    · rw [if_neg hc20] at h
      refine zr_steps 2 (29, [some (.ref 73), some (.int v1), none], [.int 0, .ref 73], (SH, I, J)) rfl ?_
      obtain ⟨t8, hc7, h⟩ := zbind h
      refine zr_one (some (.inr (.inl (183, [.ref 73, .int 0], [], 32)))) rfl (zR_call (by omega) rfl (ok_f183_wanting (by omega) 0 _ hc7) ?_)
      refine zr_steps 2 (34, [some (.ref 73), some (.int v1), none], [.int 1, .ref 73, .int t8], (SH, I, J)) rfl ?_
      obtain ⟨t10, hc9, h⟩ := zbind h
      refine zr_one (some (.inr (.inl (183, [.ref 73, .int 1], [.int t8], 37)))) rfl (zR_call (by omega) rfl (ok_f183_wanting (by omega) 1 _ hc9) ?_)
      refine zr_one (if t10 ≤ t8 then zN 44 [some (.ref 73), some (.int v1), none] [] (SH, I, J) else zN 40 [some (.ref 73), some (.int v1), none] [] (SH, I, J)) rfl (zR_if (fun hc19 => zR_go ?_) (fun hc19 => zR_go ?_))
      · rw [if_pos hc19] at h
        refine zr_steps 3 (47, [some (.ref 73), some (.int v1), some (.int 1)], [.int v1], (SH, I, J)) rfl ?_
        refine zr_one (if v1 = 0 then zN 50 [some (.ref 73), some (.int v1), some (.int 1)] [] (SH, I, J) else zN 54 [some (.ref 73), some (.int v1), some (.int 1)] [] (SH, I, J)) rfl (zR_if (fun hc14 => zR_go ?_) (fun hc14 => zR_go ?_))
        · rw [if_pos hc14] at h
          refine zr_steps 2 (71, [some (.ref 73), some (.int v1), some (.int 1)], [.int 1], (SH, I, J)) rfl ?_
          have he := Option.some.inj h
          subst he
          exact zr_one (some (.inr (.inr (some (.int 1))))) rfl (zR_ret rfl rfl)
        · rw [if_neg hc14] at h
          refine zr_steps 3 (59, [some (.ref 73), some (.int v1), some (.int 1)], [.int (I 73 15), .ref 73], (SH, I, J)) rfl ?_
          obtain ⟨t12, hc11, h⟩ := zbind h
          refine zr_one (some (.inr (.inl (171, [.ref 73, .int (I 73 15)], [], 62)))) rfl (zR_call (by omega) rfl (ok_f171_goTo (by omega) (I 73 15) _ hc11) ?_)
          refine zr_steps 1 (63, [some (.ref 73), some (.int v1), some (.int 1)], [.int 1, .int t12.1], (SH, t12.2, J)) rfl ?_
          refine zr_one (if t12.1 = 1 then zN 66 [some (.ref 73), some (.int v1), some (.int 1)] [] (SH, t12.2, J) else zN 70 [some (.ref 73), some (.int v1), some (.int 1)] [] (SH, t12.2, J)) rfl (zR_if (fun hc13 => zR_go ?_) (fun hc13 => zR_go ?_))
          · rw [if_pos hc13] at h
            refine zr_steps 2 (71, [some (.ref 73), some (.int v1), some (.int 1)], [.int 1], (SH, t12.2, J)) rfl ?_
            have he := Option.some.inj h
            subst he
            exact zr_one (some (.inr (.inr (some (.int 1))))) rfl (zR_ret rfl rfl)
          · rw [if_neg hc13] at h
            refine zr_steps 1 (71, [some (.ref 73), some (.int v1), some (.int 1)], [.int 0], (SH, t12.2, J)) rfl ?_
            have he := Option.some.inj h
            subst he
            exact zr_one (some (.inr (.inr (some (.int 0))))) rfl (zR_ret rfl rfl)
      · rw [if_neg hc19] at h
        refine zr_steps 4 (47, [some (.ref 73), some (.int v1), some (.int 0)], [.int v1], (SH, I, J)) rfl ?_
        refine zr_one (if v1 = 0 then zN 50 [some (.ref 73), some (.int v1), some (.int 0)] [] (SH, I, J) else zN 54 [some (.ref 73), some (.int v1), some (.int 0)] [] (SH, I, J)) rfl (zR_if (fun hc18 => zR_go ?_) (fun hc18 => zR_go ?_))
        · rw [if_pos hc18] at h
          refine zr_steps 2 (71, [some (.ref 73), some (.int v1), some (.int 0)], [.int 0], (SH, I, J)) rfl ?_
          have he := Option.some.inj h
          subst he
          exact zr_one (some (.inr (.inr (some (.int 0))))) rfl (zR_ret rfl rfl)
        · rw [if_neg hc18] at h
          refine zr_steps 3 (59, [some (.ref 73), some (.int v1), some (.int 0)], [.int (I 73 15), .ref 73], (SH, I, J)) rfl ?_
          obtain ⟨t16, hc15, h⟩ := zbind h
          refine zr_one (some (.inr (.inl (171, [.ref 73, .int (I 73 15)], [], 62)))) rfl (zR_call (by omega) rfl (ok_f171_goTo (by omega) (I 73 15) _ hc15) ?_)
          refine zr_steps 1 (63, [some (.ref 73), some (.int v1), some (.int 0)], [.int 0, .int t16.1], (SH, t16.2, J)) rfl ?_
          refine zr_one (if t16.1 = 0 then zN 66 [some (.ref 73), some (.int v1), some (.int 0)] [] (SH, t16.2, J) else zN 70 [some (.ref 73), some (.int v1), some (.int 0)] [] (SH, t16.2, J)) rfl (zR_if (fun hc17 => zR_go ?_) (fun hc17 => zR_go ?_))
          · rw [if_pos hc17] at h
            refine zr_steps 2 (71, [some (.ref 73), some (.int v1), some (.int 0)], [.int 1], (SH, t16.2, J)) rfl ?_
            have he := Option.some.inj h
            subst he
            exact zr_one (some (.inr (.inr (some (.int 1))))) rfl (zR_ret rfl rfl)
          · rw [if_neg hc17] at h
            refine zr_steps 1 (71, [some (.ref 73), some (.int v1), some (.int 0)], [.int 0], (SH, t16.2, J)) rfl ?_
            have he := Option.some.inj h
            subst he
            exact zr_one (some (.inr (.inr (some (.int 0))))) rfl (zR_ret rfl rfl)
set_option maxRecDepth 100000 in
set_option maxHeartbeats 4000000 in
theorem ok_f84_strew_39_L5 {X : zX} {d : Nat} {r : Option Value} {M' : zM} (hd : 0 ≤ d) {J : (Nat → Nat → Int64)} : ∀ (n : Nat) (s x : (Int32 × Int32 × (Nat → Nat → Int32))), zloop f84_strew_39_L5 n s = some x → (fun (x : (Int32 × Int32 × (Nat → Nat → Int32))) => zRun X d 84 52 [none, none, none, some (.int x.1), none] [] (SH, x.2.2, J) r M') x → (fun (s : (Int32 × Int32 × (Nat → Nat → Int32))) => zRun X d 84 5 [some (.ref 39), none, some (.ref 1), some (.int s.1), some (.int s.2.1)] [] (SH, s.2.2, J) r M') s := zloop_ok (B := f84_strew_39_L5) (Wh := fun (s : (Int32 × Int32 × (Nat → Nat → Int32))) => zRun X d 84 5 [some (.ref 39), none, some (.ref 1), some (.int s.1), some (.int s.2.1)] [] (SH, s.2.2, J) r M') (Wx := fun (x : (Int32 × Int32 × (Nat → Nat → Int32))) => zRun X d 84 52 [none, none, none, some (.int x.1), none] [] (SH, x.2.2, J) r M') (fun s y h w => by
  unfold f84_strew_39_L5 at h
  refine zr_steps 3 (11, [some (.ref 39), none, some (.ref 1), some (.int s.1), some (.int s.2.1)], [.int (s.2.2 1 2), .int s.2.1], (SH, s.2.2, J)) rfl ?_
  refine zr_one (if (s.2.2 1 2) ≤ s.2.1 then zN 52 [some (.ref 39), none, some (.ref 1), some (.int s.1), some (.int s.2.1)] [] (SH, s.2.2, J) else zN 14 [some (.ref 39), none, some (.ref 1), some (.int s.1), some (.int s.2.1)] [] (SH, s.2.2, J)) rfl (zR_if (fun hc4 => zR_go ?_) (fun hc4 => zR_go ?_))
  · rw [if_pos hc4] at h
    have he := Option.some.inj h
    subst he
    exact zr_hdr (ls2 := [none, none, none, some (.int s.1), none]) rfl rfl (show zRun X d 84 52 [none, none, none, some (.int s.1), none] [] (SH, s.2.2, J) r M' from w)
  · rw [if_neg hc4] at h
    refine zr_steps 2 (18, [some (.ref 39), none, some (.ref 1), some (.int s.1), some (.int s.2.1)], [.int (s.2.2 1 0)], (SH, s.2.2, J)) rfl ?_
    refine zr_one (if (s.2.2 1 0) ≤ 0 then zN 52 [some (.ref 39), none, some (.ref 1), some (.int s.1), some (.int s.2.1)] [] (SH, s.2.2, J) else zN 21 [some (.ref 39), none, some (.ref 1), some (.int s.1), some (.int s.2.1)] [] (SH, s.2.2, J)) rfl (zR_if (fun hc3 => zR_go ?_) (fun hc3 => zR_go ?_))
    · rw [if_pos hc3] at h
      have he := Option.some.inj h
      subst he
      exact zr_hdr (ls2 := [none, none, none, some (.int s.1), none]) rfl rfl (show zRun X d 84 52 [none, none, none, some (.int s.1), none] [] (SH, s.2.2, J) r M' from w)
    · rw [if_neg hc3] at h
      refine zr_steps 14 (44, [some (.ref 39), none, some (.ref 1), some (.int ((s.1 * 1103515245) + 12345)), some (.int s.2.1)], [.int (s.2.2 1 0), .int ((((s.1 * 1103515245) + 12345).toUInt32 >>> ((8 : Int32).toUInt32 &&& Int32.toUInt32 31)).toInt32), .int s.2.1, .ref 40], (SH, s.2.2, J)) rfl ?_
      obtain ⟨hc1, h⟩ := zdivo h
      refine zr_one (if ((s.2.2 1 0) : Int32) = 0 then none else zN 45 [some (.ref 39), none, some (.ref 1), some (.int ((s.1 * 1103515245) + 12345)), some (.int s.2.1)] [.int (((((s.1 * 1103515245) + 12345).toUInt32 >>> ((8 : Int32).toUInt32 &&& Int32.toUInt32 31)).toInt32) - ((((s.1 * 1103515245) + 12345).toUInt32 >>> ((8 : Int32).toUInt32 &&& Int32.toUInt32 31)).toInt32) / (s.2.2 1 0) * (s.2.2 1 0)), .int s.2.1, .ref 40] (SH, s.2.2, J)) rfl (zR_div hc1 (zR_go ?_))
      obtain ⟨hc2, h⟩ := zbifo h
      refine zr_one (bif zin s.2.1 8 then zN 46 [some (.ref 39), none, some (.ref 1), some (.int ((s.1 * 1103515245) + 12345)), some (.int s.2.1)] [] (SH, (zu s.2.2 40 s.2.1.toNatClampNeg (((((s.1 * 1103515245) + 12345).toUInt32 >>> ((8 : Int32).toUInt32 &&& Int32.toUInt32 31)).toInt32) - ((((s.1 * 1103515245) + 12345).toUInt32 >>> ((8 : Int32).toUInt32 &&& Int32.toUInt32 31)).toInt32) / (s.2.2 1 0) * (s.2.2 1 0))), J) else none) rfl (zR_bif hc2 (zR_go ?_))
      refine zr_steps 2 (5, [some (.ref 39), none, some (.ref 1), some (.int ((s.1 * 1103515245) + 12345)), some (.int (s.2.1 + 1))], [], (SH, (zu s.2.2 40 s.2.1.toNatClampNeg (((((s.1 * 1103515245) + 12345).toUInt32 >>> ((8 : Int32).toUInt32 &&& Int32.toUInt32 31)).toInt32) - ((((s.1 * 1103515245) + 12345).toUInt32 >>> ((8 : Int32).toUInt32 &&& Int32.toUInt32 31)).toInt32) / (s.2.2 1 0) * (s.2.2 1 0))), J)) rfl ?_
      have he := Option.some.inj h
      subst he
      exact zr_hdr (ls2 := [some (.ref 39), none, some (.ref 1), some (.int ((s.1 * 1103515245) + 12345)), some (.int (s.2.1 + 1))]) rfl rfl (show zRun X d 84 5 [some (.ref 39), none, some (.ref 1), some (.int ((s.1 * 1103515245) + 12345)), some (.int (s.2.1 + 1))] [] (SH, (zu s.2.2 40 s.2.1.toNatClampNeg (((((s.1 * 1103515245) + 12345).toUInt32 >>> ((8 : Int32).toUInt32 &&& Int32.toUInt32 31)).toInt32) - ((((s.1 * 1103515245) + 12345).toUInt32 >>> ((8 : Int32).toUInt32 &&& Int32.toUInt32 31)).toInt32) / (s.2.2 1 0) * (s.2.2 1 0))), J) r M' from w))
set_option maxRecDepth 100000 in
set_option maxHeartbeats 4000000 in
theorem ok_f84_strew_39 {X : zX} {d : Nat} (hd : 0 ≤ d) (v1 : Int32) {I : (Nat → Nat → Int32)} {J : (Nat → Nat → Int64)} (t : (Int32 × (Nat → Nat → Int32))) (h : f84_strew_39 v1 I = some t) : zRun X d 84 0 (zent 84 [.ref 39, .int v1, .ref 1]) [] (SH, I, J) (some (.int t.1)) (SH, t.2, J) := by
  unfold f84_strew_39 at h
  refine zr_steps 4 (5, [some (.ref 39), some (.int v1), some (.ref 1), some (.int v1), some (.int 0)], [], (SH, I, J)) rfl ?_
  obtain ⟨s5, ho6, h⟩ := zbind h
  refine zr_hdr (ls2 := [some (.ref 39), none, some (.ref 1), some (.int v1), some (.int 0)]) rfl rfl ?_
  refine ok_f84_strew_39_L5 (by omega) 5000 (v1, (0 : Int32), I) s5 ho6 ?_
  show zRun X d 84 52 [none, none, none, some (.int s5.1), none] [] (SH, s5.2.2, J) _ _
  refine zr_steps 1 (53, [none, none, none, some (.int s5.1), none], [.int s5.1], (SH, s5.2.2, J)) rfl ?_
  have he := Option.some.inj h
  subst he
  exact zr_one (some (.inr (.inr (some (.int s5.1))))) rfl (zR_ret rfl rfl)
set_option maxRecDepth 100000 in
set_option maxHeartbeats 4000000 in
theorem ok_f103_often_L59 {X : zX} {d : Nat} {r : Option Value} {M' : zM} (hd : 7 ≤ d) (v3 : Int32) (v4 : Int32) {J : (Nat → Nat → Int64)} : ∀ (n : Nat) (s x : (Int32 × Int32 × Int32 × (Nat → Nat → Int32))), zloop (f103_often_L59 v3 v4) n s = some x → (fun (x : (Int32 × Int32 × Int32 × (Nat → Nat → Int32))) => zRun X d 103 125 [none, none, none, none, none, none, some (.int x.2.1), none] [] (SH, x.2.2.2, J) r M') x → (fun (s : (Int32 × Int32 × Int32 × (Nat → Nat → Int32))) => zRun X d 103 59 [some (.ref 0), none, none, some (.int v3), some (.int v4), some (.int s.1), some (.int s.2.1), some (.int s.2.2.1)] [] (SH, s.2.2.2, J) r M') s := zloop_ok (B := (f103_often_L59 v3 v4)) (Wh := fun (s : (Int32 × Int32 × Int32 × (Nat → Nat → Int32))) => zRun X d 103 59 [some (.ref 0), none, none, some (.int v3), some (.int v4), some (.int s.1), some (.int s.2.1), some (.int s.2.2.1)] [] (SH, s.2.2.2, J) r M') (Wx := fun (x : (Int32 × Int32 × Int32 × (Nat → Nat → Int32))) => zRun X d 103 125 [none, none, none, none, none, none, some (.int x.2.1), none] [] (SH, x.2.2.2, J) r M') (fun s y h w => by
  unfold f103_often_L59 at h
  refine zr_steps 2 (62, [some (.ref 0), none, none, some (.int v3), some (.int v4), some (.int s.1), some (.int s.2.1), some (.int s.2.2.1)], [.int v3, .int s.2.2.1], (SH, s.2.2.2, J)) rfl ?_
  refine zr_one (if v3 ≤ s.2.2.1 then zN 125 [some (.ref 0), none, none, some (.int v3), some (.int v4), some (.int s.1), some (.int s.2.1), some (.int s.2.2.1)] [] (SH, s.2.2.2, J) else zN 65 [some (.ref 0), none, none, some (.int v3), some (.int v4), some (.int s.1), some (.int s.2.1), some (.int s.2.2.1)] [] (SH, s.2.2.2, J)) rfl (zR_if (fun hc12 => zR_go ?_) (fun hc12 => zR_go ?_))
  · rw [if_pos hc12] at h
    have he := Option.some.inj h
    subst he
    exact zr_hdr (ls2 := [none, none, none, none, none, none, some (.int s.2.1), none]) rfl rfl (show zRun X d 103 125 [none, none, none, none, none, none, some (.int s.2.1), none] [] (SH, s.2.2.2, J) r M' from w)
  · rw [if_neg hc12] at h
    refine zr_steps 5 (76, [some (.ref 0), none, none, some (.int v3), some (.int v4), some (.int s.1), some (.int s.2.1), some (.int s.2.2.1)], [.ref 1, .ref 39], (SH, s.2.2.2, J)) rfl ?_
    obtain ⟨t6, hc5, h⟩ := zbind h
    refine zr_one (some (.inr (.inl (81, [.ref 39, .ref 1], [], 79)))) rfl (zR_call (by omega) rfl (ok_f81_asIn_39 (by omega)  _ hc5) ?_)
    refine zr_steps 6 (92, [some (.ref 0), none, none, some (.int v3), some (.int v4), some (.int s.1), some (.int s.2.1), some (.int s.2.2.1)], [.ref 1, .int s.1, .ref 39], (SH, t6, J)) rfl ?_
    obtain ⟨t8, hc7, h⟩ := zbind h
    refine zr_one (some (.inr (.inl (84, [.ref 39, .int s.1, .ref 1], [], 95)))) rfl (zR_call (by omega) rfl (ok_f84_strew_39 (by omega) s.1 _ hc7) ?_)
    refine zr_steps 3 (101, [some (.ref 0), none, none, some (.int v3), some (.int v4), some (.int t8.1), some (.int s.2.1), some (.int s.2.2.1)], [.ref 38], (SH, t8.2, J)) rfl ?_
    obtain ⟨t10, hc9, h⟩ := zbind h
    refine zr_one (some (.inr (.inl (40, [.ref 38], [], 104)))) rfl (zR_call (by omega) rfl (ok_f40_pass_38 (by omega)  _ hc9) ?_)
    refine zr_steps 4 (113, [some (.ref 0), none, none, some (.int v3), some (.int v4), some (.int t8.1), some (.int s.2.1), some (.int s.2.2.1)], [.int v4, .int (t10 38 17)], (SH, t10, J)) rfl ?_
    refine zr_one (if (t10 38 17) = v4 then zN 116 [some (.ref 0), none, none, some (.int v3), some (.int v4), some (.int t8.1), some (.int s.2.1), some (.int s.2.2.1)] [] (SH, t10, J) else zN 119 [some (.ref 0), none, none, some (.int v3), some (.int v4), some (.int t8.1), some (.int s.2.1), some (.int s.2.2.1)] [] (SH, t10, J)) rfl (zR_if (fun hc11 => zR_go ?_) (fun hc11 => zR_go ?_))
    · rw [if_pos hc11] at h
      refine zr_steps 3 (59, [some (.ref 0), none, none, some (.int v3), some (.int v4), some (.int t8.1), some (.int (s.2.1 + 1)), some (.int (s.2.2.1 + 1))], [], (SH, t10, J)) rfl ?_
      have he := Option.some.inj h
      subst he
      exact zr_hdr (ls2 := [some (.ref 0), none, none, some (.int v3), some (.int v4), some (.int t8.1), some (.int (s.2.1 + 1)), some (.int (s.2.2.1 + 1))]) rfl rfl (show zRun X d 103 59 [some (.ref 0), none, none, some (.int v3), some (.int v4), some (.int t8.1), some (.int (s.2.1 + 1)), some (.int (s.2.2.1 + 1))] [] (SH, t10, J) r M' from w)
    · rw [if_neg hc11] at h
      refine zr_steps 2 (59, [some (.ref 0), none, none, some (.int v3), some (.int v4), some (.int t8.1), some (.int s.2.1), some (.int (s.2.2.1 + 1))], [], (SH, t10, J)) rfl ?_
      have he := Option.some.inj h
      subst he
      exact zr_hdr (ls2 := [some (.ref 0), none, none, some (.int v3), some (.int v4), some (.int t8.1), some (.int s.2.1), some (.int (s.2.2.1 + 1))]) rfl rfl (show zRun X d 103 59 [some (.ref 0), none, none, some (.int v3), some (.int v4), some (.int t8.1), some (.int s.2.1), some (.int (s.2.2.1 + 1))] [] (SH, t10, J) r M' from w))
set_option maxRecDepth 100000 in
set_option maxHeartbeats 4000000 in
theorem ok_f103_often {X : zX} {d : Nat} (hd : 7 ≤ d) (v1 : Int32) (v2 : Int32) {I : (Nat → Nat → Int32)} {J : (Nat → Nat → Int64)} (t : (Int32 × (Nat → Nat → Int32))) (h : f103_often v1 v2 I = some t) : zRun X d 103 0 (zent 103 [.ref 0, .int v1, .int v2]) [] (SH, I, J) (some (.int t.1)) (SH, t.2, J) := by
  unfold f103_often at h
  refine zr_steps 2 (3, [some (.ref 0), some (.int v1), some (.int v2), none, none, none, none, none], [.int 10, .int v2], (SH, I, J)) rfl ?_
  refine zr_one (if (10 : Int32) = 0 then none else zN 4 [some (.ref 0), some (.int v1), some (.int v2), none, none, none, none, none] [.int (v2 / 10)] (SH, I, J)) rfl (zR_div (by decide) (zR_go ?_))
  refine zr_steps 3 (8, [some (.ref 0), some (.int v1), some (.int v2), some (.int (v2 / 10)), none, none, none, none], [.int 10, .int v2], (SH, I, J)) rfl ?_
  refine zr_one (if (10 : Int32) = 0 then none else zN 9 [some (.ref 0), some (.int v1), some (.int v2), some (.int (v2 / 10)), none, none, none, none] [.int (v2 - v2 / 10 * 10)] (SH, I, J)) rfl (zR_div (by decide) (zR_go ?_))
  refine zr_steps 2 (12, [some (.ref 0), some (.int v1), some (.int v2), some (.int (v2 / 10)), some (.int (v2 - v2 / 10 * 10)), none, none, none], [.int v2], (SH, I, J)) rfl ?_
  refine zr_one (if v2 < 0 then zN 35 [some (.ref 0), some (.int v1), some (.int v2), some (.int (v2 / 10)), some (.int (v2 - v2 / 10 * 10)), none, none, none] [] (SH, I, J) else zN 15 [some (.ref 0), some (.int v1), some (.int v2), some (.int (v2 / 10)), some (.int (v2 - v2 / 10 * 10)), none, none, none] [] (SH, I, J)) rfl (zR_if (fun hc18 => zR_go ?_) (fun hc18 => zR_go ?_))
  · rw [if_pos hc18] at h
    refine zr_steps 1 (36, [some (.ref 0), some (.int v1), some (.int v2), some (.int (v2 / 10)), some (.int (v2 - v2 / 10 * 10)), none, none, none], [.int (-1)], (SH, I, J)) rfl ?_
    have he := Option.some.inj h
    subst he
    exact zr_one (some (.inr (.inr (some (.int (-1)))))) rfl (zR_ret rfl rfl)
  · rw [if_neg hc18] at h
    refine zr_steps 3 (19, [some (.ref 0), some (.int v1), some (.int v2), some (.int (v2 / 10)), some (.int (v2 - v2 / 10 * 10)), none, none, none], [.int 20, .int 1, .int (v2 / 10)], (SH, I, J)) rfl ?_
    obtain ⟨t2, hc1, h⟩ := zbind h
    refine zr_one (some (.inr (.inl (126, [.int (v2 / 10), .int 1, .int 20], [], 22)))) rfl (zR_call (by omega) rfl (ok_f126_within (by omega) (v2 / 10) 1 20 _ hc1) ?_)
    refine zr_one (if t2 = 0 then zN 35 [some (.ref 0), some (.int v1), some (.int v2), some (.int (v2 / 10)), some (.int (v2 - v2 / 10 * 10)), none, none, none] [] (SH, I, J) else zN 25 [some (.ref 0), some (.int v1), some (.int v2), some (.int (v2 / 10)), some (.int (v2 - v2 / 10 * 10)), none, none, none] [] (SH, I, J)) rfl (zR_if (fun hc17 => zR_go ?_) (fun hc17 => zR_go ?_))
    · rw [if_pos hc17] at h
      refine zr_steps 1 (36, [some (.ref 0), some (.int v1), some (.int v2), some (.int (v2 / 10)), some (.int (v2 - v2 / 10 * 10)), none, none, none], [.int (-1)], (SH, I, J)) rfl ?_
      have he := Option.some.inj h
      subst he
      exact zr_one (some (.inr (.inr (some (.int (-1)))))) rfl (zR_ret rfl rfl)
    · rw [if_neg hc17] at h
      refine zr_steps 3 (29, [some (.ref 0), some (.int v1), some (.int v2), some (.int (v2 / 10)), some (.int (v2 - v2 / 10 * 10)), none, none, none], [.int 2, .int 0, .int (v2 - v2 / 10 * 10)], (SH, I, J)) rfl ?_
      obtain ⟨t4, hc3, h⟩ := zbind h
      refine zr_one (some (.inr (.inl (126, [.int (v2 - v2 / 10 * 10), .int 0, .int 2], [], 32)))) rfl (zR_call (by omega) rfl (ok_f126_within (by omega) (v2 - v2 / 10 * 10) 0 2 _ hc3) ?_)
      refine zr_one (if t4 = 0 then zN 35 [some (.ref 0), some (.int v1), some (.int v2), some (.int (v2 / 10)), some (.int (v2 - v2 / 10 * 10)), none, none, none] [] (SH, I, J) else zN 37 [some (.ref 0), some (.int v1), some (.int v2), some (.int (v2 / 10)), some (.int (v2 - v2 / 10 * 10)), none, none, none] [] (SH, I, J)) rfl (zR_if (fun hc16 => zR_go ?_) (fun hc16 => zR_go ?_))
      · rw [if_pos hc16] at h
        refine zr_steps 1 (36, [some (.ref 0), some (.int v1), some (.int v2), some (.int (v2 / 10)), some (.int (v2 - v2 / 10 * 10)), none, none, none], [.int (-1)], (SH, I, J)) rfl ?_
        have he := Option.some.inj h
        subst he
        exact zr_one (some (.inr (.inr (some (.int (-1)))))) rfl (zR_ret rfl rfl)
      · rw [if_neg hc16] at h
        refine zr_steps 3 (44, [some (.ref 0), some (.int v1), some (.int v2), some (.int (v2 / 10)), some (.int (v2 - v2 / 10 * 10)), none, none, none], [.int (I 1 0)], (SH, I, J)) rfl ?_
        refine zr_one (if (I 1 0) = 0 then zN 47 [some (.ref 0), some (.int v1), some (.int v2), some (.int (v2 / 10)), some (.int (v2 - v2 / 10 * 10)), none, none, none] [] (SH, I, J) else zN 50 [some (.ref 0), some (.int v1), some (.int v2), some (.int (v2 / 10)), some (.int (v2 - v2 / 10 * 10)), none, none, none] [] (SH, I, J)) rfl (zR_if (fun hc15 => zR_go ?_) (fun hc15 => zR_go ?_))
        · rw [if_pos hc15] at h
          refine zr_steps 1 (49, [some (.ref 0), some (.int v1), some (.int v2), some (.int (v2 / 10)), some (.int (v2 - v2 / 10 * 10)), none, none, none], [.int (-5)], (SH, I, J)) rfl ?_
          have he := Option.some.inj h
          subst he
          exact zr_one (some (.inr (.inr (some (.int (-5)))))) rfl (zR_ret rfl rfl)
        · rw [if_neg hc15] at h
          refine zr_steps 6 (59, [some (.ref 0), some (.int v1), some (.int v2), some (.int (v2 / 10)), some (.int (v2 - v2 / 10 * 10)), some (.int v1), some (.int 0), some (.int 0)], [], (SH, I, J)) rfl ?_
          obtain ⟨s13, ho14, h⟩ := zbind h
          refine zr_hdr (ls2 := [some (.ref 0), none, none, some (.int (v2 / 10)), some (.int (v2 - v2 / 10 * 10)), some (.int v1), some (.int 0), some (.int 0)]) rfl rfl ?_
          refine ok_f103_often_L59 (by omega) (v2 / 10) (v2 - v2 / 10 * 10) 5000 (v1, (0 : Int32), (0 : Int32), I) s13 ho14 ?_
          show zRun X d 103 125 [none, none, none, none, none, none, some (.int s13.2.1), none] [] (SH, s13.2.2.2, J) _ _
          refine zr_steps 1 (127, [none, none, none, none, none, none, some (.int s13.2.1), none], [.int s13.2.1], (SH, s13.2.2.2, J)) rfl ?_
          have he := Option.some.inj h
          subst he
          exact zr_one (some (.inr (.inr (some (.int s13.2.1))))) rfl (zR_ret rfl rfl)
set_option maxRecDepth 100000 in
set_option maxHeartbeats 4000000 in
theorem ok_f185_often_L39 {X : zX} {d : Nat} {r : Option Value} {M' : zM} (hd : 6 ≤ d) (v1 : Int32) (v2 : Int32) {J : (Nat → Nat → Int64)} : ∀ (n : Nat) (s x : (Int32 × (Nat → Nat → Int32))), zloop (f185_often_L39 v1 v2) n s = some x → (fun (x : (Int32 × (Nat → Nat → Int32))) => zRun X d 185 65 [some (.ref 73), some (.int v1), some (.int v2), none, none, none, none] [] (SH, x.2, J) r M') x → (fun (s : (Int32 × (Nat → Nat → Int32))) => zRun X d 185 39 [some (.ref 73), some (.int v1), some (.int v2), some (.int s.1), none, none, none] [] (SH, s.2, J) r M') s := zloop_ok (B := (f185_often_L39 v1 v2)) (Wh := fun (s : (Int32 × (Nat → Nat → Int32))) => zRun X d 185 39 [some (.ref 73), some (.int v1), some (.int v2), some (.int s.1), none, none, none] [] (SH, s.2, J) r M') (Wx := fun (x : (Int32 × (Nat → Nat → Int32))) => zRun X d 185 65 [some (.ref 73), some (.int v1), some (.int v2), none, none, none, none] [] (SH, x.2, J) r M') (fun s y h w => by
  unfold f185_often_L39 at h
  refine zr_steps 3 (44, [some (.ref 73), some (.int v1), some (.int v2), some (.int s.1), none, none, none], [.int (s.2 73 9), .int s.1], (SH, s.2, J)) rfl ?_
  refine zr_one (if (s.2 73 9) ≤ s.1 then zN 65 [some (.ref 73), some (.int v1), some (.int v2), some (.int s.1), none, none, none] [] (SH, s.2, J) else zN 47 [some (.ref 73), some (.int v1), some (.int v2), some (.int s.1), none, none, none] [] (SH, s.2, J)) rfl (zR_if (fun hc5 => zR_go ?_) (fun hc5 => zR_go ?_))
  · rw [if_pos hc5] at h
    have he := Option.some.inj h
    subst he
    exact zr_hdr (ls2 := [some (.ref 73), some (.int v1), some (.int v2), none, none, none, none]) rfl rfl (show zRun X d 185 65 [some (.ref 73), some (.int v1), some (.int v2), none, none, none, none] [] (SH, s.2, J) r M' from w)
  · rw [if_neg hc5] at h
    refine zr_steps 6 (57, [some (.ref 73), some (.int v1), some (.int v2), some (.int s.1), none, none, none], [.int s.1, .ref 82, .int s.1, .ref 107], (SH, s.2, J)) rfl ?_
    obtain ⟨hc3, h⟩ := zbifo h
    refine zr_one (bif zin s.1 8 then zN 58 [some (.ref 73), some (.int v1), some (.int v2), some (.int s.1), none, none, none] [.int (s.2 82 s.1.toNatClampNeg), .int s.1, .ref 107] (SH, s.2, J) else none) rfl (zR_bif hc3 (zR_go ?_))
    obtain ⟨hc4, h⟩ := zbifo h
    refine zr_one (bif zin s.1 8 then zN 59 [some (.ref 73), some (.int v1), some (.int v2), some (.int s.1), none, none, none] [] (SH, (zu s.2 107 s.1.toNatClampNeg (s.2 82 s.1.toNatClampNeg)), J) else none) rfl (zR_bif hc4 (zR_go ?_))
    refine zr_steps 2 (39, [some (.ref 73), some (.int v1), some (.int v2), some (.int (s.1 + 1)), none, none, none], [], (SH, (zu s.2 107 s.1.toNatClampNeg (s.2 82 s.1.toNatClampNeg)), J)) rfl ?_
    have he := Option.some.inj h
    subst he
    exact zr_hdr (ls2 := [some (.ref 73), some (.int v1), some (.int v2), some (.int (s.1 + 1)), none, none, none]) rfl rfl (show zRun X d 185 39 [some (.ref 73), some (.int v1), some (.int v2), some (.int (s.1 + 1)), none, none, none] [] (SH, (zu s.2 107 s.1.toNatClampNeg (s.2 82 s.1.toNatClampNeg)), J) r M' from w))
set_option maxRecDepth 100000 in
set_option maxHeartbeats 4000000 in
theorem ok_f185_often_L85 {X : zX} {d : Nat} {r : Option Value} {M' : zM} (hd : 6 ≤ d) (v2 : Int32) (v4 : Int32) (v5 : Int32) {J : (Nat → Nat → Int64)} : ∀ (n : Nat) (s x : (Int32 × Int32 × (Nat → Nat → Int32))), zloop (f185_often_L85 v2 v4 v5) n s = some x → (fun (x : (Int32 × Int32 × (Nat → Nat → Int32))) => zRun X d 185 126 [some (.ref 73), none, some (.int v2), some (.int x.1), some (.int v4), some (.int v5), none] [] (SH, x.2.2, J) r M') x → (fun (s : (Int32 × Int32 × (Nat → Nat → Int32))) => zRun X d 185 85 [some (.ref 73), none, some (.int v2), some (.int s.1), some (.int v4), some (.int v5), some (.int s.2.1)] [] (SH, s.2.2, J) r M') s := zloop_ok (B := (f185_often_L85 v2 v4 v5)) (Wh := fun (s : (Int32 × Int32 × (Nat → Nat → Int32))) => zRun X d 185 85 [some (.ref 73), none, some (.int v2), some (.int s.1), some (.int v4), some (.int v5), some (.int s.2.1)] [] (SH, s.2.2, J) r M') (Wx := fun (x : (Int32 × Int32 × (Nat → Nat → Int32))) => zRun X d 185 126 [some (.ref 73), none, some (.int v2), some (.int x.1), some (.int v4), some (.int v5), none] [] (SH, x.2.2, J) r M') (fun s y h w => by
  unfold f185_often_L85 at h
  refine zr_steps 3 (91, [some (.ref 73), none, some (.int v2), some (.int s.1), some (.int v4), some (.int v5), some (.int s.2.1)], [.int (s.2.2 73 9), .int s.2.1], (SH, s.2.2, J)) rfl ?_
  refine zr_one (if (s.2.2 73 9) ≤ s.2.1 then zN 126 [some (.ref 73), none, some (.int v2), some (.int s.1), some (.int v4), some (.int v5), some (.int s.2.1)] [] (SH, s.2.2, J) else zN 94 [some (.ref 73), none, some (.int v2), some (.int s.1), some (.int v4), some (.int v5), some (.int s.2.1)] [] (SH, s.2.2, J)) rfl (zR_if (fun hc10 => zR_go ?_) (fun hc10 => zR_go ?_))
  · rw [if_pos hc10] at h
    have he := Option.some.inj h
    subst he
    exact zr_hdr (ls2 := [some (.ref 73), none, some (.int v2), some (.int s.1), some (.int v4), some (.int v5), none]) rfl rfl (show zRun X d 185 126 [some (.ref 73), none, some (.int v2), some (.int s.1), some (.int v4), some (.int v5), none] [] (SH, s.2.2, J) r M' from w)
  · rw [if_neg hc10] at h
    refine zr_steps 14 (118, [some (.ref 73), none, some (.int v2), some (.int ((s.1 * 1103515245) + 12345)), some (.int v4), some (.int v5), some (.int s.2.1)], [.int (s.2.2 73 1), .int ((((s.1 * 1103515245) + 12345).toUInt32 >>> ((8 : Int32).toUInt32 &&& Int32.toUInt32 31)).toInt32), .int s.2.1, .ref 82], (SH, s.2.2, J)) rfl ?_
    obtain ⟨hc8, h⟩ := zdivo h
    refine zr_one (if ((s.2.2 73 1) : Int32) = 0 then none else zN 119 [some (.ref 73), none, some (.int v2), some (.int ((s.1 * 1103515245) + 12345)), some (.int v4), some (.int v5), some (.int s.2.1)] [.int (((((s.1 * 1103515245) + 12345).toUInt32 >>> ((8 : Int32).toUInt32 &&& Int32.toUInt32 31)).toInt32) - ((((s.1 * 1103515245) + 12345).toUInt32 >>> ((8 : Int32).toUInt32 &&& Int32.toUInt32 31)).toInt32) / (s.2.2 73 1) * (s.2.2 73 1)), .int s.2.1, .ref 82] (SH, s.2.2, J)) rfl (zR_div hc8 (zR_go ?_))
    obtain ⟨hc9, h⟩ := zbifo h
    refine zr_one (bif zin s.2.1 8 then zN 120 [some (.ref 73), none, some (.int v2), some (.int ((s.1 * 1103515245) + 12345)), some (.int v4), some (.int v5), some (.int s.2.1)] [] (SH, (zu s.2.2 82 s.2.1.toNatClampNeg (((((s.1 * 1103515245) + 12345).toUInt32 >>> ((8 : Int32).toUInt32 &&& Int32.toUInt32 31)).toInt32) - ((((s.1 * 1103515245) + 12345).toUInt32 >>> ((8 : Int32).toUInt32 &&& Int32.toUInt32 31)).toInt32) / (s.2.2 73 1) * (s.2.2 73 1))), J) else none) rfl (zR_bif hc9 (zR_go ?_))
    refine zr_steps 2 (85, [some (.ref 73), none, some (.int v2), some (.int ((s.1 * 1103515245) + 12345)), some (.int v4), some (.int v5), some (.int (s.2.1 + 1))], [], (SH, (zu s.2.2 82 s.2.1.toNatClampNeg (((((s.1 * 1103515245) + 12345).toUInt32 >>> ((8 : Int32).toUInt32 &&& Int32.toUInt32 31)).toInt32) - ((((s.1 * 1103515245) + 12345).toUInt32 >>> ((8 : Int32).toUInt32 &&& Int32.toUInt32 31)).toInt32) / (s.2.2 73 1) * (s.2.2 73 1))), J)) rfl ?_
    have he := Option.some.inj h
    subst he
    exact zr_hdr (ls2 := [some (.ref 73), none, some (.int v2), some (.int ((s.1 * 1103515245) + 12345)), some (.int v4), some (.int v5), some (.int (s.2.1 + 1))]) rfl rfl (show zRun X d 185 85 [some (.ref 73), none, some (.int v2), some (.int ((s.1 * 1103515245) + 12345)), some (.int v4), some (.int v5), some (.int (s.2.1 + 1))] [] (SH, (zu s.2.2 82 s.2.1.toNatClampNeg (((((s.1 * 1103515245) + 12345).toUInt32 >>> ((8 : Int32).toUInt32 &&& Int32.toUInt32 31)).toInt32) - ((((s.1 * 1103515245) + 12345).toUInt32 >>> ((8 : Int32).toUInt32 &&& Int32.toUInt32 31)).toInt32) / (s.2.2 73 1) * (s.2.2 73 1))), J) r M' from w))
set_option maxRecDepth 100000 in
set_option maxHeartbeats 4000000 in
theorem ok_f185_often_L73 {X : zX} {d : Nat} {r : Option Value} {M' : zM} (hd : 6 ≤ d) (v2 : Int32) {J : (Nat → Nat → Int64)} : ∀ (n : Nat) (s x : (Int32 × Int32 × Int32 × (Nat → Nat → Int32))), zloop (f185_often_L73 v2) n s = some x → (fun (x : (Int32 × Int32 × Int32 × (Nat → Nat → Int32))) => zRun X d 185 150 [some (.ref 73), none, none, none, some (.int x.2.1), none, none] [] (SH, x.2.2.2, J) r M') x → (fun (s : (Int32 × Int32 × Int32 × (Nat → Nat → Int32))) => zRun X d 185 73 [some (.ref 73), none, some (.int v2), some (.int s.1), some (.int s.2.1), some (.int s.2.2.1), none] [] (SH, s.2.2.2, J) r M') s := zloop_ok (B := (f185_often_L73 v2)) (Wh := fun (s : (Int32 × Int32 × Int32 × (Nat → Nat → Int32))) => zRun X d 185 73 [some (.ref 73), none, some (.int v2), some (.int s.1), some (.int s.2.1), some (.int s.2.2.1), none] [] (SH, s.2.2.2, J) r M') (Wx := fun (x : (Int32 × Int32 × Int32 × (Nat → Nat → Int32))) => zRun X d 185 150 [some (.ref 73), none, none, none, some (.int x.2.1), none, none] [] (SH, x.2.2.2, J) r M') (fun s y h w => by
  unfold f185_often_L73 at h
  refine zr_steps 3 (78, [some (.ref 73), none, some (.int v2), some (.int s.1), some (.int s.2.1), some (.int s.2.2.1), none], [.int 10, .int v2, .int s.2.2.1], (SH, s.2.2.2, J)) rfl ?_
  refine zr_one (if (10 : Int32) = 0 then none else zN 79 [some (.ref 73), none, some (.int v2), some (.int s.1), some (.int s.2.1), some (.int s.2.2.1), none] [.int (v2 / 10), .int s.2.2.1] (SH, s.2.2.2, J)) rfl (zR_div (by decide) (zR_go ?_))
  refine zr_one (if (v2 / 10) ≤ s.2.2.1 then zN 150 [some (.ref 73), none, some (.int v2), some (.int s.1), some (.int s.2.1), some (.int s.2.2.1), none] [] (SH, s.2.2.2, J) else zN 82 [some (.ref 73), none, some (.int v2), some (.int s.1), some (.int s.2.1), some (.int s.2.2.1), none] [] (SH, s.2.2.2, J)) rfl (zR_if (fun hc16 => zR_go ?_) (fun hc16 => zR_go ?_))
  · rw [if_pos hc16] at h
    have he := Option.some.inj h
    subst he
    exact zr_hdr (ls2 := [some (.ref 73), none, none, none, some (.int s.2.1), none, none]) rfl rfl (show zRun X d 185 150 [some (.ref 73), none, none, none, some (.int s.2.1), none, none] [] (SH, s.2.2.2, J) r M' from w)
  · rw [if_neg hc16] at h
    refine zr_steps 2 (85, [some (.ref 73), none, some (.int v2), some (.int s.1), some (.int s.2.1), some (.int s.2.2.1), some (.int 0)], [], (SH, s.2.2.2, J)) rfl ?_
    obtain ⟨s11, ho12, h⟩ := zbind h
    refine zr_hdr (ls2 := [some (.ref 73), none, some (.int v2), some (.int s.1), some (.int s.2.1), some (.int s.2.2.1), some (.int 0)]) rfl rfl ?_
    refine ok_f185_often_L85 (by omega) v2 s.2.1 s.2.2.1 5000 (s.1, (0 : Int32), s.2.2.2) s11 ho12 ?_
    show zRun X d 185 126 [some (.ref 73), none, some (.int v2), some (.int s11.1), some (.int s.2.1), some (.int s.2.2.1), none] [] (SH, s11.2.2, J) _ _
    refine zr_steps 3 (131, [some (.ref 73), none, some (.int v2), some (.int s11.1), some (.int s.2.1), some (.int s.2.2.1), none], [.int (s11.2.2 73 15), .ref 73], (SH, s11.2.2, J)) rfl ?_
    obtain ⟨t14, hc13, h⟩ := zbind h
    refine zr_one (some (.inr (.inl (171, [.ref 73, .int (s11.2.2 73 15)], [], 134)))) rfl (zR_call (by omega) rfl (ok_f171_goTo (by omega) (s11.2.2 73 15) _ hc13) ?_)
    refine zr_steps 2 (137, [some (.ref 73), none, some (.int v2), some (.int s11.1), some (.int s.2.1), some (.int s.2.2.1), none], [.int 10, .int v2, .int t14.1], (SH, t14.2, J)) rfl ?_
    refine zr_one (if (10 : Int32) = 0 then none else zN 138 [some (.ref 73), none, some (.int v2), some (.int s11.1), some (.int s.2.1), some (.int s.2.2.1), none] [.int (v2 - v2 / 10 * 10), .int t14.1] (SH, t14.2, J)) rfl (zR_div (by decide) (zR_go ?_))
    refine zr_one (if t14.1 = (v2 - v2 / 10 * 10) then zN 141 [some (.ref 73), none, some (.int v2), some (.int s11.1), some (.int s.2.1), some (.int s.2.2.1), none] [] (SH, t14.2, J) else zN 144 [some (.ref 73), none, some (.int v2), some (.int s11.1), some (.int s.2.1), some (.int s.2.2.1), none] [] (SH, t14.2, J)) rfl (zR_if (fun hc15 => zR_go ?_) (fun hc15 => zR_go ?_))
    · rw [if_pos hc15] at h
      refine zr_steps 3 (73, [some (.ref 73), none, some (.int v2), some (.int s11.1), some (.int (s.2.1 + 1)), some (.int (s.2.2.1 + 1)), none], [], (SH, t14.2, J)) rfl ?_
      have he := Option.some.inj h
      subst he
      exact zr_hdr (ls2 := [some (.ref 73), none, some (.int v2), some (.int s11.1), some (.int (s.2.1 + 1)), some (.int (s.2.2.1 + 1)), none]) rfl rfl (show zRun X d 185 73 [some (.ref 73), none, some (.int v2), some (.int s11.1), some (.int (s.2.1 + 1)), some (.int (s.2.2.1 + 1)), none] [] (SH, t14.2, J) r M' from w)
    · rw [if_neg hc15] at h
      refine zr_steps 2 (73, [some (.ref 73), none, some (.int v2), some (.int s11.1), some (.int s.2.1), some (.int (s.2.2.1 + 1)), none], [], (SH, t14.2, J)) rfl ?_
      have he := Option.some.inj h
      subst he
      exact zr_hdr (ls2 := [some (.ref 73), none, some (.int v2), some (.int s11.1), some (.int s.2.1), some (.int (s.2.2.1 + 1)), none]) rfl rfl (show zRun X d 185 73 [some (.ref 73), none, some (.int v2), some (.int s11.1), some (.int s.2.1), some (.int (s.2.2.1 + 1)), none] [] (SH, t14.2, J) r M' from w))
set_option maxRecDepth 100000 in
set_option maxHeartbeats 4000000 in
theorem ok_f185_often_L153 {X : zX} {d : Nat} {r : Option Value} {M' : zM} (hd : 6 ≤ d) (v4 : Int32) {J : (Nat → Nat → Int64)} : ∀ (n : Nat) (s x : (Int32 × (Nat → Nat → Int32))), zloop (f185_often_L153 v4) n s = some x → (fun (x : (Int32 × (Nat → Nat → Int32))) => zRun X d 185 182 [none, none, none, none, some (.int v4), none, none] [] (SH, x.2, J) r M') x → (fun (s : (Int32 × (Nat → Nat → Int32))) => zRun X d 185 153 [some (.ref 73), none, none, none, some (.int v4), some (.int s.1), none] [] (SH, s.2, J) r M') s := zloop_ok (B := (f185_often_L153 v4)) (Wh := fun (s : (Int32 × (Nat → Nat → Int32))) => zRun X d 185 153 [some (.ref 73), none, none, none, some (.int v4), some (.int s.1), none] [] (SH, s.2, J) r M') (Wx := fun (x : (Int32 × (Nat → Nat → Int32))) => zRun X d 185 182 [none, none, none, none, some (.int v4), none, none] [] (SH, x.2, J) r M') (fun s y h w => by
  unfold f185_often_L153 at h
  refine zr_steps 3 (159, [some (.ref 73), none, none, none, some (.int v4), some (.int s.1), none], [.int (s.2 73 9), .int s.1], (SH, s.2, J)) rfl ?_
  refine zr_one (if (s.2 73 9) ≤ s.1 then zN 182 [some (.ref 73), none, none, none, some (.int v4), some (.int s.1), none] [] (SH, s.2, J) else zN 162 [some (.ref 73), none, none, none, some (.int v4), some (.int s.1), none] [] (SH, s.2, J)) rfl (zR_if (fun hc21 => zR_go ?_) (fun hc21 => zR_go ?_))
  · rw [if_pos hc21] at h
    have he := Option.some.inj h
    subst he
    exact zr_hdr (ls2 := [none, none, none, none, some (.int v4), none, none]) rfl rfl (show zRun X d 185 182 [none, none, none, none, some (.int v4), none, none] [] (SH, s.2, J) r M' from w)
  · rw [if_neg hc21] at h
    refine zr_steps 6 (174, [some (.ref 73), none, none, none, some (.int v4), some (.int s.1), none], [.int s.1, .ref 107, .int s.1, .ref 82], (SH, s.2, J)) rfl ?_
    obtain ⟨hc19, h⟩ := zbifo h
    refine zr_one (bif zin s.1 8 then zN 175 [some (.ref 73), none, none, none, some (.int v4), some (.int s.1), none] [.int (s.2 107 s.1.toNatClampNeg), .int s.1, .ref 82] (SH, s.2, J) else none) rfl (zR_bif hc19 (zR_go ?_))
    obtain ⟨hc20, h⟩ := zbifo h
    refine zr_one (bif zin s.1 8 then zN 176 [some (.ref 73), none, none, none, some (.int v4), some (.int s.1), none] [] (SH, (zu s.2 82 s.1.toNatClampNeg (s.2 107 s.1.toNatClampNeg)), J) else none) rfl (zR_bif hc20 (zR_go ?_))
    refine zr_steps 2 (153, [some (.ref 73), none, none, none, some (.int v4), some (.int (s.1 + 1)), none], [], (SH, (zu s.2 82 s.1.toNatClampNeg (s.2 107 s.1.toNatClampNeg)), J)) rfl ?_
    have he := Option.some.inj h
    subst he
    exact zr_hdr (ls2 := [some (.ref 73), none, none, none, some (.int v4), some (.int (s.1 + 1)), none]) rfl rfl (show zRun X d 185 153 [some (.ref 73), none, none, none, some (.int v4), some (.int (s.1 + 1)), none] [] (SH, (zu s.2 82 s.1.toNatClampNeg (s.2 107 s.1.toNatClampNeg)), J) r M' from w))
set_option maxRecDepth 100000 in
set_option maxHeartbeats 4000000 in
theorem ok_f185_often {X : zX} {d : Nat} (hd : 6 ≤ d) (v1 : Int32) (v2 : Int32) {I : (Nat → Nat → Int32)} {J : (Nat → Nat → Int64)} (t : (Int32 × (Nat → Nat → Int32))) (h : f185_often v1 v2 I = some t) : zRun X d 185 0 (zent 185 [.ref 73, .int v1, .int v2]) [] (SH, I, J) (some (.int t.1)) (SH, t.2, J) := by
  unfold f185_often at h
  refine zr_steps 1 (1, [some (.ref 73), some (.int v1), some (.int v2), none, none, none, none], [.int v2], (SH, I, J)) rfl ?_
  refine zr_one (if v2 < 0 then zN 25 [some (.ref 73), some (.int v1), some (.int v2), none, none, none, none] [] (SH, I, J) else zN 4 [some (.ref 73), some (.int v1), some (.int v2), none, none, none, none] [] (SH, I, J)) rfl (zR_if (fun hc27 => zR_go ?_) (fun hc27 => zR_go ?_))
  · rw [if_pos hc27] at h
    refine zr_steps 1 (26, [some (.ref 73), some (.int v1), some (.int v2), none, none, none, none], [.int (-1)], (SH, I, J)) rfl ?_
    have he := Option.some.inj h
    subst he
    exact zr_one (some (.inr (.inr (some (.int (-1)))))) rfl (zR_ret rfl rfl)
  · rw [if_neg hc27] at h
    refine zr_steps 2 (7, [some (.ref 73), some (.int v1), some (.int v2), none, none, none, none], [.int 10, .int v2], (SH, I, J)) rfl ?_
    refine zr_one (if (10 : Int32) = 0 then none else zN 8 [some (.ref 73), some (.int v1), some (.int v2), none, none, none, none] [.int (v2 / 10)] (SH, I, J)) rfl (zR_div (by decide) (zR_go ?_))
    refine zr_steps 2 (11, [some (.ref 73), some (.int v1), some (.int v2), none, none, none, none], [.int 20, .int 1, .int (v2 / 10)], (SH, I, J)) rfl ?_
    obtain ⟨t2, hc1, h⟩ := zbind h
    refine zr_one (some (.inr (.inl (129, [.int (v2 / 10), .int 1, .int 20], [], 14)))) rfl (zR_call (by omega) rfl (ok_f129_in (by omega) (v2 / 10) 1 20 _ hc1) ?_)
    refine zr_one (if t2 = 0 then zN 25 [some (.ref 73), some (.int v1), some (.int v2), none, none, none, none] [] (SH, I, J) else zN 17 [some (.ref 73), some (.int v1), some (.int v2), none, none, none, none] [] (SH, I, J)) rfl (zR_if (fun hc26 => zR_go ?_) (fun hc26 => zR_go ?_))
    · rw [if_pos hc26] at h
      refine zr_steps 1 (26, [some (.ref 73), some (.int v1), some (.int v2), none, none, none, none], [.int (-1)], (SH, I, J)) rfl ?_
      have he := Option.some.inj h
      subst he
      exact zr_one (some (.inr (.inr (some (.int (-1)))))) rfl (zR_ret rfl rfl)
    · rw [if_neg hc26] at h
      refine zr_steps 2 (20, [some (.ref 73), some (.int v1), some (.int v2), none, none, none, none], [.int 10, .int v2], (SH, I, J)) rfl ?_
      refine zr_one (if (10 : Int32) = 0 then none else zN 21 [some (.ref 73), some (.int v1), some (.int v2), none, none, none, none] [.int (v2 - v2 / 10 * 10)] (SH, I, J)) rfl (zR_div (by decide) (zR_go ?_))
      refine zr_steps 1 (22, [some (.ref 73), some (.int v1), some (.int v2), none, none, none, none], [.int 2, .int (v2 - v2 / 10 * 10)], (SH, I, J)) rfl ?_
      refine zr_one (if (v2 - v2 / 10 * 10) ≤ 2 then zN 27 [some (.ref 73), some (.int v1), some (.int v2), none, none, none, none] [] (SH, I, J) else zN 25 [some (.ref 73), some (.int v1), some (.int v2), none, none, none, none] [] (SH, I, J)) rfl (zR_if (fun hc25 => zR_go ?_) (fun hc25 => zR_go ?_))
      · rw [if_pos hc25] at h
        refine zr_steps 2 (31, [some (.ref 73), some (.int v1), some (.int v2), none, none, none, none], [.int (I 73 1)], (SH, I, J)) rfl ?_
        refine zr_one (if (I 73 1) = 0 then zN 34 [some (.ref 73), some (.int v1), some (.int v2), none, none, none, none] [] (SH, I, J) else zN 37 [some (.ref 73), some (.int v1), some (.int v2), none, none, none, none] [] (SH, I, J)) rfl (zR_if (fun hc24 => zR_go ?_) (fun hc24 => zR_go ?_))
        · rw [if_pos hc24] at h
          refine zr_steps 1 (36, [some (.ref 73), some (.int v1), some (.int v2), none, none, none, none], [.int (-5)], (SH, I, J)) rfl ?_
          have he := Option.some.inj h
          subst he
          exact zr_one (some (.inr (.inr (some (.int (-5)))))) rfl (zR_ret rfl rfl)
        · rw [if_neg hc24] at h
          refine zr_steps 2 (39, [some (.ref 73), some (.int v1), some (.int v2), some (.int 0), none, none, none], [], (SH, I, J)) rfl ?_
          obtain ⟨s6, ho7, h⟩ := zbind h
          refine zr_hdr (ls2 := [some (.ref 73), some (.int v1), some (.int v2), some (.int 0), none, none, none]) rfl rfl ?_
          refine ok_f185_often_L39 (by omega) v1 v2 5000 ((0 : Int32), I) s6 ho7 ?_
          show zRun X d 185 65 [some (.ref 73), some (.int v1), some (.int v2), none, none, none, none] [] (SH, s6.2, J) _ _
          refine zr_steps 6 (73, [some (.ref 73), some (.int v1), some (.int v2), some (.int v1), some (.int 0), some (.int 0), none], [], (SH, s6.2, J)) rfl ?_
          obtain ⟨s17, ho18, h⟩ := zbind h
          refine zr_hdr (ls2 := [some (.ref 73), none, some (.int v2), some (.int v1), some (.int 0), some (.int 0), none]) rfl rfl ?_
          refine ok_f185_often_L73 (by omega) v2 5000 (v1, (0 : Int32), (0 : Int32), s6.2) s17 ho18 ?_
          show zRun X d 185 150 [some (.ref 73), none, none, none, some (.int s17.2.1), none, none] [] (SH, s17.2.2.2, J) _ _
          refine zr_steps 2 (153, [some (.ref 73), none, none, none, some (.int s17.2.1), some (.int 0), none], [], (SH, s17.2.2.2, J)) rfl ?_
          obtain ⟨s22, ho23, h⟩ := zbind h
          refine zr_hdr (ls2 := [some (.ref 73), none, none, none, some (.int s17.2.1), some (.int 0), none]) rfl rfl ?_
          refine ok_f185_often_L153 (by omega) s17.2.1 5000 ((0 : Int32), s17.2.2.2) s22 ho23 ?_
          show zRun X d 185 182 [none, none, none, none, some (.int s17.2.1), none, none] [] (SH, s22.2, J) _ _
          refine zr_steps 1 (184, [none, none, none, none, some (.int s17.2.1), none, none], [.int s17.2.1], (SH, s22.2, J)) rfl ?_
          have he := Option.some.inj h
          subst he
          exact zr_one (some (.inr (.inr (some (.int s17.2.1))))) rfl (zR_ret rfl rfl)
      · rw [if_neg hc25] at h
        refine zr_steps 1 (26, [some (.ref 73), some (.int v1), some (.int v2), none, none, none, none], [.int (-1)], (SH, I, J)) rfl ?_
        have he := Option.some.inj h
        subst he
        exact zr_one (some (.inr (.inr (some (.int (-1)))))) rfl (zR_ret rfl rfl)
set_option maxRecDepth 100000 in
set_option maxHeartbeats 4000000 in
theorem ok_f104_sooner {X : zX} {d : Nat} (hd : 7 ≤ d) (v1 : Int32) {I : (Nat → Nat → Int32)} {J : (Nat → Nat → Int64)} (t : (Int32 × (Nat → Nat → Int32))) (h : f104_sooner v1 I = some t) : zRun X d 104 0 (zent 104 [.ref 0, .int v1]) [] (SH, I, J) (some (.int t.1)) (SH, t.2, J) := by
  unfold f104_sooner at h
  refine zr_steps 3 (4, [some (.ref 0), some (.int v1)], [.int 9, .int 0, .int v1], (SH, I, J)) rfl ?_
  obtain ⟨t2, hc1, h⟩ := zbind h
  refine zr_one (some (.inr (.inl (126, [.int v1, .int 0, .int 9], [], 7)))) rfl (zR_call (by omega) rfl (ok_f126_within (by omega) v1 0 9 _ hc1) ?_)
  refine zr_one (if t2 = 0 then zN 10 [some (.ref 0), some (.int v1)] [] (SH, I, J) else zN 12 [some (.ref 0), some (.int v1)] [] (SH, I, J)) rfl (zR_if (fun hc8 => zR_go ?_) (fun hc8 => zR_go ?_))
  · rw [if_pos hc8] at h
    refine zr_steps 1 (11, [some (.ref 0), some (.int v1)], [.int (-1)], (SH, I, J)) rfl ?_
    have he := Option.some.inj h
    subst he
    exact zr_one (some (.inr (.inr (some (.int (-1)))))) rfl (zR_ret rfl rfl)
  · rw [if_neg hc8] at h
    refine zr_steps 3 (19, [some (.ref 0), some (.int v1)], [.int (I 1 0)], (SH, I, J)) rfl ?_
    refine zr_one (if (I 1 0) = 0 then zN 22 [some (.ref 0), some (.int v1)] [] (SH, I, J) else zN 25 [some (.ref 0), some (.int v1)] [] (SH, I, J)) rfl (zR_if (fun hc7 => zR_go ?_) (fun hc7 => zR_go ?_))
    · rw [if_pos hc7] at h
      refine zr_steps 1 (24, [some (.ref 0), some (.int v1)], [.int (-5)], (SH, I, J)) rfl ?_
      have he := Option.some.inj h
      subst he
      exact zr_one (some (.inr (.inr (some (.int (-5)))))) rfl (zR_ret rfl rfl)
    · rw [if_neg hc7] at h
      refine zr_steps 5 (36, [some (.ref 0), some (.int v1)], [.ref 1, .ref 39], (SH, I, J)) rfl ?_
      obtain ⟨t4, hc3, h⟩ := zbind h
      refine zr_one (some (.inr (.inl (81, [.ref 39, .ref 1], [], 39)))) rfl (zR_call (by omega) rfl (ok_f81_asIn_39 (by omega)  _ hc3) ?_)
      refine zr_steps 7 (54, [some (.ref 0), some (.int v1)], [.ref 38], (SH, (zu t4 39 1 v1), J)) rfl ?_
      obtain ⟨t6, hc5, h⟩ := zbind h
      refine zr_one (some (.inr (.inl (40, [.ref 38], [], 57)))) rfl (zR_call (by omega) rfl (ok_f40_pass_38 (by omega)  _ hc5) ?_)
      refine zr_steps 3 (64, [some (.ref 0), some (.int v1)], [.int (t6 38 17)], (SH, t6, J)) rfl ?_
      have he := Option.some.inj h
      subst he
      exact zr_one (some (.inr (.inr (some (.int (t6 38 17)))))) rfl (zR_ret rfl rfl)
set_option maxRecDepth 100000 in
set_option maxHeartbeats 4000000 in
theorem ok_f186_sooner {X : zX} {d : Nat} (hd : 6 ≤ d) (v1 : Int32) {I : (Nat → Nat → Int32)} {J : (Nat → Nat → Int64)} (t : (Int32 × (Nat → Nat → Int32))) (h : f186_sooner v1 I = some t) : zRun X d 186 0 (zent 186 [.ref 73, .int v1]) [] (SH, I, J) (some (.int t.1)) (SH, t.2, J) := by
  unfold f186_sooner at h
  refine zr_steps 3 (4, [some (.ref 73), some (.int v1), none, none], [.int 9, .int 0, .int v1], (SH, I, J)) rfl ?_
  obtain ⟨t2, hc1, h⟩ := zbind h
  refine zr_one (some (.inr (.inl (129, [.int v1, .int 0, .int 9], [], 7)))) rfl (zR_call (by omega) rfl (ok_f129_in (by omega) v1 0 9 _ hc1) ?_)
  refine zr_one (if t2 = 0 then zN 10 [some (.ref 73), some (.int v1), none, none] [] (SH, I, J) else zN 12 [some (.ref 73), some (.int v1), none, none] [] (SH, I, J)) rfl (zR_if (fun hc6 => zR_go ?_) (fun hc6 => zR_go ?_))
  · rw [if_pos hc6] at h
    refine zr_steps 1 (11, [some (.ref 73), some (.int v1), none, none], [.int (-1)], (SH, I, J)) rfl ?_
    have he := Option.some.inj h
    subst he
    exact zr_one (some (.inr (.inr (some (.int (-1)))))) rfl (zR_ret rfl rfl)
  · rw [if_neg hc6] at h
    refine zr_steps 2 (16, [some (.ref 73), some (.int v1), none, none], [.int (I 73 1)], (SH, I, J)) rfl ?_
    refine zr_one (if (I 73 1) = 0 then zN 19 [some (.ref 73), some (.int v1), none, none] [] (SH, I, J) else zN 22 [some (.ref 73), some (.int v1), none, none] [] (SH, I, J)) rfl (zR_if (fun hc5 => zR_go ?_) (fun hc5 => zR_go ?_))
    · rw [if_pos hc5] at h
      refine zr_steps 1 (21, [some (.ref 73), some (.int v1), none, none], [.int (-5)], (SH, I, J)) rfl ?_
      have he := Option.some.inj h
      subst he
      exact zr_one (some (.inr (.inr (some (.int (-5)))))) rfl (zR_ret rfl rfl)
    · rw [if_neg hc5] at h
      refine zr_steps 9 (37, [some (.ref 73), some (.int v1), some (.int (I 73 16)), none], [.int (I 73 15), .ref 73], (SH, (zu I 73 16 v1), J)) rfl ?_
      obtain ⟨t4, hc3, h⟩ := zbind h
      refine zr_one (some (.inr (.inl (171, [.ref 73, .int (I 73 15)], [], 40)))) rfl (zR_call (by omega) rfl (ok_f171_goTo (by omega) (I 73 15) _ hc3) ?_)
      refine zr_steps 5 (47, [some (.ref 73), some (.int v1), some (.int (I 73 16)), some (.int t4.1)], [.int t4.1], (SH, (zu t4.2 73 16 (I 73 16)), J)) rfl ?_
      have he := Option.some.inj h
      subst he
      exact zr_one (some (.inr (.inr (some (.int t4.1))))) rfl (zR_ret rfl rfl)
set_option maxRecDepth 100000 in
set_option maxHeartbeats 4000000 in
theorem ok_f106_makesHundred_L4 {X : zX} {d : Nat} {r : Option Value} {M' : zM} (hd : 2 ≤ d) (v0 : Nat) (hs0 : zIsShelf v0) {I : (Nat → Nat → Int32)} {J : (Nat → Nat → Int64)} : ∀ (n : Nat) (s : (Int64 × Int32)) (t : Int32 ⊕ (Int64 × Int32)), zloopR (f106_makesHundred_L4 v0 I J) n s = some t → zSumE (fun (x : Int32) => r = (some (.int x)) ∧ M' = (SH, I, J)) (fun (x : (Int64 × Int32)) => zRun X d 106 46 [none, some (.long x.1), none, none, none, none] [] (SH, I, J) r M') t → (fun (s : (Int64 × Int32)) => zRun X d 106 4 [some (.ref v0), some (.long s.1), none, some (.int s.2), none, none] [] (SH, I, J) r M') s := zloopR_ok (B := (f106_makesHundred_L4 v0 I J)) (Wh := fun (s : (Int64 × Int32)) => zRun X d 106 4 [some (.ref v0), some (.long s.1), none, some (.int s.2), none, none] [] (SH, I, J) r M') (Wx := fun (x : (Int64 × Int32)) => zRun X d 106 46 [none, some (.long x.1), none, none, none, none] [] (SH, I, J) r M') (Wr := fun (x : Int32) => r = (some (.int x)) ∧ M' = (SH, I, J)) (fun s y h w => by
  unfold f106_makesHundred_L4 at h
  refine zr_steps 2 (7, [some (.ref v0), some (.long s.1), none, some (.int s.2), none, none], [.int 10, .int s.2], (SH, I, J)) rfl ?_
  refine zr_one (if (10 : Int32) ≤ s.2 then zN 46 [some (.ref v0), some (.long s.1), none, some (.int s.2), none, none] [] (SH, I, J) else zN 10 [some (.ref v0), some (.long s.1), none, some (.int s.2), none, none] [] (SH, I, J)) rfl (zR_if (fun hc5 => zR_go ?_) (fun hc5 => zR_go ?_))
  · rw [if_pos hc5] at h
    have he := Option.some.inj h
    subst he
    exact zr_hdr (ls2 := [none, some (.long s.1), none, none, none, none]) rfl rfl (show zRun X d 106 46 [none, some (.long s.1), none, none, none, none] [] (SH, I, J) r M' from w)
  · rw [if_neg hc5] at h
    refine zr_steps 2 (12, [some (.ref v0), some (.long s.1), none, some (.int s.2), none, none], [.int s.2, .ref v0], (SH, I, J)) rfl ?_
    obtain ⟨t2, hc1, h⟩ := zbind h
    refine zr_one (bif zrcv (SH, I, J) 57 [.ref v0, .int s.2] then some (.inr (.inl (57, [.ref v0, .int s.2], [], 15))) else none) rfl (zR_bif (sh_rcv hs0 rfl rfl) (zR_call (by omega) rfl (ok_f57_at (by omega) v0 s.2 hs0 _ hc1) ?_))
    refine zr_steps 4 (21, [some (.ref v0), some (.long s.1), none, some (.int s.2), some (.long t2), none], [.int (lg_cmp t2 0)], (SH, I, J)) rfl ?_
    refine zr_one (if (lg_cmp t2 0) < 0 then zN 33 [some (.ref v0), some (.long s.1), none, some (.int s.2), some (.long t2), none] [] (SH, I, J) else zN 24 [some (.ref v0), some (.long s.1), none, some (.int s.2), some (.long t2), none] [] (SH, I, J)) rfl (zR_if (fun hc4 => zR_go ?_) (fun hc4 => zR_go ?_))
    · rw [if_pos hc4] at h
      refine zr_steps 1 (34, [some (.ref v0), some (.long s.1), none, some (.int s.2), some (.long t2), none], [.int 0], (SH, I, J)) rfl ?_
      have he := Option.some.inj h
      subst he
      obtain ⟨e1, e2⟩ := (show r = (some (.int 0)) ∧ M' = (SH, I, J) from w)
      exact zr_one (if ((0 : Int32) = 0 ∨ (0 : Int32) = 1) then some (.inr (.inr (some (.int 0)))) else none) rfl (zR_pos (by decide) (zR_ret e1.symm e2.symm))
    · rw [if_neg hc4] at h
      refine zr_steps 3 (30, [some (.ref v0), some (.long s.1), none, some (.int s.2), some (.long t2), none], [.int (lg_cmp t2 100)], (SH, I, J)) rfl ?_
      refine zr_one (if (lg_cmp t2 100) ≤ 0 then zN 35 [some (.ref v0), some (.long s.1), none, some (.int s.2), some (.long t2), none] [] (SH, I, J) else zN 33 [some (.ref v0), some (.long s.1), none, some (.int s.2), some (.long t2), none] [] (SH, I, J)) rfl (zR_if (fun hc3 => zR_go ?_) (fun hc3 => zR_go ?_))
      · rw [if_pos hc3] at h
        refine zr_steps 6 (4, [some (.ref v0), some (.long (s.1 + t2)), none, some (.int (s.2 + 1)), some (.long t2), none], [], (SH, I, J)) rfl ?_
        have he := Option.some.inj h
        subst he
        exact zr_hdr (ls2 := [some (.ref v0), some (.long (s.1 + t2)), none, some (.int (s.2 + 1)), none, none]) rfl rfl (show zRun X d 106 4 [some (.ref v0), some (.long (s.1 + t2)), none, some (.int (s.2 + 1)), none, none] [] (SH, I, J) r M' from w)
      · rw [if_neg hc3] at h
        refine zr_steps 1 (34, [some (.ref v0), some (.long s.1), none, some (.int s.2), some (.long t2), none], [.int 0], (SH, I, J)) rfl ?_
        have he := Option.some.inj h
        subst he
        obtain ⟨e1, e2⟩ := (show r = (some (.int 0)) ∧ M' = (SH, I, J) from w)
        exact zr_one (if ((0 : Int32) = 0 ∨ (0 : Int32) = 1) then some (.inr (.inr (some (.int 0)))) else none) rfl (zR_pos (by decide) (zR_ret e1.symm e2.symm)))
set_option maxRecDepth 100000 in
set_option maxHeartbeats 4000000 in
theorem ok_f106_makesHundred {X : zX} {d : Nat} (hd : 2 ≤ d) (v0 : Nat) (hs0 : zIsShelf v0) {I : (Nat → Nat → Int32)} {J : (Nat → Nat → Int64)} (t : Int32) (h : f106_makesHundred v0 I J = some t) : zRun X d 106 0 (zent 106 [.ref v0]) [] (SH, I, J) (some (.int t)) (SH, I, J) := by
  unfold f106_makesHundred at h
  refine zr_steps 4 (4, [some (.ref v0), some (.long 0), none, some (.int 0), none, none], [], (SH, I, J)) rfl ?_
  obtain ⟨y9, ho7, hy⟩ := zbRe h
  refine zr_hdr (ls2 := [some (.ref v0), some (.long 0), none, some (.int 0), none, none]) rfl rfl ?_
  refine ok_f106_makesHundred_L4 (by omega) v0 hs0 5000 ((0 : Int64), (0 : Int32)) y9 ho7 ?_
  rcases hy with ⟨rr, rfl, h⟩ | ⟨s6, rfl, h⟩
  · have he := Option.some.inj h
    subst he
    exact ⟨rfl, rfl⟩
  · show zRun X d 106 46 [none, some (.long s6.1), none, none, none, none] [] (SH, I, J) _ _
    refine zr_steps 3 (51, [none, some (.long s6.1), none, none, none, none], [.int (lg_cmp s6.1 100)], (SH, I, J)) rfl ?_
    refine zr_one (if (lg_cmp s6.1 100) = 0 then zN 54 [none, some (.long s6.1), none, none, none, none] [] (SH, I, J) else zN 58 [none, some (.long s6.1), none, none, none, none] [] (SH, I, J)) rfl (zR_if (fun hc8 => zR_go ?_) (fun hc8 => zR_go ?_))
    · rw [if_pos hc8] at h
      refine zr_steps 2 (59, [none, some (.long s6.1), none, none, none, none], [.int 1], (SH, I, J)) rfl ?_
      have he := Option.some.inj h
      subst he
      exact zr_one (if ((1 : Int32) = 0 ∨ (1 : Int32) = 1) then some (.inr (.inr (some (.int 1)))) else none) rfl (zR_pos (by decide) (zR_ret rfl rfl))
    · rw [if_neg hc8] at h
      refine zr_steps 1 (59, [none, some (.long s6.1), none, none, none, none], [.int 0], (SH, I, J)) rfl ?_
      have he := Option.some.inj h
      subst he
      exact zr_one (if ((0 : Int32) = 0 ∨ (0 : Int32) = 1) then some (.inr (.inr (some (.int 0)))) else none) rfl (zR_pos (by decide) (zR_ret rfl rfl))
set_option maxRecDepth 100000 in
set_option maxHeartbeats 4000000 in
theorem ok_f105_bell_L81 {X : zX} {d : Nat} {r : Option Value} {M' : zM} (hd : 7 ≤ d) (v2 : Int32) (v3 : Nat) (hs3 : zIsShelf v3) {J : (Nat → Nat → Int64)} : ∀ (n : Nat) (s x : (Int32 × Int32 × (Nat → Nat → Int32))), zloop (f105_bell_L81 v2 v3 J) n s = some x → (fun (x : (Int32 × Int32 × (Nat → Nat → Int32))) => zRun X d 105 175 [none, none, none, none, none, some (.int x.1), none, none] [] (SH, x.2.2, J) r M') x → (fun (s : (Int32 × Int32 × (Nat → Nat → Int32))) => zRun X d 105 81 [some (.ref 0), none, some (.int v2), some (.ref v3), none, some (.int s.1), some (.int s.2.1), none] [] (SH, s.2.2, J) r M') s := zloop_ok (B := (f105_bell_L81 v2 v3 J)) (Wh := fun (s : (Int32 × Int32 × (Nat → Nat → Int32))) => zRun X d 105 81 [some (.ref 0), none, some (.int v2), some (.ref v3), none, some (.int s.1), some (.int s.2.1), none] [] (SH, s.2.2, J) r M') (Wx := fun (x : (Int32 × Int32 × (Nat → Nat → Int32))) => zRun X d 105 175 [none, none, none, none, none, some (.int x.1), none, none] [] (SH, x.2.2, J) r M') (fun s y h w => by
  unfold f105_bell_L81 at h
  refine zr_steps 2 (85, [some (.ref 0), none, some (.int v2), some (.ref v3), none, some (.int s.1), some (.int s.2.1), none], [.int 10, .int s.2.1], (SH, s.2.2, J)) rfl ?_
  refine zr_one (if (10 : Int32) ≤ s.2.1 then zN 175 [some (.ref 0), none, some (.int v2), some (.ref v3), none, some (.int s.1), some (.int s.2.1), none] [] (SH, s.2.2, J) else zN 88 [some (.ref 0), none, some (.int v2), some (.ref v3), none, some (.int s.1), some (.int s.2.1), none] [] (SH, s.2.2, J)) rfl (zR_if (fun hc18 => zR_go ?_) (fun hc18 => zR_go ?_))
  · rw [if_pos hc18] at h
    have he := Option.some.inj h
    subst he
    exact zr_hdr (ls2 := [none, none, none, none, none, some (.int s.1), none, none]) rfl rfl (show zRun X d 105 175 [none, none, none, none, none, some (.int s.1), none, none] [] (SH, s.2.2, J) r M' from w)
  · rw [if_neg hc18] at h
    refine zr_steps 2 (91, [some (.ref 0), none, some (.int v2), some (.ref v3), none, some (.int s.1), some (.int s.2.1), none], [.int s.2.1, .ref v3], (SH, s.2.2, J)) rfl ?_
    obtain ⟨t11, hc10, h⟩ := zbind h
    refine zr_one (bif zrcv (SH, s.2.2, J) 57 [.ref v3, .int s.2.1] then some (.inr (.inl (57, [.ref v3, .int s.2.1], [], 94))) else none) rfl (zR_bif (sh_rcv hs3 rfl rfl) (zR_call (by omega) rfl (ok_f57_at (by omega) v3 s.2.1 hs3 _ hc10) ?_))
    refine zr_steps 3 (99, [some (.ref 0), none, some (.int v2), some (.ref v3), none, some (.int s.1), some (.int s.2.1), some (.int t11.toInt32)], [.int t11.toInt32], (SH, s.2.2, J)) rfl ?_
    refine zr_one (if t11.toInt32 ≤ 0 then zN 169 [some (.ref 0), none, some (.int v2), some (.ref v3), none, some (.int s.1), some (.int s.2.1), some (.int t11.toInt32)] [] (SH, s.2.2, J) else zN 102 [some (.ref 0), none, some (.int v2), some (.ref v3), none, some (.int s.1), some (.int s.2.1), some (.int t11.toInt32)] [] (SH, s.2.2, J)) rfl (zR_if (fun hc17 => zR_go ?_) (fun hc17 => zR_go ?_))
    · rw [if_pos hc17] at h
      refine zr_steps 2 (81, [some (.ref 0), none, some (.int v2), some (.ref v3), none, some (.int s.1), some (.int (s.2.1 + 1)), some (.int t11.toInt32)], [], (SH, s.2.2, J)) rfl ?_
      have he := Option.some.inj h
      subst he
      exact zr_hdr (ls2 := [some (.ref 0), none, some (.int v2), some (.ref v3), none, some (.int s.1), some (.int (s.2.1 + 1)), none]) rfl rfl (show zRun X d 105 81 [some (.ref 0), none, some (.int v2), some (.ref v3), none, some (.int s.1), some (.int (s.2.1 + 1)), none] [] (SH, s.2.2, J) r M' from w)
    · rw [if_neg hc17] at h
      refine zr_steps 5 (113, [some (.ref 0), none, some (.int v2), some (.ref v3), none, some (.int s.1), some (.int s.2.1), some (.int t11.toInt32)], [.ref 1, .ref 39], (SH, s.2.2, J)) rfl ?_
      obtain ⟨t13, hc12, h⟩ := zbind h
      refine zr_one (some (.inr (.inl (81, [.ref 39, .ref 1], [], 116)))) rfl (zR_call (by omega) rfl (ok_f81_asIn_39 (by omega)  _ hc12) ?_)
      refine zr_steps 13 (144, [some (.ref 0), none, some (.int v2), some (.ref v3), none, some (.int s.1), some (.int s.2.1), some (.int t11.toInt32)], [.ref 38], (SH, (zu t13 39 0 (zmax 1 ((t13 1 3) - s.2.1))), J)) rfl ?_
      obtain ⟨t15, hc14, h⟩ := zbind h
      refine zr_one (some (.inr (.inl (40, [.ref 38], [], 147)))) rfl (zR_call (by omega) rfl (ok_f40_pass_38 (by omega)  _ hc14) ?_)
      refine zr_steps 5 (157, [some (.ref 0), none, some (.int v2), some (.ref v3), none, some (.int s.1), some (.int s.2.1), some (.int t11.toInt32)], [.int v2, .int (t15 38 17), .int s.1], (SH, t15, J)) rfl ?_
      refine zr_one (if (t15 38 17) = v2 then zN 160 [some (.ref 0), none, some (.int v2), some (.ref v3), none, some (.int s.1), some (.int s.2.1), some (.int t11.toInt32)] [.int s.1] (SH, t15, J) else zN 165 [some (.ref 0), none, some (.int v2), some (.ref v3), none, some (.int s.1), some (.int s.2.1), some (.int t11.toInt32)] [.int s.1] (SH, t15, J)) rfl (zR_if (fun hc16 => zR_go ?_) (fun hc16 => zR_go ?_))
      · rw [if_pos hc16] at h
        refine zr_steps 6 (81, [some (.ref 0), none, some (.int v2), some (.ref v3), none, some (.int (s.1 + t11.toInt32)), some (.int (s.2.1 + 1)), some (.int t11.toInt32)], [], (SH, t15, J)) rfl ?_
        have he := Option.some.inj h
        subst he
        exact zr_hdr (ls2 := [some (.ref 0), none, some (.int v2), some (.ref v3), none, some (.int (s.1 + t11.toInt32)), some (.int (s.2.1 + 1)), none]) rfl rfl (show zRun X d 105 81 [some (.ref 0), none, some (.int v2), some (.ref v3), none, some (.int (s.1 + t11.toInt32)), some (.int (s.2.1 + 1)), none] [] (SH, t15, J) r M' from w)
      · rw [if_neg hc16] at h
        refine zr_steps 5 (81, [some (.ref 0), none, some (.int v2), some (.ref v3), none, some (.int (s.1 + 0)), some (.int (s.2.1 + 1)), some (.int t11.toInt32)], [], (SH, t15, J)) rfl ?_
        have he := Option.some.inj h
        subst he
        exact zr_hdr (ls2 := [some (.ref 0), none, some (.int v2), some (.ref v3), none, some (.int (s.1 + 0)), some (.int (s.2.1 + 1)), none]) rfl rfl (show zRun X d 105 81 [some (.ref 0), none, some (.int v2), some (.ref v3), none, some (.int (s.1 + 0)), some (.int (s.2.1 + 1)), none] [] (SH, t15, J) r M' from w))
set_option maxRecDepth 100000 in
set_option maxHeartbeats 4000000 in
theorem ok_f105_bell {X : zX} {d : Nat} (hd : 7 ≤ d) (v1 : Int32) (v2 : Int32) {I : (Nat → Nat → Int32)} {J : (Nat → Nat → Int64)} (t : (Int32 × (Nat → Nat → Int32))) (h : f105_bell v1 v2 I J = some t) : zRun X d 105 0 (zent 105 [.ref 0, .int v1, .int v2]) [] (SH, I, J) (some (.int t.1)) (SH, t.2, J) := by
  unfold f105_bell at h
  refine zr_steps 1 (1, [some (.ref 0), some (.int v1), some (.int v2), none, none, none, none, none], [.int v1], (SH, I, J)) rfl ?_
  obtain ⟨t2, hc1, h⟩ := zbind h
  refine zr_one (some (.inr (.inl (127, [.int v1], [], 4)))) rfl (zR_call (by omega) rfl (ok_f127_isShelf (by omega) v1 _ hc1) ?_)
  refine zr_one (if t2 = 0 then zN 16 [some (.ref 0), some (.int v1), some (.int v2), none, none, none, none, none] [] (SH, I, J) else zN 7 [some (.ref 0), some (.int v1), some (.int v2), none, none, none, none, none] [] (SH, I, J)) rfl (zR_if (fun hc26 => zR_go ?_) (fun hc26 => zR_go ?_))
  · rw [if_pos hc26] at h
    refine zr_steps 1 (17, [some (.ref 0), some (.int v1), some (.int v2), none, none, none, none, none], [.int (-1)], (SH, I, J)) rfl ?_
    have he := Option.some.inj h
    subst he
    exact zr_one (some (.inr (.inr (some (.int (-1)))))) rfl (zR_ret rfl rfl)
  · rw [if_neg hc26] at h
    refine zr_steps 3 (10, [some (.ref 0), some (.int v1), some (.int v2), none, none, none, none, none], [.int 2, .int 0, .int v2], (SH, I, J)) rfl ?_
    obtain ⟨t4, hc3, h⟩ := zbind h
    refine zr_one (some (.inr (.inl (126, [.int v2, .int 0, .int 2], [], 13)))) rfl (zR_call (by omega) rfl (ok_f126_within (by omega) v2 0 2 _ hc3) ?_)
    refine zr_one (if t4 = 0 then zN 16 [some (.ref 0), some (.int v1), some (.int v2), none, none, none, none, none] [] (SH, I, J) else zN 18 [some (.ref 0), some (.int v1), some (.int v2), none, none, none, none, none] [] (SH, I, J)) rfl (zR_if (fun hc25 => zR_go ?_) (fun hc25 => zR_go ?_))
    · rw [if_pos hc25] at h
      refine zr_steps 1 (17, [some (.ref 0), some (.int v1), some (.int v2), none, none, none, none, none], [.int (-1)], (SH, I, J)) rfl ?_
      have he := Option.some.inj h
      subst he
      exact zr_one (some (.inr (.inr (some (.int (-1)))))) rfl (zR_ret rfl rfl)
    · rw [if_neg hc25] at h
      refine zr_steps 3 (23, [some (.ref 0), some (.int v1), some (.int v2), none, none, none, none, none], [.int v1, .ref 60], (SH, I, J)) rfl ?_
      obtain ⟨hc5, h⟩ := zbifo h
      refine zr_one (bif zin v1 6 then zrefr 24 [some (.ref 0), some (.int v1), some (.int v2), none, none, none, none, none] [] (SH, I, J) (zri (SH, I, J) 60 v1.toNatClampNeg) else none) rfl (zR_bif hc5 (zR_ref (sh_at hc5) ?_))
      refine zr_steps 3 (27, [some (.ref 0), some (.int v1), some (.int v2), some (.ref (zshelf v1)), none, none, none, none], [.int 0, .ref (zshelf v1)], (SH, I, J)) rfl ?_
      obtain ⟨t7, hc6, h⟩ := zbind h
      refine zr_one (bif zrcv (SH, I, J) 55 [.ref (zshelf v1), .int 0] then some (.inr (.inl (55, [.ref (zshelf v1), .int 0], [], 30))) else none) rfl (zR_bif (sh_rcv (sh_is hc5) rfl rfl) (zR_call (by omega) rfl (ok_f55_refusal (by omega) (zshelf v1) 0 (sh_is hc5) _ hc6) ?_))
      refine zr_steps 2 (34, [some (.ref 0), some (.int v1), some (.int v2), some (.ref (zshelf v1)), some (.int t7), none, none, none], [.int t7], (SH, I, J)) rfl ?_
      refine zr_one (if t7 = 0 then zN 40 [some (.ref 0), some (.int v1), some (.int v2), some (.ref (zshelf v1)), some (.int t7), none, none, none] [] (SH, I, J) else zN 37 [some (.ref 0), some (.int v1), some (.int v2), some (.ref (zshelf v1)), some (.int t7), none, none, none] [] (SH, I, J)) rfl (zR_if (fun hc24 => zR_go ?_) (fun hc24 => zR_go ?_))
      · rw [if_pos hc24] at h
        refine zr_steps 1 (41, [some (.ref 0), some (.int v1), some (.int v2), some (.ref (zshelf v1)), some (.int t7), none, none, none], [.ref (zshelf v1)], (SH, I, J)) rfl ?_
        refine zr_one (zfget 41 4 2 [some (.ref 0), some (.int v1), some (.int v2), some (.ref (zshelf v1)), some (.int t7), none, none, none] [.ref (zshelf v1)] (SH, I, J)) rfl (sR_get (sh_is hc5) (by decide) ?_)
        refine zr_steps 1 (46, [some (.ref 0), some (.int v1), some (.int v2), some (.ref (zshelf v1)), some (.int t7), none, none, none], [.int 10, .int (I (zshelf v1) 2)], (SH, I, J)) rfl ?_
        refine zr_one (if (10 : Int32) ≤ (I (zshelf v1) 2) then zN 52 [some (.ref 0), some (.int v1), some (.int v2), some (.ref (zshelf v1)), some (.int t7), none, none, none] [] (SH, I, J) else zN 49 [some (.ref 0), some (.int v1), some (.int v2), some (.ref (zshelf v1)), some (.int t7), none, none, none] [] (SH, I, J)) rfl (zR_if (fun hc23 => zR_go ?_) (fun hc23 => zR_go ?_))
        · rw [if_pos hc23] at h
          refine zr_steps 1 (53, [some (.ref 0), some (.int v1), some (.int v2), some (.ref (zshelf v1)), some (.int t7), none, none, none], [.ref (zshelf v1)], (SH, I, J)) rfl ?_
          obtain ⟨t9, hc8, h⟩ := zbind h
          refine zr_one (some (.inr (.inl (106, [.ref (zshelf v1)], [], 56)))) rfl (zR_call (by omega) rfl (ok_f106_makesHundred (by omega) (zshelf v1) (sh_is hc5) _ hc8) ?_)
          refine zr_one (if t9 = 0 then zN 59 [some (.ref 0), some (.int v1), some (.int v2), some (.ref (zshelf v1)), some (.int t7), none, none, none] [] (SH, I, J) else zN 62 [some (.ref 0), some (.int v1), some (.int v2), some (.ref (zshelf v1)), some (.int t7), none, none, none] [] (SH, I, J)) rfl (zR_if (fun hc22 => zR_go ?_) (fun hc22 => zR_go ?_))
          · rw [if_pos hc22] at h
            refine zr_steps 1 (61, [some (.ref 0), some (.int v1), some (.int v2), some (.ref (zshelf v1)), some (.int t7), none, none, none], [.int (-2)], (SH, I, J)) rfl ?_
            have he := Option.some.inj h
            subst he
            exact zr_one (some (.inr (.inr (some (.int (-2)))))) rfl (zR_ret rfl rfl)
          · rw [if_neg hc22] at h
            refine zr_steps 3 (69, [some (.ref 0), some (.int v1), some (.int v2), some (.ref (zshelf v1)), some (.int t7), none, none, none], [.int (I 1 0)], (SH, I, J)) rfl ?_
            refine zr_one (if (I 1 0) = 0 then zN 72 [some (.ref 0), some (.int v1), some (.int v2), some (.ref (zshelf v1)), some (.int t7), none, none, none] [] (SH, I, J) else zN 75 [some (.ref 0), some (.int v1), some (.int v2), some (.ref (zshelf v1)), some (.int t7), none, none, none] [] (SH, I, J)) rfl (zR_if (fun hc21 => zR_go ?_) (fun hc21 => zR_go ?_))
            · rw [if_pos hc21] at h
              refine zr_steps 1 (74, [some (.ref 0), some (.int v1), some (.int v2), some (.ref (zshelf v1)), some (.int t7), none, none, none], [.int (-5)], (SH, I, J)) rfl ?_
              have he := Option.some.inj h
              subst he
              exact zr_one (some (.inr (.inr (some (.int (-5)))))) rfl (zR_ret rfl rfl)
            · rw [if_neg hc21] at h
              refine zr_steps 4 (81, [some (.ref 0), some (.int v1), some (.int v2), some (.ref (zshelf v1)), some (.int t7), some (.int 0), some (.int 0), none], [], (SH, I, J)) rfl ?_
              obtain ⟨s19, ho20, h⟩ := zbind h
              refine zr_hdr (ls2 := [some (.ref 0), none, some (.int v2), some (.ref (zshelf v1)), none, some (.int 0), some (.int 0), none]) rfl rfl ?_
              refine ok_f105_bell_L81 (by omega) v2 (zshelf v1) (sh_is hc5) 5000 ((0 : Int32), (0 : Int32), I) s19 ho20 ?_
              show zRun X d 105 175 [none, none, none, none, none, some (.int s19.1), none, none] [] (SH, s19.2.2, J) _ _
              refine zr_steps 1 (177, [none, none, none, none, none, some (.int s19.1), none, none], [.int s19.1], (SH, s19.2.2, J)) rfl ?_
              have he := Option.some.inj h
              subst he
              exact zr_one (some (.inr (.inr (some (.int s19.1))))) rfl (zR_ret rfl rfl)
        · rw [if_neg hc23] at h
          refine zr_steps 1 (51, [some (.ref 0), some (.int v1), some (.int v2), some (.ref (zshelf v1)), some (.int t7), none, none, none], [.int (-13)], (SH, I, J)) rfl ?_
          have he := Option.some.inj h
          subst he
          exact zr_one (some (.inr (.inr (some (.int (-13)))))) rfl (zR_ret rfl rfl)
      · rw [if_neg hc24] at h
        refine zr_steps 1 (39, [some (.ref 0), some (.int v1), some (.int v2), some (.ref (zshelf v1)), some (.int t7), none, none, none], [.int t7], (SH, I, J)) rfl ?_
        have he := Option.some.inj h
        subst he
        exact zr_one (some (.inr (.inr (some (.int t7))))) rfl (zR_ret rfl rfl)
set_option maxRecDepth 100000 in
set_option maxHeartbeats 4000000 in
theorem ok_f187_bell_L64 {X : zX} {d : Nat} {r : Option Value} {M' : zM} (hd : 6 ≤ d) (v1 : Int32) (v2 : Int32) {I : (Nat → Nat → Int32)} {J : (Nat → Nat → Int64)} : ∀ (n : Nat) (s : (Int32 × Int32)) (t : (Int32 × (Nat → Nat → Int32)) ⊕ (Int32 × Int32)), zloopR (f187_bell_L64 v1 v2 I J) n s = some t → zSumE (fun (x : (Int32 × (Nat → Nat → Int32))) => r = (some (.int x.1)) ∧ M' = (SH, x.2, J)) (fun (x : (Int32 × Int32)) => zRun X d 187 111 [some (.ref 73), some (.int v1), some (.int v2), some (.int x.1), none, none, none] [] (SH, I, J) r M') t → (fun (s : (Int32 × Int32)) => zRun X d 187 64 [some (.ref 73), some (.int v1), some (.int v2), some (.int s.1), some (.int s.2), none, none] [] (SH, I, J) r M') s := zloopR_ok (B := (f187_bell_L64 v1 v2 I J)) (Wh := fun (s : (Int32 × Int32)) => zRun X d 187 64 [some (.ref 73), some (.int v1), some (.int v2), some (.int s.1), some (.int s.2), none, none] [] (SH, I, J) r M') (Wx := fun (x : (Int32 × Int32)) => zRun X d 187 111 [some (.ref 73), some (.int v1), some (.int v2), some (.int x.1), none, none, none] [] (SH, I, J) r M') (Wr := fun (x : (Int32 × (Nat → Nat → Int32))) => r = (some (.int x.1)) ∧ M' = (SH, x.2, J)) (fun s y h w => by
  unfold f187_bell_L64 at h
  refine zr_steps 2 (68, [some (.ref 73), some (.int v1), some (.int v2), some (.int s.1), some (.int s.2), none, none], [.int 10, .int s.2], (SH, I, J)) rfl ?_
  refine zr_one (if (10 : Int32) ≤ s.2 then zN 111 [some (.ref 73), some (.int v1), some (.int v2), some (.int s.1), some (.int s.2), none, none] [] (SH, I, J) else zN 71 [some (.ref 73), some (.int v1), some (.int v2), some (.int s.1), some (.int s.2), none, none] [] (SH, I, J)) rfl (zR_if (fun hc12 => zR_go ?_) (fun hc12 => zR_go ?_))
  · rw [if_pos hc12] at h
    have he := Option.some.inj h
    subst he
    exact zr_hdr (ls2 := [some (.ref 73), some (.int v1), some (.int v2), some (.int s.1), none, none, none]) rfl rfl (show zRun X d 187 111 [some (.ref 73), some (.int v1), some (.int v2), some (.int s.1), none, none, none] [] (SH, I, J) r M' from w)
  · rw [if_neg hc12] at h
    refine zr_steps 7 (82, [some (.ref 73), some (.int v1), some (.int v2), some (.int s.1), some (.int s.2), none, none], [.int ((60 * v1) + s.2), .ref 112], (SH, I, J)) rfl ?_
    obtain ⟨hc8, h⟩ := zbifo h
    refine zr_one (bif zin ((60 * v1) + s.2) 360 then zN 83 [some (.ref 73), some (.int v1), some (.int v2), some (.int s.1), some (.int s.2), none, none] [.long (J 112 ((60 * v1) + s.2).toNatClampNeg)] (SH, I, J) else none) rfl (zR_bif hc8 (zR_go ?_))
    refine zr_steps 5 (91, [some (.ref 73), some (.int v1), some (.int v2), some (.int s.1), some (.int s.2), some (.int (J 112 ((60 * v1) + s.2).toNatClampNeg).toInt32), none], [.int 100, .int 0, .int (J 112 ((60 * v1) + s.2).toNatClampNeg).toInt32], (SH, I, J)) rfl ?_
    obtain ⟨t10, hc9, h⟩ := zbind h
    refine zr_one (some (.inr (.inl (129, [.int (J 112 ((60 * v1) + s.2).toNatClampNeg).toInt32, .int 0, .int 100], [], 94)))) rfl (zR_call (by omega) rfl (ok_f129_in (by omega) (J 112 ((60 * v1) + s.2).toNatClampNeg).toInt32 0 100 _ hc9) ?_)
    refine zr_one (if t10 = 0 then zN 97 [some (.ref 73), some (.int v1), some (.int v2), some (.int s.1), some (.int s.2), some (.int (J 112 ((60 * v1) + s.2).toNatClampNeg).toInt32), none] [] (SH, I, J) else zN 100 [some (.ref 73), some (.int v1), some (.int v2), some (.int s.1), some (.int s.2), some (.int (J 112 ((60 * v1) + s.2).toNatClampNeg).toInt32), none] [] (SH, I, J)) rfl (zR_if (fun hc11 => zR_go ?_) (fun hc11 => zR_go ?_))
    · rw [if_pos hc11] at h
      refine zr_steps 1 (99, [some (.ref 73), some (.int v1), some (.int v2), some (.int s.1), some (.int s.2), some (.int (J 112 ((60 * v1) + s.2).toNatClampNeg).toInt32), none], [.int (-2)], (SH, I, J)) rfl ?_
      have he := Option.some.inj h
      subst he
      obtain ⟨e1, e2⟩ := (show r = (some (.int (-2))) ∧ M' = (SH, I, J) from w)
      exact zr_one (some (.inr (.inr (some (.int (-2)))))) rfl (zR_ret e1.symm e2.symm)
    · rw [if_neg hc11] at h
      refine zr_steps 6 (64, [some (.ref 73), some (.int v1), some (.int v2), some (.int (s.1 + (J 112 ((60 * v1) + s.2).toNatClampNeg).toInt32)), some (.int (s.2 + 1)), some (.int (J 112 ((60 * v1) + s.2).toNatClampNeg).toInt32), none], [], (SH, I, J)) rfl ?_
      have he := Option.some.inj h
      subst he
      exact zr_hdr (ls2 := [some (.ref 73), some (.int v1), some (.int v2), some (.int (s.1 + (J 112 ((60 * v1) + s.2).toNatClampNeg).toInt32)), some (.int (s.2 + 1)), none, none]) rfl rfl (show zRun X d 187 64 [some (.ref 73), some (.int v1), some (.int v2), some (.int (s.1 + (J 112 ((60 * v1) + s.2).toNatClampNeg).toInt32)), some (.int (s.2 + 1)), none, none] [] (SH, I, J) r M' from w))
set_option maxRecDepth 100000 in
set_option maxHeartbeats 4000000 in
theorem ok_f187_bell_L136 {X : zX} {d : Nat} {r : Option Value} {M' : zM} (hd : 6 ≤ d) (v1 : Int32) (v2 : Int32) {J : (Nat → Nat → Int64)} : ∀ (n : Nat) (s x : (Int32 × Int32 × (Nat → Nat → Int32))), zloop (f187_bell_L136 v1 v2 J) n s = some x → (fun (x : (Int32 × Int32 × (Nat → Nat → Int32))) => zRun X d 187 201 [none, none, none, none, some (.int x.1), none, none] [] (SH, x.2.2, J) r M') x → (fun (s : (Int32 × Int32 × (Nat → Nat → Int32))) => zRun X d 187 136 [some (.ref 73), some (.int v1), some (.int v2), none, some (.int s.1), some (.int s.2.1), none] [] (SH, s.2.2, J) r M') s := zloop_ok (B := (f187_bell_L136 v1 v2 J)) (Wh := fun (s : (Int32 × Int32 × (Nat → Nat → Int32))) => zRun X d 187 136 [some (.ref 73), some (.int v1), some (.int v2), none, some (.int s.1), some (.int s.2.1), none] [] (SH, s.2.2, J) r M') (Wx := fun (x : (Int32 × Int32 × (Nat → Nat → Int32))) => zRun X d 187 201 [none, none, none, none, some (.int x.1), none, none] [] (SH, x.2.2, J) r M') (fun s y h w => by
  unfold f187_bell_L136 at h
  refine zr_steps 2 (140, [some (.ref 73), some (.int v1), some (.int v2), none, some (.int s.1), some (.int s.2.1), none], [.int 10, .int s.2.1], (SH, s.2.2, J)) rfl ?_
  refine zr_one (if (10 : Int32) ≤ s.2.1 then zN 201 [some (.ref 73), some (.int v1), some (.int v2), none, some (.int s.1), some (.int s.2.1), none] [] (SH, s.2.2, J) else zN 143 [some (.ref 73), some (.int v1), some (.int v2), none, some (.int s.1), some (.int s.2.1), none] [] (SH, s.2.2, J)) rfl (zR_if (fun hc24 => zR_go ?_) (fun hc24 => zR_go ?_))
  · rw [if_pos hc24] at h
    have he := Option.some.inj h
    subst he
    exact zr_hdr (ls2 := [none, none, none, none, some (.int s.1), none, none]) rfl rfl (show zRun X d 187 201 [none, none, none, none, some (.int s.1), none, none] [] (SH, s.2.2, J) r M' from w)
  · rw [if_neg hc24] at h
    refine zr_steps 5 (151, [some (.ref 73), some (.int v1), some (.int v2), none, some (.int s.1), some (.int s.2.1), none], [.int 1, .int ((s.2.2 73 15) - s.2.1)], (SH, s.2.2, J)) rfl ?_
    refine zr_one (if (1 : Int32) ≤ ((s.2.2 73 15) - s.2.1) then zN 158 [some (.ref 73), some (.int v1), some (.int v2), none, some (.int s.1), some (.int s.2.1), none] [] (SH, s.2.2, J) else zN 154 [some (.ref 73), some (.int v1), some (.int v2), none, some (.int s.1), some (.int s.2.1), none] [] (SH, s.2.2, J)) rfl (zR_if (fun hc23 => zR_go ?_) (fun hc23 => zR_go ?_))
    · rw [if_pos hc23] at h
      refine zr_steps 7 (170, [some (.ref 73), some (.int v1), some (.int v2), none, some (.int s.1), some (.int s.2.1), some (.int ((s.2.2 73 15) - s.2.1))], [.int ((s.2.2 73 15) - s.2.1), .ref 73], (SH, s.2.2, J)) rfl ?_
      obtain ⟨t16, hc15, h⟩ := zbind h
      refine zr_one (some (.inr (.inl (171, [.ref 73, .int ((s.2.2 73 15) - s.2.1)], [], 173)))) rfl (zR_call (by omega) rfl (ok_f171_goTo (by omega) ((s.2.2 73 15) - s.2.1) _ hc15) ?_)
      refine zr_steps 1 (174, [some (.ref 73), some (.int v1), some (.int v2), none, some (.int s.1), some (.int s.2.1), some (.int ((s.2.2 73 15) - s.2.1))], [.int v2, .int t16.1], (SH, t16.2, J)) rfl ?_
      refine zr_one (if t16.1 = v2 then zN 177 [some (.ref 73), some (.int v1), some (.int v2), none, some (.int s.1), some (.int s.2.1), some (.int ((s.2.2 73 15) - s.2.1))] [] (SH, t16.2, J) else zN 195 [some (.ref 73), some (.int v1), some (.int v2), none, some (.int s.1), some (.int s.2.1), some (.int ((s.2.2 73 15) - s.2.1))] [] (SH, t16.2, J)) rfl (zR_if (fun hc18 => zR_go ?_) (fun hc18 => zR_go ?_))
      · rw [if_pos hc18] at h
        refine zr_steps 8 (190, [some (.ref 73), some (.int v1), some (.int v2), none, some (.int s.1), some (.int s.2.1), some (.int ((s.2.2 73 15) - s.2.1))], [.int ((60 * v1) + s.2.1), .ref 112, .int s.1], (SH, t16.2, J)) rfl ?_
        obtain ⟨hc17, h⟩ := zbifo h
        refine zr_one (bif zin ((60 * v1) + s.2.1) 360 then zN 191 [some (.ref 73), some (.int v1), some (.int v2), none, some (.int s.1), some (.int s.2.1), some (.int ((s.2.2 73 15) - s.2.1))] [.long (J 112 ((60 * v1) + s.2.1).toNatClampNeg), .int s.1] (SH, t16.2, J) else none) rfl (zR_bif hc17 (zR_go ?_))
        refine zr_steps 5 (136, [some (.ref 73), some (.int v1), some (.int v2), none, some (.int (s.1 + (J 112 ((60 * v1) + s.2.1).toNatClampNeg).toInt32)), some (.int (s.2.1 + 1)), some (.int ((s.2.2 73 15) - s.2.1))], [], (SH, t16.2, J)) rfl ?_
        have he := Option.some.inj h
        subst he
        exact zr_hdr (ls2 := [some (.ref 73), some (.int v1), some (.int v2), none, some (.int (s.1 + (J 112 ((60 * v1) + s.2.1).toNatClampNeg).toInt32)), some (.int (s.2.1 + 1)), none]) rfl rfl (show zRun X d 187 136 [some (.ref 73), some (.int v1), some (.int v2), none, some (.int (s.1 + (J 112 ((60 * v1) + s.2.1).toNatClampNeg).toInt32)), some (.int (s.2.1 + 1)), none] [] (SH, t16.2, J) r M' from w)
      · rw [if_neg hc18] at h
        refine zr_steps 2 (136, [some (.ref 73), some (.int v1), some (.int v2), none, some (.int s.1), some (.int (s.2.1 + 1)), some (.int ((s.2.2 73 15) - s.2.1))], [], (SH, t16.2, J)) rfl ?_
        have he := Option.some.inj h
        subst he
        exact zr_hdr (ls2 := [some (.ref 73), some (.int v1), some (.int v2), none, some (.int s.1), some (.int (s.2.1 + 1)), none]) rfl rfl (show zRun X d 187 136 [some (.ref 73), some (.int v1), some (.int v2), none, some (.int s.1), some (.int (s.2.1 + 1)), none] [] (SH, t16.2, J) r M' from w)
    · rw [if_neg hc23] at h
      refine zr_steps 5 (170, [some (.ref 73), some (.int v1), some (.int v2), none, some (.int s.1), some (.int s.2.1), some (.int 1)], [.int 1, .ref 73], (SH, s.2.2, J)) rfl ?_
      obtain ⟨t20, hc19, h⟩ := zbind h
      refine zr_one (some (.inr (.inl (171, [.ref 73, .int 1], [], 173)))) rfl (zR_call (by omega) rfl (ok_f171_goTo (by omega) 1 _ hc19) ?_)
      refine zr_steps 1 (174, [some (.ref 73), some (.int v1), some (.int v2), none, some (.int s.1), some (.int s.2.1), some (.int 1)], [.int v2, .int t20.1], (SH, t20.2, J)) rfl ?_
      refine zr_one (if t20.1 = v2 then zN 177 [some (.ref 73), some (.int v1), some (.int v2), none, some (.int s.1), some (.int s.2.1), some (.int 1)] [] (SH, t20.2, J) else zN 195 [some (.ref 73), some (.int v1), some (.int v2), none, some (.int s.1), some (.int s.2.1), some (.int 1)] [] (SH, t20.2, J)) rfl (zR_if (fun hc22 => zR_go ?_) (fun hc22 => zR_go ?_))
      · rw [if_pos hc22] at h
        refine zr_steps 8 (190, [some (.ref 73), some (.int v1), some (.int v2), none, some (.int s.1), some (.int s.2.1), some (.int 1)], [.int ((60 * v1) + s.2.1), .ref 112, .int s.1], (SH, t20.2, J)) rfl ?_
        obtain ⟨hc21, h⟩ := zbifo h
        refine zr_one (bif zin ((60 * v1) + s.2.1) 360 then zN 191 [some (.ref 73), some (.int v1), some (.int v2), none, some (.int s.1), some (.int s.2.1), some (.int 1)] [.long (J 112 ((60 * v1) + s.2.1).toNatClampNeg), .int s.1] (SH, t20.2, J) else none) rfl (zR_bif hc21 (zR_go ?_))
        refine zr_steps 5 (136, [some (.ref 73), some (.int v1), some (.int v2), none, some (.int (s.1 + (J 112 ((60 * v1) + s.2.1).toNatClampNeg).toInt32)), some (.int (s.2.1 + 1)), some (.int 1)], [], (SH, t20.2, J)) rfl ?_
        have he := Option.some.inj h
        subst he
        exact zr_hdr (ls2 := [some (.ref 73), some (.int v1), some (.int v2), none, some (.int (s.1 + (J 112 ((60 * v1) + s.2.1).toNatClampNeg).toInt32)), some (.int (s.2.1 + 1)), none]) rfl rfl (show zRun X d 187 136 [some (.ref 73), some (.int v1), some (.int v2), none, some (.int (s.1 + (J 112 ((60 * v1) + s.2.1).toNatClampNeg).toInt32)), some (.int (s.2.1 + 1)), none] [] (SH, t20.2, J) r M' from w)
      · rw [if_neg hc22] at h
        refine zr_steps 2 (136, [some (.ref 73), some (.int v1), some (.int v2), none, some (.int s.1), some (.int (s.2.1 + 1)), some (.int 1)], [], (SH, t20.2, J)) rfl ?_
        have he := Option.some.inj h
        subst he
        exact zr_hdr (ls2 := [some (.ref 73), some (.int v1), some (.int v2), none, some (.int s.1), some (.int (s.2.1 + 1)), none]) rfl rfl (show zRun X d 187 136 [some (.ref 73), some (.int v1), some (.int v2), none, some (.int s.1), some (.int (s.2.1 + 1)), none] [] (SH, t20.2, J) r M' from w))
set_option maxRecDepth 100000 in
set_option maxHeartbeats 4000000 in
theorem ok_f187_bell {X : zX} {d : Nat} (hd : 6 ≤ d) (v1 : Int32) (v2 : Int32) {I : (Nat → Nat → Int32)} {J : (Nat → Nat → Int64)} (t : (Int32 × (Nat → Nat → Int32))) (h : f187_bell v1 v2 I J = some t) : zRun X d 187 0 (zent 187 [.ref 73, .int v1, .int v2]) [] (SH, I, J) (some (.int t.1)) (SH, t.2, J) := by
  unfold f187_bell at h
  refine zr_steps 1 (1, [some (.ref 73), some (.int v1), some (.int v2), none, none, none, none], [.int v1], (SH, I, J)) rfl ?_
  obtain ⟨t2, hc1, h⟩ := zbind h
  refine zr_one (some (.inr (.inl (210, [.int v1], [], 4)))) rfl (zR_call (by omega) rfl (ok_f210_isShelf (by omega) v1 _ hc1) ?_)
  refine zr_one (if t2 = 0 then zN 16 [some (.ref 73), some (.int v1), some (.int v2), none, none, none, none] [] (SH, I, J) else zN 7 [some (.ref 73), some (.int v1), some (.int v2), none, none, none, none] [] (SH, I, J)) rfl (zR_if (fun hc34 => zR_go ?_) (fun hc34 => zR_go ?_))
  · rw [if_pos hc34] at h
    refine zr_steps 1 (17, [some (.ref 73), some (.int v1), some (.int v2), none, none, none, none], [.int (-1)], (SH, I, J)) rfl ?_
    have he := Option.some.inj h
    subst he
    exact zr_one (some (.inr (.inr (some (.int (-1)))))) rfl (zR_ret rfl rfl)
  · rw [if_neg hc34] at h
    refine zr_steps 3 (10, [some (.ref 73), some (.int v1), some (.int v2), none, none, none, none], [.int 2, .int 0, .int v2], (SH, I, J)) rfl ?_
    obtain ⟨t4, hc3, h⟩ := zbind h
    refine zr_one (some (.inr (.inl (129, [.int v2, .int 0, .int 2], [], 13)))) rfl (zR_call (by omega) rfl (ok_f129_in (by omega) v2 0 2 _ hc3) ?_)
    refine zr_one (if t4 = 0 then zN 16 [some (.ref 73), some (.int v1), some (.int v2), none, none, none, none] [] (SH, I, J) else zN 18 [some (.ref 73), some (.int v1), some (.int v2), none, none, none, none] [] (SH, I, J)) rfl (zR_if (fun hc33 => zR_go ?_) (fun hc33 => zR_go ?_))
    · rw [if_pos hc33] at h
      refine zr_steps 1 (17, [some (.ref 73), some (.int v1), some (.int v2), none, none, none, none], [.int (-1)], (SH, I, J)) rfl ?_
      have he := Option.some.inj h
      subst he
      exact zr_one (some (.inr (.inr (some (.int (-1)))))) rfl (zR_ret rfl rfl)
    · rw [if_neg hc33] at h
      refine zr_steps 3 (23, [some (.ref 73), some (.int v1), some (.int v2), none, none, none, none], [.int v1, .ref 110], (SH, I, J)) rfl ?_
      obtain ⟨hc5, h⟩ := zbifo h
      refine zr_one (bif zin v1 6 then zN 24 [some (.ref 73), some (.int v1), some (.int v2), none, none, none, none] [.int (I 110 v1.toNatClampNeg)] (SH, I, J) else none) rfl (zR_bif hc5 (zR_go ?_))
      refine zr_steps 1 (25, [some (.ref 73), some (.int v1), some (.int v2), none, none, none, none], [.int (-1), .int (I 110 v1.toNatClampNeg)], (SH, I, J)) rfl ?_
      refine zr_one (if (I 110 v1.toNatClampNeg) = (-1) then zN 28 [some (.ref 73), some (.int v1), some (.int v2), none, none, none, none] [] (SH, I, J) else zN 31 [some (.ref 73), some (.int v1), some (.int v2), none, none, none, none] [] (SH, I, J)) rfl (zR_if (fun hc32 => zR_go ?_) (fun hc32 => zR_go ?_))
      · rw [if_pos hc32] at h
        refine zr_steps 1 (30, [some (.ref 73), some (.int v1), some (.int v2), none, none, none, none], [.int (-11)], (SH, I, J)) rfl ?_
        have he := Option.some.inj h
        subst he
        exact zr_one (some (.inr (.inr (some (.int (-11)))))) rfl (zR_ret rfl rfl)
      · rw [if_neg hc32] at h
        refine zr_steps 3 (36, [some (.ref 73), some (.int v1), some (.int v2), none, none, none, none], [.int v1, .ref 110], (SH, I, J)) rfl ?_
        obtain ⟨hc6, h⟩ := zbifo h
        refine zr_one (bif zin v1 6 then zN 37 [some (.ref 73), some (.int v1), some (.int v2), none, none, none, none] [.int (I 110 v1.toNatClampNeg)] (SH, I, J) else none) rfl (zR_bif hc6 (zR_go ?_))
        refine zr_steps 1 (39, [some (.ref 73), some (.int v1), some (.int v2), none, none, none, none], [.int (-2), .int (I 110 v1.toNatClampNeg)], (SH, I, J)) rfl ?_
        refine zr_one (if (I 110 v1.toNatClampNeg) = (-2) then zN 45 [some (.ref 73), some (.int v1), some (.int v2), none, none, none, none] [] (SH, I, J) else zN 42 [some (.ref 73), some (.int v1), some (.int v2), none, none, none, none] [] (SH, I, J)) rfl (zR_if (fun hc31 => zR_go ?_) (fun hc31 => zR_go ?_))
        · rw [if_pos hc31] at h
          refine zr_steps 3 (50, [some (.ref 73), some (.int v1), some (.int v2), none, none, none, none], [.int v1, .ref 111], (SH, I, J)) rfl ?_
          obtain ⟨hc7, h⟩ := zbifo h
          refine zr_one (bif zin v1 6 then zN 51 [some (.ref 73), some (.int v1), some (.int v2), none, none, none, none] [.int (I 111 v1.toNatClampNeg)] (SH, I, J) else none) rfl (zR_bif hc7 (zR_go ?_))
          refine zr_steps 1 (53, [some (.ref 73), some (.int v1), some (.int v2), none, none, none, none], [.int 10, .int (I 111 v1.toNatClampNeg)], (SH, I, J)) rfl ?_
          refine zr_one (if (10 : Int32) ≤ (I 111 v1.toNatClampNeg) then zN 59 [some (.ref 73), some (.int v1), some (.int v2), none, none, none, none] [] (SH, I, J) else zN 56 [some (.ref 73), some (.int v1), some (.int v2), none, none, none, none] [] (SH, I, J)) rfl (zR_if (fun hc30 => zR_go ?_) (fun hc30 => zR_go ?_))
          · rw [if_pos hc30] at h
            refine zr_steps 4 (64, [some (.ref 73), some (.int v1), some (.int v2), some (.int 0), some (.int 0), none, none], [], (SH, I, J)) rfl ?_
            obtain ⟨y29, ho14, hy⟩ := zbRe h
            refine zr_hdr (ls2 := [some (.ref 73), some (.int v1), some (.int v2), some (.int 0), some (.int 0), none, none]) rfl rfl ?_
            refine ok_f187_bell_L64 (by omega) v1 v2 5000 ((0 : Int32), (0 : Int32)) y29 ho14 ?_
            rcases hy with ⟨rr, rfl, h⟩ | ⟨s13, rfl, h⟩
            · have he := Option.some.inj h
              subst he
              exact ⟨rfl, rfl⟩
            · show zRun X d 187 111 [some (.ref 73), some (.int v1), some (.int v2), some (.int s13.1), none, none, none] [] (SH, I, J) _ _
              refine zr_steps 2 (114, [some (.ref 73), some (.int v1), some (.int v2), some (.int s13.1), none, none, none], [.int 100, .int s13.1], (SH, I, J)) rfl ?_
              refine zr_one (if s13.1 = 100 then zN 120 [some (.ref 73), some (.int v1), some (.int v2), some (.int s13.1), none, none, none] [] (SH, I, J) else zN 117 [some (.ref 73), some (.int v1), some (.int v2), some (.int s13.1), none, none, none] [] (SH, I, J)) rfl (zR_if (fun hc28 => zR_go ?_) (fun hc28 => zR_go ?_))
              · rw [if_pos hc28] at h
                refine zr_steps 2 (124, [some (.ref 73), some (.int v1), some (.int v2), some (.int s13.1), none, none, none], [.int (I 73 1)], (SH, I, J)) rfl ?_
                refine zr_one (if (I 73 1) = 0 then zN 127 [some (.ref 73), some (.int v1), some (.int v2), some (.int s13.1), none, none, none] [] (SH, I, J) else zN 130 [some (.ref 73), some (.int v1), some (.int v2), some (.int s13.1), none, none, none] [] (SH, I, J)) rfl (zR_if (fun hc27 => zR_go ?_) (fun hc27 => zR_go ?_))
                · rw [if_pos hc27] at h
                  refine zr_steps 1 (129, [some (.ref 73), some (.int v1), some (.int v2), some (.int s13.1), none, none, none], [.int (-5)], (SH, I, J)) rfl ?_
                  have he := Option.some.inj h
                  subst he
                  exact zr_one (some (.inr (.inr (some (.int (-5)))))) rfl (zR_ret rfl rfl)
                · rw [if_neg hc27] at h
                  refine zr_steps 4 (136, [some (.ref 73), some (.int v1), some (.int v2), some (.int s13.1), some (.int 0), some (.int 0), none], [], (SH, I, J)) rfl ?_
                  obtain ⟨s25, ho26, h⟩ := zbind h
                  refine zr_hdr (ls2 := [some (.ref 73), some (.int v1), some (.int v2), none, some (.int 0), some (.int 0), none]) rfl rfl ?_
                  refine ok_f187_bell_L136 (by omega) v1 v2 5000 ((0 : Int32), (0 : Int32), I) s25 ho26 ?_
                  show zRun X d 187 201 [none, none, none, none, some (.int s25.1), none, none] [] (SH, s25.2.2, J) _ _
                  refine zr_steps 1 (203, [none, none, none, none, some (.int s25.1), none, none], [.int s25.1], (SH, s25.2.2, J)) rfl ?_
                  have he := Option.some.inj h
                  subst he
                  exact zr_one (some (.inr (.inr (some (.int s25.1))))) rfl (zR_ret rfl rfl)
              · rw [if_neg hc28] at h
                refine zr_steps 1 (119, [some (.ref 73), some (.int v1), some (.int v2), some (.int s13.1), none, none, none], [.int (-2)], (SH, I, J)) rfl ?_
                have he := Option.some.inj h
                subst he
                exact zr_one (some (.inr (.inr (some (.int (-2)))))) rfl (zR_ret rfl rfl)
          · rw [if_neg hc30] at h
            refine zr_steps 1 (58, [some (.ref 73), some (.int v1), some (.int v2), none, none, none, none], [.int (-13)], (SH, I, J)) rfl ?_
            have he := Option.some.inj h
            subst he
            exact zr_one (some (.inr (.inr (some (.int (-13)))))) rfl (zR_ret rfl rfl)
        · rw [if_neg hc31] at h
          refine zr_steps 1 (44, [some (.ref 73), some (.int v1), some (.int v2), none, none, none, none], [.int (-12)], (SH, I, J)) rfl ?_
          have he := Option.some.inj h
          subst he
          exact zr_one (some (.inr (.inr (some (.int (-12)))))) rfl (zR_ret rfl rfl)
set_option maxRecDepth 100000 in
set_option maxHeartbeats 4000000 in
theorem ok_f82_stand_39 {X : zX} {d : Nat} (hd : 0 ≤ d) (v1 : Int32) (v2 : Int32) {I : (Nat → Nat → Int32)} {J : (Nat → Nat → Int64)} (t : (Nat → Nat → Int32)) (h : f82_stand_39 v1 v2 I = some t) : zRun X d 82 0 (zent 82 [.ref 39, .int v1, .int v2]) [] (SH, I, J) none (SH, t, J) := by
  unfold f82_stand_39 at h
  refine zr_steps 6 (10, [some (.ref 39), some (.int v1), some (.int v2)], [], (SH, (zu (zu I 39 2 v1) 39 3 v2), J)) rfl ?_
  have he := Option.some.inj h
  subst he
  exact zr_one (some (.inr (.inr none))) rfl (zR_ret rfl rfl)
set_option maxRecDepth 100000 in
set_option maxHeartbeats 4000000 in
theorem ok_f108_paid_L15 {X : zX} {d : Nat} {r : Option Value} {M' : zM} (hd : 7 ≤ d) (v1 : Int32) {J : (Nat → Nat → Int64)} : ∀ (n : Nat) (s : (Int32 × (Nat → Nat → Int32))) (t : (Int32 × (Nat → Nat → Int32)) ⊕ (Int32 × (Nat → Nat → Int32))), zloopR (f108_paid_L15 v1) n s = some t → zSumE (fun (x : (Int32 × (Nat → Nat → Int32))) => r = (some (.int x.1)) ∧ M' = (SH, x.2, J)) (fun (x : (Int32 × (Nat → Nat → Int32))) => zRun X d 108 82 [none, none, none] [] (SH, x.2, J) r M') t → (fun (s : (Int32 × (Nat → Nat → Int32))) => zRun X d 108 15 [some (.ref 0), some (.int v1), some (.int s.1)] [] (SH, s.2, J) r M') s := zloopR_ok (B := (f108_paid_L15 v1)) (Wh := fun (s : (Int32 × (Nat → Nat → Int32))) => zRun X d 108 15 [some (.ref 0), some (.int v1), some (.int s.1)] [] (SH, s.2, J) r M') (Wx := fun (x : (Int32 × (Nat → Nat → Int32))) => zRun X d 108 82 [none, none, none] [] (SH, x.2, J) r M') (Wr := fun (x : (Int32 × (Nat → Nat → Int32))) => r = (some (.int x.1)) ∧ M' = (SH, x.2, J)) (fun s y h w => by
  unfold f108_paid_L15 at h
  refine zr_steps 2 (19, [some (.ref 0), some (.int v1), some (.int s.1)], [.int 200, .int s.1], (SH, s.2, J)) rfl ?_
  refine zr_one (if (200 : Int32) < s.1 then zN 82 [some (.ref 0), some (.int v1), some (.int s.1)] [] (SH, s.2, J) else zN 22 [some (.ref 0), some (.int v1), some (.int s.1)] [] (SH, s.2, J)) rfl (zR_if (fun hc11 => zR_go ?_) (fun hc11 => zR_go ?_))
  · rw [if_pos hc11] at h
    have he := Option.some.inj h
    subst he
    exact zr_hdr (ls2 := [none, none, none]) rfl rfl (show zRun X d 108 82 [none, none, none] [] (SH, s.2, J) r M' from w)
  · rw [if_neg hc11] at h
    refine zr_steps 5 (33, [some (.ref 0), some (.int v1), some (.int s.1)], [.ref 1, .ref 39], (SH, s.2, J)) rfl ?_
    obtain ⟨t4, hc3, h⟩ := zbind h
    refine zr_one (some (.inr (.inl (81, [.ref 39, .ref 1], [], 36)))) rfl (zR_call (by omega) rfl (ok_f81_asIn_39 (by omega)  _ hc3) ?_)
    refine zr_steps 5 (45, [some (.ref 0), some (.int v1), some (.int s.1)], [.int s.1, .int v1, .ref 39], (SH, t4, J)) rfl ?_
    obtain ⟨t6, hc5, h⟩ := zbind h
    refine zr_one (some (.inr (.inl (82, [.ref 39, .int v1, .int s.1], [], 48)))) rfl (zR_call (by omega) rfl (ok_f82_stand_39 (by omega) v1 s.1 _ hc5) ?_)
    refine zr_steps 2 (52, [some (.ref 0), some (.int v1), some (.int s.1)], [.ref 38], (SH, t6, J)) rfl ?_
    obtain ⟨t8, hc7, h⟩ := zbind h
    refine zr_one (some (.inr (.inl (40, [.ref 38], [], 55)))) rfl (zR_call (by omega) rfl (ok_f40_pass_38 (by omega)  _ hc7) ?_)
    refine zr_steps 7 (70, [some (.ref 0), some (.int v1), some (.int s.1)], [.int v1, .ref 3, .int (t8 38 17)], (SH, t8, J)) rfl ?_
    obtain ⟨hc9, h⟩ := zbifo h
    refine zr_one (bif zin v1 4 then zN 71 [some (.ref 0), some (.int v1), some (.int s.1)] [.int (t8 3 v1.toNatClampNeg), .int (t8 38 17)] (SH, t8, J) else none) rfl (zR_bif hc9 (zR_go ?_))
    refine zr_one (if (t8 38 17) = (t8 3 v1.toNatClampNeg) then zN 74 [some (.ref 0), some (.int v1), some (.int s.1)] [] (SH, t8, J) else zN 76 [some (.ref 0), some (.int v1), some (.int s.1)] [] (SH, t8, J)) rfl (zR_if (fun hc10 => zR_go ?_) (fun hc10 => zR_go ?_))
    · rw [if_pos hc10] at h
      refine zr_steps 1 (75, [some (.ref 0), some (.int v1), some (.int s.1)], [.int s.1], (SH, t8, J)) rfl ?_
      have he := Option.some.inj h
      subst he
      obtain ⟨e1, e2⟩ := (show r = (some (.int s.1)) ∧ M' = (SH, t8, J) from w)
      exact zr_one (some (.inr (.inr (some (.int s.1))))) rfl (zR_ret e1.symm e2.symm)
    · rw [if_neg hc10] at h
      refine zr_steps 2 (15, [some (.ref 0), some (.int v1), some (.int (s.1 + 1))], [], (SH, t8, J)) rfl ?_
      have he := Option.some.inj h
      subst he
      exact zr_hdr (ls2 := [some (.ref 0), some (.int v1), some (.int (s.1 + 1))]) rfl rfl (show zRun X d 108 15 [some (.ref 0), some (.int v1), some (.int (s.1 + 1))] [] (SH, t8, J) r M' from w))
set_option maxRecDepth 100000 in
set_option maxHeartbeats 4000000 in
theorem ok_f108_paid {X : zX} {d : Nat} (hd : 7 ≤ d) (v1 : Int32) {I : (Nat → Nat → Int32)} {J : (Nat → Nat → Int64)} (t : (Int32 × (Nat → Nat → Int32))) (h : f108_paid v1 I = some t) : zRun X d 108 0 (zent 108 [.ref 0, .int v1]) [] (SH, I, J) (some (.int t.1)) (SH, t.2, J) := by
  unfold f108_paid at h
  refine zr_steps 3 (5, [some (.ref 0), some (.int v1), none], [.int v1, .ref 1], (SH, I, J)) rfl ?_
  obtain ⟨t2, hc1, h⟩ := zbind h
  refine zr_one (some (.inr (.inl (61, [.ref 1, .int v1], [], 8)))) rfl (zR_call (by omega) rfl (ok_f61_isSquare (by omega) v1 _ hc1) ?_)
  refine zr_one (if t2 = 0 then zN 11 [some (.ref 0), some (.int v1), none] [] (SH, I, J) else zN 13 [some (.ref 0), some (.int v1), none] [] (SH, I, J)) rfl (zR_if (fun hc15 => zR_go ?_) (fun hc15 => zR_go ?_))
  · rw [if_pos hc15] at h
    refine zr_steps 1 (12, [some (.ref 0), some (.int v1), none], [.int (-1)], (SH, I, J)) rfl ?_
    have he := Option.some.inj h
    subst he
    exact zr_one (some (.inr (.inr (some (.int (-1)))))) rfl (zR_ret rfl rfl)
  · rw [if_neg hc15] at h
    refine zr_steps 2 (15, [some (.ref 0), some (.int v1), some (.int 0)], [], (SH, I, J)) rfl ?_
    obtain ⟨y14, ho13, hy⟩ := zbRe h
    refine zr_hdr (ls2 := [some (.ref 0), some (.int v1), some (.int 0)]) rfl rfl ?_
    refine ok_f108_paid_L15 (by omega) v1 5000 ((0 : Int32), I) y14 ho13 ?_
    rcases hy with ⟨rr, rfl, h⟩ | ⟨s12, rfl, h⟩
    · have he := Option.some.inj h
      subst he
      exact ⟨rfl, rfl⟩
    · show zRun X d 108 82 [none, none, none] [] (SH, s12.2, J) _ _
      refine zr_steps 1 (84, [none, none, none], [.int (-2)], (SH, s12.2, J)) rfl ?_
      have he := Option.some.inj h
      subst he
      exact zr_one (some (.inr (.inr (some (.int (-2)))))) rfl (zR_ret rfl rfl)
