set_option maxRecDepth 100000 in
set_option maxHeartbeats 4000000 in
theorem ok_f90_sortsFrom_L3 {X : zX} {d : Nat} {r : Option Value} {M' : zM} (hd : 2 ≤ d) (v1 : Nat) (v2 : Int32) (v3 : Int32) (hs1 : zIsShelf v1) {J : (Nat → Nat → Int64)} : ∀ (n : Nat) (s : (Int32 × (Nat → Nat → Int32))) (t : (Int32 × (Nat → Nat → Int32)) ⊕ (Int32 × (Nat → Nat → Int32))), zloopR (f90_sortsFrom_L3 v1 v2 v3 J) n s = some t → zSumE (fun (x : (Int32 × (Nat → Nat → Int32))) => r = (some (.int x.1)) ∧ M' = (SH, x.2, J)) (fun (x : (Int32 × (Nat → Nat → Int32))) => zRun X d 90 88 [none, none, none, some (.int v3), none, none, none, none] [] (SH, x.2, J) r M') t → (fun (s : (Int32 × (Nat → Nat → Int32))) => zRun X d 90 3 [some (.ref 0), some (.ref v1), some (.int v2), some (.int v3), some (.int s.1), none, none, none] [] (SH, s.2, J) r M') s := zloopR_ok (B := (f90_sortsFrom_L3 v1 v2 v3 J)) (Wh := fun (s : (Int32 × (Nat → Nat → Int32))) => zRun X d 90 3 [some (.ref 0), some (.ref v1), some (.int v2), some (.int v3), some (.int s.1), none, none, none] [] (SH, s.2, J) r M') (Wx := fun (x : (Int32 × (Nat → Nat → Int32))) => zRun X d 90 88 [none, none, none, some (.int v3), none, none, none, none] [] (SH, x.2, J) r M') (Wr := fun (x : (Int32 × (Nat → Nat → Int32))) => r = (some (.int x.1)) ∧ M' = (SH, x.2, J)) (fun s y h w => by
  unfold f90_sortsFrom_L3 at h
  refine zr_steps 2 (6, [some (.ref 0), some (.ref v1), some (.int v2), some (.int v3), some (.int s.1), none, none, none], [.int v3, .int s.1], (SH, s.2, J)) rfl ?_
  refine zr_one (if v3 ≤ s.1 then zN 88 [some (.ref 0), some (.ref v1), some (.int v2), some (.int v3), some (.int s.1), none, none, none] [] (SH, s.2, J) else zN 9 [some (.ref 0), some (.ref v1), some (.int v2), some (.int v3), some (.int s.1), none, none, none] [] (SH, s.2, J)) rfl (zR_if (fun hc11 => zR_go ?_) (fun hc11 => zR_go ?_))
  · rw [if_pos hc11] at h
    have he := Option.some.inj h
    subst he
    exact zr_hdr (ls2 := [none, none, none, some (.int v3), none, none, none, none]) rfl rfl (show zRun X d 90 88 [none, none, none, some (.int v3), none, none, none, none] [] (SH, s.2, J) r M' from w)
  · rw [if_neg hc11] at h
    refine zr_steps 12 (28, [some (.ref 0), some (.ref v1), some (.int v2), some (.int v3), some (.int s.1), some (.long (v2.toInt64 + (3 * s.1.toInt64))), none, none], [.ref v1, .long ((v2.toInt64 + (3 * s.1.toInt64)) + 3)], (SH, s.2, J)) rfl ?_
    refine zr_one (zfget 28 4 2 [some (.ref 0), some (.ref v1), some (.int v2), some (.int v3), some (.int s.1), some (.long (v2.toInt64 + (3 * s.1.toInt64))), none, none] [.ref v1, .long ((v2.toInt64 + (3 * s.1.toInt64)) + 3)] (SH, s.2, J)) rfl (sR_get hs1 (by decide) ?_)
    refine zr_steps 2 (33, [some (.ref 0), some (.ref v1), some (.int v2), some (.int v3), some (.int s.1), some (.long (v2.toInt64 + (3 * s.1.toInt64))), none, none], [.int (lg_cmp ((v2.toInt64 + (3 * s.1.toInt64)) + 3) (s.2 v1 2).toInt64)], (SH, s.2, J)) rfl ?_
    refine zr_one (if (lg_cmp ((v2.toInt64 + (3 * s.1.toInt64)) + 3) (s.2 v1 2).toInt64) ≤ 0 then zN 39 [some (.ref 0), some (.ref v1), some (.int v2), some (.int v3), some (.int s.1), some (.long (v2.toInt64 + (3 * s.1.toInt64))), none, none] [] (SH, s.2, J) else zN 36 [some (.ref 0), some (.ref v1), some (.int v2), some (.int v3), some (.int s.1), some (.long (v2.toInt64 + (3 * s.1.toInt64))), none, none] [] (SH, s.2, J)) rfl (zR_if (fun hc10 => zR_go ?_) (fun hc10 => zR_go ?_))
    · rw [if_pos hc10] at h
      refine zr_steps 7 (51, [some (.ref 0), some (.ref v1), some (.int v2), some (.int v3), some (.int s.1), some (.long (v2.toInt64 + (3 * s.1.toInt64))), none, some (.int (v2.toInt64 + (3 * s.1.toInt64)).toInt32)], [.int (v2.toInt64 + (3 * s.1.toInt64)).toInt32, .ref v1, .ref 1], (SH, s.2, J)) rfl ?_
      obtain ⟨t2, hc1, h⟩ := zbind h
      refine zr_one (bif zrcv (SH, s.2, J) 57 [.ref v1, .int (v2.toInt64 + (3 * s.1.toInt64)).toInt32] then some (.inr (.inl (57, [.ref v1, .int (v2.toInt64 + (3 * s.1.toInt64)).toInt32], [.ref 1], 54))) else none) rfl (zR_bif (sh_rcv hs1 rfl rfl) (zR_call (by omega) rfl (ok_f57_at (by omega) v1 (v2.toInt64 + (3 * s.1.toInt64)).toInt32 hs1 _ hc1) ?_))
      refine zr_steps 5 (60, [some (.ref 0), some (.ref v1), some (.int v2), some (.int v3), some (.int s.1), some (.long (v2.toInt64 + (3 * s.1.toInt64))), none, some (.int (v2.toInt64 + (3 * s.1.toInt64)).toInt32)], [.int ((v2.toInt64 + (3 * s.1.toInt64)).toInt32 + 1), .ref v1, .int t2.toInt32, .ref 1], (SH, s.2, J)) rfl ?_
      obtain ⟨t4, hc3, h⟩ := zbind h
      refine zr_one (bif zrcv (SH, s.2, J) 57 [.ref v1, .int ((v2.toInt64 + (3 * s.1.toInt64)).toInt32 + 1)] then some (.inr (.inl (57, [.ref v1, .int ((v2.toInt64 + (3 * s.1.toInt64)).toInt32 + 1)], [.int t2.toInt32, .ref 1], 63))) else none) rfl (zR_bif (sh_rcv hs1 rfl rfl) (zR_call (by omega) rfl (ok_f57_at (by omega) v1 ((v2.toInt64 + (3 * s.1.toInt64)).toInt32 + 1) hs1 _ hc3) ?_))
      refine zr_steps 5 (69, [some (.ref 0), some (.ref v1), some (.int v2), some (.int v3), some (.int s.1), some (.long (v2.toInt64 + (3 * s.1.toInt64))), none, some (.int (v2.toInt64 + (3 * s.1.toInt64)).toInt32)], [.int ((v2.toInt64 + (3 * s.1.toInt64)).toInt32 + 2), .ref v1, .int t4.toInt32, .int t2.toInt32, .ref 1], (SH, s.2, J)) rfl ?_
      obtain ⟨t6, hc5, h⟩ := zbind h
      refine zr_one (bif zrcv (SH, s.2, J) 57 [.ref v1, .int ((v2.toInt64 + (3 * s.1.toInt64)).toInt32 + 2)] then some (.inr (.inl (57, [.ref v1, .int ((v2.toInt64 + (3 * s.1.toInt64)).toInt32 + 2)], [.int t4.toInt32, .int t2.toInt32, .ref 1], 72))) else none) rfl (zR_bif (sh_rcv hs1 rfl rfl) (zR_call (by omega) rfl (ok_f57_at (by omega) v1 ((v2.toInt64 + (3 * s.1.toInt64)).toInt32 + 2) hs1 _ hc5) ?_))
      refine zr_steps 1 (73, [some (.ref 0), some (.ref v1), some (.int v2), some (.int v3), some (.int s.1), some (.long (v2.toInt64 + (3 * s.1.toInt64))), none, some (.int (v2.toInt64 + (3 * s.1.toInt64)).toInt32)], [.int t6.toInt32, .int t4.toInt32, .int t2.toInt32, .ref 1], (SH, s.2, J)) rfl ?_
      obtain ⟨t8, hc7, h⟩ := zbind h
      refine zr_one (some (.inr (.inl (68, [.ref 1, .int t2.toInt32, .int t4.toInt32, .int t6.toInt32], [], 76)))) rfl (zR_call (by omega) rfl (ok_f68_addSort (by omega) t2.toInt32 t4.toInt32 t6.toInt32 _ hc7) ?_)
      refine zr_one (if (0 : Int32) ≤ t8.1 then zN 82 [some (.ref 0), some (.ref v1), some (.int v2), some (.int v3), some (.int s.1), some (.long (v2.toInt64 + (3 * s.1.toInt64))), none, some (.int (v2.toInt64 + (3 * s.1.toInt64)).toInt32)] [] (SH, t8.2, J) else zN 79 [some (.ref 0), some (.ref v1), some (.int v2), some (.int v3), some (.int s.1), some (.long (v2.toInt64 + (3 * s.1.toInt64))), none, some (.int (v2.toInt64 + (3 * s.1.toInt64)).toInt32)] [] (SH, t8.2, J)) rfl (zR_if (fun hc9 => zR_go ?_) (fun hc9 => zR_go ?_))
      · rw [if_pos hc9] at h
        refine zr_steps 2 (3, [some (.ref 0), some (.ref v1), some (.int v2), some (.int v3), some (.int (s.1 + 1)), some (.long (v2.toInt64 + (3 * s.1.toInt64))), none, some (.int (v2.toInt64 + (3 * s.1.toInt64)).toInt32)], [], (SH, t8.2, J)) rfl ?_
        have he := Option.some.inj h
        subst he
        exact zr_hdr (ls2 := [some (.ref 0), some (.ref v1), some (.int v2), some (.int v3), some (.int (s.1 + 1)), none, none, none]) rfl rfl (show zRun X d 90 3 [some (.ref 0), some (.ref v1), some (.int v2), some (.int v3), some (.int (s.1 + 1)), none, none, none] [] (SH, t8.2, J) r M' from w)
      · rw [if_neg hc9] at h
        refine zr_steps 1 (81, [some (.ref 0), some (.ref v1), some (.int v2), some (.int v3), some (.int s.1), some (.long (v2.toInt64 + (3 * s.1.toInt64))), none, some (.int (v2.toInt64 + (3 * s.1.toInt64)).toInt32)], [.int s.1], (SH, t8.2, J)) rfl ?_
        have he := Option.some.inj h
        subst he
        obtain ⟨e1, e2⟩ := (show r = (some (.int s.1)) ∧ M' = (SH, t8.2, J) from w)
        exact zr_one (some (.inr (.inr (some (.int s.1))))) rfl (zR_ret e1.symm e2.symm)
    · rw [if_neg hc10] at h
      refine zr_steps 1 (38, [some (.ref 0), some (.ref v1), some (.int v2), some (.int v3), some (.int s.1), some (.long (v2.toInt64 + (3 * s.1.toInt64))), none, none], [.int s.1], (SH, s.2, J)) rfl ?_
      have he := Option.some.inj h
      subst he
      obtain ⟨e1, e2⟩ := (show r = (some (.int s.1)) ∧ M' = (SH, s.2, J) from w)
      exact zr_one (some (.inr (.inr (some (.int s.1))))) rfl (zR_ret e1.symm e2.symm))
set_option maxRecDepth 100000 in
set_option maxHeartbeats 4000000 in
theorem ok_f90_sortsFrom {X : zX} {d : Nat} (hd : 2 ≤ d) (v1 : Nat) (v2 : Int32) (v3 : Int32) (hs1 : zIsShelf v1) {I : (Nat → Nat → Int32)} {J : (Nat → Nat → Int64)} (t : (Int32 × (Nat → Nat → Int32))) (h : f90_sortsFrom v1 v2 v3 I J = some t) : zRun X d 90 0 (zent 90 [.ref 0, .ref v1, .int v2, .int v3]) [] (SH, I, J) (some (.int t.1)) (SH, t.2, J) := by
  unfold f90_sortsFrom at h
  refine zr_steps 2 (3, [some (.ref 0), some (.ref v1), some (.int v2), some (.int v3), some (.int 0), none, none, none], [], (SH, I, J)) rfl ?_
  obtain ⟨y14, ho13, hy⟩ := zbRe h
  refine zr_hdr (ls2 := [some (.ref 0), some (.ref v1), some (.int v2), some (.int v3), some (.int 0), none, none, none]) rfl rfl ?_
  refine ok_f90_sortsFrom_L3 (by omega) v1 v2 v3 hs1 5000 ((0 : Int32), I) y14 ho13 ?_
  rcases hy with ⟨rr, rfl, h⟩ | ⟨s12, rfl, h⟩
  · have he := Option.some.inj h
    subst he
    exact ⟨rfl, rfl⟩
  · show zRun X d 90 88 [none, none, none, some (.int v3), none, none, none, none] [] (SH, s12.2, J) _ _
    refine zr_steps 1 (89, [none, none, none, some (.int v3), none, none, none, none], [.int v3], (SH, s12.2, J)) rfl ?_
    have he := Option.some.inj h
    subst he
    exact zr_one (some (.inr (.inr (some (.int v3))))) rfl (zR_ret rfl rfl)
set_option maxRecDepth 100000 in
set_option maxHeartbeats 4000000 in
theorem ok_f89_sorts {X : zX} {d : Nat} (hd : 3 ≤ d) (v1 : Int32) (v2 : Int32) (v3 : Int32) {I : (Nat → Nat → Int32)} {J : (Nat → Nat → Int64)} (t : (Int32 × (Nat → Nat → Int32))) (h : f89_sorts v1 v2 v3 I J = some t) : zRun X d 89 0 (zent 89 [.ref 0, .int v1, .int v2, .int v3]) [] (SH, I, J) (some (.int t.1)) (SH, t.2, J) := by
  unfold f89_sorts at h
  refine zr_steps 1 (1, [some (.ref 0), some (.int v1), some (.int v2), some (.int v3), none], [.int v1], (SH, I, J)) rfl ?_
  obtain ⟨t2, hc1, h⟩ := zbind h
  refine zr_one (some (.inr (.inl (127, [.int v1], [], 4)))) rfl (zR_call (by omega) rfl (ok_f127_isShelf (by omega) v1 _ hc1) ?_)
  refine zr_one (if t2 = 0 then zN 17 [some (.ref 0), some (.int v1), some (.int v2), some (.int v3), none] [] (SH, I, J) else zN 7 [some (.ref 0), some (.int v1), some (.int v2), some (.int v3), none] [] (SH, I, J)) rfl (zR_if (fun hc15 => zR_go ?_) (fun hc15 => zR_go ?_))
  · rw [if_pos hc15] at h
    refine zr_steps 1 (18, [some (.ref 0), some (.int v1), some (.int v2), some (.int v3), none], [.int (-1)], (SH, I, J)) rfl ?_
    have he := Option.some.inj h
    subst he
    exact zr_one (some (.inr (.inr (some (.int (-1)))))) rfl (zR_ret rfl rfl)
  · rw [if_neg hc15] at h
    refine zr_steps 3 (11, [some (.ref 0), some (.int v1), some (.int v2), some (.int v3), none], [.int 8, .int 1, .int v3], (SH, I, J)) rfl ?_
    obtain ⟨t4, hc3, h⟩ := zbind h
    refine zr_one (some (.inr (.inl (126, [.int v3, .int 1, .int 8], [], 14)))) rfl (zR_call (by omega) rfl (ok_f126_within (by omega) v3 1 8 _ hc3) ?_)
    refine zr_one (if t4 = 0 then zN 17 [some (.ref 0), some (.int v1), some (.int v2), some (.int v3), none] [] (SH, I, J) else zN 19 [some (.ref 0), some (.int v1), some (.int v2), some (.int v3), none] [] (SH, I, J)) rfl (zR_if (fun hc14 => zR_go ?_) (fun hc14 => zR_go ?_))
    · rw [if_pos hc14] at h
      refine zr_steps 1 (18, [some (.ref 0), some (.int v1), some (.int v2), some (.int v3), none], [.int (-1)], (SH, I, J)) rfl ?_
      have he := Option.some.inj h
      subst he
      exact zr_one (some (.inr (.inr (some (.int (-1)))))) rfl (zR_ret rfl rfl)
    · rw [if_neg hc14] at h
      refine zr_steps 3 (24, [some (.ref 0), some (.int v1), some (.int v2), some (.int v3), none], [.int v1, .ref 60], (SH, I, J)) rfl ?_
      obtain ⟨hc5, h⟩ := zbifo h
      refine zr_one (bif zin v1 6 then zrefr 25 [some (.ref 0), some (.int v1), some (.int v2), some (.int v3), none] [] (SH, I, J) (zri (SH, I, J) 60 v1.toNatClampNeg) else none) rfl (zR_bif hc5 (zR_ref (sh_at hc5) ?_))
      refine zr_steps 1 (26, [some (.ref 0), some (.int v1), some (.int v2), some (.int v3), none], [.int 1, .ref (zshelf v1)], (SH, I, J)) rfl ?_
      obtain ⟨t7, hc6, h⟩ := zbind h
      refine zr_one (bif zrcv (SH, I, J) 55 [.ref (zshelf v1), .int 1] then some (.inr (.inl (55, [.ref (zshelf v1), .int 1], [], 29))) else none) rfl (zR_bif (sh_rcv (sh_is hc5) rfl rfl) (zR_call (by omega) rfl (ok_f55_refusal (by omega) (zshelf v1) 1 (sh_is hc5) _ hc6) ?_))
      refine zr_steps 3 (35, [some (.ref 0), some (.int v1), some (.int v2), some (.int v3), some (.int t7)], [.int (-12), .int t7], (SH, I, J)) rfl ?_
      refine zr_one (if t7 = (-12) then zN 38 [some (.ref 0), some (.int v1), some (.int v2), some (.int v3), some (.int t7)] [] (SH, I, J) else zN 41 [some (.ref 0), some (.int v1), some (.int v2), some (.int v3), some (.int t7)] [] (SH, I, J)) rfl (zR_if (fun hc13 => zR_go ?_) (fun hc13 => zR_go ?_))
      · rw [if_pos hc13] at h
        refine zr_steps 1 (40, [some (.ref 0), some (.int v1), some (.int v2), some (.int v3), some (.int t7)], [.int t7], (SH, I, J)) rfl ?_
        have he := Option.some.inj h
        subst he
        exact zr_one (some (.inr (.inr (some (.int t7))))) rfl (zR_ret rfl rfl)
      · rw [if_neg hc13] at h
        refine zr_steps 1 (43, [some (.ref 0), some (.int v1), some (.int v2), some (.int v3), some (.int t7)], [.int t7], (SH, I, J)) rfl ?_
        refine zr_one (if t7 = 0 then zN 46 [some (.ref 0), some (.int v1), some (.int v2), some (.int v3), some (.int t7)] [] (SH, I, J) else zN 50 [some (.ref 0), some (.int v1), some (.int v2), some (.int v3), some (.int t7)] [] (SH, I, J)) rfl (zR_if (fun hc12 => zR_go ?_) (fun hc12 => zR_go ?_))
        · rw [if_pos hc12] at h
          refine zr_steps 1 (47, [some (.ref 0), some (.int v1), some (.int v2), some (.int v3), some (.int t7)], [.int v2], (SH, I, J)) rfl ?_
          refine zr_one (if (0 : Int32) ≤ v2 then zN 52 [some (.ref 0), some (.int v1), some (.int v2), some (.int v3), some (.int t7)] [] (SH, I, J) else zN 50 [some (.ref 0), some (.int v1), some (.int v2), some (.int v3), some (.int t7)] [] (SH, I, J)) rfl (zR_if (fun hc11 => zR_go ?_) (fun hc11 => zR_go ?_))
          · rw [if_pos hc11] at h
            refine zr_steps 4 (58, [some (.ref 0), some (.int v1), some (.int v2), some (.int v3), some (.int t7)], [.int v1, .ref 60, .ref 0], (SH, I, J)) rfl ?_
            obtain ⟨hc8, h⟩ := zbifo h
            refine zr_one (bif zin v1 6 then zrefr 59 [some (.ref 0), some (.int v1), some (.int v2), some (.int v3), some (.int t7)] [.ref 0] (SH, I, J) (zri (SH, I, J) 60 v1.toNatClampNeg) else none) rfl (zR_bif hc8 (zR_ref (sh_at hc8) ?_))
            refine zr_steps 2 (61, [some (.ref 0), some (.int v1), some (.int v2), some (.int v3), some (.int t7)], [.int v3, .int v2, .ref (zshelf v1), .ref 0], (SH, I, J)) rfl ?_
            obtain ⟨t10, hc9, h⟩ := zbind h
            refine zr_one (some (.inr (.inl (90, [.ref 0, .ref (zshelf v1), .int v2, .int v3], [], 64)))) rfl (zR_call (by omega) rfl (ok_f90_sortsFrom (by omega) (zshelf v1) v2 v3 (sh_is hc8) _ hc9) ?_)
            have he := Option.some.inj h
            subst he
            exact zr_one (some (.inr (.inr (some (.int t10.1))))) rfl (zR_ret rfl rfl)
          · rw [if_neg hc11] at h
            refine zr_steps 1 (51, [some (.ref 0), some (.int v1), some (.int v2), some (.int v3), some (.int t7)], [.int 0], (SH, I, J)) rfl ?_
            have he := Option.some.inj h
            subst he
            exact zr_one (some (.inr (.inr (some (.int 0))))) rfl (zR_ret rfl rfl)
        · rw [if_neg hc12] at h
          refine zr_steps 1 (51, [some (.ref 0), some (.int v1), some (.int v2), some (.int v3), some (.int t7)], [.int 0], (SH, I, J)) rfl ?_
          have he := Option.some.inj h
          subst he
          exact zr_one (some (.inr (.inr (some (.int 0))))) rfl (zR_ret rfl rfl)
set_option maxRecDepth 100000 in
set_option maxHeartbeats 4000000 in
theorem ok_f210_isShelf {X : zX} {d : Nat} (hd : 1 ≤ d) (v0 : Int32) {I : (Nat → Nat → Int32)} {J : (Nat → Nat → Int64)} (t : Int32) (h : f210_isShelf v0 = some t) : zRun X d 210 0 (zent 210 [.int v0]) [] (SH, I, J) (some (.int t)) (SH, I, J) := by
  unfold f210_isShelf at h
  refine zr_steps 3 (3, [some (.int v0)], [.int 5, .int 0, .int v0], (SH, I, J)) rfl ?_
  obtain ⟨t2, hc1, h⟩ := zbind h
  refine zr_one (some (.inr (.inl (129, [.int v0, .int 0, .int 5], [], 6)))) rfl (zR_call (by omega) rfl (ok_f129_in (by omega) v0 0 5 _ hc1) ?_)
  obtain ⟨hc3, h⟩ := zifo h
  have he := Option.some.inj h
  subst he
  exact zr_one (if ((t2 : Int32) = 0 ∨ (t2 : Int32) = 1) then some (.inr (.inr (some (.int t2)))) else none) rfl (zR_pos hc3 (zR_ret rfl rfl))
set_option maxRecDepth 100000 in
set_option maxHeartbeats 4000000 in
theorem ok_f137_sorts_L58 {X : zX} {d : Nat} {r : Option Value} {M' : zM} (hd : 3 ≤ d) (v1 : Int32) (v2 : Int32) (v3 : Int32) {J : (Nat → Nat → Int64)} : ∀ (n : Nat) (s : (Int32 × (Nat → Nat → Int32))) (t : (Int32 × (Nat → Nat → Int32)) ⊕ (Int32 × (Nat → Nat → Int32))), zloopR (f137_sorts_L58 v1 v2 v3 J) n s = some t → zSumE (fun (x : (Int32 × (Nat → Nat → Int32))) => r = (some (.int x.1)) ∧ M' = (SH, x.2, J)) (fun (x : (Int32 × (Nat → Nat → Int32))) => zRun X d 137 197 [none, none, none, some (.int v3), none, none, none, none] [] (SH, x.2, J) r M') t → (fun (s : (Int32 × (Nat → Nat → Int32))) => zRun X d 137 58 [some (.ref 73), some (.int v1), some (.int v2), some (.int v3), some (.int s.1), none, none, none] [] (SH, s.2, J) r M') s := zloopR_ok (B := (f137_sorts_L58 v1 v2 v3 J)) (Wh := fun (s : (Int32 × (Nat → Nat → Int32))) => zRun X d 137 58 [some (.ref 73), some (.int v1), some (.int v2), some (.int v3), some (.int s.1), none, none, none] [] (SH, s.2, J) r M') (Wx := fun (x : (Int32 × (Nat → Nat → Int32))) => zRun X d 137 197 [none, none, none, some (.int v3), none, none, none, none] [] (SH, x.2, J) r M') (Wr := fun (x : (Int32 × (Nat → Nat → Int32))) => r = (some (.int x.1)) ∧ M' = (SH, x.2, J)) (fun s y h w => by
  unfold f137_sorts_L58 at h
  refine zr_steps 2 (61, [some (.ref 73), some (.int v1), some (.int v2), some (.int v3), some (.int s.1), none, none, none], [.int v3, .int s.1], (SH, s.2, J)) rfl ?_
  refine zr_one (if v3 ≤ s.1 then zN 197 [some (.ref 73), some (.int v1), some (.int v2), some (.int v3), some (.int s.1), none, none, none] [] (SH, s.2, J) else zN 64 [some (.ref 73), some (.int v1), some (.int v2), some (.int v3), some (.int s.1), none, none, none] [] (SH, s.2, J)) rfl (zR_if (fun hc22 => zR_go ?_) (fun hc22 => zR_go ?_))
  · rw [if_pos hc22] at h
    have he := Option.some.inj h
    subst he
    exact zr_hdr (ls2 := [none, none, none, some (.int v3), none, none, none, none]) rfl rfl (show zRun X d 137 197 [none, none, none, some (.int v3), none, none, none, none] [] (SH, s.2, J) r M' from w)
  · rw [if_neg hc22] at h
    refine zr_steps 11 (78, [some (.ref 73), some (.int v1), some (.int v2), some (.int v3), some (.int s.1), some (.long (v2.toInt64 + (3 * s.1).toInt64)), none, none], [.int (lg_cmp (v2.toInt64 + (3 * s.1).toInt64) 0)], (SH, s.2, J)) rfl ?_
    refine zr_one (if (lg_cmp (v2.toInt64 + (3 * s.1).toInt64) 0) < 0 then zN 107 [some (.ref 73), some (.int v1), some (.int v2), some (.int v3), some (.int s.1), some (.long (v2.toInt64 + (3 * s.1).toInt64)), none, none] [] (SH, s.2, J) else zN 81 [some (.ref 73), some (.int v1), some (.int v2), some (.int v3), some (.int s.1), some (.long (v2.toInt64 + (3 * s.1).toInt64)), none, none] [] (SH, s.2, J)) rfl (zR_if (fun hc21 => zR_go ?_) (fun hc21 => zR_go ?_))
    · rw [if_pos hc21] at h
      refine zr_steps 1 (109, [some (.ref 73), some (.int v1), some (.int v2), some (.int v3), some (.int s.1), some (.long (v2.toInt64 + (3 * s.1).toInt64)), none, none], [.int s.1], (SH, s.2, J)) rfl ?_
      have he := Option.some.inj h
      subst he
      obtain ⟨e1, e2⟩ := (show r = (some (.int s.1)) ∧ M' = (SH, s.2, J) from w)
      exact zr_one (some (.inr (.inr (some (.int s.1))))) rfl (zR_ret e1.symm e2.symm)
    · rw [if_neg hc21] at h
      refine zr_steps 6 (92, [some (.ref 73), some (.int v1), some (.int v2), some (.int v3), some (.int s.1), some (.long (v2.toInt64 + (3 * s.1).toInt64)), none, none], [.int v1, .ref 111, .long ((v2.toInt64 + (3 * s.1).toInt64) + 2)], (SH, s.2, J)) rfl ?_
      obtain ⟨hc7, h⟩ := zbifo h
      refine zr_one (bif zin v1 6 then zN 93 [some (.ref 73), some (.int v1), some (.int v2), some (.int v3), some (.int s.1), some (.long (v2.toInt64 + (3 * s.1).toInt64)), none, none] [.int (s.2 111 v1.toNatClampNeg), .long ((v2.toInt64 + (3 * s.1).toInt64) + 2)] (SH, s.2, J) else none) rfl (zR_bif hc7 (zR_go ?_))
      refine zr_steps 2 (95, [some (.ref 73), some (.int v1), some (.int v2), some (.int v3), some (.int s.1), some (.long (v2.toInt64 + (3 * s.1).toInt64)), none, none], [.int (lg_cmp ((v2.toInt64 + (3 * s.1).toInt64) + 2) (s.2 111 v1.toNatClampNeg).toInt64)], (SH, s.2, J)) rfl ?_
      refine zr_one (if (0 : Int32) ≤ (lg_cmp ((v2.toInt64 + (3 * s.1).toInt64) + 2) (s.2 111 v1.toNatClampNeg).toInt64) then zN 107 [some (.ref 73), some (.int v1), some (.int v2), some (.int v3), some (.int s.1), some (.long (v2.toInt64 + (3 * s.1).toInt64)), none, none] [] (SH, s.2, J) else zN 98 [some (.ref 73), some (.int v1), some (.int v2), some (.int v3), some (.int s.1), some (.long (v2.toInt64 + (3 * s.1).toInt64)), none, none] [] (SH, s.2, J)) rfl (zR_if (fun hc20 => zR_go ?_) (fun hc20 => zR_go ?_))
      · rw [if_pos hc20] at h
        refine zr_steps 1 (109, [some (.ref 73), some (.int v1), some (.int v2), some (.int v3), some (.int s.1), some (.long (v2.toInt64 + (3 * s.1).toInt64)), none, none], [.int s.1], (SH, s.2, J)) rfl ?_
        have he := Option.some.inj h
        subst he
        obtain ⟨e1, e2⟩ := (show r = (some (.int s.1)) ∧ M' = (SH, s.2, J) from w)
        exact zr_one (some (.inr (.inr (some (.int s.1))))) rfl (zR_ret e1.symm e2.symm)
      · rw [if_neg hc20] at h
        refine zr_steps 3 (104, [some (.ref 73), some (.int v1), some (.int v2), some (.int v3), some (.int s.1), some (.long (v2.toInt64 + (3 * s.1).toInt64)), none, none], [.int 8, .int (s.2 73 9)], (SH, s.2, J)) rfl ?_
        refine zr_one (if (s.2 73 9) = 8 then zN 107 [some (.ref 73), some (.int v1), some (.int v2), some (.int v3), some (.int s.1), some (.long (v2.toInt64 + (3 * s.1).toInt64)), none, none] [] (SH, s.2, J) else zN 110 [some (.ref 73), some (.int v1), some (.int v2), some (.int v3), some (.int s.1), some (.long (v2.toInt64 + (3 * s.1).toInt64)), none, none] [] (SH, s.2, J)) rfl (zR_if (fun hc19 => zR_go ?_) (fun hc19 => zR_go ?_))
        · rw [if_pos hc19] at h
          refine zr_steps 1 (109, [some (.ref 73), some (.int v1), some (.int v2), some (.int v3), some (.int s.1), some (.long (v2.toInt64 + (3 * s.1).toInt64)), none, none], [.int s.1], (SH, s.2, J)) rfl ?_
          have he := Option.some.inj h
          subst he
          obtain ⟨e1, e2⟩ := (show r = (some (.int s.1)) ∧ M' = (SH, s.2, J) from w)
          exact zr_one (some (.inr (.inr (some (.int s.1))))) rfl (zR_ret e1.symm e2.symm)
        · rw [if_neg hc19] at h
          refine zr_steps 11 (127, [some (.ref 73), some (.int v1), some (.int v2), some (.int v3), some (.int s.1), some (.long (v2.toInt64 + (3 * s.1).toInt64)), none, some (.int ((60 * v1) + (v2.toInt64 + (3 * s.1).toInt64).toInt32))], [.int ((60 * v1) + (v2.toInt64 + (3 * s.1).toInt64).toInt32), .ref 112, .ref 73], (SH, s.2, J)) rfl ?_
          obtain ⟨hc8, h⟩ := zbifo h
          refine zr_one (bif zin ((60 * v1) + (v2.toInt64 + (3 * s.1).toInt64).toInt32) 360 then zN 128 [some (.ref 73), some (.int v1), some (.int v2), some (.int v3), some (.int s.1), some (.long (v2.toInt64 + (3 * s.1).toInt64)), none, some (.int ((60 * v1) + (v2.toInt64 + (3 * s.1).toInt64).toInt32))] [.long (J 112 ((60 * v1) + (v2.toInt64 + (3 * s.1).toInt64).toInt32).toNatClampNeg), .ref 73] (SH, s.2, J) else none) rfl (zR_bif hc8 (zR_go ?_))
          refine zr_steps 6 (137, [some (.ref 73), some (.int v1), some (.int v2), some (.int v3), some (.int s.1), some (.long (v2.toInt64 + (3 * s.1).toInt64)), none, some (.int ((60 * v1) + (v2.toInt64 + (3 * s.1).toInt64).toInt32))], [.int (((60 * v1) + (v2.toInt64 + (3 * s.1).toInt64).toInt32) + 1), .ref 112, .int (J 112 ((60 * v1) + (v2.toInt64 + (3 * s.1).toInt64).toInt32).toNatClampNeg).toInt32, .ref 73], (SH, s.2, J)) rfl ?_
          obtain ⟨hc9, h⟩ := zbifo h
          refine zr_one (bif zin (((60 * v1) + (v2.toInt64 + (3 * s.1).toInt64).toInt32) + 1) 360 then zN 138 [some (.ref 73), some (.int v1), some (.int v2), some (.int v3), some (.int s.1), some (.long (v2.toInt64 + (3 * s.1).toInt64)), none, some (.int ((60 * v1) + (v2.toInt64 + (3 * s.1).toInt64).toInt32))] [.long (J 112 (((60 * v1) + (v2.toInt64 + (3 * s.1).toInt64).toInt32) + 1).toNatClampNeg), .int (J 112 ((60 * v1) + (v2.toInt64 + (3 * s.1).toInt64).toInt32).toNatClampNeg).toInt32, .ref 73] (SH, s.2, J) else none) rfl (zR_bif hc9 (zR_go ?_))
          refine zr_steps 6 (147, [some (.ref 73), some (.int v1), some (.int v2), some (.int v3), some (.int s.1), some (.long (v2.toInt64 + (3 * s.1).toInt64)), none, some (.int ((60 * v1) + (v2.toInt64 + (3 * s.1).toInt64).toInt32))], [.int (((60 * v1) + (v2.toInt64 + (3 * s.1).toInt64).toInt32) + 2), .ref 112, .int (J 112 (((60 * v1) + (v2.toInt64 + (3 * s.1).toInt64).toInt32) + 1).toNatClampNeg).toInt32, .int (J 112 ((60 * v1) + (v2.toInt64 + (3 * s.1).toInt64).toInt32).toNatClampNeg).toInt32, .ref 73], (SH, s.2, J)) rfl ?_
          obtain ⟨hc10, h⟩ := zbifo h
          refine zr_one (bif zin (((60 * v1) + (v2.toInt64 + (3 * s.1).toInt64).toInt32) + 2) 360 then zN 148 [some (.ref 73), some (.int v1), some (.int v2), some (.int v3), some (.int s.1), some (.long (v2.toInt64 + (3 * s.1).toInt64)), none, some (.int ((60 * v1) + (v2.toInt64 + (3 * s.1).toInt64).toInt32))] [.long (J 112 (((60 * v1) + (v2.toInt64 + (3 * s.1).toInt64).toInt32) + 2).toNatClampNeg), .int (J 112 (((60 * v1) + (v2.toInt64 + (3 * s.1).toInt64).toInt32) + 1).toNatClampNeg).toInt32, .int (J 112 ((60 * v1) + (v2.toInt64 + (3 * s.1).toInt64).toInt32).toNatClampNeg).toInt32, .ref 73] (SH, s.2, J) else none) rfl (zR_bif hc10 (zR_go ?_))
          refine zr_steps 1 (149, [some (.ref 73), some (.int v1), some (.int v2), some (.int v3), some (.int s.1), some (.long (v2.toInt64 + (3 * s.1).toInt64)), none, some (.int ((60 * v1) + (v2.toInt64 + (3 * s.1).toInt64).toInt32))], [.int (J 112 (((60 * v1) + (v2.toInt64 + (3 * s.1).toInt64).toInt32) + 2).toNatClampNeg).toInt32, .int (J 112 (((60 * v1) + (v2.toInt64 + (3 * s.1).toInt64).toInt32) + 1).toNatClampNeg).toInt32, .int (J 112 ((60 * v1) + (v2.toInt64 + (3 * s.1).toInt64).toInt32).toNatClampNeg).toInt32, .ref 73], (SH, s.2, J)) rfl ?_
          obtain ⟨t12, hc11, h⟩ := zbind h
          refine zr_one (some (.inr (.inl (134, [.ref 73, .int (J 112 ((60 * v1) + (v2.toInt64 + (3 * s.1).toInt64).toInt32).toNatClampNeg).toInt32, .int (J 112 (((60 * v1) + (v2.toInt64 + (3 * s.1).toInt64).toInt32) + 1).toNatClampNeg).toInt32, .int (J 112 (((60 * v1) + (v2.toInt64 + (3 * s.1).toInt64).toInt32) + 2).toNatClampNeg).toInt32], [], 152)))) rfl (zR_call (by omega) rfl (ok_f134_isSortSo (by omega) (J 112 ((60 * v1) + (v2.toInt64 + (3 * s.1).toInt64).toInt32).toNatClampNeg).toInt32 (J 112 (((60 * v1) + (v2.toInt64 + (3 * s.1).toInt64).toInt32) + 1).toNatClampNeg).toInt32 (J 112 (((60 * v1) + (v2.toInt64 + (3 * s.1).toInt64).toInt32) + 2).toNatClampNeg).toInt32 _ hc11) ?_)
          refine zr_one (if t12 = 0 then zN 155 [some (.ref 73), some (.int v1), some (.int v2), some (.int v3), some (.int s.1), some (.long (v2.toInt64 + (3 * s.1).toInt64)), none, some (.int ((60 * v1) + (v2.toInt64 + (3 * s.1).toInt64).toInt32))] [] (SH, s.2, J) else zN 158 [some (.ref 73), some (.int v1), some (.int v2), some (.int v3), some (.int s.1), some (.long (v2.toInt64 + (3 * s.1).toInt64)), none, some (.int ((60 * v1) + (v2.toInt64 + (3 * s.1).toInt64).toInt32))] [] (SH, s.2, J)) rfl (zR_if (fun hc18 => zR_go ?_) (fun hc18 => zR_go ?_))
          · rw [if_pos hc18] at h
            refine zr_steps 1 (157, [some (.ref 73), some (.int v1), some (.int v2), some (.int v3), some (.int s.1), some (.long (v2.toInt64 + (3 * s.1).toInt64)), none, some (.int ((60 * v1) + (v2.toInt64 + (3 * s.1).toInt64).toInt32))], [.int s.1], (SH, s.2, J)) rfl ?_
            have he := Option.some.inj h
            subst he
            obtain ⟨e1, e2⟩ := (show r = (some (.int s.1)) ∧ M' = (SH, s.2, J) from w)
            exact zr_one (some (.inr (.inr (some (.int s.1))))) rfl (zR_ret e1.symm e2.symm)
          · rw [if_neg hc18] at h
            refine zr_steps 4 (165, [some (.ref 73), some (.int v1), some (.int v2), some (.int v3), some (.int s.1), some (.long (v2.toInt64 + (3 * s.1).toInt64)), none, some (.int ((60 * v1) + (v2.toInt64 + (3 * s.1).toInt64).toInt32))], [.int ((60 * v1) + (v2.toInt64 + (3 * s.1).toInt64).toInt32), .ref 112, .ref 73], (SH, s.2, J)) rfl ?_
            obtain ⟨hc13, h⟩ := zbifo h
            refine zr_one (bif zin ((60 * v1) + (v2.toInt64 + (3 * s.1).toInt64).toInt32) 360 then zN 166 [some (.ref 73), some (.int v1), some (.int v2), some (.int v3), some (.int s.1), some (.long (v2.toInt64 + (3 * s.1).toInt64)), none, some (.int ((60 * v1) + (v2.toInt64 + (3 * s.1).toInt64).toInt32))] [.long (J 112 ((60 * v1) + (v2.toInt64 + (3 * s.1).toInt64).toInt32).toNatClampNeg), .ref 73] (SH, s.2, J) else none) rfl (zR_bif hc13 (zR_go ?_))
            refine zr_steps 6 (175, [some (.ref 73), some (.int v1), some (.int v2), some (.int v3), some (.int s.1), some (.long (v2.toInt64 + (3 * s.1).toInt64)), none, some (.int ((60 * v1) + (v2.toInt64 + (3 * s.1).toInt64).toInt32))], [.int (((60 * v1) + (v2.toInt64 + (3 * s.1).toInt64).toInt32) + 1), .ref 112, .int (J 112 ((60 * v1) + (v2.toInt64 + (3 * s.1).toInt64).toInt32).toNatClampNeg).toInt32, .ref 73], (SH, s.2, J)) rfl ?_
            obtain ⟨hc14, h⟩ := zbifo h
            refine zr_one (bif zin (((60 * v1) + (v2.toInt64 + (3 * s.1).toInt64).toInt32) + 1) 360 then zN 176 [some (.ref 73), some (.int v1), some (.int v2), some (.int v3), some (.int s.1), some (.long (v2.toInt64 + (3 * s.1).toInt64)), none, some (.int ((60 * v1) + (v2.toInt64 + (3 * s.1).toInt64).toInt32))] [.long (J 112 (((60 * v1) + (v2.toInt64 + (3 * s.1).toInt64).toInt32) + 1).toNatClampNeg), .int (J 112 ((60 * v1) + (v2.toInt64 + (3 * s.1).toInt64).toInt32).toNatClampNeg).toInt32, .ref 73] (SH, s.2, J) else none) rfl (zR_bif hc14 (zR_go ?_))
            refine zr_steps 6 (185, [some (.ref 73), some (.int v1), some (.int v2), some (.int v3), some (.int s.1), some (.long (v2.toInt64 + (3 * s.1).toInt64)), none, some (.int ((60 * v1) + (v2.toInt64 + (3 * s.1).toInt64).toInt32))], [.int (((60 * v1) + (v2.toInt64 + (3 * s.1).toInt64).toInt32) + 2), .ref 112, .int (J 112 (((60 * v1) + (v2.toInt64 + (3 * s.1).toInt64).toInt32) + 1).toNatClampNeg).toInt32, .int (J 112 ((60 * v1) + (v2.toInt64 + (3 * s.1).toInt64).toInt32).toNatClampNeg).toInt32, .ref 73], (SH, s.2, J)) rfl ?_
            obtain ⟨hc15, h⟩ := zbifo h
            refine zr_one (bif zin (((60 * v1) + (v2.toInt64 + (3 * s.1).toInt64).toInt32) + 2) 360 then zN 186 [some (.ref 73), some (.int v1), some (.int v2), some (.int v3), some (.int s.1), some (.long (v2.toInt64 + (3 * s.1).toInt64)), none, some (.int ((60 * v1) + (v2.toInt64 + (3 * s.1).toInt64).toInt32))] [.long (J 112 (((60 * v1) + (v2.toInt64 + (3 * s.1).toInt64).toInt32) + 2).toNatClampNeg), .int (J 112 (((60 * v1) + (v2.toInt64 + (3 * s.1).toInt64).toInt32) + 1).toNatClampNeg).toInt32, .int (J 112 ((60 * v1) + (v2.toInt64 + (3 * s.1).toInt64).toInt32).toNatClampNeg).toInt32, .ref 73] (SH, s.2, J) else none) rfl (zR_bif hc15 (zR_go ?_))
            refine zr_steps 1 (187, [some (.ref 73), some (.int v1), some (.int v2), some (.int v3), some (.int s.1), some (.long (v2.toInt64 + (3 * s.1).toInt64)), none, some (.int ((60 * v1) + (v2.toInt64 + (3 * s.1).toInt64).toInt32))], [.int (J 112 (((60 * v1) + (v2.toInt64 + (3 * s.1).toInt64).toInt32) + 2).toNatClampNeg).toInt32, .int (J 112 (((60 * v1) + (v2.toInt64 + (3 * s.1).toInt64).toInt32) + 1).toNatClampNeg).toInt32, .int (J 112 ((60 * v1) + (v2.toInt64 + (3 * s.1).toInt64).toInt32).toNatClampNeg).toInt32, .ref 73], (SH, s.2, J)) rfl ?_
            obtain ⟨t17, hc16, h⟩ := zbind h
            refine zr_one (some (.inr (.inl (135, [.ref 73, .int (J 112 ((60 * v1) + (v2.toInt64 + (3 * s.1).toInt64).toInt32).toNatClampNeg).toInt32, .int (J 112 (((60 * v1) + (v2.toInt64 + (3 * s.1).toInt64).toInt32) + 1).toNatClampNeg).toInt32, .int (J 112 (((60 * v1) + (v2.toInt64 + (3 * s.1).toInt64).toInt32) + 2).toNatClampNeg).toInt32], [], 190)))) rfl (zR_call (by omega) rfl (ok_f135_addSort (by omega) (J 112 ((60 * v1) + (v2.toInt64 + (3 * s.1).toInt64).toInt32).toNatClampNeg).toInt32 (J 112 (((60 * v1) + (v2.toInt64 + (3 * s.1).toInt64).toInt32) + 1).toNatClampNeg).toInt32 (J 112 (((60 * v1) + (v2.toInt64 + (3 * s.1).toInt64).toInt32) + 2).toNatClampNeg).toInt32 _ hc16) ?_)
            refine zr_steps 3 (58, [some (.ref 73), some (.int v1), some (.int v2), some (.int v3), some (.int (s.1 + 1)), some (.long (v2.toInt64 + (3 * s.1).toInt64)), none, some (.int ((60 * v1) + (v2.toInt64 + (3 * s.1).toInt64).toInt32))], [], (SH, t17.2, J)) rfl ?_
            have he := Option.some.inj h
            subst he
            exact zr_hdr (ls2 := [some (.ref 73), some (.int v1), some (.int v2), some (.int v3), some (.int (s.1 + 1)), none, none, none]) rfl rfl (show zRun X d 137 58 [some (.ref 73), some (.int v1), some (.int v2), some (.int v3), some (.int (s.1 + 1)), none, none, none] [] (SH, t17.2, J) r M' from w))
set_option maxRecDepth 100000 in
set_option maxHeartbeats 4000000 in
theorem ok_f137_sorts {X : zX} {d : Nat} (hd : 3 ≤ d) (v1 : Int32) (v2 : Int32) (v3 : Int32) {I : (Nat → Nat → Int32)} {J : (Nat → Nat → Int64)} (t : (Int32 × (Nat → Nat → Int32))) (h : f137_sorts v1 v2 v3 I J = some t) : zRun X d 137 0 (zent 137 [.ref 73, .int v1, .int v2, .int v3]) [] (SH, I, J) (some (.int t.1)) (SH, t.2, J) := by
  unfold f137_sorts at h
  refine zr_steps 1 (1, [some (.ref 73), some (.int v1), some (.int v2), some (.int v3), none, none, none, none], [.int v1], (SH, I, J)) rfl ?_
  obtain ⟨t2, hc1, h⟩ := zbind h
  refine zr_one (some (.inr (.inl (210, [.int v1], [], 4)))) rfl (zR_call (by omega) rfl (ok_f210_isShelf (by omega) v1 _ hc1) ?_)
  refine zr_one (if t2 = 0 then zN 17 [some (.ref 73), some (.int v1), some (.int v2), some (.int v3), none, none, none, none] [] (SH, I, J) else zN 7 [some (.ref 73), some (.int v1), some (.int v2), some (.int v3), none, none, none, none] [] (SH, I, J)) rfl (zR_if (fun hc36 => zR_go ?_) (fun hc36 => zR_go ?_))
  · rw [if_pos hc36] at h
    refine zr_steps 1 (18, [some (.ref 73), some (.int v1), some (.int v2), some (.int v3), none, none, none, none], [.int (-1)], (SH, I, J)) rfl ?_
    have he := Option.some.inj h
    subst he
    exact zr_one (some (.inr (.inr (some (.int (-1)))))) rfl (zR_ret rfl rfl)
  · rw [if_neg hc36] at h
    refine zr_steps 3 (11, [some (.ref 73), some (.int v1), some (.int v2), some (.int v3), none, none, none, none], [.int 8, .int 1, .int v3], (SH, I, J)) rfl ?_
    obtain ⟨t4, hc3, h⟩ := zbind h
    refine zr_one (some (.inr (.inl (129, [.int v3, .int 1, .int 8], [], 14)))) rfl (zR_call (by omega) rfl (ok_f129_in (by omega) v3 1 8 _ hc3) ?_)
    refine zr_one (if t4 = 0 then zN 17 [some (.ref 73), some (.int v1), some (.int v2), some (.int v3), none, none, none, none] [] (SH, I, J) else zN 19 [some (.ref 73), some (.int v1), some (.int v2), some (.int v3), none, none, none, none] [] (SH, I, J)) rfl (zR_if (fun hc35 => zR_go ?_) (fun hc35 => zR_go ?_))
    · rw [if_pos hc35] at h
      refine zr_steps 1 (18, [some (.ref 73), some (.int v1), some (.int v2), some (.int v3), none, none, none, none], [.int (-1)], (SH, I, J)) rfl ?_
      have he := Option.some.inj h
      subst he
      exact zr_one (some (.inr (.inr (some (.int (-1)))))) rfl (zR_ret rfl rfl)
    · rw [if_neg hc35] at h
      refine zr_steps 3 (24, [some (.ref 73), some (.int v1), some (.int v2), some (.int v3), none, none, none, none], [.int v1, .ref 110], (SH, I, J)) rfl ?_
      obtain ⟨hc5, h⟩ := zbifo h
      refine zr_one (bif zin v1 6 then zN 25 [some (.ref 73), some (.int v1), some (.int v2), some (.int v3), none, none, none, none] [.int (I 110 v1.toNatClampNeg)] (SH, I, J) else none) rfl (zR_bif hc5 (zR_go ?_))
      refine zr_steps 1 (26, [some (.ref 73), some (.int v1), some (.int v2), some (.int v3), none, none, none, none], [.int (-1), .int (I 110 v1.toNatClampNeg)], (SH, I, J)) rfl ?_
      refine zr_one (if (I 110 v1.toNatClampNeg) = (-1) then zN 43 [some (.ref 73), some (.int v1), some (.int v2), some (.int v3), none, none, none, none] [] (SH, I, J) else zN 29 [some (.ref 73), some (.int v1), some (.int v2), some (.int v3), none, none, none, none] [] (SH, I, J)) rfl (zR_if (fun hc34 => zR_go ?_) (fun hc34 => zR_go ?_))
      · rw [if_pos hc34] at h
        refine zr_steps 3 (48, [some (.ref 73), some (.int v1), some (.int v2), some (.int v3), none, none, none, none], [.int v1, .ref 110], (SH, I, J)) rfl ?_
        obtain ⟨hc6, h⟩ := zbifo h
        refine zr_one (bif zin v1 6 then zN 49 [some (.ref 73), some (.int v1), some (.int v2), some (.int v3), none, none, none, none] [.int (I 110 v1.toNatClampNeg)] (SH, I, J) else none) rfl (zR_bif hc6 (zR_go ?_))
        refine zr_steps 1 (50, [some (.ref 73), some (.int v1), some (.int v2), some (.int v3), none, none, none, none], [.int (-1), .int (I 110 v1.toNatClampNeg)], (SH, I, J)) rfl ?_
        refine zr_one (if (I 110 v1.toNatClampNeg) = (-1) then zN 53 [some (.ref 73), some (.int v1), some (.int v2), some (.int v3), none, none, none, none] [] (SH, I, J) else zN 55 [some (.ref 73), some (.int v1), some (.int v2), some (.int v3), none, none, none, none] [] (SH, I, J)) rfl (zR_if (fun hc26 => zR_go ?_) (fun hc26 => zR_go ?_))
        · rw [if_pos hc26] at h
          refine zr_steps 1 (54, [some (.ref 73), some (.int v1), some (.int v2), some (.int v3), none, none, none, none], [.int 0], (SH, I, J)) rfl ?_
          have he := Option.some.inj h
          subst he
          exact zr_one (some (.inr (.inr (some (.int 0))))) rfl (zR_ret rfl rfl)
        · rw [if_neg hc26] at h
          refine zr_steps 2 (58, [some (.ref 73), some (.int v1), some (.int v2), some (.int v3), some (.int 0), none, none, none], [], (SH, I, J)) rfl ?_
          obtain ⟨y25, ho24, hy⟩ := zbRe h
          refine zr_hdr (ls2 := [some (.ref 73), some (.int v1), some (.int v2), some (.int v3), some (.int 0), none, none, none]) rfl rfl ?_
          refine ok_f137_sorts_L58 (by omega) v1 v2 v3 5000 ((0 : Int32), I) y25 ho24 ?_
          rcases hy with ⟨rr, rfl, h⟩ | ⟨s23, rfl, h⟩
          · have he := Option.some.inj h
            subst he
            exact ⟨rfl, rfl⟩
          · show zRun X d 137 197 [none, none, none, some (.int v3), none, none, none, none] [] (SH, s23.2, J) _ _
            refine zr_steps 1 (198, [none, none, none, some (.int v3), none, none, none, none], [.int v3], (SH, s23.2, J)) rfl ?_
            have he := Option.some.inj h
            subst he
            exact zr_one (some (.inr (.inr (some (.int v3))))) rfl (zR_ret rfl rfl)
      · rw [if_neg hc34] at h
        refine zr_steps 3 (34, [some (.ref 73), some (.int v1), some (.int v2), some (.int v3), none, none, none, none], [.int v1, .ref 110], (SH, I, J)) rfl ?_
        obtain ⟨hc27, h⟩ := zbifo h
        refine zr_one (bif zin v1 6 then zN 35 [some (.ref 73), some (.int v1), some (.int v2), some (.int v3), none, none, none, none] [.int (I 110 v1.toNatClampNeg)] (SH, I, J) else none) rfl (zR_bif hc27 (zR_go ?_))
        refine zr_steps 1 (37, [some (.ref 73), some (.int v1), some (.int v2), some (.int v3), none, none, none, none], [.int (-3), .int (I 110 v1.toNatClampNeg)], (SH, I, J)) rfl ?_
        refine zr_one (if (I 110 v1.toNatClampNeg) = (-3) then zN 43 [some (.ref 73), some (.int v1), some (.int v2), some (.int v3), none, none, none, none] [] (SH, I, J) else zN 40 [some (.ref 73), some (.int v1), some (.int v2), some (.int v3), none, none, none, none] [] (SH, I, J)) rfl (zR_if (fun hc33 => zR_go ?_) (fun hc33 => zR_go ?_))
        · rw [if_pos hc33] at h
          refine zr_steps 3 (48, [some (.ref 73), some (.int v1), some (.int v2), some (.int v3), none, none, none, none], [.int v1, .ref 110], (SH, I, J)) rfl ?_
          obtain ⟨hc28, h⟩ := zbifo h
          refine zr_one (bif zin v1 6 then zN 49 [some (.ref 73), some (.int v1), some (.int v2), some (.int v3), none, none, none, none] [.int (I 110 v1.toNatClampNeg)] (SH, I, J) else none) rfl (zR_bif hc28 (zR_go ?_))
          refine zr_steps 1 (50, [some (.ref 73), some (.int v1), some (.int v2), some (.int v3), none, none, none, none], [.int (-1), .int (I 110 v1.toNatClampNeg)], (SH, I, J)) rfl ?_
          refine zr_one (if (I 110 v1.toNatClampNeg) = (-1) then zN 53 [some (.ref 73), some (.int v1), some (.int v2), some (.int v3), none, none, none, none] [] (SH, I, J) else zN 55 [some (.ref 73), some (.int v1), some (.int v2), some (.int v3), none, none, none, none] [] (SH, I, J)) rfl (zR_if (fun hc32 => zR_go ?_) (fun hc32 => zR_go ?_))
          · rw [if_pos hc32] at h
            refine zr_steps 1 (54, [some (.ref 73), some (.int v1), some (.int v2), some (.int v3), none, none, none, none], [.int 0], (SH, I, J)) rfl ?_
            have he := Option.some.inj h
            subst he
            exact zr_one (some (.inr (.inr (some (.int 0))))) rfl (zR_ret rfl rfl)
          · rw [if_neg hc32] at h
            refine zr_steps 2 (58, [some (.ref 73), some (.int v1), some (.int v2), some (.int v3), some (.int 0), none, none, none], [], (SH, I, J)) rfl ?_
            obtain ⟨y31, ho30, hy⟩ := zbRe h
            refine zr_hdr (ls2 := [some (.ref 73), some (.int v1), some (.int v2), some (.int v3), some (.int 0), none, none, none]) rfl rfl ?_
            refine ok_f137_sorts_L58 (by omega) v1 v2 v3 5000 ((0 : Int32), I) y31 ho30 ?_
            rcases hy with ⟨rr, rfl, h⟩ | ⟨s29, rfl, h⟩
            · have he := Option.some.inj h
              subst he
              exact ⟨rfl, rfl⟩
            · show zRun X d 137 197 [none, none, none, some (.int v3), none, none, none, none] [] (SH, s29.2, J) _ _
              refine zr_steps 1 (198, [none, none, none, some (.int v3), none, none, none, none], [.int v3], (SH, s29.2, J)) rfl ?_
              have he := Option.some.inj h
              subst he
              exact zr_one (some (.inr (.inr (some (.int v3))))) rfl (zR_ret rfl rfl)
        · rw [if_neg hc33] at h
          refine zr_steps 1 (42, [some (.ref 73), some (.int v1), some (.int v2), some (.int v3), none, none, none, none], [.int (-12)], (SH, I, J)) rfl ?_
          have he := Option.some.inj h
          subst he
          exact zr_one (some (.inr (.inr (some (.int (-12)))))) rfl (zR_ret rfl rfl)
set_option maxRecDepth 100000 in
set_option maxHeartbeats 4000000 in
theorem ok_f18_take {X : zX} {d : Nat} (hd : 0 ≤ d) (v1 : Int32) {I : (Nat → Nat → Int32)} {J : (Nat → Nat → Int64)} (t : (Int32 × (Nat → Nat → Int32))) (h : f18_take v1 I = some t) : zRun X d 18 0 (zent 18 [.ref 15, .int v1]) [] (SH, I, J) (some (.int t.1)) (SH, t.2, J) := by
  unfold f18_take at h
  refine zr_steps 3 (6, [some (.ref 15), some (.int v1)], [.int 120, .int (I 15 6)], (SH, I, J)) rfl ?_
  refine zr_one (if (I 15 6) = 120 then zN 9 [some (.ref 15), some (.int v1)] [] (SH, I, J) else zN 12 [some (.ref 15), some (.int v1)] [] (SH, I, J)) rfl (zR_if (fun hc2 => zR_go ?_) (fun hc2 => zR_go ?_))
  · rw [if_pos hc2] at h
    refine zr_steps 1 (11, [some (.ref 15), some (.int v1)], [.int (-3)], (SH, I, J)) rfl ?_
    have he := Option.some.inj h
    subst he
    exact zr_one (some (.inr (.inr (some (.int (-3)))))) rfl (zR_ret rfl rfl)
  · rw [if_neg hc2] at h
    refine zr_steps 5 (21, [some (.ref 15), some (.int v1)], [.int v1, .int (I 15 6), .ref 16], (SH, I, J)) rfl ?_
    obtain ⟨hc1, h⟩ := zbifo h
    refine zr_one (bif zin (I 15 6) 120 then zN 22 [some (.ref 15), some (.int v1)] [] (SH, (zu I 16 (I 15 6).toNatClampNeg v1), J) else none) rfl (zR_bif hc1 (zR_go ?_))
    refine zr_steps 8 (36, [some (.ref 15), some (.int v1)], [.int ((I 15 6) + 1)], (SH, (zu (zu I 16 (I 15 6).toNatClampNeg v1) 15 6 ((I 15 6) + 1)), J)) rfl ?_
    have he := Option.some.inj h
    subst he
    exact zr_one (some (.inr (.inr (some (.int ((I 15 6) + 1)))))) rfl (zR_ret rfl rfl)
set_option maxRecDepth 100000 in
set_option maxHeartbeats 4000000 in
theorem ok_f91_feed {X : zX} {d : Nat} (hd : 1 ≤ d) (v1 : Int32) {I : (Nat → Nat → Int32)} {J : (Nat → Nat → Int64)} (t : (Int32 × (Nat → Nat → Int32))) (h : f91_feed v1 I = some t) : zRun X d 91 0 (zent 91 [.ref 0, .int v1]) [] (SH, I, J) (some (.int t.1)) (SH, t.2, J) := by
  unfold f91_feed at h
  refine zr_steps 3 (5, [some (.ref 0), some (.int v1)], [.int 255, .int 0, .int v1], (SH, I, J)) rfl ?_
  obtain ⟨t2, hc1, h⟩ := zbind h
  refine zr_one (some (.inr (.inl (126, [.int v1, .int 0, .int 255], [], 8)))) rfl (zR_call (by omega) rfl (ok_f126_within (by omega) v1 0 255 _ hc1) ?_)
  refine zr_one (if t2 = 0 then zN 11 [some (.ref 0), some (.int v1)] [] (SH, I, J) else zN 13 [some (.ref 0), some (.int v1)] [] (SH, I, J)) rfl (zR_if (fun hc5 => zR_go ?_) (fun hc5 => zR_go ?_))
  · rw [if_pos hc5] at h
    refine zr_steps 1 (12, [some (.ref 0), some (.int v1)], [.int (-1)], (SH, I, J)) rfl ?_
    have he := Option.some.inj h
    subst he
    exact zr_one (some (.inr (.inr (some (.int (-1)))))) rfl (zR_ret rfl rfl)
  · rw [if_neg hc5] at h
    refine zr_steps 3 (18, [some (.ref 0), some (.int v1)], [.int v1, .ref 15], (SH, I, J)) rfl ?_
    obtain ⟨t4, hc3, h⟩ := zbind h
    refine zr_one (some (.inr (.inl (18, [.ref 15, .int v1], [], 21)))) rfl (zR_call (by omega) rfl (ok_f18_take (by omega) v1 _ hc3) ?_)
    have he := Option.some.inj h
    subst he
    exact zr_one (some (.inr (.inr (some (.int t4.1))))) rfl (zR_ret rfl rfl)
set_option maxRecDepth 100000 in
set_option maxHeartbeats 4000000 in
theorem ok_f138_feed {X : zX} {d : Nat} (hd : 1 ≤ d) (v1 : Int32) {I : (Nat → Nat → Int32)} {J : (Nat → Nat → Int64)} (t : (Int32 × (Nat → Nat → Int32))) (h : f138_feed v1 I = some t) : zRun X d 138 0 (zent 138 [.ref 73, .int v1]) [] (SH, I, J) (some (.int t.1)) (SH, t.2, J) := by
  unfold f138_feed at h
  refine zr_steps 3 (5, [some (.ref 73), some (.int v1)], [.int 255, .int 0, .int v1], (SH, I, J)) rfl ?_
  obtain ⟨t2, hc1, h⟩ := zbind h
  refine zr_one (some (.inr (.inl (129, [.int v1, .int 0, .int 255], [], 8)))) rfl (zR_call (by omega) rfl (ok_f129_in (by omega) v1 0 255 _ hc1) ?_)
  refine zr_one (if t2 = 0 then zN 11 [some (.ref 73), some (.int v1)] [] (SH, I, J) else zN 13 [some (.ref 73), some (.int v1)] [] (SH, I, J)) rfl (zR_if (fun hc5 => zR_go ?_) (fun hc5 => zR_go ?_))
  · rw [if_pos hc5] at h
    refine zr_steps 1 (12, [some (.ref 73), some (.int v1)], [.int (-1)], (SH, I, J)) rfl ?_
    have he := Option.some.inj h
    subst he
    exact zr_one (some (.inr (.inr (some (.int (-1)))))) rfl (zR_ret rfl rfl)
  · rw [if_neg hc5] at h
    refine zr_steps 3 (19, [some (.ref 73), some (.int v1)], [.int 120, .int (I 73 19)], (SH, I, J)) rfl ?_
    refine zr_one (if (I 73 19) = 120 then zN 22 [some (.ref 73), some (.int v1)] [] (SH, I, J) else zN 25 [some (.ref 73), some (.int v1)] [] (SH, I, J)) rfl (zR_if (fun hc4 => zR_go ?_) (fun hc4 => zR_go ?_))
    · rw [if_pos hc4] at h
      refine zr_steps 1 (24, [some (.ref 73), some (.int v1)], [.int (-3)], (SH, I, J)) rfl ?_
      have he := Option.some.inj h
      subst he
      exact zr_one (some (.inr (.inr (some (.int (-3)))))) rfl (zR_ret rfl rfl)
    · rw [if_neg hc4] at h
      refine zr_steps 6 (35, [some (.ref 73), some (.int v1)], [.int v1.toInt8.toInt32, .int (I 73 19), .ref 85], (SH, I, J)) rfl ?_
      obtain ⟨hc3, h⟩ := zbifo h
      refine zr_one (bif zin (I 73 19) 120 then zN 36 [some (.ref 73), some (.int v1)] [] (SH, (zu I 85 (I 73 19).toNatClampNeg v1.toInt8.toInt32.toInt8.toInt32), J) else none) rfl (zR_bif hc3 (zR_go ?_))
      refine zr_steps 8 (50, [some (.ref 73), some (.int v1)], [.int ((I 73 19) + 1)], (SH, (zu (zu I 85 (I 73 19).toNatClampNeg v1.toInt8.toInt32.toInt8.toInt32) 73 19 ((I 73 19) + 1)), J)) rfl ?_
      have he := Option.some.inj h
      subst he
      exact zr_one (some (.inr (.inr (some (.int ((I 73 19) + 1)))))) rfl (zR_ret rfl rfl)
set_option maxRecDepth 100000 in
set_option maxHeartbeats 4000000 in
theorem ok_f28_next {X : zX} {d : Nat} (hd : 0 ≤ d) {I : (Nat → Nat → Int32)} {J : (Nat → Nat → Int64)} (t : Int32) (h : f28_next I = some t) : zRun X d 28 0 (zent 28 [.ref 15]) [] (SH, I, J) (some (.int t)) (SH, I, J) := by
  unfold f28_next at h
  refine zr_steps 2 (4, [some (.ref 15)], [.int (I 15 4)], (SH, I, J)) rfl ?_
  refine zr_one (if (I 15 4) < 0 then zN 39 [some (.ref 15)] [] (SH, I, J) else zN 7 [some (.ref 15)] [] (SH, I, J)) rfl (zR_if (fun hc4 => zR_go ?_) (fun hc4 => zR_go ?_))
  · rw [if_pos hc4] at h
    refine zr_steps 1 (40, [some (.ref 15)], [.int (-1)], (SH, I, J)) rfl ?_
    have he := Option.some.inj h
    subst he
    exact zr_one (some (.inr (.inr (some (.int (-1)))))) rfl (zR_ret rfl rfl)
  · rw [if_neg hc4] at h
    refine zr_steps 4 (15, [some (.ref 15)], [.int (I 15 6), .int (I 15 4)], (SH, I, J)) rfl ?_
    refine zr_one (if (I 15 6) ≤ (I 15 4) then zN 39 [some (.ref 15)] [] (SH, I, J) else zN 18 [some (.ref 15)] [] (SH, I, J)) rfl (zR_if (fun hc3 => zR_go ?_) (fun hc3 => zR_go ?_))
    · rw [if_pos hc3] at h
      refine zr_steps 1 (40, [some (.ref 15)], [.int (-1)], (SH, I, J)) rfl ?_
      have he := Option.some.inj h
      subst he
      exact zr_one (some (.inr (.inr (some (.int (-1)))))) rfl (zR_ret rfl rfl)
    · rw [if_neg hc3] at h
      refine zr_steps 3 (24, [some (.ref 15)], [.int 120, .int (I 15 4)], (SH, I, J)) rfl ?_
      refine zr_one (if (120 : Int32) ≤ (I 15 4) then zN 39 [some (.ref 15)] [] (SH, I, J) else zN 27 [some (.ref 15)] [] (SH, I, J)) rfl (zR_if (fun hc2 => zR_go ?_) (fun hc2 => zR_go ?_))
      · rw [if_pos hc2] at h
        refine zr_steps 1 (40, [some (.ref 15)], [.int (-1)], (SH, I, J)) rfl ?_
        have he := Option.some.inj h
        subst he
        exact zr_one (some (.inr (.inr (some (.int (-1)))))) rfl (zR_ret rfl rfl)
      · rw [if_neg hc2] at h
        refine zr_steps 4 (35, [some (.ref 15)], [.int (I 15 4), .ref 16], (SH, I, J)) rfl ?_
        obtain ⟨hc1, h⟩ := zbifo h
        refine zr_one (bif zin (I 15 4) 120 then zN 36 [some (.ref 15)] [.int (I 16 (I 15 4).toNatClampNeg)] (SH, I, J) else none) rfl (zR_bif hc1 (zR_go ?_))
        refine zr_steps 1 (40, [some (.ref 15)], [.int (I 16 (I 15 4).toNatClampNeg)], (SH, I, J)) rfl ?_
        have he := Option.some.inj h
        subst he
        exact zr_one (some (.inr (.inr (some (.int (I 16 (I 15 4).toNatClampNeg)))))) rfl (zR_ret rfl rfl)
set_option maxRecDepth 100000 in
set_option maxHeartbeats 4000000 in
theorem ok_f23_levelOf {X : zX} {d : Nat} (hd : 0 ≤ d) (v0 : Int32) {I : (Nat → Nat → Int32)} {J : (Nat → Nat → Int64)} (t : Int32) (h : f23_levelOf v0 = some t) : zRun X d 23 0 (zent 23 [.int v0]) [] (SH, I, J) (some (.int t)) (SH, I, J) := by
  unfold f23_levelOf at h
  refine zr_steps 1 (1, [some (.int v0)], [.int v0], (SH, I, J)) rfl ?_
  refine zr_one (if v0.toInt = 37 then zN 100 [some (.int v0)] [] (SH, I, J) else (if v0.toInt = 38 then zN 94 [some (.int v0)] [] (SH, I, J) else (if v0.toInt = 42 then zN 100 [some (.int v0)] [] (SH, I, J) else (if v0.toInt = 43 then zN 98 [some (.int v0)] [] (SH, I, J) else (if v0.toInt = 45 then zN 98 [some (.int v0)] [] (SH, I, J) else (if v0.toInt = 47 then zN 100 [some (.int v0)] [] (SH, I, J) else (if v0.toInt = 60 then zN 96 [some (.int v0)] [] (SH, I, J) else (if v0.toInt = 61 then zN 96 [some (.int v0)] [] (SH, I, J) else (if v0.toInt = 62 then zN 96 [some (.int v0)] [] (SH, I, J) else (if v0.toInt = 124 then zN 92 [some (.int v0)] [] (SH, I, J) else zN 102 [some (.int v0)] [] (SH, I, J))))))))))) rfl ?_
  refine zR_if (fun hc10 => zR_go ?_) (fun hc10 => ?_)
  · rw [if_pos hc10] at h
    refine zr_steps 1 (101, [some (.int v0)], [.int 4], (SH, I, J)) rfl ?_
    have he := Option.some.inj h
    subst he
    exact zr_one (some (.inr (.inr (some (.int 4))))) rfl (zR_ret rfl rfl)
  rw [if_neg hc10] at h
  refine zR_if (fun hc9 => zR_go ?_) (fun hc9 => ?_)
  · rw [if_pos hc9] at h
    refine zr_steps 1 (95, [some (.int v0)], [.int 1], (SH, I, J)) rfl ?_
    have he := Option.some.inj h
    subst he
    exact zr_one (some (.inr (.inr (some (.int 1))))) rfl (zR_ret rfl rfl)
  rw [if_neg hc9] at h
  refine zR_if (fun hc8 => zR_go ?_) (fun hc8 => ?_)
  · rw [if_pos hc8] at h
    refine zr_steps 1 (101, [some (.int v0)], [.int 4], (SH, I, J)) rfl ?_
    have he := Option.some.inj h
    subst he
    exact zr_one (some (.inr (.inr (some (.int 4))))) rfl (zR_ret rfl rfl)
  rw [if_neg hc8] at h
  refine zR_if (fun hc7 => zR_go ?_) (fun hc7 => ?_)
  · rw [if_pos hc7] at h
    refine zr_steps 1 (99, [some (.int v0)], [.int 3], (SH, I, J)) rfl ?_
    have he := Option.some.inj h
    subst he
    exact zr_one (some (.inr (.inr (some (.int 3))))) rfl (zR_ret rfl rfl)
  rw [if_neg hc7] at h
  refine zR_if (fun hc6 => zR_go ?_) (fun hc6 => ?_)
  · rw [if_pos hc6] at h
    refine zr_steps 1 (99, [some (.int v0)], [.int 3], (SH, I, J)) rfl ?_
    have he := Option.some.inj h
    subst he
    exact zr_one (some (.inr (.inr (some (.int 3))))) rfl (zR_ret rfl rfl)
  rw [if_neg hc6] at h
  refine zR_if (fun hc5 => zR_go ?_) (fun hc5 => ?_)
  · rw [if_pos hc5] at h
    refine zr_steps 1 (101, [some (.int v0)], [.int 4], (SH, I, J)) rfl ?_
    have he := Option.some.inj h
    subst he
    exact zr_one (some (.inr (.inr (some (.int 4))))) rfl (zR_ret rfl rfl)
  rw [if_neg hc5] at h
  refine zR_if (fun hc4 => zR_go ?_) (fun hc4 => ?_)
  · rw [if_pos hc4] at h
    refine zr_steps 1 (97, [some (.int v0)], [.int 2], (SH, I, J)) rfl ?_
    have he := Option.some.inj h
    subst he
    exact zr_one (some (.inr (.inr (some (.int 2))))) rfl (zR_ret rfl rfl)
  rw [if_neg hc4] at h
  refine zR_if (fun hc3 => zR_go ?_) (fun hc3 => ?_)
  · rw [if_pos hc3] at h
    refine zr_steps 1 (97, [some (.int v0)], [.int 2], (SH, I, J)) rfl ?_
    have he := Option.some.inj h
    subst he
    exact zr_one (some (.inr (.inr (some (.int 2))))) rfl (zR_ret rfl rfl)
  rw [if_neg hc3] at h
  refine zR_if (fun hc2 => zR_go ?_) (fun hc2 => ?_)
  · rw [if_pos hc2] at h
    refine zr_steps 1 (97, [some (.int v0)], [.int 2], (SH, I, J)) rfl ?_
    have he := Option.some.inj h
    subst he
    exact zr_one (some (.inr (.inr (some (.int 2))))) rfl (zR_ret rfl rfl)
  rw [if_neg hc2] at h
  refine zR_if (fun hc1 => zR_go ?_) (fun hc1 => ?_)
  · rw [if_pos hc1] at h
    refine zr_steps 1 (93, [some (.int v0)], [.int 0], (SH, I, J)) rfl ?_
    have he := Option.some.inj h
    subst he
    exact zr_one (some (.inr (.inr (some (.int 0))))) rfl (zR_ret rfl rfl)
  rw [if_neg hc1] at h
  refine zR_go ?_
  refine zr_steps 1 (103, [some (.int v0)], [.int (-1)], (SH, I, J)) rfl ?_
  have he := Option.some.inj h
  subst he
  exact zr_one (some (.inr (.inr (some (.int (-1)))))) rfl (zR_ret rfl rfl)
set_option maxRecDepth 100000 in
set_option maxHeartbeats 4000000 in
theorem ok_f29_write {X : zX} {d : Nat} (hd : 0 ≤ d) (v1 : Int32) {I : (Nat → Nat → Int32)} {J : (Nat → Nat → Int64)} (t : (Nat → Nat → Int32)) (h : f29_write v1 I = some t) : zRun X d 29 0 (zent 29 [.ref 15, .int v1]) [] (SH, I, J) none (SH, t, J) := by
  unfold f29_write at h
  refine zr_steps 4 (8, [some (.ref 15), some (.int v1)], [.int (I 15 7), .ref 22], (SH, I, J)) rfl ?_
  obtain ⟨hc1, h⟩ := zbifo h
  refine zr_one (bif zin (I 15 7) 4 then zN 9 [some (.ref 15), some (.int v1)] [.int (I 22 (I 15 7).toNatClampNeg)] (SH, I, J) else none) rfl (zR_bif hc1 (zR_go ?_))
  refine zr_steps 1 (11, [some (.ref 15), some (.int v1)], [.int 121, .int (I 22 (I 15 7).toNatClampNeg)], (SH, I, J)) rfl ?_
  refine zr_one (if (121 : Int32) ≤ (I 22 (I 15 7).toNatClampNeg) then zN 47 [some (.ref 15), some (.int v1)] [] (SH, I, J) else zN 14 [some (.ref 15), some (.int v1)] [] (SH, I, J)) rfl (zR_if (fun hc7 => zR_go ?_) (fun hc7 => zR_go ?_))
  · rw [if_pos hc7] at h
    have he := Option.some.inj h
    subst he
    exact zr_one (some (.inr (.inr none))) rfl (zR_ret rfl rfl)
  · rw [if_neg hc7] at h
    refine zr_steps 4 (22, [some (.ref 15), some (.int v1)], [.int (I 15 7), .ref 17], (SH, I, J)) rfl ?_
    obtain ⟨hc2, h⟩ := zbifo h
    refine zr_one (bif zin (I 15 7) 4 then zrefr 23 [some (.ref 15), some (.int v1)] [] (SH, I, J) (zri (SH, I, J) 17 (I 15 7).toNatClampNeg) else none) rfl (zR_bif hc2 (zR_ref (ro_at hc2) ?_))
    refine zr_steps 4 (31, [some (.ref 15), some (.int v1)], [.int (I 15 7), .ref 22, .ref (zrow0 (I 15 7))], (SH, I, J)) rfl ?_
    obtain ⟨hc3, h⟩ := zbifo h
    refine zr_one (bif zin (I 15 7) 4 then zN 32 [some (.ref 15), some (.int v1)] [.int (I 22 (I 15 7).toNatClampNeg), .ref (zrow0 (I 15 7))] (SH, I, J) else none) rfl (zR_bif hc3 (zR_go ?_))
    refine zr_steps 1 (33, [some (.ref 15), some (.int v1)], [.int v1, .int (I 22 (I 15 7).toNatClampNeg), .ref (zrow0 (I 15 7))], (SH, I, J)) rfl ?_
    obtain ⟨hc4, h⟩ := zbifo h
    refine zr_one (ziast 0 33 (fun x => x) [some (.ref 15), some (.int v1)] [.int v1, .int (I 22 (I 15 7).toNatClampNeg), .ref (zrow0 (I 15 7))] (SH, I, J)) rfl (rR_ast (ro_is hc2) hc4 ?_)
    refine zr_steps 5 (43, [some (.ref 15), some (.int v1)], [.int ((zu I (zrow0 (I 15 7)) (I 22 (I 15 7).toNatClampNeg).toNatClampNeg v1) 15 7), .ref 22, .int ((zu I (zrow0 (I 15 7)) (I 22 (I 15 7).toNatClampNeg).toNatClampNeg v1) 15 7), .ref 22], (SH, (zu I (zrow0 (I 15 7)) (I 22 (I 15 7).toNatClampNeg).toNatClampNeg v1), J)) rfl ?_
    obtain ⟨hc5, h⟩ := zbifo h
    refine zr_one (bif zin ((zu I (zrow0 (I 15 7)) (I 22 (I 15 7).toNatClampNeg).toNatClampNeg v1) 15 7) 4 then zN 44 [some (.ref 15), some (.int v1)] [.int ((zu I (zrow0 (I 15 7)) (I 22 (I 15 7).toNatClampNeg).toNatClampNeg v1) 22 ((zu I (zrow0 (I 15 7)) (I 22 (I 15 7).toNatClampNeg).toNatClampNeg v1) 15 7).toNatClampNeg), .int ((zu I (zrow0 (I 15 7)) (I 22 (I 15 7).toNatClampNeg).toNatClampNeg v1) 15 7), .ref 22] (SH, (zu I (zrow0 (I 15 7)) (I 22 (I 15 7).toNatClampNeg).toNatClampNeg v1), J) else none) rfl (zR_bif hc5 (zR_go ?_))
    refine zr_steps 2 (46, [some (.ref 15), some (.int v1)], [.int (((zu I (zrow0 (I 15 7)) (I 22 (I 15 7).toNatClampNeg).toNatClampNeg v1) 22 ((zu I (zrow0 (I 15 7)) (I 22 (I 15 7).toNatClampNeg).toNatClampNeg v1) 15 7).toNatClampNeg) + 1), .int ((zu I (zrow0 (I 15 7)) (I 22 (I 15 7).toNatClampNeg).toNatClampNeg v1) 15 7), .ref 22], (SH, (zu I (zrow0 (I 15 7)) (I 22 (I 15 7).toNatClampNeg).toNatClampNeg v1), J)) rfl ?_
    obtain ⟨hc6, h⟩ := zbifo h
    refine zr_one (bif zin ((zu I (zrow0 (I 15 7)) (I 22 (I 15 7).toNatClampNeg).toNatClampNeg v1) 15 7) 4 then zN 47 [some (.ref 15), some (.int v1)] [] (SH, (zu (zu I (zrow0 (I 15 7)) (I 22 (I 15 7).toNatClampNeg).toNatClampNeg v1) 22 ((zu I (zrow0 (I 15 7)) (I 22 (I 15 7).toNatClampNeg).toNatClampNeg v1) 15 7).toNatClampNeg (((zu I (zrow0 (I 15 7)) (I 22 (I 15 7).toNatClampNeg).toNatClampNeg v1) 22 ((zu I (zrow0 (I 15 7)) (I 22 (I 15 7).toNatClampNeg).toNatClampNeg v1) 15 7).toNatClampNeg) + 1)), J) else none) rfl (zR_bif hc6 (zR_go ?_))
    have he := Option.some.inj h
    subst he
    exact zr_one (some (.inr (.inr none))) rfl (zR_ret rfl rfl)
set_option maxRecDepth 100000 in
set_option maxHeartbeats 4000000 in
theorem ok_f27_isDigit {X : zX} {d : Nat} (hd : 0 ≤ d) (v0 : Int32) {I : (Nat → Nat → Int32)} {J : (Nat → Nat → Int64)} (t : Int32) (h : f27_isDigit v0 = some t) : zRun X d 27 0 (zent 27 [.int v0]) [] (SH, I, J) (some (.int t)) (SH, I, J) := by
  unfold f27_isDigit at h
  refine zr_steps 2 (3, [some (.int v0)], [.int 48, .int v0], (SH, I, J)) rfl ?_
  refine zr_one (if v0 < 48 then zN 16 [some (.int v0)] [] (SH, I, J) else zN 6 [some (.int v0)] [] (SH, I, J)) rfl (zR_if (fun hc2 => zR_go ?_) (fun hc2 => zR_go ?_))
  · rw [if_pos hc2] at h
    refine zr_steps 1 (17, [some (.int v0)], [.int 0], (SH, I, J)) rfl ?_
    have he := Option.some.inj h
    subst he
    exact zr_one (if ((0 : Int32) = 0 ∨ (0 : Int32) = 1) then some (.inr (.inr (some (.int 0)))) else none) rfl (zR_pos (by decide) (zR_ret rfl rfl))
  · rw [if_neg hc2] at h
    refine zr_steps 2 (9, [some (.int v0)], [.int 57, .int v0], (SH, I, J)) rfl ?_
    refine zr_one (if (57 : Int32) < v0 then zN 16 [some (.int v0)] [] (SH, I, J) else zN 12 [some (.int v0)] [] (SH, I, J)) rfl (zR_if (fun hc1 => zR_go ?_) (fun hc1 => zR_go ?_))
    · rw [if_pos hc1] at h
      refine zr_steps 1 (17, [some (.int v0)], [.int 0], (SH, I, J)) rfl ?_
      have he := Option.some.inj h
      subst he
      exact zr_one (if ((0 : Int32) = 0 ∨ (0 : Int32) = 1) then some (.inr (.inr (some (.int 0)))) else none) rfl (zR_pos (by decide) (zR_ret rfl rfl))
    · rw [if_neg hc1] at h
      refine zr_steps 2 (17, [some (.int v0)], [.int 1], (SH, I, J)) rfl ?_
      have he := Option.some.inj h
      subst he
      exact zr_one (if ((1 : Int32) = 0 ∨ (1 : Int32) = 1) then some (.inr (.inr (some (.int 1)))) else none) rfl (zR_pos (by decide) (zR_ret rfl rfl))
set_option maxRecDepth 100000 in
set_option maxHeartbeats 4000000 in
theorem ok_f222_isLatin1 {X : zX} {d : Nat} (hd : 0 ≤ d) {I : (Nat → Nat → Int32)} {J : (Nat → Nat → Int64)} (t : Int32) (h : f222_isLatin1  = some t) : zRun X d 222 0 (zent 222 [.ref 1001]) [] (SH, I, J) (some (.int t)) (SH, I, J) := by
  unfold f222_isLatin1 at h
  refine zr_steps 1 (3, [some (.ref 1001)], [.int 1], (SH, I, J)) rfl ?_
  refine zr_one (if (1 : Int32) = 0 then zN 17 [some (.ref 1001)] [] (SH, I, J) else zN 6 [some (.ref 1001)] [] (SH, I, J)) rfl (zR_div (by decide) (zR_go ?_))
  refine zr_steps 2 (10, [some (.ref 1001)], [.int 0], (SH, I, J)) rfl ?_
  refine zr_one (if (0 : Int32) = 0 then zN 13 [some (.ref 1001)] [] (SH, I, J) else zN 17 [some (.ref 1001)] [] (SH, I, J)) rfl (zR_pos (by decide) (zR_go ?_))
  refine zr_steps 2 (18, [some (.ref 1001)], [.int 1], (SH, I, J)) rfl ?_
  have he := Option.some.inj h
  subst he
  exact zr_one (if ((1 : Int32) = 0 ∨ (1 : Int32) = 1) then some (.inr (.inr (some (.int 1)))) else none) rfl (zR_pos (by decide) (zR_ret rfl rfl))
set_option maxRecDepth 100000 in
set_option maxHeartbeats 4000000 in
theorem ok_f221_coder {X : zX} {d : Nat} (hd : 0 ≤ d) {I : (Nat → Nat → Int32)} {J : (Nat → Nat → Int64)} (t : Int32) (h : f221_coder  = some t) : zRun X d 221 0 (zent 221 [.ref 1001]) [] (SH, I, J) (some (.int t)) (SH, I, J) := by
  unfold f221_coder at h
  refine zr_steps 1 (3, [some (.ref 1001)], [.int 1], (SH, I, J)) rfl ?_
  refine zr_one (if (1 : Int32) = 0 then zN 13 [some (.ref 1001)] [] (SH, I, J) else zN 6 [some (.ref 1001)] [] (SH, I, J)) rfl (zR_div (by decide) (zR_go ?_))
  refine zr_steps 3 (14, [some (.ref 1001)], [.int 0], (SH, I, J)) rfl ?_
  have he := Option.some.inj h
  subst he
  exact zr_one (if ((0 : Int32) = 0) then some (.inr (.inr (some (.int 0)))) else none) rfl (zR_pos (by decide) (zR_ret rfl rfl))
set_option maxRecDepth 100000 in
set_option maxHeartbeats 4000000 in
theorem ok_f218_length {X : zX} {d : Nat} (hd : 1 ≤ d) {I : (Nat → Nat → Int32)} {J : (Nat → Nat → Int64)} (t : Int32) (h : f218_length  = some t) : zRun X d 218 0 (zent 218 [.ref 1001]) [] (SH, I, J) (some (.int t)) (SH, I, J) := by
  unfold f218_length at h
  refine zr_steps 4 (6, [some (.ref 1001)], [.ref 1001, .int 8], (SH, I, J)) rfl ?_
  obtain ⟨t2, hc1, h⟩ := zbind h
  refine zr_one (some (.inr (.inl (221, [.ref 1001], [.int 8], 9)))) rfl (zR_call (by omega) rfl (ok_f221_coder (by omega)  _ hc1) ?_)
  refine zr_steps 1 (10, [some (.ref 1001)], [.int ((8 : Int32) >>> (t2 &&& 31))], (SH, I, J)) rfl ?_
  have he := Option.some.inj h
  subst he
  exact zr_one (some (.inr (.inr (some (.int ((8 : Int32) >>> (t2 &&& 31))))))) rfl (zR_ret rfl rfl)
set_option maxRecDepth 100000 in
set_option maxHeartbeats 4000000 in
theorem ok_f223_canEncode {X : zX} {d : Nat} (hd : 0 ≤ d) (v0 : Int32) {I : (Nat → Nat → Int32)} {J : (Nat → Nat → Int64)} (t : Int32) (h : f223_canEncode v0 = some t) : zRun X d 223 0 (zent 223 [.int v0]) [] (SH, I, J) (some (.int t)) (SH, I, J) := by
  unfold f223_canEncode at h
  refine zr_steps 1 (1, [some (.int v0)], [.int v0], (SH, I, J)) rfl ?_
  refine zr_one (if v0 < 0 then zN 15 [some (.int v0)] [] (SH, I, J) else zN 4 [some (.int v0)] [] (SH, I, J)) rfl (zR_if (fun hc2 => zR_go ?_) (fun hc2 => zR_go ?_))
  · rw [if_pos hc2] at h
    refine zr_steps 1 (16, [some (.int v0)], [.int 0], (SH, I, J)) rfl ?_
    have he := Option.some.inj h
    subst he
    exact zr_one (if ((0 : Int32) = 0 ∨ (0 : Int32) = 1) then some (.inr (.inr (some (.int 0)))) else none) rfl (zR_pos (by decide) (zR_ret rfl rfl))
  · rw [if_neg hc2] at h
    refine zr_steps 2 (8, [some (.int v0)], [.int 255, .int v0], (SH, I, J)) rfl ?_
    refine zr_one (if (255 : Int32) < v0 then zN 15 [some (.int v0)] [] (SH, I, J) else zN 11 [some (.int v0)] [] (SH, I, J)) rfl (zR_if (fun hc1 => zR_go ?_) (fun hc1 => zR_go ?_))
    · rw [if_pos hc1] at h
      refine zr_steps 1 (16, [some (.int v0)], [.int 0], (SH, I, J)) rfl ?_
      have he := Option.some.inj h
      subst he
      exact zr_one (if ((0 : Int32) = 0 ∨ (0 : Int32) = 1) then some (.inr (.inr (some (.int 0)))) else none) rfl (zR_pos (by decide) (zR_ret rfl rfl))
    · rw [if_neg hc1] at h
      refine zr_steps 2 (16, [some (.int v0)], [.int 1], (SH, I, J)) rfl ?_
      have he := Option.some.inj h
      subst he
      exact zr_one (if ((1 : Int32) = 0 ∨ (1 : Int32) = 1) then some (.inr (.inr (some (.int 1)))) else none) rfl (zR_pos (by decide) (zR_ret rfl rfl))
set_option maxRecDepth 100000 in
set_option maxHeartbeats 4000000 in
theorem ok_f225_indexOfChar_L7 {X : zX} {d : Nat} {r : Option Value} {M' : zM} (hd : 0 ≤ d) (v3 : Int32) (v4 : Int32) {I : (Nat → Nat → Int32)} {J : (Nat → Nat → Int64)} : ∀ (n : Nat) (s : Int32) (t : Int32 ⊕ Int32), zloopR (f225_indexOfChar_L7 v3 v4 I) n s = some t → zSumE (fun (x : Int32) => r = (some (.int x)) ∧ M' = (SH, I, J)) (fun (x : Int32) => zRun X d 225 31 [none, none, none, none, none, none] [] (SH, I, J) r M') t → (fun (s : Int32) => zRun X d 225 7 [some (.ref 1003), none, none, some (.int v3), some (.int v4), some (.int s)] [] (SH, I, J) r M') s := zloopR_ok (B := (f225_indexOfChar_L7 v3 v4 I)) (Wh := fun (s : Int32) => zRun X d 225 7 [some (.ref 1003), none, none, some (.int v3), some (.int v4), some (.int s)] [] (SH, I, J) r M') (Wx := fun (x : Int32) => zRun X d 225 31 [none, none, none, none, none, none] [] (SH, I, J) r M') (Wr := fun (x : Int32) => r = (some (.int x)) ∧ M' = (SH, I, J)) (fun s y h w => by
  unfold f225_indexOfChar_L7 at h
  refine zr_steps 2 (10, [some (.ref 1003), none, none, some (.int v3), some (.int v4), some (.int s)], [.int v3, .int s], (SH, I, J)) rfl ?_
  refine zr_one (if v3 ≤ s then zN 31 [some (.ref 1003), none, none, some (.int v3), some (.int v4), some (.int s)] [] (SH, I, J) else zN 13 [some (.ref 1003), none, none, some (.int v3), some (.int v4), some (.int s)] [] (SH, I, J)) rfl (zR_if (fun hc3 => zR_go ?_) (fun hc3 => zR_go ?_))
  · rw [if_pos hc3] at h
    have he := Option.some.inj h
    subst he
    exact zr_hdr (ls2 := [none, none, none, none, none, none]) rfl rfl (show zRun X d 225 31 [none, none, none, none, none, none] [] (SH, I, J) r M' from w)
  · rw [if_neg hc3] at h
    refine zr_steps 2 (16, [some (.ref 1003), none, none, some (.int v3), some (.int v4), some (.int s)], [.int s, .ref 1003], (SH, I, J)) rfl ?_
    obtain ⟨hc1, h⟩ := zbifo h
    refine zr_one (bif zin s 8 then zN 17 [some (.ref 1003), none, none, some (.int v3), some (.int v4), some (.int s)] [.int (znames.getD s.toNatClampNeg 0)] (SH, I, J) else none) rfl (zR_bif hc1 (zR_go ?_))
    refine zr_steps 1 (19, [some (.ref 1003), none, none, some (.int v3), some (.int v4), some (.int s)], [.int v4, .int (znames.getD s.toNatClampNeg 0)], (SH, I, J)) rfl ?_
    refine zr_one (if (znames.getD s.toNatClampNeg 0) = v4 then zN 22 [some (.ref 1003), none, none, some (.int v3), some (.int v4), some (.int s)] [] (SH, I, J) else zN 25 [some (.ref 1003), none, none, some (.int v3), some (.int v4), some (.int s)] [] (SH, I, J)) rfl (zR_if (fun hc2 => zR_go ?_) (fun hc2 => zR_go ?_))
    · rw [if_pos hc2] at h
      refine zr_steps 1 (24, [some (.ref 1003), none, none, some (.int v3), some (.int v4), some (.int s)], [.int s], (SH, I, J)) rfl ?_
      have he := Option.some.inj h
      subst he
      obtain ⟨e1, e2⟩ := (show r = (some (.int s)) ∧ M' = (SH, I, J) from w)
      exact zr_one (some (.inr (.inr (some (.int s))))) rfl (zR_ret e1.symm e2.symm)
    · rw [if_neg hc2] at h
      refine zr_steps 2 (7, [some (.ref 1003), none, none, some (.int v3), some (.int v4), some (.int (s + 1))], [], (SH, I, J)) rfl ?_
      have he := Option.some.inj h
      subst he
      exact zr_hdr (ls2 := [some (.ref 1003), none, none, some (.int v3), some (.int v4), some (.int (s + 1))]) rfl rfl (show zRun X d 225 7 [some (.ref 1003), none, none, some (.int v3), some (.int v4), some (.int (s + 1))] [] (SH, I, J) r M' from w))
set_option maxRecDepth 100000 in
set_option maxHeartbeats 4000000 in
theorem ok_f225_indexOfChar {X : zX} {d : Nat} (hd : 0 ≤ d) (v1 : Int32) (v2 : Int32) (v3 : Int32) {I : (Nat → Nat → Int32)} {J : (Nat → Nat → Int64)} (t : Int32) (h : f225_indexOfChar v1 v2 v3 I = some t) : zRun X d 225 0 (zent 225 [.ref 1003, .int v1, .int v2, .int v3]) [] (SH, I, J) (some (.int t)) (SH, I, J) := by
  unfold f225_indexOfChar at h
  refine zr_steps 5 (7, [some (.ref 1003), some (.int v1), some (.int v2), some (.int v3), some (.int v1.toInt8.toInt32), some (.int v2)], [], (SH, I, J)) rfl ?_
  obtain ⟨y6, ho5, hy⟩ := zbRe h
  refine zr_hdr (ls2 := [some (.ref 1003), none, none, some (.int v3), some (.int v1.toInt8.toInt32), some (.int v2)]) rfl rfl ?_
  refine ok_f225_indexOfChar_L7 (by omega) v3 v1.toInt8.toInt32 5000 v2 y6 ho5 ?_
  rcases hy with ⟨rr, rfl, h⟩ | ⟨s4, rfl, h⟩
  · have he := Option.some.inj h
    subst he
    exact ⟨rfl, rfl⟩
  · show zRun X d 225 31 [none, none, none, none, none, none] [] (SH, I, J) _ _
    refine zr_steps 1 (32, [none, none, none, none, none, none], [.int (-1)], (SH, I, J)) rfl ?_
    have he := Option.some.inj h
    subst he
    exact zr_one (some (.inr (.inr (some (.int (-1)))))) rfl (zR_ret rfl rfl)
set_option maxRecDepth 100000 in
set_option maxHeartbeats 4000000 in
theorem ok_f224_indexOf {X : zX} {d : Nat} (hd : 1 ≤ d) (v1 : Int32) (v2 : Int32) (v3 : Int32) {I : (Nat → Nat → Int32)} {J : (Nat → Nat → Int64)} (t : Int32) (h : f224_indexOf v1 v2 v3 I = some t) : zRun X d 224 0 (zent 224 [.ref 1003, .int v1, .int v2, .int v3]) [] (SH, I, J) (some (.int t)) (SH, I, J) := by
  unfold f224_indexOf at h
  refine zr_steps 1 (1, [some (.ref 1003), some (.int v1), some (.int v2), some (.int v3)], [.int v1], (SH, I, J)) rfl ?_
  obtain ⟨t2, hc1, h⟩ := zbind h
  refine zr_one (some (.inr (.inl (223, [.int v1], [], 4)))) rfl (zR_call (by omega) rfl (ok_f223_canEncode (by omega) v1 _ hc1) ?_)
  refine zr_one (if t2 = 0 then zN 7 [some (.ref 1003), some (.int v1), some (.int v2), some (.int v3)] [] (SH, I, J) else zN 9 [some (.ref 1003), some (.int v1), some (.int v2), some (.int v3)] [] (SH, I, J)) rfl (zR_if (fun hc6 => zR_go ?_) (fun hc6 => zR_go ?_))
  · rw [if_pos hc6] at h
    refine zr_steps 1 (8, [some (.ref 1003), some (.int v1), some (.int v2), some (.int v3)], [.int (-1)], (SH, I, J)) rfl ?_
    have he := Option.some.inj h
    subst he
    exact zr_one (some (.inr (.inr (some (.int (-1)))))) rfl (zR_ret rfl rfl)
  · rw [if_neg hc6] at h
    refine zr_steps 11 (24, [some (.ref 1003), some (.int v1), some (.int (zmax v2 0)), some (.int (zmin v3 8))], [.int (zmin v3 8), .int (zmax v2 0)], (SH, I, J)) rfl ?_
    refine zr_one (if (zmax v2 0) < (zmin v3 8) then zN 29 [some (.ref 1003), some (.int v1), some (.int (zmax v2 0)), some (.int (zmin v3 8))] [] (SH, I, J) else zN 27 [some (.ref 1003), some (.int v1), some (.int (zmax v2 0)), some (.int (zmin v3 8))] [] (SH, I, J)) rfl (zR_if (fun hc5 => zR_go ?_) (fun hc5 => zR_go ?_))
    · rw [if_pos hc5] at h
      refine zr_steps 4 (33, [some (.ref 1003), some (.int v1), some (.int (zmax v2 0)), some (.int (zmin v3 8))], [.int (zmin v3 8), .int (zmax v2 0), .int v1, .ref 1003], (SH, I, J)) rfl ?_
      obtain ⟨t4, hc3, h⟩ := zbind h
      refine zr_one (some (.inr (.inl (225, [.ref 1003, .int v1, .int (zmax v2 0), .int (zmin v3 8)], [], 36)))) rfl (zR_call (by omega) rfl (ok_f225_indexOfChar (by omega) v1 (zmax v2 0) (zmin v3 8) _ hc3) ?_)
      have he := Option.some.inj h
      subst he
      exact zr_one (some (.inr (.inr (some (.int t4))))) rfl (zR_ret rfl rfl)
    · rw [if_neg hc5] at h
      refine zr_steps 1 (28, [some (.ref 1003), some (.int v1), some (.int (zmax v2 0)), some (.int (zmin v3 8))], [.int (-1)], (SH, I, J)) rfl ?_
      have he := Option.some.inj h
      subst he
      exact zr_one (some (.inr (.inr (some (.int (-1)))))) rfl (zR_ret rfl rfl)
set_option maxRecDepth 100000 in
set_option maxHeartbeats 4000000 in
theorem ok_f220_indexOf {X : zX} {d : Nat} (hd : 2 ≤ d) (v1 : Int32) (v2 : Int32) {I : (Nat → Nat → Int32)} {J : (Nat → Nat → Int64)} (t : Int32) (h : f220_indexOf v1 v2 I = some t) : zRun X d 220 0 (zent 220 [.ref 1001, .int v1, .int v2]) [] (SH, I, J) (some (.int t)) (SH, I, J) := by
  unfold f220_indexOf at h
  refine zr_steps 1 (1, [some (.ref 1001), some (.int v1), some (.int v2)], [.ref 1001], (SH, I, J)) rfl ?_
  obtain ⟨t2, hc1, h⟩ := zbind h
  refine zr_one (some (.inr (.inl (222, [.ref 1001], [], 4)))) rfl (zR_call (by omega) rfl (ok_f222_isLatin1 (by omega)  _ hc1) ?_)
  refine zr_one (if t2 = 0 then zN 23 [some (.ref 1001), some (.int v1), some (.int v2)] [] (SH, I, J) else zN 7 [some (.ref 1001), some (.int v1), some (.int v2)] [] (SH, I, J)) rfl (zR_if (fun hc9 => zR_go ?_) (fun hc9 => zR_go ?_))
  · rw [if_pos hc9] at h
    refine zr_steps 5 (30, [some (.ref 1001), some (.int v1), some (.int v2)], [.ref 1001, .int v2, .int v1, .ref 1003], (SH, I, J)) rfl ?_
    obtain ⟨t4, hc3, h⟩ := zbind h
    refine zr_one (some (.inr (.inl (218, [.ref 1001], [.int v2, .int v1, .ref 1003], 33)))) rfl (zR_call (by omega) rfl (ok_f218_length (by omega)  _ hc3) ?_)
    cases h
  · rw [if_neg hc9] at h
    refine zr_steps 5 (14, [some (.ref 1001), some (.int v1), some (.int v2)], [.ref 1001, .int v2, .int v1, .ref 1003], (SH, I, J)) rfl ?_
    obtain ⟨t6, hc5, h⟩ := zbind h
    refine zr_one (some (.inr (.inl (218, [.ref 1001], [.int v2, .int v1, .ref 1003], 17)))) rfl (zR_call (by omega) rfl (ok_f218_length (by omega)  _ hc5) ?_)
    obtain ⟨t8, hc7, h⟩ := zbind h
    refine zr_one (some (.inr (.inl (224, [.ref 1003, .int v1, .int v2, .int t6], [], 20)))) rfl (zR_call (by omega) rfl (ok_f224_indexOf (by omega) v1 v2 t6 _ hc7) ?_)
    refine zr_steps 1 (36, [some (.ref 1001), some (.int v1), some (.int v2)], [.int t8], (SH, I, J)) rfl ?_
    have he := Option.some.inj h
    subst he
    exact zr_one (some (.inr (.inr (some (.int t8))))) rfl (zR_ret rfl rfl)
set_option maxRecDepth 100000 in
set_option maxHeartbeats 4000000 in
theorem ok_f219_indexOf {X : zX} {d : Nat} (hd : 3 ≤ d) (v1 : Int32) {I : (Nat → Nat → Int32)} {J : (Nat → Nat → Int64)} (t : Int32) (h : f219_indexOf v1 I = some t) : zRun X d 219 0 (zent 219 [.ref 1001, .int v1]) [] (SH, I, J) (some (.int t)) (SH, I, J) := by
  unfold f219_indexOf at h
  refine zr_steps 3 (3, [some (.ref 1001), some (.int v1)], [.int 0, .int v1, .ref 1001], (SH, I, J)) rfl ?_
  obtain ⟨t2, hc1, h⟩ := zbind h
  refine zr_one (some (.inr (.inl (220, [.ref 1001, .int v1, .int 0], [], 6)))) rfl (zR_call (by omega) rfl (ok_f220_indexOf (by omega) v1 0 _ hc1) ?_)
  have he := Option.some.inj h
  subst he
  exact zr_one (some (.inr (.inr (some (.int t2))))) rfl (zR_ret rfl rfl)
set_option maxRecDepth 100000 in
set_option maxHeartbeats 4000000 in
theorem ok_f26_readNumber_L4 {X : zX} {d : Nat} {r : Option Value} {M' : zM} (hd : 1 ≤ d) {J : (Nat → Nat → Int64)} : ∀ (n : Nat) (s x : (Int32 × Int32 × (Nat → Nat → Int32))), zloop f26_readNumber_L4 n s = some x → (fun (x : (Int32 × Int32 × (Nat → Nat → Int32))) => zRun X d 26 48 [some (.ref 15), some (.int x.1), none] [] (SH, x.2.2, J) r M') x → (fun (s : (Int32 × Int32 × (Nat → Nat → Int32))) => zRun X d 26 4 [some (.ref 15), some (.int s.1), some (.int s.2.1)] [] (SH, s.2.2, J) r M') s := zloop_ok (B := f26_readNumber_L4) (Wh := fun (s : (Int32 × Int32 × (Nat → Nat → Int32))) => zRun X d 26 4 [some (.ref 15), some (.int s.1), some (.int s.2.1)] [] (SH, s.2.2, J) r M') (Wx := fun (x : (Int32 × Int32 × (Nat → Nat → Int32))) => zRun X d 26 48 [some (.ref 15), some (.int x.1), none] [] (SH, x.2.2, J) r M') (fun s y h w => by
  unfold f26_readNumber_L4 at h
  refine zr_steps 2 (6, [some (.ref 15), some (.int s.1), some (.int s.2.1)], [.int 4, .int s.2.1], (SH, s.2.2, J)) rfl ?_
  refine zr_one (if (4 : Int32) ≤ s.2.1 then zN 48 [some (.ref 15), some (.int s.1), some (.int s.2.1)] [] (SH, s.2.2, J) else zN 9 [some (.ref 15), some (.int s.1), some (.int s.2.1)] [] (SH, s.2.2, J)) rfl (zR_if (fun hc8 => zR_go ?_) (fun hc8 => zR_go ?_))
  · rw [if_pos hc8] at h
    have he := Option.some.inj h
    subst he
    exact zr_hdr (ls2 := [some (.ref 15), some (.int s.1), none]) rfl rfl (show zRun X d 26 48 [some (.ref 15), some (.int s.1), none] [] (SH, s.2.2, J) r M' from w)
  · rw [if_neg hc8] at h
    refine zr_steps 1 (10, [some (.ref 15), some (.int s.1), some (.int s.2.1)], [.ref 15], (SH, s.2.2, J)) rfl ?_
    obtain ⟨t2, hc1, h⟩ := zbind h
    refine zr_one (some (.inr (.inl (28, [.ref 15], [], 13)))) rfl (zR_call (by omega) rfl (ok_f28_next (by omega)  _ hc1) ?_)
    obtain ⟨t4, hc3, h⟩ := zbind h
    refine zr_one (some (.inr (.inl (27, [.int t2], [], 16)))) rfl (zR_call (by omega) rfl (ok_f27_isDigit (by omega) t2 _ hc3) ?_)
    refine zr_one (if t4 = 0 then zN 48 [some (.ref 15), some (.int s.1), some (.int s.2.1)] [] (SH, s.2.2, J) else zN 19 [some (.ref 15), some (.int s.1), some (.int s.2.1)] [] (SH, s.2.2, J)) rfl (zR_if (fun hc7 => zR_go ?_) (fun hc7 => zR_go ?_))
    · rw [if_pos hc7] at h
      have he := Option.some.inj h
      subst he
      exact zr_hdr (ls2 := [some (.ref 15), some (.int s.1), none]) rfl rfl (show zRun X d 26 48 [some (.ref 15), some (.int s.1), none] [] (SH, s.2.2, J) r M' from w)
    · rw [if_neg hc7] at h
      refine zr_steps 4 (24, [some (.ref 15), some (.int s.1), some (.int s.2.1)], [.ref 15, .int (s.1 * 10)], (SH, s.2.2, J)) rfl ?_
      obtain ⟨t6, hc5, h⟩ := zbind h
      refine zr_one (some (.inr (.inl (28, [.ref 15], [.int (s.1 * 10)], 27)))) rfl (zR_call (by omega) rfl (ok_f28_next (by omega)  _ hc5) ?_)
      refine zr_steps 12 (4, [some (.ref 15), some (.int (((s.1 * 10) + t6) - 48)), some (.int (s.2.1 + 1))], [], (SH, (zu s.2.2 15 4 ((s.2.2 15 4) + 1)), J)) rfl ?_
      have he := Option.some.inj h
      subst he
      exact zr_hdr (ls2 := [some (.ref 15), some (.int (((s.1 * 10) + t6) - 48)), some (.int (s.2.1 + 1))]) rfl rfl (show zRun X d 26 4 [some (.ref 15), some (.int (((s.1 * 10) + t6) - 48)), some (.int (s.2.1 + 1))] [] (SH, (zu s.2.2 15 4 ((s.2.2 15 4) + 1)), J) r M' from w))
set_option maxRecDepth 100000 in
set_option maxHeartbeats 4000000 in
theorem ok_f26_readNumber {X : zX} {d : Nat} (hd : 1 ≤ d) {I : (Nat → Nat → Int32)} {J : (Nat → Nat → Int64)} (t : (Nat → Nat → Int32)) (h : f26_readNumber I = some t) : zRun X d 26 0 (zent 26 [.ref 15]) [] (SH, I, J) none (SH, t, J) := by
  unfold f26_readNumber at h
  refine zr_steps 4 (4, [some (.ref 15), some (.int 0), some (.int 0)], [], (SH, I, J)) rfl ?_
  obtain ⟨s9, ho10, h⟩ := zbind h
  refine zr_hdr (ls2 := [some (.ref 15), some (.int 0), some (.int 0)]) rfl rfl ?_
  refine ok_f26_readNumber_L4 (by omega) 5000 ((0 : Int32), (0 : Int32), I) s9 ho10 ?_
  show zRun X d 26 48 [some (.ref 15), some (.int s9.1), none] [] (SH, s9.2.2, J) _ _
  refine zr_steps 2 (50, [some (.ref 15), some (.int s9.1), none], [.int s9.1, .ref 15], (SH, s9.2.2, J)) rfl ?_
  obtain ⟨t12, hc11, h⟩ := zbind h
  refine zr_one (some (.inr (.inl (29, [.ref 15, .int s9.1], [], 53)))) rfl (zR_call (by omega) rfl (ok_f29_write (by omega) s9.1 _ hc11) ?_)
  have he := Option.some.inj h
  subst he
  exact zr_one (some (.inr (.inr none))) rfl (zR_ret rfl rfl)
