set_option maxRecDepth 100000 in
set_option maxHeartbeats 4000000 in
theorem ok_f191_judge_L89 {X : zX} {d : Nat} {r : Option Value} {M' : zM} (hd : 3 ≤ d) (v1 : Int32) (v2 : Int32) (v3 : Int32) (v4 : Int32) {J : (Nat → Nat → Int64)} : ∀ (n : Nat) (s x : (Int32 × Int32 × (Nat → Nat → Int32))), zloop (f191_judge_L89 v1 v2 v3 v4 J) n s = some x → (fun (x : (Int32 × Int32 × (Nat → Nat → Int32))) => zRun X d 191 144 [some (.ref 73), some (.int v1), some (.int v2), some (.int v3), some (.int v4), some (.int x.1), none] [] (SH, x.2.2, J) r M') x → (fun (s : (Int32 × Int32 × (Nat → Nat → Int32))) => zRun X d 191 89 [some (.ref 73), some (.int v1), some (.int v2), some (.int v3), some (.int v4), some (.int s.1), some (.int s.2.1)] [] (SH, s.2.2, J) r M') s := zloop_ok (B := (f191_judge_L89 v1 v2 v3 v4 J)) (Wh := fun (s : (Int32 × Int32 × (Nat → Nat → Int32))) => zRun X d 191 89 [some (.ref 73), some (.int v1), some (.int v2), some (.int v3), some (.int v4), some (.int s.1), some (.int s.2.1)] [] (SH, s.2.2, J) r M') (Wx := fun (x : (Int32 × Int32 × (Nat → Nat → Int32))) => zRun X d 191 144 [some (.ref 73), some (.int v1), some (.int v2), some (.int v3), some (.int v4), some (.int x.1), none] [] (SH, x.2.2, J) r M') (fun s y h w => by
  unfold f191_judge_L89 at h
  refine zr_steps 3 (95, [some (.ref 73), some (.int v1), some (.int v2), some (.int v3), some (.int v4), some (.int s.1), some (.int s.2.1)], [.int (s.2.2 73 9), .int s.2.1], (SH, s.2.2, J)) rfl ?_
  refine zr_one (if (s.2.2 73 9) ≤ s.2.1 then zN 144 [some (.ref 73), some (.int v1), some (.int v2), some (.int v3), some (.int v4), some (.int s.1), some (.int s.2.1)] [] (SH, s.2.2, J) else zN 98 [some (.ref 73), some (.int v1), some (.int v2), some (.int v3), some (.int v4), some (.int s.1), some (.int s.2.1)] [] (SH, s.2.2, J)) rfl (zR_if (fun hc15 => zR_go ?_) (fun hc15 => zR_go ?_))
  · rw [if_pos hc15] at h
    have he := Option.some.inj h
    subst he
    exact zr_hdr (ls2 := [some (.ref 73), some (.int v1), some (.int v2), some (.int v3), some (.int v4), some (.int s.1), none]) rfl rfl (show zRun X d 191 144 [some (.ref 73), some (.int v1), some (.int v2), some (.int v3), some (.int v4), some (.int s.1), none] [] (SH, s.2.2, J) r M' from w)
  · rw [if_neg hc15] at h
    refine zr_steps 3 (104, [some (.ref 73), some (.int v1), some (.int v2), some (.int v3), some (.int v4), some (.int s.1), some (.int s.2.1)], [.int s.2.1, .ref 82], (SH, s.2.2, J)) rfl ?_
    obtain ⟨hc7, h⟩ := zbifo h
    refine zr_one (bif zin s.2.1 8 then zN 105 [some (.ref 73), some (.int v1), some (.int v2), some (.int v3), some (.int v4), some (.int s.1), some (.int s.2.1)] [.int (s.2.2 82 s.2.1.toNatClampNeg)] (SH, s.2.2, J) else none) rfl (zR_bif hc7 (zR_go ?_))
    refine zr_steps 1 (106, [some (.ref 73), some (.int v1), some (.int v2), some (.int v3), some (.int v4), some (.int s.1), some (.int s.2.1)], [.int v3, .int (s.2.2 82 s.2.1.toNatClampNeg)], (SH, s.2.2, J)) rfl ?_
    refine zr_one (if (s.2.2 82 s.2.1.toNatClampNeg) = v3 then zN 126 [some (.ref 73), some (.int v1), some (.int v2), some (.int v3), some (.int v4), some (.int s.1), some (.int s.2.1)] [] (SH, s.2.2, J) else zN 109 [some (.ref 73), some (.int v1), some (.int v2), some (.int v3), some (.int v4), some (.int s.1), some (.int s.2.1)] [] (SH, s.2.2, J)) rfl (zR_if (fun hc14 => zR_go ?_) (fun hc14 => zR_go ?_))
    · rw [if_pos hc14] at h
      refine zr_steps 4 (134, [some (.ref 73), some (.int v1), some (.int v2), some (.int v3), some (.int v4), some (.int s.1), some (.int s.2.1)], [.int s.2.1, .ref 80, .int s.1], (SH, s.2.2, J)) rfl ?_
      obtain ⟨hc8, h⟩ := zbifo h
      refine zr_one (bif zin s.2.1 8 then zN 135 [some (.ref 73), some (.int v1), some (.int v2), some (.int v3), some (.int v4), some (.int s.1), some (.int s.2.1)] [.int (s.2.2 80 s.2.1.toNatClampNeg), .int s.1] (SH, s.2.2, J) else none) rfl (zR_bif hc8 (zR_go ?_))
      refine zr_steps 4 (89, [some (.ref 73), some (.int v1), some (.int v2), some (.int v3), some (.int v4), some (.int (s.1 + (s.2.2 80 s.2.1.toNatClampNeg))), some (.int (s.2.1 + 1))], [], (SH, s.2.2, J)) rfl ?_
      have he := Option.some.inj h
      subst he
      exact zr_hdr (ls2 := [some (.ref 73), some (.int v1), some (.int v2), some (.int v3), some (.int v4), some (.int (s.1 + (s.2.2 80 s.2.1.toNatClampNeg))), some (.int (s.2.1 + 1))]) rfl rfl (show zRun X d 191 89 [some (.ref 73), some (.int v1), some (.int v2), some (.int v3), some (.int v4), some (.int (s.1 + (s.2.2 80 s.2.1.toNatClampNeg))), some (.int (s.2.1 + 1))] [] (SH, s.2.2, J) r M' from w)
    · rw [if_neg hc14] at h
      refine zr_steps 5 (118, [some (.ref 73), some (.int v1), some (.int v2), some (.int v3), some (.int v4), some (.int s.1), some (.int s.2.1)], [.int s.2.1, .ref 82, .int s.2.1, .ref 73], (SH, s.2.2, J)) rfl ?_
      obtain ⟨hc9, h⟩ := zbifo h
      refine zr_one (bif zin s.2.1 8 then zN 119 [some (.ref 73), some (.int v1), some (.int v2), some (.int v3), some (.int v4), some (.int s.1), some (.int s.2.1)] [.int (s.2.2 82 s.2.1.toNatClampNeg), .int s.2.1, .ref 73] (SH, s.2.2, J) else none) rfl (zR_bif hc9 (zR_go ?_))
      refine zr_steps 1 (120, [some (.ref 73), some (.int v1), some (.int v2), some (.int v3), some (.int v4), some (.int s.1), some (.int s.2.1)], [.int v3, .int (s.2.2 82 s.2.1.toNatClampNeg), .int s.2.1, .ref 73], (SH, s.2.2, J)) rfl ?_
      obtain ⟨t11, hc10, h⟩ := zbind h
      refine zr_one (some (.inr (.inl (179, [.ref 73, .int s.2.1, .int (s.2.2 82 s.2.1.toNatClampNeg), .int v3], [], 123)))) rfl (zR_call (by omega) rfl (ok_f179_lastOf (by omega) s.2.1 (s.2.2 82 s.2.1.toNatClampNeg) v3 _ hc10) ?_)
      refine zr_one (if t11.1 < 0 then zN 138 [some (.ref 73), some (.int v1), some (.int v2), some (.int v3), some (.int v4), some (.int s.1), some (.int s.2.1)] [] (SH, t11.2, J) else zN 126 [some (.ref 73), some (.int v1), some (.int v2), some (.int v3), some (.int v4), some (.int s.1), some (.int s.2.1)] [] (SH, t11.2, J)) rfl (zR_if (fun hc13 => zR_go ?_) (fun hc13 => zR_go ?_))
      · rw [if_pos hc13] at h
        refine zr_steps 2 (89, [some (.ref 73), some (.int v1), some (.int v2), some (.int v3), some (.int v4), some (.int s.1), some (.int (s.2.1 + 1))], [], (SH, t11.2, J)) rfl ?_
        have he := Option.some.inj h
        subst he
        exact zr_hdr (ls2 := [some (.ref 73), some (.int v1), some (.int v2), some (.int v3), some (.int v4), some (.int s.1), some (.int (s.2.1 + 1))]) rfl rfl (show zRun X d 191 89 [some (.ref 73), some (.int v1), some (.int v2), some (.int v3), some (.int v4), some (.int s.1), some (.int (s.2.1 + 1))] [] (SH, t11.2, J) r M' from w)
      · rw [if_neg hc13] at h
        refine zr_steps 4 (134, [some (.ref 73), some (.int v1), some (.int v2), some (.int v3), some (.int v4), some (.int s.1), some (.int s.2.1)], [.int s.2.1, .ref 80, .int s.1], (SH, t11.2, J)) rfl ?_
        obtain ⟨hc12, h⟩ := zbifo h
        refine zr_one (bif zin s.2.1 8 then zN 135 [some (.ref 73), some (.int v1), some (.int v2), some (.int v3), some (.int v4), some (.int s.1), some (.int s.2.1)] [.int (t11.2 80 s.2.1.toNatClampNeg), .int s.1] (SH, t11.2, J) else none) rfl (zR_bif hc12 (zR_go ?_))
        refine zr_steps 4 (89, [some (.ref 73), some (.int v1), some (.int v2), some (.int v3), some (.int v4), some (.int (s.1 + (t11.2 80 s.2.1.toNatClampNeg))), some (.int (s.2.1 + 1))], [], (SH, t11.2, J)) rfl ?_
        have he := Option.some.inj h
        subst he
        exact zr_hdr (ls2 := [some (.ref 73), some (.int v1), some (.int v2), some (.int v3), some (.int v4), some (.int (s.1 + (t11.2 80 s.2.1.toNatClampNeg))), some (.int (s.2.1 + 1))]) rfl rfl (show zRun X d 191 89 [some (.ref 73), some (.int v1), some (.int v2), some (.int v3), some (.int v4), some (.int (s.1 + (t11.2 80 s.2.1.toNatClampNeg))), some (.int (s.2.1 + 1))] [] (SH, t11.2, J) r M' from w))
set_option maxRecDepth 100000 in
set_option maxHeartbeats 4000000 in
theorem ok_f191_judge_L56 {X : zX} {d : Nat} {r : Option Value} {M' : zM} (hd : 3 ≤ d) (v1 : Int32) {J : (Nat → Nat → Int64)} : ∀ (n : Nat) (s : (Int32 × Int32 × (Nat → Nat → Int32))) (t : (Int32 × (Nat → Nat → Int32)) ⊕ (Int32 × Int32 × (Nat → Nat → Int32))), zloopR (f191_judge_L56 v1 J) n s = some t → zSumE (fun (x : (Int32 × (Nat → Nat → Int32))) => r = (some (.int x.1)) ∧ M' = (SH, x.2, J)) (fun (x : (Int32 × Int32 × (Nat → Nat → Int32))) => zRun X d 191 170 [some (.ref 73), none, some (.int x.1), none, none, none, none] [] (SH, x.2.2, J) r M') t → (fun (s : (Int32 × Int32 × (Nat → Nat → Int32))) => zRun X d 191 56 [some (.ref 73), some (.int v1), some (.int s.1), some (.int s.2.1), none, none, none] [] (SH, s.2.2, J) r M') s := zloopR_ok (B := (f191_judge_L56 v1 J)) (Wh := fun (s : (Int32 × Int32 × (Nat → Nat → Int32))) => zRun X d 191 56 [some (.ref 73), some (.int v1), some (.int s.1), some (.int s.2.1), none, none, none] [] (SH, s.2.2, J) r M') (Wx := fun (x : (Int32 × Int32 × (Nat → Nat → Int32))) => zRun X d 191 170 [some (.ref 73), none, some (.int x.1), none, none, none, none] [] (SH, x.2.2, J) r M') (Wr := fun (x : (Int32 × (Nat → Nat → Int32))) => r = (some (.int x.1)) ∧ M' = (SH, x.2, J)) (fun s y h w => by
  unfold f191_judge_L56 at h
  refine zr_steps 3 (61, [some (.ref 73), some (.int v1), some (.int s.1), some (.int s.2.1), none, none, none], [.int (s.2.2 73 1), .int s.2.1], (SH, s.2.2, J)) rfl ?_
  refine zr_one (if (s.2.2 73 1) ≤ s.2.1 then zN 170 [some (.ref 73), some (.int v1), some (.int s.1), some (.int s.2.1), none, none, none] [] (SH, s.2.2, J) else zN 64 [some (.ref 73), some (.int v1), some (.int s.1), some (.int s.2.1), none, none, none] [] (SH, s.2.2, J)) rfl (zR_if (fun hc21 => zR_go ?_) (fun hc21 => zR_go ?_))
  · rw [if_pos hc21] at h
    have he := Option.some.inj h
    subst he
    exact zr_hdr (ls2 := [some (.ref 73), none, some (.int s.1), none, none, none, none]) rfl rfl (show zRun X d 191 170 [some (.ref 73), none, some (.int s.1), none, none, none, none] [] (SH, s.2.2, J) r M' from w)
  · rw [if_neg hc21] at h
    refine zr_steps 7 (74, [some (.ref 73), some (.int v1), some (.int s.1), some (.int s.2.1), none, none, none], [.int ((60 * v1) + s.2.1), .ref 112], (SH, s.2.2, J)) rfl ?_
    obtain ⟨hc6, h⟩ := zbifo h
    refine zr_one (bif zin ((60 * v1) + s.2.1) 360 then zN 75 [some (.ref 73), some (.int v1), some (.int s.1), some (.int s.2.1), none, none, none] [.long (J 112 ((60 * v1) + s.2.1).toNatClampNeg)] (SH, s.2.2, J) else none) rfl (zR_bif hc6 (zR_go ?_))
    refine zr_steps 10 (89, [some (.ref 73), some (.int v1), some (.int (s.1 + (J 112 ((60 * v1) + s.2.1).toNatClampNeg).toInt32)), some (.int s.2.1), some (.int (J 112 ((60 * v1) + s.2.1).toNatClampNeg).toInt32), some (.int 0), some (.int 0)], [], (SH, s.2.2, J)) rfl ?_
    obtain ⟨s16, ho17, h⟩ := zbind h
    refine zr_hdr (ls2 := [some (.ref 73), some (.int v1), some (.int (s.1 + (J 112 ((60 * v1) + s.2.1).toNatClampNeg).toInt32)), some (.int s.2.1), some (.int (J 112 ((60 * v1) + s.2.1).toNatClampNeg).toInt32), some (.int 0), some (.int 0)]) rfl rfl ?_
    refine ok_f191_judge_L89 (by omega) v1 (s.1 + (J 112 ((60 * v1) + s.2.1).toNatClampNeg).toInt32) s.2.1 (J 112 ((60 * v1) + s.2.1).toNatClampNeg).toInt32 5000 ((0 : Int32), (0 : Int32), s.2.2) s16 ho17 ?_
    show zRun X d 191 144 [some (.ref 73), some (.int v1), some (.int (s.1 + (J 112 ((60 * v1) + s.2.1).toNatClampNeg).toInt32)), some (.int s.2.1), some (.int (J 112 ((60 * v1) + s.2.1).toNatClampNeg).toInt32), some (.int s16.1), none] [] (SH, s16.2.2, J) _ _
    refine zr_steps 3 (149, [some (.ref 73), some (.int v1), some (.int (s.1 + (J 112 ((60 * v1) + s.2.1).toNatClampNeg).toInt32)), some (.int s.2.1), some (.int (J 112 ((60 * v1) + s.2.1).toNatClampNeg).toInt32), some (.int s16.1), none], [.int s.2.1, .ref 74], (SH, s16.2.2, J)) rfl ?_
    obtain ⟨hc18, h⟩ := zbifo h
    refine zr_one (bif zin s.2.1 4 then zN 150 [some (.ref 73), some (.int v1), some (.int (s.1 + (J 112 ((60 * v1) + s.2.1).toNatClampNeg).toInt32)), some (.int s.2.1), some (.int (J 112 ((60 * v1) + s.2.1).toNatClampNeg).toInt32), some (.int s16.1), none] [.int (s16.2.2 74 s.2.1.toNatClampNeg)] (SH, s16.2.2, J) else none) rfl (zR_bif hc18 (zR_go ?_))
    refine zr_steps 1 (152, [some (.ref 73), some (.int v1), some (.int (s.1 + (J 112 ((60 * v1) + s.2.1).toNatClampNeg).toInt32)), some (.int s.2.1), some (.int (J 112 ((60 * v1) + s.2.1).toNatClampNeg).toInt32), some (.int s16.1), none], [.int (J 112 ((60 * v1) + s.2.1).toNatClampNeg).toInt32, .int (s16.2.2 74 s.2.1.toNatClampNeg)], (SH, s16.2.2, J)) rfl ?_
    refine zr_one (if (s16.2.2 74 s.2.1.toNatClampNeg) < (J 112 ((60 * v1) + s.2.1).toNatClampNeg).toInt32 then zN 162 [some (.ref 73), some (.int v1), some (.int (s.1 + (J 112 ((60 * v1) + s.2.1).toNatClampNeg).toInt32)), some (.int s.2.1), some (.int (J 112 ((60 * v1) + s.2.1).toNatClampNeg).toInt32), some (.int s16.1), none] [] (SH, s16.2.2, J) else zN 155 [some (.ref 73), some (.int v1), some (.int (s.1 + (J 112 ((60 * v1) + s.2.1).toNatClampNeg).toInt32)), some (.int s.2.1), some (.int (J 112 ((60 * v1) + s.2.1).toNatClampNeg).toInt32), some (.int s16.1), none] [] (SH, s16.2.2, J)) rfl (zR_if (fun hc20 => zR_go ?_) (fun hc20 => zR_go ?_))
    · rw [if_pos hc20] at h
      refine zr_steps 1 (163, [some (.ref 73), some (.int v1), some (.int (s.1 + (J 112 ((60 * v1) + s.2.1).toNatClampNeg).toInt32)), some (.int s.2.1), some (.int (J 112 ((60 * v1) + s.2.1).toNatClampNeg).toInt32), some (.int s16.1), none], [.int s.2.1], (SH, s16.2.2, J)) rfl ?_
      have he := Option.some.inj h
      subst he
      obtain ⟨e1, e2⟩ := (show r = (some (.int s.2.1)) ∧ M' = (SH, s16.2.2, J) from w)
      exact zr_one (some (.inr (.inr (some (.int s.2.1))))) rfl (zR_ret e1.symm e2.symm)
    · rw [if_neg hc20] at h
      refine zr_steps 2 (159, [some (.ref 73), some (.int v1), some (.int (s.1 + (J 112 ((60 * v1) + s.2.1).toNatClampNeg).toInt32)), some (.int s.2.1), some (.int (J 112 ((60 * v1) + s.2.1).toNatClampNeg).toInt32), some (.int s16.1), none], [.int (J 112 ((60 * v1) + s.2.1).toNatClampNeg).toInt32, .int s16.1], (SH, s16.2.2, J)) rfl ?_
      refine zr_one (if (J 112 ((60 * v1) + s.2.1).toNatClampNeg).toInt32 ≤ s16.1 then zN 164 [some (.ref 73), some (.int v1), some (.int (s.1 + (J 112 ((60 * v1) + s.2.1).toNatClampNeg).toInt32)), some (.int s.2.1), some (.int (J 112 ((60 * v1) + s.2.1).toNatClampNeg).toInt32), some (.int s16.1), none] [] (SH, s16.2.2, J) else zN 162 [some (.ref 73), some (.int v1), some (.int (s.1 + (J 112 ((60 * v1) + s.2.1).toNatClampNeg).toInt32)), some (.int s.2.1), some (.int (J 112 ((60 * v1) + s.2.1).toNatClampNeg).toInt32), some (.int s16.1), none] [] (SH, s16.2.2, J)) rfl (zR_if (fun hc19 => zR_go ?_) (fun hc19 => zR_go ?_))
      · rw [if_pos hc19] at h
        refine zr_steps 2 (56, [some (.ref 73), some (.int v1), some (.int (s.1 + (J 112 ((60 * v1) + s.2.1).toNatClampNeg).toInt32)), some (.int (s.2.1 + 1)), some (.int (J 112 ((60 * v1) + s.2.1).toNatClampNeg).toInt32), some (.int s16.1), none], [], (SH, s16.2.2, J)) rfl ?_
        have he := Option.some.inj h
        subst he
        exact zr_hdr (ls2 := [some (.ref 73), some (.int v1), some (.int (s.1 + (J 112 ((60 * v1) + s.2.1).toNatClampNeg).toInt32)), some (.int (s.2.1 + 1)), none, none, none]) rfl rfl (show zRun X d 191 56 [some (.ref 73), some (.int v1), some (.int (s.1 + (J 112 ((60 * v1) + s.2.1).toNatClampNeg).toInt32)), some (.int (s.2.1 + 1)), none, none, none] [] (SH, s16.2.2, J) r M' from w)
      · rw [if_neg hc19] at h
        refine zr_steps 1 (163, [some (.ref 73), some (.int v1), some (.int (s.1 + (J 112 ((60 * v1) + s.2.1).toNatClampNeg).toInt32)), some (.int s.2.1), some (.int (J 112 ((60 * v1) + s.2.1).toNatClampNeg).toInt32), some (.int s16.1), none], [.int s.2.1], (SH, s16.2.2, J)) rfl ?_
        have he := Option.some.inj h
        subst he
        obtain ⟨e1, e2⟩ := (show r = (some (.int s.2.1)) ∧ M' = (SH, s16.2.2, J) from w)
        exact zr_one (some (.inr (.inr (some (.int s.2.1))))) rfl (zR_ret e1.symm e2.symm))
set_option maxRecDepth 100000 in
set_option maxHeartbeats 4000000 in
theorem ok_f191_judge {X : zX} {d : Nat} (hd : 3 ≤ d) (v1 : Int32) {I : (Nat → Nat → Int32)} {J : (Nat → Nat → Int64)} (t : (Int32 × (Nat → Nat → Int32))) (h : f191_judge v1 I J = some t) : zRun X d 191 0 (zent 191 [.ref 73, .int v1]) [] (SH, I, J) (some (.int t.1)) (SH, t.2, J) := by
  unfold f191_judge at h
  refine zr_steps 1 (1, [some (.ref 73), some (.int v1), none, none, none, none, none], [.int v1], (SH, I, J)) rfl ?_
  obtain ⟨t2, hc1, h⟩ := zbind h
  refine zr_one (some (.inr (.inl (210, [.int v1], [], 4)))) rfl (zR_call (by omega) rfl (ok_f210_isShelf (by omega) v1 _ hc1) ?_)
  refine zr_one (if t2 = 0 then zN 7 [some (.ref 73), some (.int v1), none, none, none, none, none] [] (SH, I, J) else zN 9 [some (.ref 73), some (.int v1), none, none, none, none, none] [] (SH, I, J)) rfl (zR_if (fun hc33 => zR_go ?_) (fun hc33 => zR_go ?_))
  · rw [if_pos hc33] at h
    refine zr_steps 1 (8, [some (.ref 73), some (.int v1), none, none, none, none, none], [.int (-1)], (SH, I, J)) rfl ?_
    have he := Option.some.inj h
    subst he
    exact zr_one (some (.inr (.inr (some (.int (-1)))))) rfl (zR_ret rfl rfl)
  · rw [if_neg hc33] at h
    refine zr_steps 3 (14, [some (.ref 73), some (.int v1), none, none, none, none, none], [.int v1, .ref 110], (SH, I, J)) rfl ?_
    obtain ⟨hc3, h⟩ := zbifo h
    refine zr_one (bif zin v1 6 then zN 15 [some (.ref 73), some (.int v1), none, none, none, none, none] [.int (I 110 v1.toNatClampNeg)] (SH, I, J) else none) rfl (zR_bif hc3 (zR_go ?_))
    refine zr_steps 1 (16, [some (.ref 73), some (.int v1), none, none, none, none, none], [.int (-1), .int (I 110 v1.toNatClampNeg)], (SH, I, J)) rfl ?_
    refine zr_one (if (I 110 v1.toNatClampNeg) = (-1) then zN 19 [some (.ref 73), some (.int v1), none, none, none, none, none] [] (SH, I, J) else zN 22 [some (.ref 73), some (.int v1), none, none, none, none, none] [] (SH, I, J)) rfl (zR_if (fun hc32 => zR_go ?_) (fun hc32 => zR_go ?_))
    · rw [if_pos hc32] at h
      refine zr_steps 1 (21, [some (.ref 73), some (.int v1), none, none, none, none, none], [.int (-11)], (SH, I, J)) rfl ?_
      have he := Option.some.inj h
      subst he
      exact zr_one (some (.inr (.inr (some (.int (-11)))))) rfl (zR_ret rfl rfl)
    · rw [if_neg hc32] at h
      refine zr_steps 3 (27, [some (.ref 73), some (.int v1), none, none, none, none, none], [.int v1, .ref 110], (SH, I, J)) rfl ?_
      obtain ⟨hc4, h⟩ := zbifo h
      refine zr_one (bif zin v1 6 then zN 28 [some (.ref 73), some (.int v1), none, none, none, none, none] [.int (I 110 v1.toNatClampNeg)] (SH, I, J) else none) rfl (zR_bif hc4 (zR_go ?_))
      refine zr_steps 1 (30, [some (.ref 73), some (.int v1), none, none, none, none, none], [.int (-3), .int (I 110 v1.toNatClampNeg)], (SH, I, J)) rfl ?_
      refine zr_one (if (I 110 v1.toNatClampNeg) = (-3) then zN 36 [some (.ref 73), some (.int v1), none, none, none, none, none] [] (SH, I, J) else zN 33 [some (.ref 73), some (.int v1), none, none, none, none, none] [] (SH, I, J)) rfl (zR_if (fun hc31 => zR_go ?_) (fun hc31 => zR_go ?_))
      · rw [if_pos hc31] at h
        refine zr_steps 3 (41, [some (.ref 73), some (.int v1), none, none, none, none, none], [.int v1, .ref 111], (SH, I, J)) rfl ?_
        obtain ⟨hc5, h⟩ := zbifo h
        refine zr_one (bif zin v1 6 then zN 42 [some (.ref 73), some (.int v1), none, none, none, none, none] [.int (I 111 v1.toNatClampNeg)] (SH, I, J) else none) rfl (zR_bif hc5 (zR_go ?_))
        refine zr_steps 2 (46, [some (.ref 73), some (.int v1), none, none, none, none, none], [.int (I 73 1), .int (I 111 v1.toNatClampNeg)], (SH, I, J)) rfl ?_
        refine zr_one (if (I 73 1) ≤ (I 111 v1.toNatClampNeg) then zN 52 [some (.ref 73), some (.int v1), none, none, none, none, none] [] (SH, I, J) else zN 49 [some (.ref 73), some (.int v1), none, none, none, none, none] [] (SH, I, J)) rfl (zR_if (fun hc30 => zR_go ?_) (fun hc30 => zR_go ?_))
        · rw [if_pos hc30] at h
          refine zr_steps 4 (56, [some (.ref 73), some (.int v1), some (.int 0), some (.int 0), none, none, none], [], (SH, I, J)) rfl ?_
          obtain ⟨y29, ho23, hy⟩ := zbRe h
          refine zr_hdr (ls2 := [some (.ref 73), some (.int v1), some (.int 0), some (.int 0), none, none, none]) rfl rfl ?_
          refine ok_f191_judge_L56 (by omega) v1 5000 ((0 : Int32), (0 : Int32), I) y29 ho23 ?_
          rcases hy with ⟨rr, rfl, h⟩ | ⟨s22, rfl, h⟩
          · have he := Option.some.inj h
            subst he
            exact ⟨rfl, rfl⟩
          · show zRun X d 191 170 [some (.ref 73), none, some (.int s22.1), none, none, none, none] [] (SH, s22.2.2, J) _ _
            refine zr_steps 3 (173, [some (.ref 73), none, some (.int s22.1), none, none, none, none], [.int 0, .ref 73, .int s22.1], (SH, s22.2.2, J)) rfl ?_
            obtain ⟨t25, hc24, h⟩ := zbind h
            refine zr_one (some (.inr (.inl (183, [.ref 73, .int 0], [.int s22.1], 176)))) rfl (zR_call (by omega) rfl (ok_f183_wanting (by omega) 0 _ hc24) ?_)
            refine zr_steps 2 (178, [some (.ref 73), none, some (.int s22.1), none, none, none, none], [.int 1, .ref 73, .int t25, .int s22.1], (SH, s22.2.2, J)) rfl ?_
            obtain ⟨t27, hc26, h⟩ := zbind h
            refine zr_one (some (.inr (.inl (183, [.ref 73, .int 1], [.int t25, .int s22.1], 181)))) rfl (zR_call (by omega) rfl (ok_f183_wanting (by omega) 1 _ hc26) ?_)
            refine zr_steps 1 (182, [some (.ref 73), none, some (.int s22.1), none, none, none, none], [.int (t25 + t27), .int s22.1], (SH, s22.2.2, J)) rfl ?_
            refine zr_one (if s22.1 ≤ (t25 + t27) then zN 190 [some (.ref 73), none, some (.int s22.1), none, none, none, none] [] (SH, s22.2.2, J) else zN 185 [some (.ref 73), none, some (.int s22.1), none, none, none, none] [] (SH, s22.2.2, J)) rfl (zR_if (fun hc28 => zR_go ?_) (fun hc28 => zR_go ?_))
            · rw [if_pos hc28] at h
              refine zr_steps 1 (192, [some (.ref 73), none, some (.int s22.1), none, none, none, none], [.int (-2)], (SH, s22.2.2, J)) rfl ?_
              have he := Option.some.inj h
              subst he
              exact zr_one (some (.inr (.inr (some (.int (-2)))))) rfl (zR_ret rfl rfl)
            · rw [if_neg hc28] at h
              refine zr_steps 2 (192, [some (.ref 73), none, some (.int s22.1), none, none, none, none], [.int 9], (SH, s22.2.2, J)) rfl ?_
              have he := Option.some.inj h
              subst he
              exact zr_one (some (.inr (.inr (some (.int 9))))) rfl (zR_ret rfl rfl)
        · rw [if_neg hc30] at h
          refine zr_steps 1 (51, [some (.ref 73), some (.int v1), none, none, none, none, none], [.int (-13)], (SH, I, J)) rfl ?_
          have he := Option.some.inj h
          subst he
          exact zr_one (some (.inr (.inr (some (.int (-13)))))) rfl (zR_ret rfl rfl)
      · rw [if_neg hc31] at h
        refine zr_steps 1 (35, [some (.ref 73), some (.int v1), none, none, none, none, none], [.int (-12)], (SH, I, J)) rfl ?_
        have he := Option.some.inj h
        subst he
        exact zr_one (some (.inr (.inr (some (.int (-12)))))) rfl (zR_ret rfl rfl)
set_option maxRecDepth 100000 in
set_option maxHeartbeats 4000000 in
theorem ok_f15_back {X : zX} {d : Nat} (hd : 1 ≤ d) {I : (Nat → Nat → Int32)} {J : (Nat → Nat → Int64)} (t : (Int32 × (Nat → Nat → Int32))) (h : f15_back I = some t) : zRun X d 15 0 (zent 15 [.ref 52, .ref 1]) [] (SH, I, J) (some (.int t.1)) (SH, t.2, J) := by
  unfold f15_back at h
  refine zr_steps 2 (4, [some (.ref 52), some (.ref 1)], [.int (I 52 5)], (SH, I, J)) rfl ?_
  refine zr_one (if (I 52 5) = 0 then zN 7 [some (.ref 52), some (.ref 1)] [] (SH, I, J) else zN 10 [some (.ref 52), some (.ref 1)] [] (SH, I, J)) rfl (zR_if (fun hc6 => zR_go ?_) (fun hc6 => zR_go ?_))
  · rw [if_pos hc6] at h
    refine zr_steps 1 (9, [some (.ref 52), some (.ref 1)], [.int (-5)], (SH, I, J)) rfl ?_
    have he := Option.some.inj h
    subst he
    exact zr_one (some (.inr (.inr (some (.int (-5)))))) rfl (zR_ret rfl rfl)
  · rw [if_neg hc6] at h
    refine zr_steps 11 (29, [some (.ref 52), some (.ref 1)], [.int ((I 52 5) - 1), .ref 53, .ref 1], (SH, (zu I 52 5 ((I 52 5) - 1)), J)) rfl ?_
    obtain ⟨hc1, h⟩ := zbifo h
    refine zr_one (bif zin ((I 52 5) - 1) 40 then zN 30 [some (.ref 52), some (.ref 1)] [.int (I 53 ((I 52 5) - 1).toNatClampNeg), .ref 1] (SH, (zu I 52 5 ((I 52 5) - 1)), J) else none) rfl (zR_bif hc1 (zR_go ?_))
    refine zr_steps 4 (38, [some (.ref 52), some (.ref 1)], [.int ((I 52 5) - 1), .ref 54, .int (I 53 ((I 52 5) - 1).toNatClampNeg), .ref 1], (SH, (zu I 52 5 ((I 52 5) - 1)), J)) rfl ?_
    obtain ⟨hc2, h⟩ := zbifo h
    refine zr_one (bif zin ((I 52 5) - 1) 40 then zN 39 [some (.ref 52), some (.ref 1)] [.int (I 54 ((I 52 5) - 1).toNatClampNeg), .int (I 53 ((I 52 5) - 1).toNatClampNeg), .ref 1] (SH, (zu I 52 5 ((I 52 5) - 1)), J) else none) rfl (zR_bif hc2 (zR_go ?_))
    refine zr_steps 4 (47, [some (.ref 52), some (.ref 1)], [.int ((I 52 5) - 1), .ref 55, .int (I 54 ((I 52 5) - 1).toNatClampNeg), .int (I 53 ((I 52 5) - 1).toNatClampNeg), .ref 1], (SH, (zu I 52 5 ((I 52 5) - 1)), J)) rfl ?_
    obtain ⟨hc3, h⟩ := zbifo h
    refine zr_one (bif zin ((I 52 5) - 1) 40 then zN 48 [some (.ref 52), some (.ref 1)] [.int (I 55 ((I 52 5) - 1).toNatClampNeg), .int (I 54 ((I 52 5) - 1).toNatClampNeg), .int (I 53 ((I 52 5) - 1).toNatClampNeg), .ref 1] (SH, (zu I 52 5 ((I 52 5) - 1)), J) else none) rfl (zR_bif hc3 (zR_go ?_))
    obtain ⟨t5, hc4, h⟩ := zbind h
    refine zr_one (some (.inr (.inl (69, [.ref 1, .int (I 53 ((I 52 5) - 1).toNatClampNeg), .int (I 54 ((I 52 5) - 1).toNatClampNeg), .int (I 55 ((I 52 5) - 1).toNatClampNeg)], [], 51)))) rfl (zR_call (by omega) rfl (ok_f69_mended (by omega) (I 53 ((I 52 5) - 1).toNatClampNeg) (I 54 ((I 52 5) - 1).toNatClampNeg) (I 55 ((I 52 5) - 1).toNatClampNeg) _ hc4) ?_)
    refine zr_steps 3 (56, [some (.ref 52), some (.ref 1)], [.int (t5.2 52 5)], (SH, t5.2, J)) rfl ?_
    have he := Option.some.inj h
    subst he
    exact zr_one (some (.inr (.inr (some (.int (t5.2 52 5)))))) rfl (zR_ret rfl rfl)
set_option maxRecDepth 100000 in
set_option maxHeartbeats 4000000 in
theorem ok_f113_undo {X : zX} {d : Nat} (hd : 2 ≤ d) {I : (Nat → Nat → Int32)} {J : (Nat → Nat → Int64)} (t : (Int32 × (Nat → Nat → Int32))) (h : f113_undo I = some t) : zRun X d 113 0 (zent 113 [.ref 0]) [] (SH, I, J) (some (.int t.1)) (SH, t.2, J) := by
  unfold f113_undo at h
  refine zr_steps 4 (8, [some (.ref 0)], [.ref 1, .ref 52], (SH, I, J)) rfl ?_
  obtain ⟨t2, hc1, h⟩ := zbind h
  refine zr_one (some (.inr (.inl (15, [.ref 52, .ref 1], [], 11)))) rfl (zR_call (by omega) rfl (ok_f15_back (by omega)  _ hc1) ?_)
  have he := Option.some.inj h
  subst he
  exact zr_one (some (.inr (.inr (some (.int t2.1))))) rfl (zR_ret rfl rfl)
set_option maxRecDepth 100000 in
set_option maxHeartbeats 4000000 in
theorem ok_f162_undo {X : zX} {d : Nat} (hd : 1 ≤ d) {I : (Nat → Nat → Int32)} {J : (Nat → Nat → Int64)} (t : (Int32 × (Nat → Nat → Int32))) (h : f162_undo I = some t) : zRun X d 162 0 (zent 162 [.ref 73]) [] (SH, I, J) (some (.int t.1)) (SH, t.2, J) := by
  unfold f162_undo at h
  refine zr_steps 2 (4, [some (.ref 73)], [.int (I 73 32)], (SH, I, J)) rfl ?_
  refine zr_one (if (I 73 32) = 0 then zN 7 [some (.ref 73)] [] (SH, I, J) else zN 10 [some (.ref 73)] [] (SH, I, J)) rfl (zR_if (fun hc6 => zR_go ?_) (fun hc6 => zR_go ?_))
  · rw [if_pos hc6] at h
    refine zr_steps 1 (9, [some (.ref 73)], [.int (-5)], (SH, I, J)) rfl ?_
    have he := Option.some.inj h
    subst he
    exact zr_one (some (.inr (.inr (some (.int (-5)))))) rfl (zR_ret rfl rfl)
  · rw [if_neg hc6] at h
    refine zr_steps 17 (39, [some (.ref 73)], [.int ((I 73 32) - 1), .ref 93, .ref 73], (SH, (zu (zu I 73 32 ((I 73 32) - 1)) 73 33 ((I 73 33) + 1)), J)) rfl ?_
    obtain ⟨hc1, h⟩ := zbifo h
    refine zr_one (bif zin ((I 73 32) - 1) 40 then zN 40 [some (.ref 73)] [.int (I 93 ((I 73 32) - 1).toNatClampNeg), .ref 73] (SH, (zu (zu I 73 32 ((I 73 32) - 1)) 73 33 ((I 73 33) + 1)), J) else none) rfl (zR_bif hc1 (zR_go ?_))
    refine zr_steps 4 (48, [some (.ref 73)], [.int ((I 73 32) - 1), .ref 94, .int (I 93 ((I 73 32) - 1).toNatClampNeg), .ref 73], (SH, (zu (zu I 73 32 ((I 73 32) - 1)) 73 33 ((I 73 33) + 1)), J)) rfl ?_
    obtain ⟨hc2, h⟩ := zbifo h
    refine zr_one (bif zin ((I 73 32) - 1) 40 then zN 49 [some (.ref 73)] [.int (I 94 ((I 73 32) - 1).toNatClampNeg), .int (I 93 ((I 73 32) - 1).toNatClampNeg), .ref 73] (SH, (zu (zu I 73 32 ((I 73 32) - 1)) 73 33 ((I 73 33) + 1)), J) else none) rfl (zR_bif hc2 (zR_go ?_))
    refine zr_steps 4 (57, [some (.ref 73)], [.int ((I 73 32) - 1), .ref 95, .int (I 94 ((I 73 32) - 1).toNatClampNeg), .int (I 93 ((I 73 32) - 1).toNatClampNeg), .ref 73], (SH, (zu (zu I 73 32 ((I 73 32) - 1)) 73 33 ((I 73 33) + 1)), J)) rfl ?_
    obtain ⟨hc3, h⟩ := zbifo h
    refine zr_one (bif zin ((I 73 32) - 1) 40 then zN 58 [some (.ref 73)] [.int (I 95 ((I 73 32) - 1).toNatClampNeg), .int (I 94 ((I 73 32) - 1).toNatClampNeg), .int (I 93 ((I 73 32) - 1).toNatClampNeg), .ref 73] (SH, (zu (zu I 73 32 ((I 73 32) - 1)) 73 33 ((I 73 33) + 1)), J) else none) rfl (zR_bif hc3 (zR_go ?_))
    obtain ⟨t5, hc4, h⟩ := zbind h
    refine zr_one (some (.inr (.inl (160, [.ref 73, .int (I 93 ((I 73 32) - 1).toNatClampNeg), .int (I 94 ((I 73 32) - 1).toNatClampNeg), .int (I 95 ((I 73 32) - 1).toNatClampNeg)], [], 61)))) rfl (zR_call (by omega) rfl (ok_f160_lays (by omega) (I 93 ((I 73 32) - 1).toNatClampNeg) (I 94 ((I 73 32) - 1).toNatClampNeg) (I 95 ((I 73 32) - 1).toNatClampNeg) _ hc4) ?_)
    refine zr_steps 2 (65, [some (.ref 73)], [.int (t5 73 32)], (SH, t5, J)) rfl ?_
    have he := Option.some.inj h
    subst he
    exact zr_one (some (.inr (.inr (some (.int (t5 73 32)))))) rfl (zR_ret rfl rfl)
set_option maxRecDepth 100000 in
set_option maxHeartbeats 4000000 in
theorem ok_f16_again {X : zX} {d : Nat} (hd : 1 ≤ d) {I : (Nat → Nat → Int32)} {J : (Nat → Nat → Int64)} (t : (Int32 × (Nat → Nat → Int32))) (h : f16_again I = some t) : zRun X d 16 0 (zent 16 [.ref 52, .ref 1]) [] (SH, I, J) (some (.int t.1)) (SH, t.2, J) := by
  unfold f16_again at h
  refine zr_steps 4 (8, [some (.ref 52), some (.ref 1)], [.int (I 52 4), .int (I 52 5)], (SH, I, J)) rfl ?_
  refine zr_one (if (I 52 5) = (I 52 4) then zN 11 [some (.ref 52), some (.ref 1)] [] (SH, I, J) else zN 14 [some (.ref 52), some (.ref 1)] [] (SH, I, J)) rfl (zR_if (fun hc6 => zR_go ?_) (fun hc6 => zR_go ?_))
  · rw [if_pos hc6] at h
    refine zr_steps 1 (13, [some (.ref 52), some (.ref 1)], [.int (-5)], (SH, I, J)) rfl ?_
    have he := Option.some.inj h
    subst he
    exact zr_one (some (.inr (.inr (some (.int (-5)))))) rfl (zR_ret rfl rfl)
  · rw [if_neg hc6] at h
    refine zr_steps 5 (23, [some (.ref 52), some (.ref 1)], [.int (I 52 5), .ref 53, .ref 1], (SH, I, J)) rfl ?_
    obtain ⟨hc1, h⟩ := zbifo h
    refine zr_one (bif zin (I 52 5) 40 then zN 24 [some (.ref 52), some (.ref 1)] [.int (I 53 (I 52 5).toNatClampNeg), .ref 1] (SH, I, J) else none) rfl (zR_bif hc1 (zR_go ?_))
    refine zr_steps 4 (32, [some (.ref 52), some (.ref 1)], [.int (I 52 5), .ref 54, .int (I 53 (I 52 5).toNatClampNeg), .ref 1], (SH, I, J)) rfl ?_
    obtain ⟨hc2, h⟩ := zbifo h
    refine zr_one (bif zin (I 52 5) 40 then zN 33 [some (.ref 52), some (.ref 1)] [.int (I 54 (I 52 5).toNatClampNeg), .int (I 53 (I 52 5).toNatClampNeg), .ref 1] (SH, I, J) else none) rfl (zR_bif hc2 (zR_go ?_))
    refine zr_steps 4 (41, [some (.ref 52), some (.ref 1)], [.int (I 52 5), .ref 56, .int (I 54 (I 52 5).toNatClampNeg), .int (I 53 (I 52 5).toNatClampNeg), .ref 1], (SH, I, J)) rfl ?_
    obtain ⟨hc3, h⟩ := zbifo h
    refine zr_one (bif zin (I 52 5) 40 then zN 42 [some (.ref 52), some (.ref 1)] [.int (I 56 (I 52 5).toNatClampNeg), .int (I 54 (I 52 5).toNatClampNeg), .int (I 53 (I 52 5).toNatClampNeg), .ref 1] (SH, I, J) else none) rfl (zR_bif hc3 (zR_go ?_))
    obtain ⟨t5, hc4, h⟩ := zbind h
    refine zr_one (some (.inr (.inl (69, [.ref 1, .int (I 53 (I 52 5).toNatClampNeg), .int (I 54 (I 52 5).toNatClampNeg), .int (I 56 (I 52 5).toNatClampNeg)], [], 45)))) rfl (zR_call (by omega) rfl (ok_f69_mended (by omega) (I 53 (I 52 5).toNatClampNeg) (I 54 (I 52 5).toNatClampNeg) (I 56 (I 52 5).toNatClampNeg) _ hc4) ?_)
    refine zr_steps 12 (65, [some (.ref 52), some (.ref 1)], [.int ((t5.2 52 4) - ((t5.2 52 5) + 1))], (SH, (zu t5.2 52 5 ((t5.2 52 5) + 1)), J)) rfl ?_
    have he := Option.some.inj h
    subst he
    exact zr_one (some (.inr (.inr (some (.int ((t5.2 52 4) - ((t5.2 52 5) + 1))))))) rfl (zR_ret rfl rfl)
set_option maxRecDepth 100000 in
set_option maxHeartbeats 4000000 in
theorem ok_f114_redo {X : zX} {d : Nat} (hd : 2 ≤ d) {I : (Nat → Nat → Int32)} {J : (Nat → Nat → Int64)} (t : (Int32 × (Nat → Nat → Int32))) (h : f114_redo I = some t) : zRun X d 114 0 (zent 114 [.ref 0]) [] (SH, I, J) (some (.int t.1)) (SH, t.2, J) := by
  unfold f114_redo at h
  refine zr_steps 4 (8, [some (.ref 0)], [.ref 1, .ref 52], (SH, I, J)) rfl ?_
  obtain ⟨t2, hc1, h⟩ := zbind h
  refine zr_one (some (.inr (.inl (16, [.ref 52, .ref 1], [], 11)))) rfl (zR_call (by omega) rfl (ok_f16_again (by omega)  _ hc1) ?_)
  have he := Option.some.inj h
  subst he
  exact zr_one (some (.inr (.inr (some (.int t2.1))))) rfl (zR_ret rfl rfl)
set_option maxRecDepth 100000 in
set_option maxHeartbeats 4000000 in
theorem ok_f163_redo {X : zX} {d : Nat} (hd : 1 ≤ d) {I : (Nat → Nat → Int32)} {J : (Nat → Nat → Int64)} (t : (Int32 × (Nat → Nat → Int32))) (h : f163_redo I = some t) : zRun X d 163 0 (zent 163 [.ref 73]) [] (SH, I, J) (some (.int t.1)) (SH, t.2, J) := by
  unfold f163_redo at h
  refine zr_steps 2 (4, [some (.ref 73)], [.int (I 73 33)], (SH, I, J)) rfl ?_
  refine zr_one (if (I 73 33) = 0 then zN 7 [some (.ref 73)] [] (SH, I, J) else zN 10 [some (.ref 73)] [] (SH, I, J)) rfl (zR_if (fun hc6 => zR_go ?_) (fun hc6 => zR_go ?_))
  · rw [if_pos hc6] at h
    refine zr_steps 1 (9, [some (.ref 73)], [.int (-5)], (SH, I, J)) rfl ?_
    have he := Option.some.inj h
    subst he
    exact zr_one (some (.inr (.inr (some (.int (-5)))))) rfl (zR_ret rfl rfl)
  · rw [if_neg hc6] at h
    refine zr_steps 5 (19, [some (.ref 73)], [.int (I 73 32), .ref 93, .ref 73], (SH, I, J)) rfl ?_
    obtain ⟨hc1, h⟩ := zbifo h
    refine zr_one (bif zin (I 73 32) 40 then zN 20 [some (.ref 73)] [.int (I 93 (I 73 32).toNatClampNeg), .ref 73] (SH, I, J) else none) rfl (zR_bif hc1 (zR_go ?_))
    refine zr_steps 4 (28, [some (.ref 73)], [.int (I 73 32), .ref 94, .int (I 93 (I 73 32).toNatClampNeg), .ref 73], (SH, I, J)) rfl ?_
    obtain ⟨hc2, h⟩ := zbifo h
    refine zr_one (bif zin (I 73 32) 40 then zN 29 [some (.ref 73)] [.int (I 94 (I 73 32).toNatClampNeg), .int (I 93 (I 73 32).toNatClampNeg), .ref 73] (SH, I, J) else none) rfl (zR_bif hc2 (zR_go ?_))
    refine zr_steps 4 (37, [some (.ref 73)], [.int (I 73 32), .ref 96, .int (I 94 (I 73 32).toNatClampNeg), .int (I 93 (I 73 32).toNatClampNeg), .ref 73], (SH, I, J)) rfl ?_
    obtain ⟨hc3, h⟩ := zbifo h
    refine zr_one (bif zin (I 73 32) 40 then zN 38 [some (.ref 73)] [.int (I 96 (I 73 32).toNatClampNeg), .int (I 94 (I 73 32).toNatClampNeg), .int (I 93 (I 73 32).toNatClampNeg), .ref 73] (SH, I, J) else none) rfl (zR_bif hc3 (zR_go ?_))
    obtain ⟨t5, hc4, h⟩ := zbind h
    refine zr_one (some (.inr (.inl (160, [.ref 73, .int (I 93 (I 73 32).toNatClampNeg), .int (I 94 (I 73 32).toNatClampNeg), .int (I 96 (I 73 32).toNatClampNeg)], [], 41)))) rfl (zR_call (by omega) rfl (ok_f160_lays (by omega) (I 93 (I 73 32).toNatClampNeg) (I 94 (I 73 32).toNatClampNeg) (I 96 (I 73 32).toNatClampNeg) _ hc4) ?_)
    refine zr_steps 14 (65, [some (.ref 73)], [.int ((t5 73 33) - 1)], (SH, (zu (zu t5 73 32 ((t5 73 32) + 1)) 73 33 ((t5 73 33) - 1)), J)) rfl ?_
    have he := Option.some.inj h
    subst he
    exact zr_one (some (.inr (.inr (some (.int ((t5 73 33) - 1)))))) rfl (zR_ret rfl rfl)
set_option maxRecDepth 100000 in
set_option maxHeartbeats 4000000 in
theorem ok_f2_isKind {X : zX} {d : Nat} (hd : 0 ≤ d) (v0 : Int32) {I : (Nat → Nat → Int32)} {J : (Nat → Nat → Int64)} (t : Int32) (h : f2_isKind v0 = some t) : zRun X d 2 0 (zent 2 [.int v0]) [] (SH, I, J) (some (.int t)) (SH, I, J) := by
  unfold f2_isKind at h
  refine zr_steps 1 (1, [some (.int v0)], [.int v0], (SH, I, J)) rfl ?_
  refine zr_one (if v0 < 0 then zN 14 [some (.int v0)] [] (SH, I, J) else zN 4 [some (.int v0)] [] (SH, I, J)) rfl (zR_if (fun hc2 => zR_go ?_) (fun hc2 => zR_go ?_))
  · rw [if_pos hc2] at h
    refine zr_steps 1 (15, [some (.int v0)], [.int 0], (SH, I, J)) rfl ?_
    have he := Option.some.inj h
    subst he
    exact zr_one (if ((0 : Int32) = 0 ∨ (0 : Int32) = 1) then some (.inr (.inr (some (.int 0)))) else none) rfl (zR_pos (by decide) (zR_ret rfl rfl))
  · rw [if_neg hc2] at h
    refine zr_steps 2 (7, [some (.int v0)], [.int 7, .int v0], (SH, I, J)) rfl ?_
    refine zr_one (if (7 : Int32) < v0 then zN 14 [some (.int v0)] [] (SH, I, J) else zN 10 [some (.int v0)] [] (SH, I, J)) rfl (zR_if (fun hc1 => zR_go ?_) (fun hc1 => zR_go ?_))
    · rw [if_pos hc1] at h
      refine zr_steps 1 (15, [some (.int v0)], [.int 0], (SH, I, J)) rfl ?_
      have he := Option.some.inj h
      subst he
      exact zr_one (if ((0 : Int32) = 0 ∨ (0 : Int32) = 1) then some (.inr (.inr (some (.int 0)))) else none) rfl (zR_pos (by decide) (zR_ret rfl rfl))
    · rw [if_neg hc1] at h
      refine zr_steps 2 (15, [some (.int v0)], [.int 1], (SH, I, J)) rfl ?_
      have he := Option.some.inj h
      subst he
      exact zr_one (if ((1 : Int32) = 0 ∨ (1 : Int32) = 1) then some (.inr (.inr (some (.int 1)))) else none) rfl (zR_pos (by decide) (zR_ret rfl rfl))
set_option maxRecDepth 100000 in
set_option maxHeartbeats 4000000 in
theorem ok_f5_add {X : zX} {d : Nat} (hd : 1 ≤ d) (v1 : Int32) {I : (Nat → Nat → Int32)} {J : (Nat → Nat → Int64)} (t : (Int32 × (Nat → Nat → Int32))) (h : f5_add v1 I = some t) : zRun X d 5 0 (zent 5 [.ref 57, .int v1]) [] (SH, I, J) (some (.int t.1)) (SH, t.2, J) := by
  unfold f5_add at h
  refine zr_steps 1 (1, [some (.ref 57), some (.int v1)], [.int v1], (SH, I, J)) rfl ?_
  obtain ⟨t2, hc1, h⟩ := zbind h
  refine zr_one (some (.inr (.inl (2, [.int v1], [], 4)))) rfl (zR_call (by omega) rfl (ok_f2_isKind (by omega) v1 _ hc1) ?_)
  refine zr_one (if t2 = 0 then zN 7 [some (.ref 57), some (.int v1)] [] (SH, I, J) else zN 9 [some (.ref 57), some (.int v1)] [] (SH, I, J)) rfl (zR_if (fun hc5 => zR_go ?_) (fun hc5 => zR_go ?_))
  · rw [if_pos hc5] at h
    refine zr_steps 1 (8, [some (.ref 57), some (.int v1)], [.int (-1)], (SH, I, J)) rfl ?_
    have he := Option.some.inj h
    subst he
    exact zr_one (some (.inr (.inr (some (.int (-1)))))) rfl (zR_ret rfl rfl)
  · rw [if_neg hc5] at h
    refine zr_steps 3 (15, [some (.ref 57), some (.int v1)], [.int 50, .int (I 57 2)], (SH, I, J)) rfl ?_
    refine zr_one (if (I 57 2) = 50 then zN 18 [some (.ref 57), some (.int v1)] [] (SH, I, J) else zN 21 [some (.ref 57), some (.int v1)] [] (SH, I, J)) rfl (zR_if (fun hc4 => zR_go ?_) (fun hc4 => zR_go ?_))
    · rw [if_pos hc4] at h
      refine zr_steps 1 (20, [some (.ref 57), some (.int v1)], [.int (-3)], (SH, I, J)) rfl ?_
      have he := Option.some.inj h
      subst he
      exact zr_one (some (.inr (.inr (some (.int (-3)))))) rfl (zR_ret rfl rfl)
    · rw [if_neg hc4] at h
      refine zr_steps 5 (30, [some (.ref 57), some (.int v1)], [.int v1, .int (I 57 2), .ref 58], (SH, I, J)) rfl ?_
      obtain ⟨hc3, h⟩ := zbifo h
      refine zr_one (bif zin (I 57 2) 50 then zN 31 [some (.ref 57), some (.int v1)] [] (SH, (zu I 58 (I 57 2).toNatClampNeg v1), J) else none) rfl (zR_bif hc3 (zR_go ?_))
      refine zr_steps 10 (47, [some (.ref 57), some (.int v1)], [.int (((I 57 2) + 1) - 1)], (SH, (zu (zu I 58 (I 57 2).toNatClampNeg v1) 57 2 ((I 57 2) + 1)), J)) rfl ?_
      have he := Option.some.inj h
      subst he
      exact zr_one (some (.inr (.inr (some (.int (((I 57 2) + 1) - 1)))))) rfl (zR_ret rfl rfl)
set_option maxRecDepth 100000 in
set_option maxHeartbeats 4000000 in
theorem ok_f115_body {X : zX} {d : Nat} (hd : 2 ≤ d) (v1 : Int32) {I : (Nat → Nat → Int32)} {J : (Nat → Nat → Int64)} (t : (Int32 × (Nat → Nat → Int32))) (h : f115_body v1 I = some t) : zRun X d 115 0 (zent 115 [.ref 0, .int v1]) [] (SH, I, J) (some (.int t.1)) (SH, t.2, J) := by
  unfold f115_body at h
  refine zr_steps 3 (5, [some (.ref 0), some (.int v1)], [.int v1, .ref 57], (SH, I, J)) rfl ?_
  obtain ⟨t2, hc1, h⟩ := zbind h
  refine zr_one (some (.inr (.inl (5, [.ref 57, .int v1], [], 8)))) rfl (zR_call (by omega) rfl (ok_f5_add (by omega) v1 _ hc1) ?_)
  have he := Option.some.inj h
  subst he
  exact zr_one (some (.inr (.inr (some (.int t2.1))))) rfl (zR_ret rfl rfl)
set_option maxRecDepth 100000 in
set_option maxHeartbeats 4000000 in
theorem ok_f195_body {X : zX} {d : Nat} (hd : 1 ≤ d) (v1 : Int32) {I : (Nat → Nat → Int32)} {J : (Nat → Nat → Int64)} (t : (Int32 × (Nat → Nat → Int32))) (h : f195_body v1 I = some t) : zRun X d 195 0 (zent 195 [.ref 73, .int v1]) [] (SH, I, J) (some (.int t.1)) (SH, t.2, J) := by
  unfold f195_body at h
  refine zr_steps 3 (4, [some (.ref 73), some (.int v1)], [.int 7, .int 0, .int v1], (SH, I, J)) rfl ?_
  obtain ⟨t2, hc1, h⟩ := zbind h
  refine zr_one (some (.inr (.inl (129, [.int v1, .int 0, .int 7], [], 7)))) rfl (zR_call (by omega) rfl (ok_f129_in (by omega) v1 0 7 _ hc1) ?_)
  refine zr_one (if t2 = 0 then zN 10 [some (.ref 73), some (.int v1)] [] (SH, I, J) else zN 12 [some (.ref 73), some (.int v1)] [] (SH, I, J)) rfl (zR_if (fun hc5 => zR_go ?_) (fun hc5 => zR_go ?_))
  · rw [if_pos hc5] at h
    refine zr_steps 1 (11, [some (.ref 73), some (.int v1)], [.int (-1)], (SH, I, J)) rfl ?_
    have he := Option.some.inj h
    subst he
    exact zr_one (some (.inr (.inr (some (.int (-1)))))) rfl (zR_ret rfl rfl)
  · rw [if_neg hc5] at h
    refine zr_steps 3 (18, [some (.ref 73), some (.int v1)], [.int 50, .int (I 73 66)], (SH, I, J)) rfl ?_
    refine zr_one (if (I 73 66) = 50 then zN 21 [some (.ref 73), some (.int v1)] [] (SH, I, J) else zN 24 [some (.ref 73), some (.int v1)] [] (SH, I, J)) rfl (zR_if (fun hc4 => zR_go ?_) (fun hc4 => zR_go ?_))
    · rw [if_pos hc4] at h
      refine zr_steps 1 (23, [some (.ref 73), some (.int v1)], [.int (-3)], (SH, I, J)) rfl ?_
      have he := Option.some.inj h
      subst he
      exact zr_one (some (.inr (.inr (some (.int (-3)))))) rfl (zR_ret rfl rfl)
    · rw [if_neg hc4] at h
      refine zr_steps 5 (33, [some (.ref 73), some (.int v1)], [.int v1, .int (I 73 66), .ref 108], (SH, I, J)) rfl ?_
      obtain ⟨hc3, h⟩ := zbifo h
      refine zr_one (bif zin (I 73 66) 50 then zN 34 [some (.ref 73), some (.int v1)] [] (SH, (zu I 108 (I 73 66).toNatClampNeg v1), J) else none) rfl (zR_bif hc3 (zR_go ?_))
      refine zr_steps 10 (50, [some (.ref 73), some (.int v1)], [.int (((I 73 66) + 1) - 1)], (SH, (zu (zu I 108 (I 73 66).toNatClampNeg v1) 73 66 ((I 73 66) + 1)), J)) rfl ?_
      have he := Option.some.inj h
      subst he
      exact zr_one (some (.inr (.inr (some (.int (((I 73 66) + 1) - 1)))))) rfl (zR_ret rfl rfl)
set_option maxRecDepth 100000 in
set_option maxHeartbeats 4000000 in
theorem ok_f4_isBody {X : zX} {d : Nat} (hd : 0 ≤ d) (v1 : Int32) {I : (Nat → Nat → Int32)} {J : (Nat → Nat → Int64)} (t : Int32) (h : f4_isBody v1 I = some t) : zRun X d 4 0 (zent 4 [.ref 57, .int v1]) [] (SH, I, J) (some (.int t)) (SH, I, J) := by
  unfold f4_isBody at h
  refine zr_steps 1 (1, [some (.ref 57), some (.int v1)], [.int v1], (SH, I, J)) rfl ?_
  refine zr_one (if v1 < 0 then zN 16 [some (.ref 57), some (.int v1)] [] (SH, I, J) else zN 4 [some (.ref 57), some (.int v1)] [] (SH, I, J)) rfl (zR_if (fun hc2 => zR_go ?_) (fun hc2 => zR_go ?_))
  · rw [if_pos hc2] at h
    refine zr_steps 1 (17, [some (.ref 57), some (.int v1)], [.int 0], (SH, I, J)) rfl ?_
    have he := Option.some.inj h
    subst he
    exact zr_one (if ((0 : Int32) = 0 ∨ (0 : Int32) = 1) then some (.inr (.inr (some (.int 0)))) else none) rfl (zR_pos (by decide) (zR_ret rfl rfl))
  · rw [if_neg hc2] at h
    refine zr_steps 3 (9, [some (.ref 57), some (.int v1)], [.int (I 57 2), .int v1], (SH, I, J)) rfl ?_
    refine zr_one (if (I 57 2) ≤ v1 then zN 16 [some (.ref 57), some (.int v1)] [] (SH, I, J) else zN 12 [some (.ref 57), some (.int v1)] [] (SH, I, J)) rfl (zR_if (fun hc1 => zR_go ?_) (fun hc1 => zR_go ?_))
    · rw [if_pos hc1] at h
      refine zr_steps 1 (17, [some (.ref 57), some (.int v1)], [.int 0], (SH, I, J)) rfl ?_
      have he := Option.some.inj h
      subst he
      exact zr_one (if ((0 : Int32) = 0 ∨ (0 : Int32) = 1) then some (.inr (.inr (some (.int 0)))) else none) rfl (zR_pos (by decide) (zR_ret rfl rfl))
    · rw [if_neg hc1] at h
      refine zr_steps 2 (17, [some (.ref 57), some (.int v1)], [.int 1], (SH, I, J)) rfl ?_
      have he := Option.some.inj h
      subst he
      exact zr_one (if ((1 : Int32) = 0 ∨ (1 : Int32) = 1) then some (.inr (.inr (some (.int 1)))) else none) rfl (zR_pos (by decide) (zR_ret rfl rfl))
set_option maxRecDepth 100000 in
set_option maxHeartbeats 4000000 in
theorem ok_f7_begin {X : zX} {d : Nat} (hd : 0 ≤ d) (v1 : Int32) {I : (Nat → Nat → Int32)} {J : (Nat → Nat → Int64)} (t : (Nat → Nat → Int32)) (h : f7_begin v1 I = some t) : zRun X d 7 0 (zent 7 [.ref 57, .int v1]) [] (SH, I, J) none (SH, t, J) := by
  unfold f7_begin at h
  refine zr_steps 3 (6, [some (.ref 57), some (.int v1)], [.int 24, .int (I 57 3)], (SH, I, J)) rfl ?_
  refine zr_one (if (24 : Int32) ≤ (I 57 3) then zN 19 [some (.ref 57), some (.int v1)] [] (SH, I, J) else zN 9 [some (.ref 57), some (.int v1)] [] (SH, I, J)) rfl (zR_if (fun hc2 => zR_go ?_) (fun hc2 => zR_go ?_))
  · rw [if_pos hc2] at h
    refine zr_steps 6 (29, [some (.ref 57), some (.int v1)], [], (SH, (zu I 57 3 ((I 57 3) + 1)), J)) rfl ?_
    have he := Option.some.inj h
    subst he
    exact zr_one (some (.inr (.inr none))) rfl (zR_ret rfl rfl)
  · rw [if_neg hc2] at h
    refine zr_steps 5 (18, [some (.ref 57), some (.int v1)], [.int v1, .int (I 57 3), .ref 59], (SH, I, J)) rfl ?_
    obtain ⟨hc1, h⟩ := zbifo h
    refine zr_one (bif zin (I 57 3) 24 then zN 19 [some (.ref 57), some (.int v1)] [] (SH, (zu I 59 (I 57 3).toNatClampNeg v1), J) else none) rfl (zR_bif hc1 (zR_go ?_))
    refine zr_steps 6 (29, [some (.ref 57), some (.int v1)], [], (SH, (zu (zu I 59 (I 57 3).toNatClampNeg v1) 57 3 ((I 57 3) + 1)), J)) rfl ?_
    have he := Option.some.inj h
    subst he
    exact zr_one (some (.inr (.inr none))) rfl (zR_ret rfl rfl)
set_option maxRecDepth 100000 in
set_option maxHeartbeats 4000000 in
theorem okb_f8_goes {n0 : Nat} (ih : (∀ {X : zX} {d : Nat} (hd : n0 + 1 ≤ d) (v1 : Int32) (v2 : Int32) (I : (Nat → Nat → Int32)) (J : (Nat → Nat → Int64)) (t : (Int32 × (Nat → Nat → Int32))), (F8 n0) v1 v2 I = some t → zRun X d 8 0 (zent 8 [.ref 57, .int v1, .int v2]) [] (SH, I, J) (some (.int t.1)) (SH, t.2, J))) {X : zX} {d : Nat} (hd : n0 + 1 + 1 ≤ d) (v1 : Int32) (v2 : Int32) (I : (Nat → Nat → Int32)) (J : (Nat → Nat → Int64)) (t : (Int32 × (Nat → Nat → Int32))) (h : bf8_goes (F8 n0) v1 v2 I = some t) : zRun X d 8 0 (zent 8 [.ref 57, .int v1, .int v2]) [] (SH, I, J) (some (.int t.1)) (SH, t.2, J) := by
  unfold bf8_goes at h
  refine zr_steps 1 (1, [some (.ref 57), some (.int v1), some (.int v2)], [.int v1], (SH, I, J)) rfl ?_
  refine zr_one (if v1.toInt = 1 then zN 44 [some (.ref 57), some (.int v1), some (.int v2)] [] (SH, I, J) else (if v1.toInt = 2 then zN 90 [some (.ref 57), some (.int v1), some (.int v2)] [] (SH, I, J) else (if v1.toInt = 3 then zN 90 [some (.ref 57), some (.int v1), some (.int v2)] [] (SH, I, J) else (if v1.toInt = 4 then zN 44 [some (.ref 57), some (.int v1), some (.int v2)] [] (SH, I, J) else (if v1.toInt = 5 then zN 44 [some (.ref 57), some (.int v1), some (.int v2)] [] (SH, I, J) else (if v1.toInt = 6 then zN 59 [some (.ref 57), some (.int v1), some (.int v2)] [] (SH, I, J) else (if v1.toInt = 7 then zN 74 [some (.ref 57), some (.int v1), some (.int v2)] [] (SH, I, J) else zN 90 [some (.ref 57), some (.int v1), some (.int v2)] [] (SH, I, J)))))))) rfl ?_
  refine zR_if (fun hc33 => zR_go ?_) (fun hc33 => ?_)
  · rw [if_pos hc33] at h
    refine zr_steps 2 (47, [some (.ref 57), some (.int v1), some (.int v2)], [.int 20, .ref 57], (SH, I, J)) rfl ?_
    obtain ⟨t2, hc1, h⟩ := zbind h
    refine zr_one (some (.inr (.inl (7, [.ref 57, .int 20], [], 50)))) rfl (zR_call (by omega) rfl (ok_f7_begin (by omega) 20 _ hc1) ?_)
    refine zr_steps 3 (53, [some (.ref 57), some (.int v1), some (.int v2)], [.int v2, .int 0, .ref 57], (SH, t2, J)) rfl ?_
    obtain ⟨t4, hc3, h⟩ := zbind h
    refine zr_one (some (.inr (.inl (8, [.ref 57, .int 0, .int v2], [], 56)))) rfl (zR_call (by omega) rfl (ih (by omega) 0 v2 t2 J _ hc3) ?_)
    refine zr_steps 2 (58, [some (.ref 57), some (.int v1), some (.int v2)], [.int (t4.1 + 3)], (SH, t4.2, J)) rfl ?_
    have he := Option.some.inj h
    subst he
    exact zr_one (some (.inr (.inr (some (.int (t4.1 + 3)))))) rfl (zR_ret rfl rfl)
  rw [if_neg hc33] at h
  refine zR_if (fun hc32 => zR_go ?_) (fun hc32 => ?_)
  · rw [if_pos hc32] at h
    refine zr_steps 2 (92, [some (.ref 57), some (.int v1), some (.int v2)], [.int 1, .ref 57], (SH, I, J)) rfl ?_
    obtain ⟨t6, hc5, h⟩ := zbind h
    refine zr_one (some (.inr (.inl (7, [.ref 57, .int 1], [], 95)))) rfl (zR_call (by omega) rfl (ok_f7_begin (by omega) 1 _ hc5) ?_)
    refine zr_steps 4 (101, [some (.ref 57), some (.int v1), some (.int v2)], [.int (v2 + (t6 57 5))], (SH, t6, J)) rfl ?_
    have he := Option.some.inj h
    subst he
    exact zr_one (some (.inr (.inr (some (.int (v2 + (t6 57 5))))))) rfl (zR_ret rfl rfl)
  rw [if_neg hc32] at h
  refine zR_if (fun hc31 => zR_go ?_) (fun hc31 => ?_)
  · rw [if_pos hc31] at h
    refine zr_steps 2 (92, [some (.ref 57), some (.int v1), some (.int v2)], [.int 1, .ref 57], (SH, I, J)) rfl ?_
    obtain ⟨t8, hc7, h⟩ := zbind h
    refine zr_one (some (.inr (.inl (7, [.ref 57, .int 1], [], 95)))) rfl (zR_call (by omega) rfl (ok_f7_begin (by omega) 1 _ hc7) ?_)
    refine zr_steps 4 (101, [some (.ref 57), some (.int v1), some (.int v2)], [.int (v2 + (t8 57 5))], (SH, t8, J)) rfl ?_
    have he := Option.some.inj h
    subst he
    exact zr_one (some (.inr (.inr (some (.int (v2 + (t8 57 5))))))) rfl (zR_ret rfl rfl)
  rw [if_neg hc31] at h
  refine zR_if (fun hc30 => zR_go ?_) (fun hc30 => ?_)
  · rw [if_pos hc30] at h
    refine zr_steps 2 (47, [some (.ref 57), some (.int v1), some (.int v2)], [.int 20, .ref 57], (SH, I, J)) rfl ?_
    obtain ⟨t10, hc9, h⟩ := zbind h
    refine zr_one (some (.inr (.inl (7, [.ref 57, .int 20], [], 50)))) rfl (zR_call (by omega) rfl (ok_f7_begin (by omega) 20 _ hc9) ?_)
    refine zr_steps 3 (53, [some (.ref 57), some (.int v1), some (.int v2)], [.int v2, .int 0, .ref 57], (SH, t10, J)) rfl ?_
    obtain ⟨t12, hc11, h⟩ := zbind h
    refine zr_one (some (.inr (.inl (8, [.ref 57, .int 0, .int v2], [], 56)))) rfl (zR_call (by omega) rfl (ih (by omega) 0 v2 t10 J _ hc11) ?_)
    refine zr_steps 2 (58, [some (.ref 57), some (.int v1), some (.int v2)], [.int (t12.1 + 3)], (SH, t12.2, J)) rfl ?_
    have he := Option.some.inj h
    subst he
    exact zr_one (some (.inr (.inr (some (.int (t12.1 + 3)))))) rfl (zR_ret rfl rfl)
  rw [if_neg hc30] at h
  refine zR_if (fun hc29 => zR_go ?_) (fun hc29 => ?_)
  · rw [if_pos hc29] at h
    refine zr_steps 2 (47, [some (.ref 57), some (.int v1), some (.int v2)], [.int 20, .ref 57], (SH, I, J)) rfl ?_
    obtain ⟨t14, hc13, h⟩ := zbind h
    refine zr_one (some (.inr (.inl (7, [.ref 57, .int 20], [], 50)))) rfl (zR_call (by omega) rfl (ok_f7_begin (by omega) 20 _ hc13) ?_)
    refine zr_steps 3 (53, [some (.ref 57), some (.int v1), some (.int v2)], [.int v2, .int 0, .ref 57], (SH, t14, J)) rfl ?_
    obtain ⟨t16, hc15, h⟩ := zbind h
    refine zr_one (some (.inr (.inl (8, [.ref 57, .int 0, .int v2], [], 56)))) rfl (zR_call (by omega) rfl (ih (by omega) 0 v2 t14 J _ hc15) ?_)
    refine zr_steps 2 (58, [some (.ref 57), some (.int v1), some (.int v2)], [.int (t16.1 + 3)], (SH, t16.2, J)) rfl ?_
    have he := Option.some.inj h
    subst he
    exact zr_one (some (.inr (.inr (some (.int (t16.1 + 3)))))) rfl (zR_ret rfl rfl)
  rw [if_neg hc29] at h
  refine zR_if (fun hc28 => zR_go ?_) (fun hc28 => ?_)
  · rw [if_pos hc28] at h
    refine zr_steps 2 (62, [some (.ref 57), some (.int v1), some (.int v2)], [.int 70, .ref 57], (SH, I, J)) rfl ?_
    obtain ⟨t18, hc17, h⟩ := zbind h
    refine zr_one (some (.inr (.inl (7, [.ref 57, .int 70], [], 65)))) rfl (zR_call (by omega) rfl (ok_f7_begin (by omega) 70 _ hc17) ?_)
    refine zr_steps 3 (68, [some (.ref 57), some (.int v1), some (.int v2)], [.int v2, .int 0, .ref 57], (SH, t18, J)) rfl ?_
    obtain ⟨t20, hc19, h⟩ := zbind h
    refine zr_one (some (.inr (.inl (8, [.ref 57, .int 0, .int v2], [], 71)))) rfl (zR_call (by omega) rfl (ih (by omega) 0 v2 t18 J _ hc19) ?_)
    refine zr_steps 2 (73, [some (.ref 57), some (.int v1), some (.int v2)], [.int (t20.1 * 2)], (SH, t20.2, J)) rfl ?_
    have he := Option.some.inj h
    subst he
    exact zr_one (some (.inr (.inr (some (.int (t20.1 * 2)))))) rfl (zR_ret rfl rfl)
  rw [if_neg hc28] at h
  refine zR_if (fun hc27 => zR_go ?_) (fun hc27 => ?_)
  · rw [if_pos hc27] at h
    refine zr_steps 2 (77, [some (.ref 57), some (.int v1), some (.int v2)], [.int 81, .ref 57], (SH, I, J)) rfl ?_
    obtain ⟨t22, hc21, h⟩ := zbind h
    refine zr_one (some (.inr (.inl (7, [.ref 57, .int 81], [], 80)))) rfl (zR_call (by omega) rfl (ok_f7_begin (by omega) 81 _ hc21) ?_)
    refine zr_steps 3 (84, [some (.ref 57), some (.int v1), some (.int v2)], [.int v2, .int 6, .ref 57], (SH, t22, J)) rfl ?_
    obtain ⟨t24, hc23, h⟩ := zbind h
    refine zr_one (some (.inr (.inl (8, [.ref 57, .int 6, .int v2], [], 87)))) rfl (zR_call (by omega) rfl (ih (by omega) 6 v2 t22 J _ hc23) ?_)
    refine zr_steps 2 (89, [some (.ref 57), some (.int v1), some (.int v2)], [.int (t24.1 - 1)], (SH, t24.2, J)) rfl ?_
    have he := Option.some.inj h
    subst he
    exact zr_one (some (.inr (.inr (some (.int (t24.1 - 1)))))) rfl (zR_ret rfl rfl)
  rw [if_neg hc27] at h
  refine zR_go ?_
  refine zr_steps 2 (92, [some (.ref 57), some (.int v1), some (.int v2)], [.int 1, .ref 57], (SH, I, J)) rfl ?_
  obtain ⟨t26, hc25, h⟩ := zbind h
  refine zr_one (some (.inr (.inl (7, [.ref 57, .int 1], [], 95)))) rfl (zR_call (by omega) rfl (ok_f7_begin (by omega) 1 _ hc25) ?_)
  refine zr_steps 4 (101, [some (.ref 57), some (.int v1), some (.int v2)], [.int (v2 + (t26 57 5))], (SH, t26, J)) rfl ?_
  have he := Option.some.inj h
  subst he
  exact zr_one (some (.inr (.inr (some (.int (v2 + (t26 57 5))))))) rfl (zR_ret rfl rfl)
theorem okr_F8 : ∀ n : Nat, (∀ {X : zX} {d : Nat} (hd : n + 1 ≤ d) (v1 : Int32) (v2 : Int32) (I : (Nat → Nat → Int32)) (J : (Nat → Nat → Int64)) (t : (Int32 × (Nat → Nat → Int32))), (F8 n) v1 v2 I = some t → zRun X d 8 0 (zent 8 [.ref 57, .int v1, .int v2]) [] (SH, I, J) (some (.int t.1)) (SH, t.2, J)) := by
  intro n
  induction n with
  | zero => exact fun {_ _} _ _ _ _ _ _ h => by cases h
  | succ n ih => exact fun {_ _} hd v1 v2 I J t h => okb_f8_goes ih (by omega) v1 v2 I J t h
theorem ok_f8_goes {X : zX} {d n : Nat} (hd : n + 1 ≤ d) (v1 : Int32) (v2 : Int32) {I : (Nat → Nat → Int32)} {J : (Nat → Nat → Int64)} (t : (Int32 × (Nat → Nat → Int32))) (h : f8_goes n v1 v2 I = some t) : zRun X d 8 0 (zent 8 [.ref 57, .int v1, .int v2]) [] (SH, I, J) (some (.int t.1)) (SH, t.2, J) := (okr_F8 n) hd v1 v2 I J t h
set_option maxRecDepth 100000 in
set_option maxHeartbeats 4000000 in
theorem okb_f10_waits {n0 : Nat} (ih : (∀ {X : zX} {d : Nat} (hd : n0 + 202 ≤ d) (v1 : Int32) (v2 : Int32) (I : (Nat → Nat → Int32)) (J : (Nat → Nat → Int64)) (t : (Int32 × (Nat → Nat → Int32))), (F10 n0) v1 v2 I = some t → zRun X d 10 0 (zent 10 [.ref 57, .int v1, .int v2]) [] (SH, I, J) (some (.int t.1)) (SH, t.2, J))) {X : zX} {d : Nat} (hd : n0 + 1 + 202 ≤ d) (v1 : Int32) (v2 : Int32) (I : (Nat → Nat → Int32)) (J : (Nat → Nat → Int64)) (t : (Int32 × (Nat → Nat → Int32))) (h : bf10_waits (F10 n0) v1 v2 I = some t) : zRun X d 10 0 (zent 10 [.ref 57, .int v1, .int v2]) [] (SH, I, J) (some (.int t.1)) (SH, t.2, J) := by
  unfold bf10_waits at h
  refine zr_steps 1 (1, [some (.ref 57), some (.int v1), some (.int v2)], [.int v1], (SH, I, J)) rfl ?_
  refine zr_one (if v1.toInt = 3 then zN 28 [some (.ref 57), some (.int v1), some (.int v2)] [] (SH, I, J) else (if v1.toInt = 5 then zN 43 [some (.ref 57), some (.int v1), some (.int v2)] [] (SH, I, J) else zN 66 [some (.ref 57), some (.int v1), some (.int v2)] [] (SH, I, J))) rfl ?_
  refine zR_if (fun hc14 => zR_go ?_) (fun hc14 => ?_)
  · rw [if_pos hc14] at h
    refine zr_steps 2 (31, [some (.ref 57), some (.int v1), some (.int v2)], [.int 40, .ref 57], (SH, I, J)) rfl ?_
    obtain ⟨t2, hc1, h⟩ := zbind h
    refine zr_one (some (.inr (.inl (7, [.ref 57, .int 40], [], 34)))) rfl (zR_call (by omega) rfl (ok_f7_begin (by omega) 40 _ hc1) ?_)
    refine zr_steps 3 (37, [some (.ref 57), some (.int v1), some (.int v2)], [.int v2, .int 2, .ref 57], (SH, t2, J)) rfl ?_
    obtain ⟨t4, hc3, h⟩ := zbind h
    refine zr_one (some (.inr (.inl (10, [.ref 57, .int 2, .int v2], [], 40)))) rfl (zR_call (by omega) rfl (ih (by omega) 2 v2 t2 J _ hc3) ?_)
    refine zr_steps 2 (42, [some (.ref 57), some (.int v1), some (.int v2)], [.int (t4.1 * 3)], (SH, t4.2, J)) rfl ?_
    have he := Option.some.inj h
    subst he
    exact zr_one (some (.inr (.inr (some (.int (t4.1 * 3)))))) rfl (zR_ret rfl rfl)
  rw [if_neg hc14] at h
  refine zR_if (fun hc13 => zR_go ?_) (fun hc13 => ?_)
  · rw [if_pos hc13] at h
    refine zr_steps 2 (46, [some (.ref 57), some (.int v1), some (.int v2)], [.int 60, .ref 57], (SH, I, J)) rfl ?_
    obtain ⟨t6, hc5, h⟩ := zbind h
    refine zr_one (some (.inr (.inl (7, [.ref 57, .int 60], [], 49)))) rfl (zR_call (by omega) rfl (ok_f7_begin (by omega) 60 _ hc5) ?_)
    refine zr_steps 3 (52, [some (.ref 57), some (.int v1), some (.int v2)], [.int v2, .int 4, .ref 57], (SH, t6, J)) rfl ?_
    obtain ⟨t8, hc7, h⟩ := zbind h
    refine zr_one (some (.inr (.inl (10, [.ref 57, .int 4, .int v2], [], 55)))) rfl (zR_call (by omega) rfl (ih (by omega) 4 v2 t6 J _ hc7) ?_)
    refine zr_steps 4 (61, [some (.ref 57), some (.int v1), some (.int v2)], [.int 2, .int (t8.2 57 4), .ref 57, .int t8.1], (SH, t8.2, J)) rfl ?_
    obtain ⟨t10, hc9, h⟩ := zbind h
    refine zr_one (some (.inr (.inl (8, [.ref 57, .int (t8.2 57 4), .int 2], [.int t8.1], 64)))) rfl (zR_call (by omega) rfl (ok_f8_goes (by omega) (t8.2 57 4) 2 _ hc9) ?_)
    refine zr_steps 1 (65, [some (.ref 57), some (.int v1), some (.int v2)], [.int (t8.1 - t10.1)], (SH, t10.2, J)) rfl ?_
    have he := Option.some.inj h
    subst he
    exact zr_one (some (.inr (.inr (some (.int (t8.1 - t10.1)))))) rfl (zR_ret rfl rfl)
  rw [if_neg hc13] at h
  refine zR_go ?_
  refine zr_steps 2 (69, [some (.ref 57), some (.int v1), some (.int v2)], [.int 11, .ref 57], (SH, I, J)) rfl ?_
  obtain ⟨t12, hc11, h⟩ := zbind h
  refine zr_one (some (.inr (.inl (7, [.ref 57, .int 11], [], 72)))) rfl (zR_call (by omega) rfl (ok_f7_begin (by omega) 11 _ hc11) ?_)
  refine zr_steps 4 (78, [some (.ref 57), some (.int v1), some (.int v2)], [.int (v2 ^^^ (t12 57 5))], (SH, t12, J)) rfl ?_
  have he := Option.some.inj h
  subst he
  exact zr_one (some (.inr (.inr (some (.int (v2 ^^^ (t12 57 5))))))) rfl (zR_ret rfl rfl)
theorem okr_F10 : ∀ n : Nat, (∀ {X : zX} {d : Nat} (hd : n + 202 ≤ d) (v1 : Int32) (v2 : Int32) (I : (Nat → Nat → Int32)) (J : (Nat → Nat → Int64)) (t : (Int32 × (Nat → Nat → Int32))), (F10 n) v1 v2 I = some t → zRun X d 10 0 (zent 10 [.ref 57, .int v1, .int v2]) [] (SH, I, J) (some (.int t.1)) (SH, t.2, J)) := by
  intro n
  induction n with
  | zero => exact fun {_ _} _ _ _ _ _ _ h => by cases h
  | succ n ih => exact fun {_ _} hd v1 v2 I J t h => okb_f10_waits ih (by omega) v1 v2 I J t h
theorem ok_f10_waits {X : zX} {d n : Nat} (hd : n + 202 ≤ d) (v1 : Int32) (v2 : Int32) {I : (Nat → Nat → Int32)} {J : (Nat → Nat → Int64)} (t : (Int32 × (Nat → Nat → Int32))) (h : f10_waits n v1 v2 I = some t) : zRun X d 10 0 (zent 10 [.ref 57, .int v1, .int v2]) [] (SH, I, J) (some (.int t.1)) (SH, t.2, J) := (okr_F10 n) hd v1 v2 I J t h
set_option maxRecDepth 100000 in
set_option maxHeartbeats 4000000 in
theorem okb_f9_sees {n0 : Nat} (ih : (∀ {X : zX} {d : Nat} (hd : n0 + 403 ≤ d) (v1 : Int32) (v2 : Int32) (I : (Nat → Nat → Int32)) (J : (Nat → Nat → Int64)) (t : (Int32 × (Nat → Nat → Int32))), (F9 n0) v1 v2 I = some t → zRun X d 9 0 (zent 9 [.ref 57, .int v1, .int v2]) [] (SH, I, J) (some (.int t.1)) (SH, t.2, J))) {X : zX} {d : Nat} (hd : n0 + 1 + 403 ≤ d) (v1 : Int32) (v2 : Int32) (I : (Nat → Nat → Int32)) (J : (Nat → Nat → Int64)) (t : (Int32 × (Nat → Nat → Int32))) (h : bf9_sees (F9 n0) v1 v2 I = some t) : zRun X d 9 0 (zent 9 [.ref 57, .int v1, .int v2]) [] (SH, I, J) (some (.int t.1)) (SH, t.2, J) := by
  unfold bf9_sees at h
  refine zr_steps 1 (1, [some (.ref 57), some (.int v1), some (.int v2)], [.int v1], (SH, I, J)) rfl ?_
  refine zr_one (if v1.toInt = 2 then zN 36 [some (.ref 57), some (.int v1), some (.int v2)] [] (SH, I, J) else (if v1.toInt = 3 then zN 50 [some (.ref 57), some (.int v1), some (.int v2)] [] (SH, I, J) else (if v1.toInt = 7 then zN 65 [some (.ref 57), some (.int v1), some (.int v2)] [] (SH, I, J) else zN 89 [some (.ref 57), some (.int v1), some (.int v2)] [] (SH, I, J)))) rfl ?_
  refine zR_if (fun hc21 => zR_go ?_) (fun hc21 => ?_)
  · rw [if_pos hc21] at h
    refine zr_steps 2 (39, [some (.ref 57), some (.int v1), some (.int v2)], [.int 30, .ref 57], (SH, I, J)) rfl ?_
    obtain ⟨t2, hc1, h⟩ := zbind h
    refine zr_one (some (.inr (.inl (7, [.ref 57, .int 30], [], 42)))) rfl (zR_call (by omega) rfl (ok_f7_begin (by omega) 30 _ hc1) ?_)
    refine zr_steps 3 (45, [some (.ref 57), some (.int v1), some (.int v2)], [.int v2, .int 0, .ref 57], (SH, t2, J)) rfl ?_
    obtain ⟨t4, hc3, h⟩ := zbind h
    refine zr_one (some (.inr (.inl (9, [.ref 57, .int 0, .int v2], [], 48)))) rfl (zR_call (by omega) rfl (ih (by omega) 0 v2 t2 J _ hc3) ?_)
    refine zr_steps 1 (49, [some (.ref 57), some (.int v1), some (.int v2)], [.int (-t4.1)], (SH, t4.2, J)) rfl ?_
    have he := Option.some.inj h
    subst he
    exact zr_one (some (.inr (.inr (some (.int (-t4.1)))))) rfl (zR_ret rfl rfl)
  rw [if_neg hc21] at h
  refine zR_if (fun hc20 => zR_go ?_) (fun hc20 => ?_)
  · rw [if_pos hc20] at h
    refine zr_steps 2 (53, [some (.ref 57), some (.int v1), some (.int v2)], [.int 41, .ref 57], (SH, I, J)) rfl ?_
    obtain ⟨t6, hc5, h⟩ := zbind h
    refine zr_one (some (.inr (.inl (7, [.ref 57, .int 41], [], 56)))) rfl (zR_call (by omega) rfl (ok_f7_begin (by omega) 41 _ hc5) ?_)
    refine zr_steps 5 (61, [some (.ref 57), some (.int v1), some (.int v2)], [.int (v2 + 1), .int 2, .ref 57], (SH, t6, J)) rfl ?_
    obtain ⟨t8, hc7, h⟩ := zbind h
    refine zr_one (some (.inr (.inl (9, [.ref 57, .int 2, .int (v2 + 1)], [], 64)))) rfl (zR_call (by omega) rfl (ih (by omega) 2 (v2 + 1) t6 J _ hc7) ?_)
    have he := Option.some.inj h
    subst he
    exact zr_one (some (.inr (.inr (some (.int t8.1))))) rfl (zR_ret rfl rfl)
  rw [if_neg hc20] at h
  refine zR_if (fun hc19 => zR_go ?_) (fun hc19 => ?_)
  · rw [if_pos hc19] at h
    refine zr_steps 2 (68, [some (.ref 57), some (.int v1), some (.int v2)], [.int 80, .ref 57], (SH, I, J)) rfl ?_
    obtain ⟨t10, hc9, h⟩ := zbind h
    refine zr_one (some (.inr (.inl (7, [.ref 57, .int 80], [], 71)))) rfl (zR_call (by omega) rfl (ok_f7_begin (by omega) 80 _ hc9) ?_)
    refine zr_steps 3 (75, [some (.ref 57), some (.int v1), some (.int v2)], [.int v2, .int 6, .ref 57], (SH, t10, J)) rfl ?_
    obtain ⟨t12, hc11, h⟩ := zbind h
    refine zr_one (some (.inr (.inl (9, [.ref 57, .int 6, .int v2], [], 78)))) rfl (zR_call (by omega) rfl (ih (by omega) 6 v2 t10 J _ hc11) ?_)
    refine zr_steps 4 (84, [some (.ref 57), some (.int v1), some (.int v2)], [.int 2, .int (t12.2 57 4), .ref 57, .int t12.1], (SH, t12.2, J)) rfl ?_
    obtain ⟨t14, hc13, h⟩ := zbind h
    refine zr_one (some (.inr (.inl (10, [.ref 57, .int (t12.2 57 4), .int 2], [.int t12.1], 87)))) rfl (zR_call (by omega) rfl (ok_f10_waits (by omega) (t12.2 57 4) 2 _ hc13) ?_)
    refine zr_steps 1 (88, [some (.ref 57), some (.int v1), some (.int v2)], [.int (t12.1 + t14.1)], (SH, t14.2, J)) rfl ?_
    have he := Option.some.inj h
    subst he
    exact zr_one (some (.inr (.inr (some (.int (t12.1 + t14.1)))))) rfl (zR_ret rfl rfl)
  rw [if_neg hc19] at h
  refine zR_go ?_
  refine zr_steps 2 (92, [some (.ref 57), some (.int v1), some (.int v2)], [.int 10, .ref 57], (SH, I, J)) rfl ?_
  obtain ⟨t16, hc15, h⟩ := zbind h
  refine zr_one (some (.inr (.inl (7, [.ref 57, .int 10], [], 95)))) rfl (zR_call (by omega) rfl (ok_f7_begin (by omega) 10 _ hc15) ?_)
  refine zr_steps 4 (101, [some (.ref 57), some (.int v1), some (.int v2)], [.int v2, .int (t16 57 4), .ref 57], (SH, t16, J)) rfl ?_
  obtain ⟨t18, hc17, h⟩ := zbind h
  refine zr_one (some (.inr (.inl (8, [.ref 57, .int (t16 57 4), .int v2], [], 104)))) rfl (zR_call (by omega) rfl (ok_f8_goes (by omega) (t16 57 4) v2 _ hc17) ?_)
  refine zr_steps 2 (106, [some (.ref 57), some (.int v1), some (.int v2)], [.int (t18.1 * 2)], (SH, t18.2, J)) rfl ?_
  have he := Option.some.inj h
  subst he
  exact zr_one (some (.inr (.inr (some (.int (t18.1 * 2)))))) rfl (zR_ret rfl rfl)
theorem okr_F9 : ∀ n : Nat, (∀ {X : zX} {d : Nat} (hd : n + 403 ≤ d) (v1 : Int32) (v2 : Int32) (I : (Nat → Nat → Int32)) (J : (Nat → Nat → Int64)) (t : (Int32 × (Nat → Nat → Int32))), (F9 n) v1 v2 I = some t → zRun X d 9 0 (zent 9 [.ref 57, .int v1, .int v2]) [] (SH, I, J) (some (.int t.1)) (SH, t.2, J)) := by
  intro n
  induction n with
  | zero => exact fun {_ _} _ _ _ _ _ _ h => by cases h
  | succ n ih => exact fun {_ _} hd v1 v2 I J t h => okb_f9_sees ih (by omega) v1 v2 I J t h
theorem ok_f9_sees {X : zX} {d n : Nat} (hd : n + 403 ≤ d) (v1 : Int32) (v2 : Int32) {I : (Nat → Nat → Int32)} {J : (Nat → Nat → Int64)} (t : (Int32 × (Nat → Nat → Int32))) (h : f9_sees n v1 v2 I = some t) : zRun X d 9 0 (zent 9 [.ref 57, .int v1, .int v2]) [] (SH, I, J) (some (.int t.1)) (SH, t.2, J) := (okr_F9 n) hd v1 v2 I J t h
set_option maxRecDepth 100000 in
set_option maxHeartbeats 4000000 in
theorem okb_f11_tells {n0 : Nat} (ih : (∀ {X : zX} {d : Nat} (hd : n0 + 604 ≤ d) (v1 : Int32) (v2 : Int32) (I : (Nat → Nat → Int32)) (J : (Nat → Nat → Int64)) (t : (Int32 × (Nat → Nat → Int32))), (F11 n0) v1 v2 I = some t → zRun X d 11 0 (zent 11 [.ref 57, .int v1, .int v2]) [] (SH, I, J) (some (.int t.1)) (SH, t.2, J))) {X : zX} {d : Nat} (hd : n0 + 1 + 604 ≤ d) (v1 : Int32) (v2 : Int32) (I : (Nat → Nat → Int32)) (J : (Nat → Nat → Int64)) (t : (Int32 × (Nat → Nat → Int32))) (h : bf11_tells (F11 n0) v1 v2 I = some t) : zRun X d 11 0 (zent 11 [.ref 57, .int v1, .int v2]) [] (SH, I, J) (some (.int t.1)) (SH, t.2, J) := by
  unfold bf11_tells at h
  refine zr_steps 1 (1, [some (.ref 57), some (.int v1), some (.int v2)], [.int v1], (SH, I, J)) rfl ?_
  refine zr_one (if v1.toInt = 4 then zN 28 [some (.ref 57), some (.int v1), some (.int v2)] [] (SH, I, J) else (if v1.toInt = 5 then zN 43 [some (.ref 57), some (.int v1), some (.int v2)] [] (SH, I, J) else zN 58 [some (.ref 57), some (.int v1), some (.int v2)] [] (SH, I, J))) rfl ?_
  refine zR_if (fun hc16 => zR_go ?_) (fun hc16 => ?_)
  · rw [if_pos hc16] at h
    refine zr_steps 2 (31, [some (.ref 57), some (.int v1), some (.int v2)], [.int 50, .ref 57], (SH, I, J)) rfl ?_
    obtain ⟨t2, hc1, h⟩ := zbind h
    refine zr_one (some (.inr (.inl (7, [.ref 57, .int 50], [], 34)))) rfl (zR_call (by omega) rfl (ok_f7_begin (by omega) 50 _ hc1) ?_)
    refine zr_steps 3 (37, [some (.ref 57), some (.int v1), some (.int v2)], [.int v2, .int 1, .ref 57], (SH, t2, J)) rfl ?_
    obtain ⟨t4, hc3, h⟩ := zbind h
    refine zr_one (some (.inr (.inl (11, [.ref 57, .int 1, .int v2], [], 40)))) rfl (zR_call (by omega) rfl (ih (by omega) 1 v2 t2 J _ hc3) ?_)
    refine zr_steps 2 (42, [some (.ref 57), some (.int v1), some (.int v2)], [.int (t4.1 ^^^ 5)], (SH, t4.2, J)) rfl ?_
    have he := Option.some.inj h
    subst he
    exact zr_one (some (.inr (.inr (some (.int (t4.1 ^^^ 5)))))) rfl (zR_ret rfl rfl)
  rw [if_neg hc16] at h
  refine zR_if (fun hc15 => zR_go ?_) (fun hc15 => ?_)
  · rw [if_pos hc15] at h
    refine zr_steps 2 (46, [some (.ref 57), some (.int v1), some (.int v2)], [.int 61, .ref 57], (SH, I, J)) rfl ?_
    obtain ⟨t6, hc5, h⟩ := zbind h
    refine zr_one (some (.inr (.inl (7, [.ref 57, .int 61], [], 49)))) rfl (zR_call (by omega) rfl (ok_f7_begin (by omega) 61 _ hc5) ?_)
    refine zr_steps 3 (52, [some (.ref 57), some (.int v1), some (.int v2)], [.int v2, .int 4, .ref 57], (SH, t6, J)) rfl ?_
    obtain ⟨t8, hc7, h⟩ := zbind h
    refine zr_one (some (.inr (.inl (11, [.ref 57, .int 4, .int v2], [], 55)))) rfl (zR_call (by omega) rfl (ih (by omega) 4 v2 t6 J _ hc7) ?_)
    refine zr_steps 2 (57, [some (.ref 57), some (.int v1), some (.int v2)], [.int (t8.1 + 1)], (SH, t8.2, J)) rfl ?_
    have he := Option.some.inj h
    subst he
    exact zr_one (some (.inr (.inr (some (.int (t8.1 + 1)))))) rfl (zR_ret rfl rfl)
  rw [if_neg hc15] at h
  refine zR_go ?_
  refine zr_steps 2 (60, [some (.ref 57), some (.int v1), some (.int v2)], [.int 2, .ref 57], (SH, I, J)) rfl ?_
  obtain ⟨t10, hc9, h⟩ := zbind h
  refine zr_one (some (.inr (.inl (7, [.ref 57, .int 2], [], 63)))) rfl (zR_call (by omega) rfl (ok_f7_begin (by omega) 2 _ hc9) ?_)
  refine zr_steps 4 (69, [some (.ref 57), some (.int v1), some (.int v2)], [.int v2, .int (t10 57 4), .ref 57], (SH, t10, J)) rfl ?_
  obtain ⟨t12, hc11, h⟩ := zbind h
  refine zr_one (some (.inr (.inl (9, [.ref 57, .int (t10 57 4), .int v2], [], 72)))) rfl (zR_call (by omega) rfl (ok_f9_sees (by omega) (t10 57 4) v2 _ hc11) ?_)
  refine zr_steps 4 (78, [some (.ref 57), some (.int v1), some (.int v2)], [.int 1, .int (t12.2 57 4), .ref 57, .int t12.1], (SH, t12.2, J)) rfl ?_
  obtain ⟨t14, hc13, h⟩ := zbind h
  refine zr_one (some (.inr (.inl (10, [.ref 57, .int (t12.2 57 4), .int 1], [.int t12.1], 81)))) rfl (zR_call (by omega) rfl (ok_f10_waits (by omega) (t12.2 57 4) 1 _ hc13) ?_)
  refine zr_steps 1 (82, [some (.ref 57), some (.int v1), some (.int v2)], [.int (t12.1 - t14.1)], (SH, t14.2, J)) rfl ?_
  have he := Option.some.inj h
  subst he
  exact zr_one (some (.inr (.inr (some (.int (t12.1 - t14.1)))))) rfl (zR_ret rfl rfl)
theorem okr_F11 : ∀ n : Nat, (∀ {X : zX} {d : Nat} (hd : n + 604 ≤ d) (v1 : Int32) (v2 : Int32) (I : (Nat → Nat → Int32)) (J : (Nat → Nat → Int64)) (t : (Int32 × (Nat → Nat → Int32))), (F11 n) v1 v2 I = some t → zRun X d 11 0 (zent 11 [.ref 57, .int v1, .int v2]) [] (SH, I, J) (some (.int t.1)) (SH, t.2, J)) := by
  intro n
  induction n with
  | zero => exact fun {_ _} _ _ _ _ _ _ h => by cases h
  | succ n ih => exact fun {_ _} hd v1 v2 I J t h => okb_f11_tells ih (by omega) v1 v2 I J t h
theorem ok_f11_tells {X : zX} {d n : Nat} (hd : n + 604 ≤ d) (v1 : Int32) (v2 : Int32) {I : (Nat → Nat → Int32)} {J : (Nat → Nat → Int64)} (t : (Int32 × (Nat → Nat → Int32))) (h : f11_tells n v1 v2 I = some t) : zRun X d 11 0 (zent 11 [.ref 57, .int v1, .int v2]) [] (SH, I, J) (some (.int t.1)) (SH, t.2, J) := (okr_F11 n) hd v1 v2 I J t h
set_option maxRecDepth 100000 in
set_option maxHeartbeats 4000000 in
theorem ok_f6_play {X : zX} {d : Nat} (hd : 805 ≤ d) (v1 : Int32) (v2 : Int32) (v3 : Int32) {I : (Nat → Nat → Int32)} {J : (Nat → Nat → Int64)} (t : (Int32 × (Nat → Nat → Int32))) (h : f6_play v1 v2 v3 I = some t) : zRun X d 6 0 (zent 6 [.ref 57, .int v1, .int v2, .int v3]) [] (SH, I, J) (some (.int t.1)) (SH, t.2, J) := by
  unfold f6_play at h
  refine zr_steps 5 (7, [some (.ref 57), some (.int v1), some (.int v2), some (.int v3)], [.int v1, .ref 57], (SH, (zu I 57 3 0), J)) rfl ?_
  obtain ⟨t2, hc1, h⟩ := zbind h
  refine zr_one (some (.inr (.inl (4, [.ref 57, .int v1], [], 10)))) rfl (zR_call (by omega) rfl (ok_f4_isBody (by omega) v1 _ hc1) ?_)
  refine zr_one (if t2 = 0 then zN 13 [some (.ref 57), some (.int v1), some (.int v2), some (.int v3)] [] (SH, (zu I 57 3 0), J) else zN 15 [some (.ref 57), some (.int v1), some (.int v2), some (.int v3)] [] (SH, (zu I 57 3 0), J)) rfl (zR_if (fun hc16 => zR_go ?_) (fun hc16 => zR_go ?_))
  · rw [if_pos hc16] at h
    refine zr_steps 1 (14, [some (.ref 57), some (.int v1), some (.int v2), some (.int v3)], [.int 0], (SH, (zu I 57 3 0), J)) rfl ?_
    have he := Option.some.inj h
    subst he
    exact zr_one (some (.inr (.inr (some (.int 0))))) rfl (zR_ret rfl rfl)
  · rw [if_neg hc16] at h
    refine zr_steps 4 (21, [some (.ref 57), some (.int v1), some (.int v2), some (.int v3)], [.int v1, .ref 58, .ref 57], (SH, (zu I 57 3 0), J)) rfl ?_
    obtain ⟨hc3, h⟩ := zbifo h
    refine zr_one (bif zin v1 50 then zN 22 [some (.ref 57), some (.int v1), some (.int v2), some (.int v3)] [.int (I 58 v1.toNatClampNeg), .ref 57] (SH, (zu I 57 3 0), J) else none) rfl (zR_bif hc3 (zR_go ?_))
    refine zr_steps 5 (31, [some (.ref 57), some (.int v1), some (.int v2), some (.int v3)], [.int v2], (SH, (zu (zu (zu I 57 3 0) 57 4 (I 58 v1.toNatClampNeg)) 57 5 v1), J)) rfl ?_
    refine zr_one (if v2.toInt = 0 then zN 60 [some (.ref 57), some (.int v1), some (.int v2), some (.int v3)] [] (SH, (zu (zu (zu I 57 3 0) 57 4 (I 58 v1.toNatClampNeg)) 57 5 v1), J) else (if v2.toInt = 1 then zN 70 [some (.ref 57), some (.int v1), some (.int v2), some (.int v3)] [] (SH, (zu (zu (zu I 57 3 0) 57 4 (I 58 v1.toNatClampNeg)) 57 5 v1), J) else (if v2.toInt = 2 then zN 80 [some (.ref 57), some (.int v1), some (.int v2), some (.int v3)] [] (SH, (zu (zu (zu I 57 3 0) 57 4 (I 58 v1.toNatClampNeg)) 57 5 v1), J) else (if v2.toInt = 3 then zN 90 [some (.ref 57), some (.int v1), some (.int v2), some (.int v3)] [] (SH, (zu (zu (zu I 57 3 0) 57 4 (I 58 v1.toNatClampNeg)) 57 5 v1), J) else zN 100 [some (.ref 57), some (.int v1), some (.int v2), some (.int v3)] [] (SH, (zu (zu (zu I 57 3 0) 57 4 (I 58 v1.toNatClampNeg)) 57 5 v1), J))))) rfl ?_
    refine zR_if (fun hc15 => zR_go ?_) (fun hc15 => ?_)
    · rw [if_pos hc15] at h
      refine zr_steps 4 (66, [some (.ref 57), some (.int v1), some (.int v2), some (.int v3)], [.int v3, .int (I 58 v1.toNatClampNeg), .ref 57], (SH, (zu (zu (zu I 57 3 0) 57 4 (I 58 v1.toNatClampNeg)) 57 5 v1), J)) rfl ?_
      obtain ⟨t5, hc4, h⟩ := zbind h
      refine zr_one (some (.inr (.inl (8, [.ref 57, .int (I 58 v1.toNatClampNeg), .int v3], [], 69)))) rfl (zR_call (by omega) rfl (ok_f8_goes (by omega) (I 58 v1.toNatClampNeg) v3 _ hc4) ?_)
      have he := Option.some.inj h
      subst he
      exact zr_one (some (.inr (.inr (some (.int t5.1))))) rfl (zR_ret rfl rfl)
    rw [if_neg hc15] at h
    refine zR_if (fun hc14 => zR_go ?_) (fun hc14 => ?_)
    · rw [if_pos hc14] at h
      refine zr_steps 4 (76, [some (.ref 57), some (.int v1), some (.int v2), some (.int v3)], [.int v3, .int (I 58 v1.toNatClampNeg), .ref 57], (SH, (zu (zu (zu I 57 3 0) 57 4 (I 58 v1.toNatClampNeg)) 57 5 v1), J)) rfl ?_
      obtain ⟨t7, hc6, h⟩ := zbind h
      refine zr_one (some (.inr (.inl (9, [.ref 57, .int (I 58 v1.toNatClampNeg), .int v3], [], 79)))) rfl (zR_call (by omega) rfl (ok_f9_sees (by omega) (I 58 v1.toNatClampNeg) v3 _ hc6) ?_)
      have he := Option.some.inj h
      subst he
      exact zr_one (some (.inr (.inr (some (.int t7.1))))) rfl (zR_ret rfl rfl)
    rw [if_neg hc14] at h
    refine zR_if (fun hc13 => zR_go ?_) (fun hc13 => ?_)
    · rw [if_pos hc13] at h
      refine zr_steps 4 (86, [some (.ref 57), some (.int v1), some (.int v2), some (.int v3)], [.int v3, .int (I 58 v1.toNatClampNeg), .ref 57], (SH, (zu (zu (zu I 57 3 0) 57 4 (I 58 v1.toNatClampNeg)) 57 5 v1), J)) rfl ?_
      obtain ⟨t9, hc8, h⟩ := zbind h
      refine zr_one (some (.inr (.inl (10, [.ref 57, .int (I 58 v1.toNatClampNeg), .int v3], [], 89)))) rfl (zR_call (by omega) rfl (ok_f10_waits (by omega) (I 58 v1.toNatClampNeg) v3 _ hc8) ?_)
      have he := Option.some.inj h
      subst he
      exact zr_one (some (.inr (.inr (some (.int t9.1))))) rfl (zR_ret rfl rfl)
    rw [if_neg hc13] at h
    refine zR_if (fun hc12 => zR_go ?_) (fun hc12 => ?_)
    · rw [if_pos hc12] at h
      refine zr_steps 4 (96, [some (.ref 57), some (.int v1), some (.int v2), some (.int v3)], [.int v3, .int (I 58 v1.toNatClampNeg), .ref 57], (SH, (zu (zu (zu I 57 3 0) 57 4 (I 58 v1.toNatClampNeg)) 57 5 v1), J)) rfl ?_
      obtain ⟨t11, hc10, h⟩ := zbind h
      refine zr_one (some (.inr (.inl (11, [.ref 57, .int (I 58 v1.toNatClampNeg), .int v3], [], 99)))) rfl (zR_call (by omega) rfl (ok_f11_tells (by omega) (I 58 v1.toNatClampNeg) v3 _ hc10) ?_)
      have he := Option.some.inj h
      subst he
      exact zr_one (some (.inr (.inr (some (.int t11.1))))) rfl (zR_ret rfl rfl)
    rw [if_neg hc12] at h
    refine zR_go ?_
    refine zr_steps 1 (101, [some (.ref 57), some (.int v1), some (.int v2), some (.int v3)], [.int 0], (SH, (zu (zu (zu I 57 3 0) 57 4 (I 58 v1.toNatClampNeg)) 57 5 v1), J)) rfl ?_
    have he := Option.some.inj h
    subst he
    exact zr_one (some (.inr (.inr (some (.int 0))))) rfl (zR_ret rfl rfl)
set_option maxRecDepth 100000 in
set_option maxHeartbeats 4000000 in
theorem ok_f116_act {X : zX} {d : Nat} (hd : 806 ≤ d) (v1 : Int32) (v2 : Int32) (v3 : Int32) {I : (Nat → Nat → Int32)} {J : (Nat → Nat → Int64)} (t : (Int32 × (Nat → Nat → Int32))) (h : f116_act v1 v2 v3 I = some t) : zRun X d 116 0 (zent 116 [.ref 0, .int v1, .int v2, .int v3]) [] (SH, I, J) (some (.int t.1)) (SH, t.2, J) := by
  unfold f116_act at h
  refine zr_steps 5 (7, [some (.ref 0), some (.int v1), some (.int v2), some (.int v3)], [.int v3, .int v2, .int v1, .ref 57], (SH, I, J)) rfl ?_
  obtain ⟨t2, hc1, h⟩ := zbind h
  refine zr_one (some (.inr (.inl (6, [.ref 57, .int v1, .int v2, .int v3], [], 10)))) rfl (zR_call (by omega) rfl (ok_f6_play (by omega) v1 v2 v3 _ hc1) ?_)
  have he := Option.some.inj h
  subst he
  exact zr_one (some (.inr (.inr (some (.int t2.1))))) rfl (zR_ret rfl rfl)
set_option maxRecDepth 100000 in
set_option maxHeartbeats 4000000 in
theorem ok_f192_isBody {X : zX} {d : Nat} (hd : 1 ≤ d) (v1 : Int32) {I : (Nat → Nat → Int32)} {J : (Nat → Nat → Int64)} (t : Int32) (h : f192_isBody v1 I = some t) : zRun X d 192 0 (zent 192 [.ref 73, .int v1]) [] (SH, I, J) (some (.int t)) (SH, I, J) := by
  unfold f192_isBody at h
  refine zr_steps 6 (8, [some (.ref 73), some (.int v1)], [.int ((I 73 66) - 1), .int 0, .int v1], (SH, I, J)) rfl ?_
  obtain ⟨t2, hc1, h⟩ := zbind h
  refine zr_one (some (.inr (.inl (129, [.int v1, .int 0, .int ((I 73 66) - 1)], [], 11)))) rfl (zR_call (by omega) rfl (ok_f129_in (by omega) v1 0 ((I 73 66) - 1) _ hc1) ?_)
  obtain ⟨hc3, h⟩ := zifo h
  have he := Option.some.inj h
  subst he
  exact zr_one (if ((t2 : Int32) = 0 ∨ (t2 : Int32) = 1) then some (.inr (.inr (some (.int t2)))) else none) rfl (zR_pos hc3 (zR_ret rfl rfl))
set_option maxRecDepth 100000 in
set_option maxHeartbeats 4000000 in
theorem ok_f196_isUnder {X : zX} {d : Nat} (hd : 0 ≤ d) (v0 : Int32) (v1 : Int32) {I : (Nat → Nat → Int32)} {J : (Nat → Nat → Int64)} (t : Int32) (h : f196_isUnder v0 v1 = some t) : zRun X d 196 0 (zent 196 [.int v0, .int v1]) [] (SH, I, J) (some (.int t)) (SH, I, J) := by
  unfold f196_isUnder at h
  refine zr_steps 1 (1, [some (.int v0), some (.int v1)], [.int v1], (SH, I, J)) rfl ?_
  refine zr_one (if v1 = 0 then zN 56 [some (.int v0), some (.int v1)] [] (SH, I, J) else zN 4 [some (.int v0), some (.int v1)] [] (SH, I, J)) rfl (zR_if (fun hc33 => zR_go ?_) (fun hc33 => zR_go ?_))
  · rw [if_pos hc33] at h
    refine zr_steps 2 (61, [some (.int v0), some (.int v1)], [.int 1], (SH, I, J)) rfl ?_
    have he := Option.some.inj h
    subst he
    exact zr_one (if ((1 : Int32) = 0 ∨ (1 : Int32) = 1) then some (.inr (.inr (some (.int 1)))) else none) rfl (zR_pos (by decide) (zR_ret rfl rfl))
  · rw [if_neg hc33] at h
    refine zr_steps 2 (6, [some (.int v0), some (.int v1)], [.int v1, .int v0], (SH, I, J)) rfl ?_
    refine zr_one (if v0 = v1 then zN 56 [some (.int v0), some (.int v1)] [] (SH, I, J) else zN 9 [some (.int v0), some (.int v1)] [] (SH, I, J)) rfl (zR_if (fun hc32 => zR_go ?_) (fun hc32 => zR_go ?_))
    · rw [if_pos hc32] at h
      refine zr_steps 2 (61, [some (.int v0), some (.int v1)], [.int 1], (SH, I, J)) rfl ?_
      have he := Option.some.inj h
      subst he
      exact zr_one (if ((1 : Int32) = 0 ∨ (1 : Int32) = 1) then some (.inr (.inr (some (.int 1)))) else none) rfl (zR_pos (by decide) (zR_ret rfl rfl))
    · rw [if_neg hc32] at h
      refine zr_steps 2 (11, [some (.int v0), some (.int v1)], [.int 1, .int v1], (SH, I, J)) rfl ?_
      refine zr_one (if v1 = 1 then zN 14 [some (.int v0), some (.int v1)] [] (SH, I, J) else zN 24 [some (.int v0), some (.int v1)] [] (SH, I, J)) rfl (zR_if (fun hc31 => zR_go ?_) (fun hc31 => zR_go ?_))
      · rw [if_pos hc31] at h
        refine zr_steps 2 (16, [some (.int v0), some (.int v1)], [.int 4, .int v0], (SH, I, J)) rfl ?_
        refine zr_one (if v0 = 4 then zN 56 [some (.int v0), some (.int v1)] [] (SH, I, J) else zN 19 [some (.int v0), some (.int v1)] [] (SH, I, J)) rfl (zR_if (fun hc16 => zR_go ?_) (fun hc16 => zR_go ?_))
        · rw [if_pos hc16] at h
          refine zr_steps 2 (61, [some (.int v0), some (.int v1)], [.int 1], (SH, I, J)) rfl ?_
          have he := Option.some.inj h
          subst he
          exact zr_one (if ((1 : Int32) = 0 ∨ (1 : Int32) = 1) then some (.inr (.inr (some (.int 1)))) else none) rfl (zR_pos (by decide) (zR_ret rfl rfl))
        · rw [if_neg hc16] at h
          refine zr_steps 2 (21, [some (.int v0), some (.int v1)], [.int 5, .int v0], (SH, I, J)) rfl ?_
          refine zr_one (if v0 = 5 then zN 56 [some (.int v0), some (.int v1)] [] (SH, I, J) else zN 24 [some (.int v0), some (.int v1)] [] (SH, I, J)) rfl (zR_if (fun hc15 => zR_go ?_) (fun hc15 => zR_go ?_))
          · rw [if_pos hc15] at h
            refine zr_steps 2 (61, [some (.int v0), some (.int v1)], [.int 1], (SH, I, J)) rfl ?_
            have he := Option.some.inj h
            subst he
            exact zr_one (if ((1 : Int32) = 0 ∨ (1 : Int32) = 1) then some (.inr (.inr (some (.int 1)))) else none) rfl (zR_pos (by decide) (zR_ret rfl rfl))
          · rw [if_neg hc15] at h
            refine zr_steps 2 (26, [some (.int v0), some (.int v1)], [.int 2, .int v1], (SH, I, J)) rfl ?_
            refine zr_one (if v1 = 2 then zN 29 [some (.int v0), some (.int v1)] [] (SH, I, J) else zN 34 [some (.int v0), some (.int v1)] [] (SH, I, J)) rfl (zR_if (fun hc14 => zR_go ?_) (fun hc14 => zR_go ?_))
            · rw [if_pos hc14] at h
              refine zr_steps 2 (31, [some (.int v0), some (.int v1)], [.int 3, .int v0], (SH, I, J)) rfl ?_
              refine zr_one (if v0 = 3 then zN 56 [some (.int v0), some (.int v1)] [] (SH, I, J) else zN 34 [some (.int v0), some (.int v1)] [] (SH, I, J)) rfl (zR_if (fun hc7 => zR_go ?_) (fun hc7 => zR_go ?_))
              · rw [if_pos hc7] at h
                refine zr_steps 2 (61, [some (.int v0), some (.int v1)], [.int 1], (SH, I, J)) rfl ?_
                have he := Option.some.inj h
                subst he
                exact zr_one (if ((1 : Int32) = 0 ∨ (1 : Int32) = 1) then some (.inr (.inr (some (.int 1)))) else none) rfl (zR_pos (by decide) (zR_ret rfl rfl))
              · rw [if_neg hc7] at h
                refine zr_steps 2 (36, [some (.int v0), some (.int v1)], [.int 4, .int v1], (SH, I, J)) rfl ?_
                refine zr_one (if v1 = 4 then zN 39 [some (.int v0), some (.int v1)] [] (SH, I, J) else zN 44 [some (.int v0), some (.int v1)] [] (SH, I, J)) rfl (zR_if (fun hc6 => zR_go ?_) (fun hc6 => zR_go ?_))
                · rw [if_pos hc6] at h
                  refine zr_steps 2 (41, [some (.int v0), some (.int v1)], [.int 5, .int v0], (SH, I, J)) rfl ?_
                  refine zr_one (if v0 = 5 then zN 56 [some (.int v0), some (.int v1)] [] (SH, I, J) else zN 44 [some (.int v0), some (.int v1)] [] (SH, I, J)) rfl (zR_if (fun hc3 => zR_go ?_) (fun hc3 => zR_go ?_))
                  · rw [if_pos hc3] at h
                    refine zr_steps 2 (61, [some (.int v0), some (.int v1)], [.int 1], (SH, I, J)) rfl ?_
                    have he := Option.some.inj h
                    subst he
                    exact zr_one (if ((1 : Int32) = 0 ∨ (1 : Int32) = 1) then some (.inr (.inr (some (.int 1)))) else none) rfl (zR_pos (by decide) (zR_ret rfl rfl))
                  · rw [if_neg hc3] at h
                    refine zr_steps 2 (47, [some (.int v0), some (.int v1)], [.int 6, .int v1], (SH, I, J)) rfl ?_
                    refine zr_one (if v1 = 6 then zN 50 [some (.int v0), some (.int v1)] [] (SH, I, J) else zN 60 [some (.int v0), some (.int v1)] [] (SH, I, J)) rfl (zR_if (fun hc2 => zR_go ?_) (fun hc2 => zR_go ?_))
                    · rw [if_pos hc2] at h
                      refine zr_steps 2 (53, [some (.int v0), some (.int v1)], [.int 7, .int v0], (SH, I, J)) rfl ?_
                      refine zr_one (if v0 = 7 then zN 56 [some (.int v0), some (.int v1)] [] (SH, I, J) else zN 60 [some (.int v0), some (.int v1)] [] (SH, I, J)) rfl (zR_if (fun hc1 => zR_go ?_) (fun hc1 => zR_go ?_))
                      · rw [if_pos hc1] at h
                        refine zr_steps 2 (61, [some (.int v0), some (.int v1)], [.int 1], (SH, I, J)) rfl ?_
                        have he := Option.some.inj h
                        subst he
                        exact zr_one (if ((1 : Int32) = 0 ∨ (1 : Int32) = 1) then some (.inr (.inr (some (.int 1)))) else none) rfl (zR_pos (by decide) (zR_ret rfl rfl))
                      · rw [if_neg hc1] at h
                        refine zr_steps 1 (61, [some (.int v0), some (.int v1)], [.int 0], (SH, I, J)) rfl ?_
                        have he := Option.some.inj h
                        subst he
                        exact zr_one (if ((0 : Int32) = 0 ∨ (0 : Int32) = 1) then some (.inr (.inr (some (.int 0)))) else none) rfl (zR_pos (by decide) (zR_ret rfl rfl))
                    · rw [if_neg hc2] at h
                      refine zr_steps 1 (61, [some (.int v0), some (.int v1)], [.int 0], (SH, I, J)) rfl ?_
                      have he := Option.some.inj h
                      subst he
                      exact zr_one (if ((0 : Int32) = 0 ∨ (0 : Int32) = 1) then some (.inr (.inr (some (.int 0)))) else none) rfl (zR_pos (by decide) (zR_ret rfl rfl))
                · rw [if_neg hc6] at h
                  refine zr_steps 2 (47, [some (.int v0), some (.int v1)], [.int 6, .int v1], (SH, I, J)) rfl ?_
                  refine zr_one (if v1 = 6 then zN 50 [some (.int v0), some (.int v1)] [] (SH, I, J) else zN 60 [some (.int v0), some (.int v1)] [] (SH, I, J)) rfl (zR_if (fun hc5 => zR_go ?_) (fun hc5 => zR_go ?_))
                  · rw [if_pos hc5] at h
                    refine zr_steps 2 (53, [some (.int v0), some (.int v1)], [.int 7, .int v0], (SH, I, J)) rfl ?_
                    refine zr_one (if v0 = 7 then zN 56 [some (.int v0), some (.int v1)] [] (SH, I, J) else zN 60 [some (.int v0), some (.int v1)] [] (SH, I, J)) rfl (zR_if (fun hc4 => zR_go ?_) (fun hc4 => zR_go ?_))
                    · rw [if_pos hc4] at h
                      refine zr_steps 2 (61, [some (.int v0), some (.int v1)], [.int 1], (SH, I, J)) rfl ?_
                      have he := Option.some.inj h
                      subst he
                      exact zr_one (if ((1 : Int32) = 0 ∨ (1 : Int32) = 1) then some (.inr (.inr (some (.int 1)))) else none) rfl (zR_pos (by decide) (zR_ret rfl rfl))
                    · rw [if_neg hc4] at h
                      refine zr_steps 1 (61, [some (.int v0), some (.int v1)], [.int 0], (SH, I, J)) rfl ?_
                      have he := Option.some.inj h
                      subst he
                      exact zr_one (if ((0 : Int32) = 0 ∨ (0 : Int32) = 1) then some (.inr (.inr (some (.int 0)))) else none) rfl (zR_pos (by decide) (zR_ret rfl rfl))
                  · rw [if_neg hc5] at h
                    refine zr_steps 1 (61, [some (.int v0), some (.int v1)], [.int 0], (SH, I, J)) rfl ?_
                    have he := Option.some.inj h
                    subst he
                    exact zr_one (if ((0 : Int32) = 0 ∨ (0 : Int32) = 1) then some (.inr (.inr (some (.int 0)))) else none) rfl (zR_pos (by decide) (zR_ret rfl rfl))
            · rw [if_neg hc14] at h
              refine zr_steps 2 (36, [some (.int v0), some (.int v1)], [.int 4, .int v1], (SH, I, J)) rfl ?_
              refine zr_one (if v1 = 4 then zN 39 [some (.int v0), some (.int v1)] [] (SH, I, J) else zN 44 [some (.int v0), some (.int v1)] [] (SH, I, J)) rfl (zR_if (fun hc13 => zR_go ?_) (fun hc13 => zR_go ?_))
              · rw [if_pos hc13] at h
                refine zr_steps 2 (41, [some (.int v0), some (.int v1)], [.int 5, .int v0], (SH, I, J)) rfl ?_
                refine zr_one (if v0 = 5 then zN 56 [some (.int v0), some (.int v1)] [] (SH, I, J) else zN 44 [some (.int v0), some (.int v1)] [] (SH, I, J)) rfl (zR_if (fun hc10 => zR_go ?_) (fun hc10 => zR_go ?_))
                · rw [if_pos hc10] at h
                  refine zr_steps 2 (61, [some (.int v0), some (.int v1)], [.int 1], (SH, I, J)) rfl ?_
                  have he := Option.some.inj h
                  subst he
                  exact zr_one (if ((1 : Int32) = 0 ∨ (1 : Int32) = 1) then some (.inr (.inr (some (.int 1)))) else none) rfl (zR_pos (by decide) (zR_ret rfl rfl))
                · rw [if_neg hc10] at h
                  refine zr_steps 2 (47, [some (.int v0), some (.int v1)], [.int 6, .int v1], (SH, I, J)) rfl ?_
                  refine zr_one (if v1 = 6 then zN 50 [some (.int v0), some (.int v1)] [] (SH, I, J) else zN 60 [some (.int v0), some (.int v1)] [] (SH, I, J)) rfl (zR_if (fun hc9 => zR_go ?_) (fun hc9 => zR_go ?_))
                  · rw [if_pos hc9] at h
                    refine zr_steps 2 (53, [some (.int v0), some (.int v1)], [.int 7, .int v0], (SH, I, J)) rfl ?_
                    refine zr_one (if v0 = 7 then zN 56 [some (.int v0), some (.int v1)] [] (SH, I, J) else zN 60 [some (.int v0), some (.int v1)] [] (SH, I, J)) rfl (zR_if (fun hc8 => zR_go ?_) (fun hc8 => zR_go ?_))
                    · rw [if_pos hc8] at h
                      refine zr_steps 2 (61, [some (.int v0), some (.int v1)], [.int 1], (SH, I, J)) rfl ?_
                      have he := Option.some.inj h
                      subst he
                      exact zr_one (if ((1 : Int32) = 0 ∨ (1 : Int32) = 1) then some (.inr (.inr (some (.int 1)))) else none) rfl (zR_pos (by decide) (zR_ret rfl rfl))
                    · rw [if_neg hc8] at h
                      refine zr_steps 1 (61, [some (.int v0), some (.int v1)], [.int 0], (SH, I, J)) rfl ?_
                      have he := Option.some.inj h
                      subst he
                      exact zr_one (if ((0 : Int32) = 0 ∨ (0 : Int32) = 1) then some (.inr (.inr (some (.int 0)))) else none) rfl (zR_pos (by decide) (zR_ret rfl rfl))
                  · rw [if_neg hc9] at h
                    refine zr_steps 1 (61, [some (.int v0), some (.int v1)], [.int 0], (SH, I, J)) rfl ?_
                    have he := Option.some.inj h
                    subst he
                    exact zr_one (if ((0 : Int32) = 0 ∨ (0 : Int32) = 1) then some (.inr (.inr (some (.int 0)))) else none) rfl (zR_pos (by decide) (zR_ret rfl rfl))
              · rw [if_neg hc13] at h
                refine zr_steps 2 (47, [some (.int v0), some (.int v1)], [.int 6, .int v1], (SH, I, J)) rfl ?_
                refine zr_one (if v1 = 6 then zN 50 [some (.int v0), some (.int v1)] [] (SH, I, J) else zN 60 [some (.int v0), some (.int v1)] [] (SH, I, J)) rfl (zR_if (fun hc12 => zR_go ?_) (fun hc12 => zR_go ?_))
                · rw [if_pos hc12] at h
                  refine zr_steps 2 (53, [some (.int v0), some (.int v1)], [.int 7, .int v0], (SH, I, J)) rfl ?_
                  refine zr_one (if v0 = 7 then zN 56 [some (.int v0), some (.int v1)] [] (SH, I, J) else zN 60 [some (.int v0), some (.int v1)] [] (SH, I, J)) rfl (zR_if (fun hc11 => zR_go ?_) (fun hc11 => zR_go ?_))
                  · rw [if_pos hc11] at h
                    refine zr_steps 2 (61, [some (.int v0), some (.int v1)], [.int 1], (SH, I, J)) rfl ?_
                    have he := Option.some.inj h
                    subst he
                    exact zr_one (if ((1 : Int32) = 0 ∨ (1 : Int32) = 1) then some (.inr (.inr (some (.int 1)))) else none) rfl (zR_pos (by decide) (zR_ret rfl rfl))
                  · rw [if_neg hc11] at h
                    refine zr_steps 1 (61, [some (.int v0), some (.int v1)], [.int 0], (SH, I, J)) rfl ?_
                    have he := Option.some.inj h
                    subst he
                    exact zr_one (if ((0 : Int32) = 0 ∨ (0 : Int32) = 1) then some (.inr (.inr (some (.int 0)))) else none) rfl (zR_pos (by decide) (zR_ret rfl rfl))
                · rw [if_neg hc12] at h
                  refine zr_steps 1 (61, [some (.int v0), some (.int v1)], [.int 0], (SH, I, J)) rfl ?_
                  have he := Option.some.inj h
                  subst he
                  exact zr_one (if ((0 : Int32) = 0 ∨ (0 : Int32) = 1) then some (.inr (.inr (some (.int 0)))) else none) rfl (zR_pos (by decide) (zR_ret rfl rfl))
      · rw [if_neg hc31] at h
        refine zr_steps 2 (26, [some (.int v0), some (.int v1)], [.int 2, .int v1], (SH, I, J)) rfl ?_
        refine zr_one (if v1 = 2 then zN 29 [some (.int v0), some (.int v1)] [] (SH, I, J) else zN 34 [some (.int v0), some (.int v1)] [] (SH, I, J)) rfl (zR_if (fun hc30 => zR_go ?_) (fun hc30 => zR_go ?_))
        · rw [if_pos hc30] at h
          refine zr_steps 2 (31, [some (.int v0), some (.int v1)], [.int 3, .int v0], (SH, I, J)) rfl ?_
          refine zr_one (if v0 = 3 then zN 56 [some (.int v0), some (.int v1)] [] (SH, I, J) else zN 34 [some (.int v0), some (.int v1)] [] (SH, I, J)) rfl (zR_if (fun hc23 => zR_go ?_) (fun hc23 => zR_go ?_))
          · rw [if_pos hc23] at h
            refine zr_steps 2 (61, [some (.int v0), some (.int v1)], [.int 1], (SH, I, J)) rfl ?_
            have he := Option.some.inj h
            subst he
            exact zr_one (if ((1 : Int32) = 0 ∨ (1 : Int32) = 1) then some (.inr (.inr (some (.int 1)))) else none) rfl (zR_pos (by decide) (zR_ret rfl rfl))
          · rw [if_neg hc23] at h
            refine zr_steps 2 (36, [some (.int v0), some (.int v1)], [.int 4, .int v1], (SH, I, J)) rfl ?_
            refine zr_one (if v1 = 4 then zN 39 [some (.int v0), some (.int v1)] [] (SH, I, J) else zN 44 [some (.int v0), some (.int v1)] [] (SH, I, J)) rfl (zR_if (fun hc22 => zR_go ?_) (fun hc22 => zR_go ?_))
            · rw [if_pos hc22] at h
              refine zr_steps 2 (41, [some (.int v0), some (.int v1)], [.int 5, .int v0], (SH, I, J)) rfl ?_
              refine zr_one (if v0 = 5 then zN 56 [some (.int v0), some (.int v1)] [] (SH, I, J) else zN 44 [some (.int v0), some (.int v1)] [] (SH, I, J)) rfl (zR_if (fun hc19 => zR_go ?_) (fun hc19 => zR_go ?_))
              · rw [if_pos hc19] at h
                refine zr_steps 2 (61, [some (.int v0), some (.int v1)], [.int 1], (SH, I, J)) rfl ?_
                have he := Option.some.inj h
                subst he
                exact zr_one (if ((1 : Int32) = 0 ∨ (1 : Int32) = 1) then some (.inr (.inr (some (.int 1)))) else none) rfl (zR_pos (by decide) (zR_ret rfl rfl))
              · rw [if_neg hc19] at h
                refine zr_steps 2 (47, [some (.int v0), some (.int v1)], [.int 6, .int v1], (SH, I, J)) rfl ?_
                refine zr_one (if v1 = 6 then zN 50 [some (.int v0), some (.int v1)] [] (SH, I, J) else zN 60 [some (.int v0), some (.int v1)] [] (SH, I, J)) rfl (zR_if (fun hc18 => zR_go ?_) (fun hc18 => zR_go ?_))
                · rw [if_pos hc18] at h
                  refine zr_steps 2 (53, [some (.int v0), some (.int v1)], [.int 7, .int v0], (SH, I, J)) rfl ?_
                  refine zr_one (if v0 = 7 then zN 56 [some (.int v0), some (.int v1)] [] (SH, I, J) else zN 60 [some (.int v0), some (.int v1)] [] (SH, I, J)) rfl (zR_if (fun hc17 => zR_go ?_) (fun hc17 => zR_go ?_))
                  · rw [if_pos hc17] at h
                    refine zr_steps 2 (61, [some (.int v0), some (.int v1)], [.int 1], (SH, I, J)) rfl ?_
                    have he := Option.some.inj h
                    subst he
                    exact zr_one (if ((1 : Int32) = 0 ∨ (1 : Int32) = 1) then some (.inr (.inr (some (.int 1)))) else none) rfl (zR_pos (by decide) (zR_ret rfl rfl))
                  · rw [if_neg hc17] at h
                    refine zr_steps 1 (61, [some (.int v0), some (.int v1)], [.int 0], (SH, I, J)) rfl ?_
                    have he := Option.some.inj h
                    subst he
                    exact zr_one (if ((0 : Int32) = 0 ∨ (0 : Int32) = 1) then some (.inr (.inr (some (.int 0)))) else none) rfl (zR_pos (by decide) (zR_ret rfl rfl))
                · rw [if_neg hc18] at h
                  refine zr_steps 1 (61, [some (.int v0), some (.int v1)], [.int 0], (SH, I, J)) rfl ?_
                  have he := Option.some.inj h
                  subst he
                  exact zr_one (if ((0 : Int32) = 0 ∨ (0 : Int32) = 1) then some (.inr (.inr (some (.int 0)))) else none) rfl (zR_pos (by decide) (zR_ret rfl rfl))
            · rw [if_neg hc22] at h
              refine zr_steps 2 (47, [some (.int v0), some (.int v1)], [.int 6, .int v1], (SH, I, J)) rfl ?_
              refine zr_one (if v1 = 6 then zN 50 [some (.int v0), some (.int v1)] [] (SH, I, J) else zN 60 [some (.int v0), some (.int v1)] [] (SH, I, J)) rfl (zR_if (fun hc21 => zR_go ?_) (fun hc21 => zR_go ?_))
              · rw [if_pos hc21] at h
                refine zr_steps 2 (53, [some (.int v0), some (.int v1)], [.int 7, .int v0], (SH, I, J)) rfl ?_
                refine zr_one (if v0 = 7 then zN 56 [some (.int v0), some (.int v1)] [] (SH, I, J) else zN 60 [some (.int v0), some (.int v1)] [] (SH, I, J)) rfl (zR_if (fun hc20 => zR_go ?_) (fun hc20 => zR_go ?_))
                · rw [if_pos hc20] at h
                  refine zr_steps 2 (61, [some (.int v0), some (.int v1)], [.int 1], (SH, I, J)) rfl ?_
                  have he := Option.some.inj h
                  subst he
                  exact zr_one (if ((1 : Int32) = 0 ∨ (1 : Int32) = 1) then some (.inr (.inr (some (.int 1)))) else none) rfl (zR_pos (by decide) (zR_ret rfl rfl))
                · rw [if_neg hc20] at h
                  refine zr_steps 1 (61, [some (.int v0), some (.int v1)], [.int 0], (SH, I, J)) rfl ?_
                  have he := Option.some.inj h
                  subst he
                  exact zr_one (if ((0 : Int32) = 0 ∨ (0 : Int32) = 1) then some (.inr (.inr (some (.int 0)))) else none) rfl (zR_pos (by decide) (zR_ret rfl rfl))
              · rw [if_neg hc21] at h
                refine zr_steps 1 (61, [some (.int v0), some (.int v1)], [.int 0], (SH, I, J)) rfl ?_
                have he := Option.some.inj h
                subst he
                exact zr_one (if ((0 : Int32) = 0 ∨ (0 : Int32) = 1) then some (.inr (.inr (some (.int 0)))) else none) rfl (zR_pos (by decide) (zR_ret rfl rfl))
        · rw [if_neg hc30] at h
          refine zr_steps 2 (36, [some (.int v0), some (.int v1)], [.int 4, .int v1], (SH, I, J)) rfl ?_
          refine zr_one (if v1 = 4 then zN 39 [some (.int v0), some (.int v1)] [] (SH, I, J) else zN 44 [some (.int v0), some (.int v1)] [] (SH, I, J)) rfl (zR_if (fun hc29 => zR_go ?_) (fun hc29 => zR_go ?_))
          · rw [if_pos hc29] at h
            refine zr_steps 2 (41, [some (.int v0), some (.int v1)], [.int 5, .int v0], (SH, I, J)) rfl ?_
            refine zr_one (if v0 = 5 then zN 56 [some (.int v0), some (.int v1)] [] (SH, I, J) else zN 44 [some (.int v0), some (.int v1)] [] (SH, I, J)) rfl (zR_if (fun hc26 => zR_go ?_) (fun hc26 => zR_go ?_))
            · rw [if_pos hc26] at h
              refine zr_steps 2 (61, [some (.int v0), some (.int v1)], [.int 1], (SH, I, J)) rfl ?_
              have he := Option.some.inj h
              subst he
              exact zr_one (if ((1 : Int32) = 0 ∨ (1 : Int32) = 1) then some (.inr (.inr (some (.int 1)))) else none) rfl (zR_pos (by decide) (zR_ret rfl rfl))
            · rw [if_neg hc26] at h
              refine zr_steps 2 (47, [some (.int v0), some (.int v1)], [.int 6, .int v1], (SH, I, J)) rfl ?_
              refine zr_one (if v1 = 6 then zN 50 [some (.int v0), some (.int v1)] [] (SH, I, J) else zN 60 [some (.int v0), some (.int v1)] [] (SH, I, J)) rfl (zR_if (fun hc25 => zR_go ?_) (fun hc25 => zR_go ?_))
              · rw [if_pos hc25] at h
                refine zr_steps 2 (53, [some (.int v0), some (.int v1)], [.int 7, .int v0], (SH, I, J)) rfl ?_
                refine zr_one (if v0 = 7 then zN 56 [some (.int v0), some (.int v1)] [] (SH, I, J) else zN 60 [some (.int v0), some (.int v1)] [] (SH, I, J)) rfl (zR_if (fun hc24 => zR_go ?_) (fun hc24 => zR_go ?_))
                · rw [if_pos hc24] at h
                  refine zr_steps 2 (61, [some (.int v0), some (.int v1)], [.int 1], (SH, I, J)) rfl ?_
                  have he := Option.some.inj h
                  subst he
                  exact zr_one (if ((1 : Int32) = 0 ∨ (1 : Int32) = 1) then some (.inr (.inr (some (.int 1)))) else none) rfl (zR_pos (by decide) (zR_ret rfl rfl))
                · rw [if_neg hc24] at h
                  refine zr_steps 1 (61, [some (.int v0), some (.int v1)], [.int 0], (SH, I, J)) rfl ?_
                  have he := Option.some.inj h
                  subst he
                  exact zr_one (if ((0 : Int32) = 0 ∨ (0 : Int32) = 1) then some (.inr (.inr (some (.int 0)))) else none) rfl (zR_pos (by decide) (zR_ret rfl rfl))
              · rw [if_neg hc25] at h
                refine zr_steps 1 (61, [some (.int v0), some (.int v1)], [.int 0], (SH, I, J)) rfl ?_
                have he := Option.some.inj h
                subst he
                exact zr_one (if ((0 : Int32) = 0 ∨ (0 : Int32) = 1) then some (.inr (.inr (some (.int 0)))) else none) rfl (zR_pos (by decide) (zR_ret rfl rfl))
          · rw [if_neg hc29] at h
            refine zr_steps 2 (47, [some (.int v0), some (.int v1)], [.int 6, .int v1], (SH, I, J)) rfl ?_
            refine zr_one (if v1 = 6 then zN 50 [some (.int v0), some (.int v1)] [] (SH, I, J) else zN 60 [some (.int v0), some (.int v1)] [] (SH, I, J)) rfl (zR_if (fun hc28 => zR_go ?_) (fun hc28 => zR_go ?_))
            · rw [if_pos hc28] at h
              refine zr_steps 2 (53, [some (.int v0), some (.int v1)], [.int 7, .int v0], (SH, I, J)) rfl ?_
              refine zr_one (if v0 = 7 then zN 56 [some (.int v0), some (.int v1)] [] (SH, I, J) else zN 60 [some (.int v0), some (.int v1)] [] (SH, I, J)) rfl (zR_if (fun hc27 => zR_go ?_) (fun hc27 => zR_go ?_))
              · rw [if_pos hc27] at h
                refine zr_steps 2 (61, [some (.int v0), some (.int v1)], [.int 1], (SH, I, J)) rfl ?_
                have he := Option.some.inj h
                subst he
                exact zr_one (if ((1 : Int32) = 0 ∨ (1 : Int32) = 1) then some (.inr (.inr (some (.int 1)))) else none) rfl (zR_pos (by decide) (zR_ret rfl rfl))
              · rw [if_neg hc27] at h
                refine zr_steps 1 (61, [some (.int v0), some (.int v1)], [.int 0], (SH, I, J)) rfl ?_
                have he := Option.some.inj h
                subst he
                exact zr_one (if ((0 : Int32) = 0 ∨ (0 : Int32) = 1) then some (.inr (.inr (some (.int 0)))) else none) rfl (zR_pos (by decide) (zR_ret rfl rfl))
            · rw [if_neg hc28] at h
              refine zr_steps 1 (61, [some (.int v0), some (.int v1)], [.int 0], (SH, I, J)) rfl ?_
              have he := Option.some.inj h
              subst he
              exact zr_one (if ((0 : Int32) = 0 ∨ (0 : Int32) = 1) then some (.inr (.inr (some (.int 0)))) else none) rfl (zR_pos (by decide) (zR_ret rfl rfl))
