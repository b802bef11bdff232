set_option maxRecDepth 100000 in
set_option maxHeartbeats 4000000 in
theorem ok_f173_counts_L2 {X : zX} {d : Nat} {r : Option Value} {M' : zM} (hd : 1 ≤ d) (v1 : Int32) {J : (Nat → Nat → Int64)} : ∀ (n : Nat) (s x : (Int32 × (Nat → Nat → Int32))), zloop (f173_counts_L2 v1) n s = some x → (fun (x : (Int32 × (Nat → Nat → Int32))) => zRun X d 173 22 [some (.ref 73), none, none, none] [] (SH, x.2, J) r M') x → (fun (s : (Int32 × (Nat → Nat → Int32))) => zRun X d 173 2 [some (.ref 73), some (.int v1), some (.int s.1), none] [] (SH, s.2, J) r M') s := zloop_ok (B := (f173_counts_L2 v1)) (Wh := fun (s : (Int32 × (Nat → Nat → Int32))) => zRun X d 173 2 [some (.ref 73), some (.int v1), some (.int s.1), none] [] (SH, s.2, J) r M') (Wx := fun (x : (Int32 × (Nat → Nat → Int32))) => zRun X d 173 22 [some (.ref 73), none, none, none] [] (SH, x.2, J) r M') (fun s y h w => by
  unfold f173_counts_L2 at h
  refine zr_steps 3 (7, [some (.ref 73), some (.int v1), some (.int s.1), none], [.int (s.2 73 1), .int s.1], (SH, s.2, J)) rfl ?_
  refine zr_one (if (s.2 73 1) ≤ s.1 then zN 22 [some (.ref 73), some (.int v1), some (.int s.1), none] [] (SH, s.2, J) else zN 10 [some (.ref 73), some (.int v1), some (.int s.1), none] [] (SH, s.2, J)) rfl (zR_if (fun hc3 => zR_go ?_) (fun hc3 => zR_go ?_))
  · rw [if_pos hc3] at h
    have he := Option.some.inj h
    subst he
    exact zr_hdr (ls2 := [some (.ref 73), none, none, none]) rfl rfl (show zRun X d 173 22 [some (.ref 73), none, none, none] [] (SH, s.2, J) r M' from w)
  · rw [if_neg hc3] at h
    refine zr_steps 3 (13, [some (.ref 73), some (.int v1), some (.int s.1), none], [.int v1, .int s.1, .ref 73], (SH, s.2, J)) rfl ?_
    obtain ⟨t2, hc1, h⟩ := zbind h
    refine zr_one (some (.inr (.inl (172, [.ref 73, .int s.1, .int v1], [], 16)))) rfl (zR_call (by omega) rfl (ok_f172_countSquare (by omega) s.1 v1 _ hc1) ?_)
    refine zr_steps 2 (2, [some (.ref 73), some (.int v1), some (.int (s.1 + 1)), none], [], (SH, t2, J)) rfl ?_
    have he := Option.some.inj h
    subst he
    exact zr_hdr (ls2 := [some (.ref 73), some (.int v1), some (.int (s.1 + 1)), none]) rfl rfl (show zRun X d 173 2 [some (.ref 73), some (.int v1), some (.int (s.1 + 1)), none] [] (SH, t2, J) r M' from w))
set_option maxRecDepth 100000 in
set_option maxHeartbeats 4000000 in
theorem ok_f173_counts_L29 {X : zX} {d : Nat} {r : Option Value} {M' : zM} (hd : 1 ≤ d) {J : (Nat → Nat → Int64)} : ∀ (n : Nat) (s x : (Int32 × (Nat → Nat → Int32))), zloop f173_counts_L29 n s = some x → (fun (x : (Int32 × (Nat → Nat → Int32))) => zRun X d 173 66 [some (.ref 73), none, none, none] [] (SH, x.2, J) r M') x → (fun (s : (Int32 × (Nat → Nat → Int32))) => zRun X d 173 29 [some (.ref 73), none, some (.int s.1), none] [] (SH, s.2, J) r M') s := zloop_ok (B := f173_counts_L29) (Wh := fun (s : (Int32 × (Nat → Nat → Int32))) => zRun X d 173 29 [some (.ref 73), none, some (.int s.1), none] [] (SH, s.2, J) r M') (Wx := fun (x : (Int32 × (Nat → Nat → Int32))) => zRun X d 173 66 [some (.ref 73), none, none, none] [] (SH, x.2, J) r M') (fun s y h w => by
  unfold f173_counts_L29 at h
  refine zr_steps 3 (34, [some (.ref 73), none, some (.int s.1), none], [.int (s.2 73 1), .int s.1], (SH, s.2, J)) rfl ?_
  refine zr_one (if (s.2 73 1) ≤ s.1 then zN 66 [some (.ref 73), none, some (.int s.1), none] [] (SH, s.2, J) else zN 37 [some (.ref 73), none, some (.int s.1), none] [] (SH, s.2, J)) rfl (zR_if (fun hc9 => zR_go ?_) (fun hc9 => zR_go ?_))
  · rw [if_pos hc9] at h
    have he := Option.some.inj h
    subst he
    exact zr_hdr (ls2 := [some (.ref 73), none, none, none]) rfl rfl (show zRun X d 173 66 [some (.ref 73), none, none, none] [] (SH, s.2, J) r M' from w)
  · rw [if_neg hc9] at h
    refine zr_steps 3 (42, [some (.ref 73), none, some (.int s.1), none], [.int s.1, .ref 103], (SH, s.2, J)) rfl ?_
    obtain ⟨hc6, h⟩ := zbifo h
    refine zr_one (bif zin s.1 4 then zN 43 [some (.ref 73), none, some (.int s.1), none] [.int (s.2 103 s.1.toNatClampNeg)] (SH, s.2, J) else none) rfl (zR_bif hc6 (zR_go ?_))
    refine zr_steps 4 (51, [some (.ref 73), none, some (.int s.1), none], [.int (s.2 73 53), .ref 103, .int (s.2 103 s.1.toNatClampNeg)], (SH, s.2, J)) rfl ?_
    obtain ⟨hc7, h⟩ := zbifo h
    refine zr_one (bif zin (s.2 73 53) 4 then zN 52 [some (.ref 73), none, some (.int s.1), none] [.int (s.2 103 (s.2 73 53).toNatClampNeg), .int (s.2 103 s.1.toNatClampNeg)] (SH, s.2, J) else none) rfl (zR_bif hc7 (zR_go ?_))
    refine zr_one (if (s.2 103 s.1.toNatClampNeg) ≤ (s.2 103 (s.2 73 53).toNatClampNeg) then zN 60 [some (.ref 73), none, some (.int s.1), none] [] (SH, s.2, J) else zN 55 [some (.ref 73), none, some (.int s.1), none] [] (SH, s.2, J)) rfl (zR_if (fun hc8 => zR_go ?_) (fun hc8 => zR_go ?_))
    · rw [if_pos hc8] at h
      refine zr_steps 2 (29, [some (.ref 73), none, some (.int (s.1 + 1)), none], [], (SH, s.2, J)) rfl ?_
      have he := Option.some.inj h
      subst he
      exact zr_hdr (ls2 := [some (.ref 73), none, some (.int (s.1 + 1)), none]) rfl rfl (show zRun X d 173 29 [some (.ref 73), none, some (.int (s.1 + 1)), none] [] (SH, s.2, J) r M' from w)
    · rw [if_neg hc8] at h
      refine zr_steps 5 (29, [some (.ref 73), none, some (.int (s.1 + 1)), none], [], (SH, (zu s.2 73 53 s.1), J)) rfl ?_
      have he := Option.some.inj h
      subst he
      exact zr_hdr (ls2 := [some (.ref 73), none, some (.int (s.1 + 1)), none]) rfl rfl (show zRun X d 173 29 [some (.ref 73), none, some (.int (s.1 + 1)), none] [] (SH, (zu s.2 73 53 s.1), J) r M' from w))
set_option maxRecDepth 100000 in
set_option maxHeartbeats 4000000 in
theorem ok_f173_counts_L70 {X : zX} {d : Nat} {r : Option Value} {M' : zM} (hd : 1 ≤ d) {I : (Nat → Nat → Int32)} {J : (Nat → Nat → Int64)} : ∀ (n : Nat) (s x : (Int32 × Int32)), zloop (f173_counts_L70 I) n s = some x → (fun (x : (Int32 × Int32)) => zRun X d 173 109 [some (.ref 73), none, some (.int x.1), none] [] (SH, I, J) r M') x → (fun (s : (Int32 × Int32)) => zRun X d 173 70 [some (.ref 73), none, some (.int s.1), some (.int s.2)] [] (SH, I, J) r M') s := zloop_ok (B := (f173_counts_L70 I)) (Wh := fun (s : (Int32 × Int32)) => zRun X d 173 70 [some (.ref 73), none, some (.int s.1), some (.int s.2)] [] (SH, I, J) r M') (Wx := fun (x : (Int32 × Int32)) => zRun X d 173 109 [some (.ref 73), none, some (.int x.1), none] [] (SH, I, J) r M') (fun s y h w => by
  unfold f173_counts_L70 at h
  refine zr_steps 3 (75, [some (.ref 73), none, some (.int s.1), some (.int s.2)], [.int (I 73 1), .int s.2], (SH, I, J)) rfl ?_
  refine zr_one (if (I 73 1) ≤ s.2 then zN 109 [some (.ref 73), none, some (.int s.1), some (.int s.2)] [] (SH, I, J) else zN 78 [some (.ref 73), none, some (.int s.1), some (.int s.2)] [] (SH, I, J)) rfl (zR_if (fun hc16 => zR_go ?_) (fun hc16 => zR_go ?_))
  · rw [if_pos hc16] at h
    have he := Option.some.inj h
    subst he
    exact zr_hdr (ls2 := [some (.ref 73), none, some (.int s.1), none]) rfl rfl (show zRun X d 173 109 [some (.ref 73), none, some (.int s.1), none] [] (SH, I, J) r M' from w)
  · rw [if_neg hc16] at h
    refine zr_steps 3 (83, [some (.ref 73), none, some (.int s.1), some (.int s.2)], [.int (I 73 53), .int s.2], (SH, I, J)) rfl ?_
    refine zr_one (if s.2 = (I 73 53) then zN 103 [some (.ref 73), none, some (.int s.1), some (.int s.2)] [] (SH, I, J) else zN 86 [some (.ref 73), none, some (.int s.1), some (.int s.2)] [] (SH, I, J)) rfl (zR_if (fun hc15 => zR_go ?_) (fun hc15 => zR_go ?_))
    · rw [if_pos hc15] at h
      refine zr_steps 2 (70, [some (.ref 73), none, some (.int s.1), some (.int (s.2 + 1))], [], (SH, I, J)) rfl ?_
      have he := Option.some.inj h
      subst he
      exact zr_hdr (ls2 := [some (.ref 73), none, some (.int s.1), some (.int (s.2 + 1))]) rfl rfl (show zRun X d 173 70 [some (.ref 73), none, some (.int s.1), some (.int (s.2 + 1))] [] (SH, I, J) r M' from w)
    · rw [if_neg hc15] at h
      refine zr_steps 3 (91, [some (.ref 73), none, some (.int s.1), some (.int s.2)], [.int s.2, .ref 103], (SH, I, J)) rfl ?_
      obtain ⟨hc12, h⟩ := zbifo h
      refine zr_one (bif zin s.2 4 then zN 92 [some (.ref 73), none, some (.int s.1), some (.int s.2)] [.int (I 103 s.2.toNatClampNeg)] (SH, I, J) else none) rfl (zR_bif hc12 (zR_go ?_))
      refine zr_steps 1 (93, [some (.ref 73), none, some (.int s.1), some (.int s.2)], [.int s.1, .int (I 103 s.2.toNatClampNeg)], (SH, I, J)) rfl ?_
      refine zr_one (if (I 103 s.2.toNatClampNeg) ≤ s.1 then zN 103 [some (.ref 73), none, some (.int s.1), some (.int s.2)] [] (SH, I, J) else zN 96 [some (.ref 73), none, some (.int s.1), some (.int s.2)] [] (SH, I, J)) rfl (zR_if (fun hc14 => zR_go ?_) (fun hc14 => zR_go ?_))
      · rw [if_pos hc14] at h
        refine zr_steps 2 (70, [some (.ref 73), none, some (.int s.1), some (.int (s.2 + 1))], [], (SH, I, J)) rfl ?_
        have he := Option.some.inj h
        subst he
        exact zr_hdr (ls2 := [some (.ref 73), none, some (.int s.1), some (.int (s.2 + 1))]) rfl rfl (show zRun X d 173 70 [some (.ref 73), none, some (.int s.1), some (.int (s.2 + 1))] [] (SH, I, J) r M' from w)
      · rw [if_neg hc14] at h
        refine zr_steps 3 (101, [some (.ref 73), none, some (.int s.1), some (.int s.2)], [.int s.2, .ref 103], (SH, I, J)) rfl ?_
        obtain ⟨hc13, h⟩ := zbifo h
        refine zr_one (bif zin s.2 4 then zN 102 [some (.ref 73), none, some (.int s.1), some (.int s.2)] [.int (I 103 s.2.toNatClampNeg)] (SH, I, J) else none) rfl (zR_bif hc13 (zR_go ?_))
        refine zr_steps 3 (70, [some (.ref 73), none, some (.int (I 103 s.2.toNatClampNeg)), some (.int (s.2 + 1))], [], (SH, I, J)) rfl ?_
        have he := Option.some.inj h
        subst he
        exact zr_hdr (ls2 := [some (.ref 73), none, some (.int (I 103 s.2.toNatClampNeg)), some (.int (s.2 + 1))]) rfl rfl (show zRun X d 173 70 [some (.ref 73), none, some (.int (I 103 s.2.toNatClampNeg)), some (.int (s.2 + 1))] [] (SH, I, J) r M' from w))
set_option maxRecDepth 100000 in
set_option maxHeartbeats 4000000 in
theorem ok_f173_counts {X : zX} {d : Nat} (hd : 1 ≤ d) (v1 : Int32) {I : (Nat → Nat → Int32)} {J : (Nat → Nat → Int64)} (t : (Nat → Nat → Int32)) (h : f173_counts v1 I = some t) : zRun X d 173 0 (zent 173 [.ref 73, .int v1]) [] (SH, I, J) none (SH, t, J) := by
  unfold f173_counts at h
  refine zr_steps 2 (2, [some (.ref 73), some (.int v1), some (.int 0), none], [], (SH, I, J)) rfl ?_
  obtain ⟨s4, ho5, h⟩ := zbind h
  refine zr_hdr (ls2 := [some (.ref 73), some (.int v1), some (.int 0), none]) rfl rfl ?_
  refine ok_f173_counts_L2 (by omega) v1 5000 ((0 : Int32), I) s4 ho5 ?_
  show zRun X d 173 22 [some (.ref 73), none, none, none] [] (SH, s4.2, J) _ _
  refine zr_steps 5 (29, [some (.ref 73), none, some (.int 1), none], [], (SH, (zu s4.2 73 53 0), J)) rfl ?_
  obtain ⟨s10, ho11, h⟩ := zbind h
  refine zr_hdr (ls2 := [some (.ref 73), none, some (.int 1), none]) rfl rfl ?_
  refine ok_f173_counts_L29 (by omega) 5000 ((1 : Int32), (zu s4.2 73 53 0)) s10 ho11 ?_
  show zRun X d 173 66 [some (.ref 73), none, none, none] [] (SH, s10.2, J) _ _
  refine zr_steps 4 (70, [some (.ref 73), none, some (.int 0), some (.int 0)], [], (SH, s10.2, J)) rfl ?_
  obtain ⟨s17, ho18, h⟩ := zbind h
  refine zr_hdr (ls2 := [some (.ref 73), none, some (.int 0), some (.int 0)]) rfl rfl ?_
  refine ok_f173_counts_L70 (by omega) 5000 ((0 : Int32), (0 : Int32)) s17 ho18 ?_
  show zRun X d 173 109 [some (.ref 73), none, some (.int s17.1), none] [] (SH, s10.2, J) _ _
  refine zr_steps 5 (118, [some (.ref 73), none, some (.int s17.1), none], [.int (s10.2 73 53), .ref 103, .ref 73], (SH, s10.2, J)) rfl ?_
  obtain ⟨hc19, h⟩ := zbifo h
  refine zr_one (bif zin (s10.2 73 53) 4 then zN 119 [some (.ref 73), none, some (.int s17.1), none] [.int (s10.2 103 (s10.2 73 53).toNatClampNeg), .ref 73] (SH, s10.2, J) else none) rfl (zR_bif hc19 (zR_go ?_))
  refine zr_steps 8 (133, [some (.ref 73), none, some (.int s17.1), none], [.int (s10.2 73 53), .ref 75, .ref 73], (SH, (zu s10.2 73 54 ((s10.2 103 (s10.2 73 53).toNatClampNeg) - s17.1)), J)) rfl ?_
  obtain ⟨hc20, h⟩ := zbifo h
  refine zr_one (bif zin (s10.2 73 53) 4 then zN 134 [some (.ref 73), none, some (.int s17.1), none] [.int (s10.2 75 (s10.2 73 53).toNatClampNeg), .ref 73] (SH, (zu s10.2 73 54 ((s10.2 103 (s10.2 73 53).toNatClampNeg) - s17.1)), J) else none) rfl (zR_bif hc20 (zR_go ?_))
  refine zr_steps 1 (137, [some (.ref 73), none, some (.int s17.1), none], [], (SH, (zu (zu s10.2 73 54 ((s10.2 103 (s10.2 73 53).toNatClampNeg) - s17.1)) 73 52 (s10.2 75 (s10.2 73 53).toNatClampNeg)), J)) rfl ?_
  have he := Option.some.inj h
  subst he
  exact zr_one (some (.inr (.inr none))) rfl (zR_ret rfl rfl)
set_option maxRecDepth 100000 in
set_option maxHeartbeats 4000000 in
theorem ok_f171_goTo_L2 {X : zX} {d : Nat} {r : Option Value} {M' : zM} (hd : 5 ≤ d) (v1 : Int32) {J : (Nat → Nat → Int64)} : ∀ (n : Nat) (s x : (Int32 × (Nat → Nat → Int32))), zloop (f171_goTo_L2 v1) n s = some x → (fun (x : (Int32 × (Nat → Nat → Int32))) => zRun X d 171 28 [some (.ref 73), some (.int v1), none, none] [] (SH, x.2, J) r M') x → (fun (s : (Int32 × (Nat → Nat → Int32))) => zRun X d 171 2 [some (.ref 73), some (.int v1), some (.int s.1), none] [] (SH, s.2, J) r M') s := zloop_ok (B := (f171_goTo_L2 v1)) (Wh := fun (s : (Int32 × (Nat → Nat → Int32))) => zRun X d 171 2 [some (.ref 73), some (.int v1), some (.int s.1), none] [] (SH, s.2, J) r M') (Wx := fun (x : (Int32 × (Nat → Nat → Int32))) => zRun X d 171 28 [some (.ref 73), some (.int v1), none, none] [] (SH, x.2, J) r M') (fun s y h w => by
  unfold f171_goTo_L2 at h
  refine zr_steps 2 (5, [some (.ref 73), some (.int v1), some (.int s.1), none], [.int 32, .int s.1], (SH, s.2, J)) rfl ?_
  refine zr_one (if (32 : Int32) ≤ s.1 then zN 28 [some (.ref 73), some (.int v1), some (.int s.1), none] [] (SH, s.2, J) else zN 8 [some (.ref 73), some (.int v1), some (.int s.1), none] [] (SH, s.2, J)) rfl (zR_if (fun hc3 => zR_go ?_) (fun hc3 => zR_go ?_))
  · rw [if_pos hc3] at h
    have he := Option.some.inj h
    subst he
    exact zr_hdr (ls2 := [some (.ref 73), some (.int v1), none, none]) rfl rfl (show zRun X d 171 28 [some (.ref 73), some (.int v1), none, none] [] (SH, s.2, J) r M' from w)
  · rw [if_neg hc3] at h
    refine zr_steps 4 (14, [some (.ref 73), some (.int v1), some (.int s.1), none], [.int 0, .int s.1, .ref 97], (SH, s.2, J)) rfl ?_
    obtain ⟨hc1, h⟩ := zbifo h
    refine zr_one (bif zin s.1 32 then zN 15 [some (.ref 73), some (.int v1), some (.int s.1), none] [] (SH, (zu s.2 97 s.1.toNatClampNeg 0), J) else none) rfl (zR_bif hc1 (zR_go ?_))
    refine zr_steps 4 (21, [some (.ref 73), some (.int v1), some (.int s.1), none], [.int 0, .int s.1, .ref 98], (SH, (zu s.2 97 s.1.toNatClampNeg 0), J)) rfl ?_
    obtain ⟨hc2, h⟩ := zbifo h
    refine zr_one (bif zin s.1 32 then zN 22 [some (.ref 73), some (.int v1), some (.int s.1), none] [] (SH, (zu (zu s.2 97 s.1.toNatClampNeg 0) 98 s.1.toNatClampNeg 0), J) else none) rfl (zR_bif hc2 (zR_go ?_))
    refine zr_steps 2 (2, [some (.ref 73), some (.int v1), some (.int (s.1 + 1)), none], [], (SH, (zu (zu s.2 97 s.1.toNatClampNeg 0) 98 s.1.toNatClampNeg 0), J)) rfl ?_
    have he := Option.some.inj h
    subst he
    exact zr_hdr (ls2 := [some (.ref 73), some (.int v1), some (.int (s.1 + 1)), none]) rfl rfl (show zRun X d 171 2 [some (.ref 73), some (.int v1), some (.int (s.1 + 1)), none] [] (SH, (zu (zu s.2 97 s.1.toNatClampNeg 0) 98 s.1.toNatClampNeg 0), J) r M' from w))
set_option maxRecDepth 100000 in
set_option maxHeartbeats 4000000 in
theorem ok_f171_goTo_L30 {X : zX} {d : Nat} {r : Option Value} {M' : zM} (hd : 5 ≤ d) (v1 : Int32) {J : (Nat → Nat → Int64)} : ∀ (n : Nat) (s x : (Int32 × (Nat → Nat → Int32))), zloop (f171_goTo_L30 v1) n s = some x → (fun (x : (Int32 × (Nat → Nat → Int32))) => zRun X d 171 50 [some (.ref 73), some (.int v1), none, none] [] (SH, x.2, J) r M') x → (fun (s : (Int32 × (Nat → Nat → Int32))) => zRun X d 171 30 [some (.ref 73), some (.int v1), some (.int s.1), none] [] (SH, s.2, J) r M') s := zloop_ok (B := (f171_goTo_L30 v1)) (Wh := fun (s : (Int32 × (Nat → Nat → Int32))) => zRun X d 171 30 [some (.ref 73), some (.int v1), some (.int s.1), none] [] (SH, s.2, J) r M') (Wx := fun (x : (Int32 × (Nat → Nat → Int32))) => zRun X d 171 50 [some (.ref 73), some (.int v1), none, none] [] (SH, x.2, J) r M') (fun s y h w => by
  unfold f171_goTo_L30 at h
  refine zr_steps 2 (34, [some (.ref 73), some (.int v1), some (.int s.1), none], [.int 4864, .int s.1], (SH, s.2, J)) rfl ?_
  refine zr_one (if (4864 : Int32) ≤ s.1 then zN 50 [some (.ref 73), some (.int v1), some (.int s.1), none] [] (SH, s.2, J) else zN 37 [some (.ref 73), some (.int v1), some (.int s.1), none] [] (SH, s.2, J)) rfl (zR_if (fun hc7 => zR_go ?_) (fun hc7 => zR_go ?_))
  · rw [if_pos hc7] at h
    have he := Option.some.inj h
    subst he
    exact zr_hdr (ls2 := [some (.ref 73), some (.int v1), none, none]) rfl rfl (show zRun X d 171 50 [some (.ref 73), some (.int v1), none, none] [] (SH, s.2, J) r M' from w)
  · rw [if_neg hc7] at h
    refine zr_steps 4 (43, [some (.ref 73), some (.int v1), some (.int s.1), none], [.int 0, .int s.1, .ref 99], (SH, s.2, J)) rfl ?_
    obtain ⟨hc6, h⟩ := zbifo h
    refine zr_one (bif zin s.1 4864 then zN 44 [some (.ref 73), some (.int v1), some (.int s.1), none] [] (SH, (zu s.2 99 s.1.toNatClampNeg 0), J) else none) rfl (zR_bif hc6 (zR_go ?_))
    refine zr_steps 2 (30, [some (.ref 73), some (.int v1), some (.int (s.1 + 1)), none], [], (SH, (zu s.2 99 s.1.toNatClampNeg 0), J)) rfl ?_
    have he := Option.some.inj h
    subst he
    exact zr_hdr (ls2 := [some (.ref 73), some (.int v1), some (.int (s.1 + 1)), none]) rfl rfl (show zRun X d 171 30 [some (.ref 73), some (.int v1), some (.int (s.1 + 1)), none] [] (SH, (zu s.2 99 s.1.toNatClampNeg 0), J) r M' from w))
set_option maxRecDepth 100000 in
set_option maxHeartbeats 4000000 in
theorem ok_f171_goTo_L52 {X : zX} {d : Nat} {r : Option Value} {M' : zM} (hd : 5 ≤ d) (v1 : Int32) {J : (Nat → Nat → Int64)} : ∀ (n : Nat) (s x : (Int32 × (Nat → Nat → Int32))), zloop (f171_goTo_L52 v1) n s = some x → (fun (x : (Int32 × (Nat → Nat → Int32))) => zRun X d 171 88 [some (.ref 73), some (.int v1), none, none] [] (SH, x.2, J) r M') x → (fun (s : (Int32 × (Nat → Nat → Int32))) => zRun X d 171 52 [some (.ref 73), some (.int v1), some (.int s.1), none] [] (SH, s.2, J) r M') s := zloop_ok (B := (f171_goTo_L52 v1)) (Wh := fun (s : (Int32 × (Nat → Nat → Int32))) => zRun X d 171 52 [some (.ref 73), some (.int v1), some (.int s.1), none] [] (SH, s.2, J) r M') (Wx := fun (x : (Int32 × (Nat → Nat → Int32))) => zRun X d 171 88 [some (.ref 73), some (.int v1), none, none] [] (SH, x.2, J) r M') (fun s y h w => by
  unfold f171_goTo_L52 at h
  refine zr_steps 3 (57, [some (.ref 73), some (.int v1), some (.int s.1), none], [.int (s.2 73 9), .int s.1], (SH, s.2, J)) rfl ?_
  refine zr_one (if (s.2 73 9) ≤ s.1 then zN 88 [some (.ref 73), some (.int v1), some (.int s.1), none] [] (SH, s.2, J) else zN 60 [some (.ref 73), some (.int v1), some (.int s.1), none] [] (SH, s.2, J)) rfl (zR_if (fun hc13 => zR_go ?_) (fun hc13 => zR_go ?_))
  · rw [if_pos hc13] at h
    have he := Option.some.inj h
    subst he
    exact zr_hdr (ls2 := [some (.ref 73), some (.int v1), none, none]) rfl rfl (show zRun X d 171 88 [some (.ref 73), some (.int v1), none, none] [] (SH, s.2, J) r M' from w)
  · rw [if_neg hc13] at h
    refine zr_steps 6 (71, [some (.ref 73), some (.int v1), some (.int s.1), none], [.int s.1, .ref 82, .int 8, .ref 97], (SH, s.2, J)) rfl ?_
    obtain ⟨hc10, h⟩ := zbifo h
    refine zr_one (bif zin s.1 8 then zN 72 [some (.ref 73), some (.int v1), some (.int s.1), none] [.int (s.2 82 s.1.toNatClampNeg), .int 8, .ref 97] (SH, s.2, J) else none) rfl (zR_bif hc10 (zR_go ?_))
    refine zr_steps 6 (80, [some (.ref 73), some (.int v1), some (.int s.1), none], [.int s.1, .ref 80, .int ((8 * (s.2 82 s.1.toNatClampNeg)) + s.1), .ref 97], (SH, s.2, J)) rfl ?_
    obtain ⟨hc11, h⟩ := zbifo h
    refine zr_one (bif zin s.1 8 then zN 81 [some (.ref 73), some (.int v1), some (.int s.1), none] [.int (s.2 80 s.1.toNatClampNeg), .int ((8 * (s.2 82 s.1.toNatClampNeg)) + s.1), .ref 97] (SH, s.2, J) else none) rfl (zR_bif hc11 (zR_go ?_))
    obtain ⟨hc12, h⟩ := zbifo h
    refine zr_one (bif zin ((8 * (s.2 82 s.1.toNatClampNeg)) + s.1) 32 then zN 82 [some (.ref 73), some (.int v1), some (.int s.1), none] [] (SH, (zu s.2 97 ((8 * (s.2 82 s.1.toNatClampNeg)) + s.1).toNatClampNeg (s.2 80 s.1.toNatClampNeg)), J) else none) rfl (zR_bif hc12 (zR_go ?_))
    refine zr_steps 2 (52, [some (.ref 73), some (.int v1), some (.int (s.1 + 1)), none], [], (SH, (zu s.2 97 ((8 * (s.2 82 s.1.toNatClampNeg)) + s.1).toNatClampNeg (s.2 80 s.1.toNatClampNeg)), J)) rfl ?_
    have he := Option.some.inj h
    subst he
    exact zr_hdr (ls2 := [some (.ref 73), some (.int v1), some (.int (s.1 + 1)), none]) rfl rfl (show zRun X d 171 52 [some (.ref 73), some (.int v1), some (.int (s.1 + 1)), none] [] (SH, (zu s.2 97 ((8 * (s.2 82 s.1.toNatClampNeg)) + s.1).toNatClampNeg (s.2 80 s.1.toNatClampNeg)), J) r M' from w))
set_option maxRecDepth 100000 in
set_option maxHeartbeats 4000000 in
theorem ok_f171_goTo_L97 {X : zX} {d : Nat} {r : Option Value} {M' : zM} (hd : 5 ≤ d) (v1 : Int32) (v2 : Int32) {J : (Nat → Nat → Int64)} : ∀ (n : Nat) (s x : (Int32 × (Nat → Nat → Int32))), zloop (f171_goTo_L97 v1 v2) n s = some x → (fun (x : (Int32 × (Nat → Nat → Int32))) => zRun X d 171 126 [some (.ref 73), some (.int v1), some (.int v2), none] [] (SH, x.2, J) r M') x → (fun (s : (Int32 × (Nat → Nat → Int32))) => zRun X d 171 97 [some (.ref 73), some (.int v1), some (.int v2), some (.int s.1)] [] (SH, s.2, J) r M') s := zloop_ok (B := (f171_goTo_L97 v1 v2)) (Wh := fun (s : (Int32 × (Nat → Nat → Int32))) => zRun X d 171 97 [some (.ref 73), some (.int v1), some (.int v2), some (.int s.1)] [] (SH, s.2, J) r M') (Wx := fun (x : (Int32 × (Nat → Nat → Int32))) => zRun X d 171 126 [some (.ref 73), some (.int v1), some (.int v2), none] [] (SH, x.2, J) r M') (fun s y h w => by
  unfold f171_goTo_L97 at h
  refine zr_steps 3 (102, [some (.ref 73), some (.int v1), some (.int v2), some (.int s.1)], [.int (s.2 73 1), .int s.1], (SH, s.2, J)) rfl ?_
  refine zr_one (if (s.2 73 1) ≤ s.1 then zN 126 [some (.ref 73), some (.int v1), some (.int v2), some (.int s.1)] [] (SH, s.2, J) else zN 105 [some (.ref 73), some (.int v1), some (.int v2), some (.int s.1)] [] (SH, s.2, J)) rfl (zR_if (fun hc19 => zR_go ?_) (fun hc19 => zR_go ?_))
  · rw [if_pos hc19] at h
    have he := Option.some.inj h
    subst he
    exact zr_hdr (ls2 := [some (.ref 73), some (.int v1), some (.int v2), none]) rfl rfl (show zRun X d 171 126 [some (.ref 73), some (.int v1), some (.int v2), none] [] (SH, s.2, J) r M' from w)
  · rw [if_neg hc19] at h
    refine zr_steps 9 (116, [some (.ref 73), some (.int v1), some (.int v2), some (.int s.1)], [.int s.1, .ref 73, .int ((4 * v2) + s.1), .ref 101], (SH, s.2, J)) rfl ?_
    obtain ⟨t17, hc16, h⟩ := zbind h
    refine zr_one (some (.inr (.inl (166, [.ref 73, .int s.1], [.int ((4 * v2) + s.1), .ref 101], 119)))) rfl (zR_call (by omega) rfl (ok_f166_inSquare (by omega) s.1 _ hc16) ?_)
    obtain ⟨hc18, h⟩ := zbifo h
    refine zr_one (bif zin ((4 * v2) + s.1) 240 then zN 120 [some (.ref 73), some (.int v1), some (.int v2), some (.int s.1)] [] (SH, (zu s.2 101 ((4 * v2) + s.1).toNatClampNeg t17), J) else none) rfl (zR_bif hc18 (zR_go ?_))
    refine zr_steps 2 (97, [some (.ref 73), some (.int v1), some (.int v2), some (.int (s.1 + 1))], [], (SH, (zu s.2 101 ((4 * v2) + s.1).toNatClampNeg t17), J)) rfl ?_
    have he := Option.some.inj h
    subst he
    exact zr_hdr (ls2 := [some (.ref 73), some (.int v1), some (.int v2), some (.int (s.1 + 1))]) rfl rfl (show zRun X d 171 97 [some (.ref 73), some (.int v1), some (.int v2), some (.int (s.1 + 1))] [] (SH, (zu s.2 101 ((4 * v2) + s.1).toNatClampNeg t17), J) r M' from w))
set_option maxRecDepth 100000 in
set_option maxHeartbeats 4000000 in
theorem ok_f171_goTo_L141 {X : zX} {d : Nat} {r : Option Value} {M' : zM} (hd : 5 ≤ d) (v1 : Int32) (v2 : Int32) {J : (Nat → Nat → Int64)} : ∀ (n : Nat) (s x : (Int32 × (Nat → Nat → Int32))), zloop (f171_goTo_L141 v1 v2) n s = some x → (fun (x : (Int32 × (Nat → Nat → Int32))) => zRun X d 171 170 [some (.ref 73), some (.int v1), some (.int v2), none] [] (SH, x.2, J) r M') x → (fun (s : (Int32 × (Nat → Nat → Int32))) => zRun X d 171 141 [some (.ref 73), some (.int v1), some (.int v2), some (.int s.1)] [] (SH, s.2, J) r M') s := zloop_ok (B := (f171_goTo_L141 v1 v2)) (Wh := fun (s : (Int32 × (Nat → Nat → Int32))) => zRun X d 171 141 [some (.ref 73), some (.int v1), some (.int v2), some (.int s.1)] [] (SH, s.2, J) r M') (Wx := fun (x : (Int32 × (Nat → Nat → Int32))) => zRun X d 171 170 [some (.ref 73), some (.int v1), some (.int v2), none] [] (SH, x.2, J) r M') (fun s y h w => by
  unfold f171_goTo_L141 at h
  refine zr_steps 2 (144, [some (.ref 73), some (.int v1), some (.int v2), some (.int s.1)], [.int 32, .int s.1], (SH, s.2, J)) rfl ?_
  refine zr_one (if (32 : Int32) ≤ s.1 then zN 170 [some (.ref 73), some (.int v1), some (.int v2), some (.int s.1)] [] (SH, s.2, J) else zN 147 [some (.ref 73), some (.int v1), some (.int v2), some (.int s.1)] [] (SH, s.2, J)) rfl (zR_if (fun hc28 => zR_go ?_) (fun hc28 => zR_go ?_))
  · rw [if_pos hc28] at h
    have he := Option.some.inj h
    subst he
    exact zr_hdr (ls2 := [some (.ref 73), some (.int v1), some (.int v2), none]) rfl rfl (show zRun X d 171 170 [some (.ref 73), some (.int v1), some (.int v2), none] [] (SH, s.2, J) r M' from w)
  · rw [if_neg hc28] at h
    refine zr_steps 10 (162, [some (.ref 73), some (.int v1), some (.int v2), some (.int s.1)], [.int s.1, .ref 97, .int ((32 * v2) + s.1), .ref 100], (SH, s.2, J)) rfl ?_
    obtain ⟨hc26, h⟩ := zbifo h
    refine zr_one (bif zin s.1 32 then zN 163 [some (.ref 73), some (.int v1), some (.int v2), some (.int s.1)] [.int (s.2 97 s.1.toNatClampNeg), .int ((32 * v2) + s.1), .ref 100] (SH, s.2, J) else none) rfl (zR_bif hc26 (zR_go ?_))
    obtain ⟨hc27, h⟩ := zbifo h
    refine zr_one (bif zin ((32 * v2) + s.1) 1952 then zN 164 [some (.ref 73), some (.int v1), some (.int v2), some (.int s.1)] [] (SH, (zu s.2 100 ((32 * v2) + s.1).toNatClampNeg (s.2 97 s.1.toNatClampNeg)), J) else none) rfl (zR_bif hc27 (zR_go ?_))
    refine zr_steps 2 (141, [some (.ref 73), some (.int v1), some (.int v2), some (.int (s.1 + 1))], [], (SH, (zu s.2 100 ((32 * v2) + s.1).toNatClampNeg (s.2 97 s.1.toNatClampNeg)), J)) rfl ?_
    have he := Option.some.inj h
    subst he
    exact zr_hdr (ls2 := [some (.ref 73), some (.int v1), some (.int v2), some (.int (s.1 + 1))]) rfl rfl (show zRun X d 171 141 [some (.ref 73), some (.int v1), some (.int v2), some (.int (s.1 + 1))] [] (SH, (zu s.2 100 ((32 * v2) + s.1).toNatClampNeg (s.2 97 s.1.toNatClampNeg)), J) r M' from w))
set_option maxRecDepth 100000 in
set_option maxHeartbeats 4000000 in
theorem ok_f171_goTo_L90 {X : zX} {d : Nat} {r : Option Value} {M' : zM} (hd : 5 ≤ d) (v1 : Int32) {J : (Nat → Nat → Int64)} : ∀ (n : Nat) (s x : (Int32 × (Nat → Nat → Int32))), zloop (f171_goTo_L90 v1) n s = some x → (fun (x : (Int32 × (Nat → Nat → Int32))) => zRun X d 171 176 [some (.ref 73), some (.int v1), none, none] [] (SH, x.2, J) r M') x → (fun (s : (Int32 × (Nat → Nat → Int32))) => zRun X d 171 90 [some (.ref 73), some (.int v1), some (.int s.1), none] [] (SH, s.2, J) r M') s := zloop_ok (B := (f171_goTo_L90 v1)) (Wh := fun (s : (Int32 × (Nat → Nat → Int32))) => zRun X d 171 90 [some (.ref 73), some (.int v1), some (.int s.1), none] [] (SH, s.2, J) r M') (Wx := fun (x : (Int32 × (Nat → Nat → Int32))) => zRun X d 171 176 [some (.ref 73), some (.int v1), none, none] [] (SH, x.2, J) r M') (fun s y h w => by
  unfold f171_goTo_L90 at h
  refine zr_steps 2 (92, [some (.ref 73), some (.int v1), some (.int s.1), none], [.int v1, .int s.1], (SH, s.2, J)) rfl ?_
  refine zr_one (if v1 ≤ s.1 then zN 176 [some (.ref 73), some (.int v1), some (.int s.1), none] [] (SH, s.2, J) else zN 95 [some (.ref 73), some (.int v1), some (.int s.1), none] [] (SH, s.2, J)) rfl (zR_if (fun hc31 => zR_go ?_) (fun hc31 => zR_go ?_))
  · rw [if_pos hc31] at h
    have he := Option.some.inj h
    subst he
    exact zr_hdr (ls2 := [some (.ref 73), some (.int v1), none, none]) rfl rfl (show zRun X d 171 176 [some (.ref 73), some (.int v1), none, none] [] (SH, s.2, J) r M' from w)
  · rw [if_neg hc31] at h
    refine zr_steps 2 (97, [some (.ref 73), some (.int v1), some (.int s.1), some (.int 0)], [], (SH, s.2, J)) rfl ?_
    obtain ⟨s20, ho21, h⟩ := zbind h
    refine zr_hdr (ls2 := [some (.ref 73), some (.int v1), some (.int s.1), some (.int 0)]) rfl rfl ?_
    refine ok_f171_goTo_L97 (by omega) v1 s.1 5000 ((0 : Int32), s.2) s20 ho21 ?_
    show zRun X d 171 126 [some (.ref 73), some (.int v1), some (.int s.1), none] [] (SH, s20.2, J) _ _
    refine zr_steps 2 (128, [some (.ref 73), some (.int v1), some (.int s.1), none], [.int s.1, .ref 73], (SH, s20.2, J)) rfl ?_
    obtain ⟨t23, hc22, h⟩ := zbind h
    refine zr_one (some (.inr (.inl (167, [.ref 73, .int s.1], [], 131)))) rfl (zR_call (by omega) rfl (ok_f167_arrive (by omega) s.1 _ hc22) ?_)
    refine zr_steps 5 (136, [some (.ref 73), some (.int v1), some (.int s.1), none], [.int (v1 - s.1), .int s.1, .ref 73], (SH, t23, J)) rfl ?_
    obtain ⟨t25, hc24, h⟩ := zbind h
    refine zr_one (some (.inr (.inl (170, [.ref 73, .int s.1, .int (v1 - s.1)], [], 139)))) rfl (zR_call (by omega) rfl (ok_f170_go (by omega) s.1 (v1 - s.1) _ hc24) ?_)
    refine zr_steps 2 (141, [some (.ref 73), some (.int v1), some (.int s.1), some (.int 0)], [], (SH, t25, J)) rfl ?_
    obtain ⟨s29, ho30, h⟩ := zbind h
    refine zr_hdr (ls2 := [some (.ref 73), some (.int v1), some (.int s.1), some (.int 0)]) rfl rfl ?_
    refine ok_f171_goTo_L141 (by omega) v1 s.1 5000 ((0 : Int32), t25) s29 ho30 ?_
    show zRun X d 171 170 [some (.ref 73), some (.int v1), some (.int s.1), none] [] (SH, s29.2, J) _ _
    refine zr_steps 2 (90, [some (.ref 73), some (.int v1), some (.int (s.1 + 1)), none], [], (SH, s29.2, J)) rfl ?_
    have he := Option.some.inj h
    subst he
    exact zr_hdr (ls2 := [some (.ref 73), some (.int v1), some (.int (s.1 + 1)), none]) rfl rfl (show zRun X d 171 90 [some (.ref 73), some (.int v1), some (.int (s.1 + 1)), none] [] (SH, s29.2, J) r M' from w))
set_option maxRecDepth 100000 in
set_option maxHeartbeats 4000000 in
theorem ok_f171_goTo_L183 {X : zX} {d : Nat} {r : Option Value} {M' : zM} (hd : 5 ≤ d) (v1 : Int32) {J : (Nat → Nat → Int64)} : ∀ (n : Nat) (s x : (Int32 × (Nat → Nat → Int32))), zloop (f171_goTo_L183 v1) n s = some x → (fun (x : (Int32 × (Nat → Nat → Int32))) => zRun X d 171 212 [some (.ref 73), some (.int v1), none, none] [] (SH, x.2, J) r M') x → (fun (s : (Int32 × (Nat → Nat → Int32))) => zRun X d 171 183 [some (.ref 73), some (.int v1), some (.int s.1), none] [] (SH, s.2, J) r M') s := zloop_ok (B := (f171_goTo_L183 v1)) (Wh := fun (s : (Int32 × (Nat → Nat → Int32))) => zRun X d 171 183 [some (.ref 73), some (.int v1), some (.int s.1), none] [] (SH, s.2, J) r M') (Wx := fun (x : (Int32 × (Nat → Nat → Int32))) => zRun X d 171 212 [some (.ref 73), some (.int v1), none, none] [] (SH, x.2, J) r M') (fun s y h w => by
  unfold f171_goTo_L183 at h
  refine zr_steps 2 (186, [some (.ref 73), some (.int v1), some (.int s.1), none], [.int 32, .int s.1], (SH, s.2, J)) rfl ?_
  refine zr_one (if (32 : Int32) ≤ s.1 then zN 212 [some (.ref 73), some (.int v1), some (.int s.1), none] [] (SH, s.2, J) else zN 189 [some (.ref 73), some (.int v1), some (.int s.1), none] [] (SH, s.2, J)) rfl (zR_if (fun hc38 => zR_go ?_) (fun hc38 => zR_go ?_))
  · rw [if_pos hc38] at h
    have he := Option.some.inj h
    subst he
    exact zr_hdr (ls2 := [some (.ref 73), some (.int v1), none, none]) rfl rfl (show zRun X d 171 212 [some (.ref 73), some (.int v1), none, none] [] (SH, s.2, J) r M' from w)
  · rw [if_neg hc38] at h
    refine zr_steps 10 (204, [some (.ref 73), some (.int v1), some (.int s.1), none], [.int s.1, .ref 97, .int ((32 * v1) + s.1), .ref 100], (SH, s.2, J)) rfl ?_
    obtain ⟨hc36, h⟩ := zbifo h
    refine zr_one (bif zin s.1 32 then zN 205 [some (.ref 73), some (.int v1), some (.int s.1), none] [.int (s.2 97 s.1.toNatClampNeg), .int ((32 * v1) + s.1), .ref 100] (SH, s.2, J) else none) rfl (zR_bif hc36 (zR_go ?_))
    obtain ⟨hc37, h⟩ := zbifo h
    refine zr_one (bif zin ((32 * v1) + s.1) 1952 then zN 206 [some (.ref 73), some (.int v1), some (.int s.1), none] [] (SH, (zu s.2 100 ((32 * v1) + s.1).toNatClampNeg (s.2 97 s.1.toNatClampNeg)), J) else none) rfl (zR_bif hc37 (zR_go ?_))
    refine zr_steps 2 (183, [some (.ref 73), some (.int v1), some (.int (s.1 + 1)), none], [], (SH, (zu s.2 100 ((32 * v1) + s.1).toNatClampNeg (s.2 97 s.1.toNatClampNeg)), J)) rfl ?_
    have he := Option.some.inj h
    subst he
    exact zr_hdr (ls2 := [some (.ref 73), some (.int v1), some (.int (s.1 + 1)), none]) rfl rfl (show zRun X d 171 183 [some (.ref 73), some (.int v1), some (.int (s.1 + 1)), none] [] (SH, (zu s.2 100 ((32 * v1) + s.1).toNatClampNeg (s.2 97 s.1.toNatClampNeg)), J) r M' from w))
set_option maxRecDepth 100000 in
set_option maxHeartbeats 4000000 in
theorem ok_f171_goTo {X : zX} {d : Nat} (hd : 5 ≤ d) (v1 : Int32) {I : (Nat → Nat → Int32)} {J : (Nat → Nat → Int64)} (t : (Int32 × (Nat → Nat → Int32))) (h : f171_goTo v1 I = some t) : zRun X d 171 0 (zent 171 [.ref 73, .int v1]) [] (SH, I, J) (some (.int t.1)) (SH, t.2, J) := by
  unfold f171_goTo at h
  refine zr_steps 2 (2, [some (.ref 73), some (.int v1), some (.int 0), none], [], (SH, I, J)) rfl ?_
  obtain ⟨s4, ho5, h⟩ := zbind h
  refine zr_hdr (ls2 := [some (.ref 73), some (.int v1), some (.int 0), none]) rfl rfl ?_
  refine ok_f171_goTo_L2 (by omega) v1 5000 ((0 : Int32), I) s4 ho5 ?_
  show zRun X d 171 28 [some (.ref 73), some (.int v1), none, none] [] (SH, s4.2, J) _ _
  refine zr_steps 2 (30, [some (.ref 73), some (.int v1), some (.int 0), none], [], (SH, s4.2, J)) rfl ?_
  obtain ⟨s8, ho9, h⟩ := zbind h
  refine zr_hdr (ls2 := [some (.ref 73), some (.int v1), some (.int 0), none]) rfl rfl ?_
  refine ok_f171_goTo_L30 (by omega) v1 5000 ((0 : Int32), s4.2) s8 ho9 ?_
  show zRun X d 171 50 [some (.ref 73), some (.int v1), none, none] [] (SH, s8.2, J) _ _
  refine zr_steps 2 (52, [some (.ref 73), some (.int v1), some (.int 0), none], [], (SH, s8.2, J)) rfl ?_
  obtain ⟨s14, ho15, h⟩ := zbind h
  refine zr_hdr (ls2 := [some (.ref 73), some (.int v1), some (.int 0), none]) rfl rfl ?_
  refine ok_f171_goTo_L52 (by omega) v1 5000 ((0 : Int32), s8.2) s14 ho15 ?_
  show zRun X d 171 88 [some (.ref 73), some (.int v1), none, none] [] (SH, s14.2, J) _ _
  refine zr_steps 2 (90, [some (.ref 73), some (.int v1), some (.int 0), none], [], (SH, s14.2, J)) rfl ?_
  obtain ⟨s32, ho33, h⟩ := zbind h
  refine zr_hdr (ls2 := [some (.ref 73), some (.int v1), some (.int 0), none]) rfl rfl ?_
  refine ok_f171_goTo_L90 (by omega) v1 5000 ((0 : Int32), s14.2) s32 ho33 ?_
  show zRun X d 171 176 [some (.ref 73), some (.int v1), none, none] [] (SH, s32.2, J) _ _
  refine zr_steps 2 (178, [some (.ref 73), some (.int v1), none, none], [.int v1, .ref 73], (SH, s32.2, J)) rfl ?_
  obtain ⟨t35, hc34, h⟩ := zbind h
  refine zr_one (some (.inr (.inl (167, [.ref 73, .int v1], [], 181)))) rfl (zR_call (by omega) rfl (ok_f167_arrive (by omega) v1 _ hc34) ?_)
  refine zr_steps 2 (183, [some (.ref 73), some (.int v1), some (.int 0), none], [], (SH, t35, J)) rfl ?_
  obtain ⟨s39, ho40, h⟩ := zbind h
  refine zr_hdr (ls2 := [some (.ref 73), some (.int v1), some (.int 0), none]) rfl rfl ?_
  refine ok_f171_goTo_L183 (by omega) v1 5000 ((0 : Int32), t35) s39 ho40 ?_
  show zRun X d 171 212 [some (.ref 73), some (.int v1), none, none] [] (SH, s39.2, J) _ _
  refine zr_steps 2 (214, [some (.ref 73), some (.int v1), none, none], [.int v1, .ref 73], (SH, s39.2, J)) rfl ?_
  obtain ⟨t42, hc41, h⟩ := zbind h
  refine zr_one (some (.inr (.inl (173, [.ref 73, .int v1], [], 217)))) rfl (zR_call (by omega) rfl (ok_f173_counts (by omega) v1 _ hc41) ?_)
  refine zr_steps 2 (221, [some (.ref 73), some (.int v1), none, none], [.int (t42 73 52)], (SH, t42, J)) rfl ?_
  have he := Option.some.inj h
  subst he
  exact zr_one (some (.inr (.inr (some (.int (t42 73 52)))))) rfl (zR_ret rfl rfl)
set_option maxRecDepth 100000 in
set_option maxHeartbeats 4000000 in
theorem ok_f174_run_L74 {X : zX} {d : Nat} {r : Option Value} {M' : zM} (hd : 6 ≤ d) {J : (Nat → Nat → Int64)} : ∀ (n : Nat) (s x : (Int32 × (Nat → Nat → Int32))), zloop f174_run_L74 n s = some x → (fun (x : (Int32 × (Nat → Nat → Int32))) => zRun X d 174 103 [some (.ref 73), none] [] (SH, x.2, J) r M') x → (fun (s : (Int32 × (Nat → Nat → Int32))) => zRun X d 174 74 [some (.ref 73), some (.int s.1)] [] (SH, s.2, J) r M') s := zloop_ok (B := f174_run_L74) (Wh := fun (s : (Int32 × (Nat → Nat → Int32))) => zRun X d 174 74 [some (.ref 73), some (.int s.1)] [] (SH, s.2, J) r M') (Wx := fun (x : (Int32 × (Nat → Nat → Int32))) => zRun X d 174 103 [some (.ref 73), none] [] (SH, x.2, J) r M') (fun s y h w => by
  unfold f174_run_L74 at h
  refine zr_steps 3 (79, [some (.ref 73), some (.int s.1)], [.int (s.2 73 9), .int s.1], (SH, s.2, J)) rfl ?_
  refine zr_one (if (s.2 73 9) ≤ s.1 then zN 103 [some (.ref 73), some (.int s.1)] [] (SH, s.2, J) else zN 82 [some (.ref 73), some (.int s.1)] [] (SH, s.2, J)) rfl (zR_if (fun hc4 => zR_go ?_) (fun hc4 => zR_go ?_))
  · rw [if_pos hc4] at h
    have he := Option.some.inj h
    subst he
    exact zr_hdr (ls2 := [some (.ref 73), none]) rfl rfl (show zRun X d 174 103 [some (.ref 73), none] [] (SH, s.2, J) r M' from w)
  · rw [if_neg hc4] at h
    refine zr_steps 6 (92, [some (.ref 73), some (.int s.1)], [.int s.1, .ref 80, .int (s.2 73 59), .ref 73], (SH, s.2, J)) rfl ?_
    obtain ⟨hc3, h⟩ := zbifo h
    refine zr_one (bif zin s.1 8 then zN 93 [some (.ref 73), some (.int s.1)] [.int (s.2 80 s.1.toNatClampNeg), .int (s.2 73 59), .ref 73] (SH, s.2, J) else none) rfl (zR_bif hc3 (zR_go ?_))
    refine zr_steps 4 (74, [some (.ref 73), some (.int (s.1 + 1))], [], (SH, (zu s.2 73 59 ((s.2 73 59) + (s.2 80 s.1.toNatClampNeg))), J)) rfl ?_
    have he := Option.some.inj h
    subst he
    exact zr_hdr (ls2 := [some (.ref 73), some (.int (s.1 + 1))]) rfl rfl (show zRun X d 174 74 [some (.ref 73), some (.int (s.1 + 1))] [] (SH, (zu s.2 73 59 ((s.2 73 59) + (s.2 80 s.1.toNatClampNeg))), J) r M' from w))
set_option maxRecDepth 100000 in
set_option maxHeartbeats 4000000 in
theorem ok_f174_run_L105 {X : zX} {d : Nat} {r : Option Value} {M' : zM} (hd : 6 ≤ d) {J : (Nat → Nat → Int64)} : ∀ (n : Nat) (s x : (Int32 × (Nat → Nat → Int32))), zloop f174_run_L105 n s = some x → (fun (x : (Int32 × (Nat → Nat → Int32))) => zRun X d 174 132 [some (.ref 73), none] [] (SH, x.2, J) r M') x → (fun (s : (Int32 × (Nat → Nat → Int32))) => zRun X d 174 105 [some (.ref 73), some (.int s.1)] [] (SH, s.2, J) r M') s := zloop_ok (B := f174_run_L105) (Wh := fun (s : (Int32 × (Nat → Nat → Int32))) => zRun X d 174 105 [some (.ref 73), some (.int s.1)] [] (SH, s.2, J) r M') (Wx := fun (x : (Int32 × (Nat → Nat → Int32))) => zRun X d 174 132 [some (.ref 73), none] [] (SH, x.2, J) r M') (fun s y h w => by
  unfold f174_run_L105 at h
  refine zr_steps 2 (108, [some (.ref 73), some (.int s.1)], [.int 32, .int s.1], (SH, s.2, J)) rfl ?_
  refine zr_one (if (32 : Int32) ≤ s.1 then zN 132 [some (.ref 73), some (.int s.1)] [] (SH, s.2, J) else zN 111 [some (.ref 73), some (.int s.1)] [] (SH, s.2, J)) rfl (zR_if (fun hc8 => zR_go ?_) (fun hc8 => zR_go ?_))
  · rw [if_pos hc8] at h
    have he := Option.some.inj h
    subst he
    exact zr_hdr (ls2 := [some (.ref 73), none]) rfl rfl (show zRun X d 174 132 [some (.ref 73), none] [] (SH, s.2, J) r M' from w)
  · rw [if_neg hc8] at h
    refine zr_steps 6 (121, [some (.ref 73), some (.int s.1)], [.int s.1, .ref 97, .int (s.2 73 59), .ref 73], (SH, s.2, J)) rfl ?_
    obtain ⟨hc7, h⟩ := zbifo h
    refine zr_one (bif zin s.1 32 then zN 122 [some (.ref 73), some (.int s.1)] [.int (s.2 97 s.1.toNatClampNeg), .int (s.2 73 59), .ref 73] (SH, s.2, J) else none) rfl (zR_bif hc7 (zR_go ?_))
    refine zr_steps 4 (105, [some (.ref 73), some (.int (s.1 + 1))], [], (SH, (zu s.2 73 59 ((s.2 73 59) - (s.2 97 s.1.toNatClampNeg))), J)) rfl ?_
    have he := Option.some.inj h
    subst he
    exact zr_hdr (ls2 := [some (.ref 73), some (.int (s.1 + 1))]) rfl rfl (show zRun X d 174 105 [some (.ref 73), some (.int (s.1 + 1))] [] (SH, (zu s.2 73 59 ((s.2 73 59) - (s.2 97 s.1.toNatClampNeg))), J) r M' from w))
set_option maxRecDepth 100000 in
set_option maxHeartbeats 4000000 in
theorem ok_f174_run_L134 {X : zX} {d : Nat} {r : Option Value} {M' : zM} (hd : 6 ≤ d) {J : (Nat → Nat → Int64)} : ∀ (n : Nat) (s x : (Int32 × (Nat → Nat → Int32))), zloop f174_run_L134 n s = some x → (fun (x : (Int32 × (Nat → Nat → Int32))) => zRun X d 174 159 [some (.ref 73), none] [] (SH, x.2, J) r M') x → (fun (s : (Int32 × (Nat → Nat → Int32))) => zRun X d 174 134 [some (.ref 73), some (.int s.1)] [] (SH, s.2, J) r M') s := zloop_ok (B := f174_run_L134) (Wh := fun (s : (Int32 × (Nat → Nat → Int32))) => zRun X d 174 134 [some (.ref 73), some (.int s.1)] [] (SH, s.2, J) r M') (Wx := fun (x : (Int32 × (Nat → Nat → Int32))) => zRun X d 174 159 [some (.ref 73), none] [] (SH, x.2, J) r M') (fun s y h w => by
  unfold f174_run_L134 at h
  refine zr_steps 2 (138, [some (.ref 73), some (.int s.1)], [.int 1952, .int s.1], (SH, s.2, J)) rfl ?_
  refine zr_one (if (1952 : Int32) ≤ s.1 then zN 159 [some (.ref 73), some (.int s.1)] [] (SH, s.2, J) else zN 141 [some (.ref 73), some (.int s.1)] [] (SH, s.2, J)) rfl (zR_if (fun hc13 => zR_go ?_) (fun hc13 => zR_go ?_))
  · rw [if_pos hc13] at h
    have he := Option.some.inj h
    subst he
    exact zr_hdr (ls2 := [some (.ref 73), none]) rfl rfl (show zRun X d 174 159 [some (.ref 73), none] [] (SH, s.2, J) r M' from w)
  · rw [if_neg hc13] at h
    refine zr_steps 6 (151, [some (.ref 73), some (.int s.1)], [.int s.1, .ref 100, .int s.1, .ref 104], (SH, s.2, J)) rfl ?_
    obtain ⟨hc11, h⟩ := zbifo h
    refine zr_one (bif zin s.1 1952 then zN 152 [some (.ref 73), some (.int s.1)] [.int (s.2 100 s.1.toNatClampNeg), .int s.1, .ref 104] (SH, s.2, J) else none) rfl (zR_bif hc11 (zR_go ?_))
    obtain ⟨hc12, h⟩ := zbifo h
    refine zr_one (bif zin s.1 1952 then zN 153 [some (.ref 73), some (.int s.1)] [] (SH, (zu s.2 104 s.1.toNatClampNeg (s.2 100 s.1.toNatClampNeg)), J) else none) rfl (zR_bif hc12 (zR_go ?_))
    refine zr_steps 2 (134, [some (.ref 73), some (.int (s.1 + 1))], [], (SH, (zu s.2 104 s.1.toNatClampNeg (s.2 100 s.1.toNatClampNeg)), J)) rfl ?_
    have he := Option.some.inj h
    subst he
    exact zr_hdr (ls2 := [some (.ref 73), some (.int (s.1 + 1))]) rfl rfl (show zRun X d 174 134 [some (.ref 73), some (.int (s.1 + 1))] [] (SH, (zu s.2 104 s.1.toNatClampNeg (s.2 100 s.1.toNatClampNeg)), J) r M' from w))
set_option maxRecDepth 100000 in
set_option maxHeartbeats 4000000 in
theorem ok_f174_run_L161 {X : zX} {d : Nat} {r : Option Value} {M' : zM} (hd : 6 ≤ d) {J : (Nat → Nat → Int64)} : ∀ (n : Nat) (s x : (Int32 × (Nat → Nat → Int32))), zloop f174_run_L161 n s = some x → (fun (x : (Int32 × (Nat → Nat → Int32))) => zRun X d 174 187 [some (.ref 73), none] [] (SH, x.2, J) r M') x → (fun (s : (Int32 × (Nat → Nat → Int32))) => zRun X d 174 161 [some (.ref 73), some (.int s.1)] [] (SH, s.2, J) r M') s := zloop_ok (B := f174_run_L161) (Wh := fun (s : (Int32 × (Nat → Nat → Int32))) => zRun X d 174 161 [some (.ref 73), some (.int s.1)] [] (SH, s.2, J) r M') (Wx := fun (x : (Int32 × (Nat → Nat → Int32))) => zRun X d 174 187 [some (.ref 73), none] [] (SH, x.2, J) r M') (fun s y h w => by
  unfold f174_run_L161 at h
  refine zr_steps 3 (166, [some (.ref 73), some (.int s.1)], [.int (s.2 73 1), .int s.1], (SH, s.2, J)) rfl ?_
  refine zr_one (if (s.2 73 1) ≤ s.1 then zN 187 [some (.ref 73), some (.int s.1)] [] (SH, s.2, J) else zN 169 [some (.ref 73), some (.int s.1)] [] (SH, s.2, J)) rfl (zR_if (fun hc18 => zR_go ?_) (fun hc18 => zR_go ?_))
  · rw [if_pos hc18] at h
    have he := Option.some.inj h
    subst he
    exact zr_hdr (ls2 := [some (.ref 73), none]) rfl rfl (show zRun X d 174 187 [some (.ref 73), none] [] (SH, s.2, J) r M' from w)
  · rw [if_neg hc18] at h
    refine zr_steps 6 (179, [some (.ref 73), some (.int s.1)], [.int s.1, .ref 103, .int s.1, .ref 105], (SH, s.2, J)) rfl ?_
    obtain ⟨hc16, h⟩ := zbifo h
    refine zr_one (bif zin s.1 4 then zN 180 [some (.ref 73), some (.int s.1)] [.int (s.2 103 s.1.toNatClampNeg), .int s.1, .ref 105] (SH, s.2, J) else none) rfl (zR_bif hc16 (zR_go ?_))
    obtain ⟨hc17, h⟩ := zbifo h
    refine zr_one (bif zin s.1 4 then zN 181 [some (.ref 73), some (.int s.1)] [] (SH, (zu s.2 105 s.1.toNatClampNeg (s.2 103 s.1.toNatClampNeg)), J) else none) rfl (zR_bif hc17 (zR_go ?_))
    refine zr_steps 2 (161, [some (.ref 73), some (.int (s.1 + 1))], [], (SH, (zu s.2 105 s.1.toNatClampNeg (s.2 103 s.1.toNatClampNeg)), J)) rfl ?_
    have he := Option.some.inj h
    subst he
    exact zr_hdr (ls2 := [some (.ref 73), some (.int (s.1 + 1))]) rfl rfl (show zRun X d 174 161 [some (.ref 73), some (.int (s.1 + 1))] [] (SH, (zu s.2 105 s.1.toNatClampNeg (s.2 103 s.1.toNatClampNeg)), J) r M' from w))
set_option maxRecDepth 100000 in
set_option maxHeartbeats 4000000 in
theorem ok_f174_run {X : zX} {d : Nat} (hd : 6 ≤ d) {I : (Nat → Nat → Int32)} {J : (Nat → Nat → Int64)} (t : (Int32 × (Nat → Nat → Int32))) (h : f174_run I = some t) : zRun X d 174 0 (zent 174 [.ref 73]) [] (SH, I, J) (some (.int t.1)) (SH, t.2, J) := by
  unfold f174_run at h
  refine zr_steps 2 (4, [some (.ref 73), none], [.int (I 73 1)], (SH, I, J)) rfl ?_
  refine zr_one (if (I 73 1) = 0 then zN 7 [some (.ref 73), none] [] (SH, I, J) else zN 10 [some (.ref 73), none] [] (SH, I, J)) rfl (zR_if (fun hc21 => zR_go ?_) (fun hc21 => zR_go ?_))
  · rw [if_pos hc21] at h
    refine zr_steps 1 (9, [some (.ref 73), none], [.int (-5)], (SH, I, J)) rfl ?_
    have he := Option.some.inj h
    subst he
    exact zr_one (some (.inr (.inr (some (.int (-5)))))) rfl (zR_ret rfl rfl)
  · rw [if_neg hc21] at h
    refine zr_steps 3 (15, [some (.ref 73), none], [.int (I 73 15), .ref 73], (SH, I, J)) rfl ?_
    obtain ⟨t2, hc1, h⟩ := zbind h
    refine zr_one (some (.inr (.inl (171, [.ref 73, .int (I 73 15)], [], 18)))) rfl (zR_call (by omega) rfl (ok_f171_goTo (by omega) (I 73 15) _ hc1) ?_)
    refine zr_steps 30 (74, [some (.ref 73), some (.int 0)], [], (SH, (zu (zu (zu (zu (zu (zu (zu t2.2 73 55 (t2.2 73 15)) 73 56 (t2.2 73 53)) 73 57 (t2.2 73 52)) 73 58 (t2.2 73 54)) 73 60 (t2.2 73 1)) 73 61 (t2.2 73 9)) 73 59 0), J)) rfl ?_
    obtain ⟨s5, ho6, h⟩ := zbind h
    refine zr_hdr (ls2 := [some (.ref 73), some (.int 0)]) rfl rfl ?_
    refine ok_f174_run_L74 (by omega) 5000 ((0 : Int32), (zu (zu (zu (zu (zu (zu (zu t2.2 73 55 (t2.2 73 15)) 73 56 (t2.2 73 53)) 73 57 (t2.2 73 52)) 73 58 (t2.2 73 54)) 73 60 (t2.2 73 1)) 73 61 (t2.2 73 9)) 73 59 0)) s5 ho6 ?_
    show zRun X d 174 103 [some (.ref 73), none] [] (SH, s5.2, J) _ _
    refine zr_steps 2 (105, [some (.ref 73), some (.int 0)], [], (SH, s5.2, J)) rfl ?_
    obtain ⟨s9, ho10, h⟩ := zbind h
    refine zr_hdr (ls2 := [some (.ref 73), some (.int 0)]) rfl rfl ?_
    refine ok_f174_run_L105 (by omega) 5000 ((0 : Int32), s5.2) s9 ho10 ?_
    show zRun X d 174 132 [some (.ref 73), none] [] (SH, s9.2, J) _ _
    refine zr_steps 2 (134, [some (.ref 73), some (.int 0)], [], (SH, s9.2, J)) rfl ?_
    obtain ⟨s14, ho15, h⟩ := zbind h
    refine zr_hdr (ls2 := [some (.ref 73), some (.int 0)]) rfl rfl ?_
    refine ok_f174_run_L134 (by omega) 5000 ((0 : Int32), s9.2) s14 ho15 ?_
    show zRun X d 174 159 [some (.ref 73), none] [] (SH, s14.2, J) _ _
    refine zr_steps 2 (161, [some (.ref 73), some (.int 0)], [], (SH, s14.2, J)) rfl ?_
    obtain ⟨s19, ho20, h⟩ := zbind h
    refine zr_hdr (ls2 := [some (.ref 73), some (.int 0)]) rfl rfl ?_
    refine ok_f174_run_L161 (by omega) 5000 ((0 : Int32), s14.2) s19 ho20 ?_
    show zRun X d 174 187 [some (.ref 73), none] [] (SH, s19.2, J) _ _
    refine zr_steps 2 (191, [some (.ref 73), none], [.int (s19.2 73 52)], (SH, s19.2, J)) rfl ?_
    have he := Option.some.inj h
    subst he
    exact zr_one (some (.inr (.inr (some (.int (s19.2 73 52)))))) rfl (zR_ret rfl rfl)
set_option maxRecDepth 100000 in
set_option maxHeartbeats 4000000 in
theorem ok_f36_hasSquare_24 {X : zX} {d : Nat} (hd : 0 ≤ d) (v1 : Int32) {I : (Nat → Nat → Int32)} {J : (Nat → Nat → Int64)} (t : Int32) (h : f36_hasSquare_24 v1 I = some t) : zRun X d 36 0 (zent 36 [.ref 24, .int v1]) [] (SH, I, J) (some (.int t)) (SH, I, J) := by
  unfold f36_hasSquare_24 at h
  refine zr_steps 1 (1, [some (.ref 24), some (.int v1)], [.int v1], (SH, I, J)) rfl ?_
  refine zr_one (if v1 < 0 then zN 16 [some (.ref 24), some (.int v1)] [] (SH, I, J) else zN 4 [some (.ref 24), some (.int v1)] [] (SH, I, J)) rfl (zR_if (fun hc2 => zR_go ?_) (fun hc2 => zR_go ?_))
  · rw [if_pos hc2] at h
    refine zr_steps 1 (17, [some (.ref 24), some (.int v1)], [.int 0], (SH, I, J)) rfl ?_
    have he := Option.some.inj h
    subst he
    exact zr_one (if ((0 : Int32) = 0 ∨ (0 : Int32) = 1) then some (.inr (.inr (some (.int 0)))) else none) rfl (zR_pos (by decide) (zR_ret rfl rfl))
  · rw [if_neg hc2] at h
    refine zr_steps 3 (9, [some (.ref 24), some (.int v1)], [.int (I 24 13), .int v1], (SH, I, J)) rfl ?_
    refine zr_one (if (I 24 13) ≤ v1 then zN 16 [some (.ref 24), some (.int v1)] [] (SH, I, J) else zN 12 [some (.ref 24), some (.int v1)] [] (SH, I, J)) rfl (zR_if (fun hc1 => zR_go ?_) (fun hc1 => zR_go ?_))
    · rw [if_pos hc1] at h
      refine zr_steps 1 (17, [some (.ref 24), some (.int v1)], [.int 0], (SH, I, J)) rfl ?_
      have he := Option.some.inj h
      subst he
      exact zr_one (if ((0 : Int32) = 0 ∨ (0 : Int32) = 1) then some (.inr (.inr (some (.int 0)))) else none) rfl (zR_pos (by decide) (zR_ret rfl rfl))
    · rw [if_neg hc1] at h
      refine zr_steps 2 (17, [some (.ref 24), some (.int v1)], [.int 1], (SH, I, J)) rfl ?_
      have he := Option.some.inj h
      subst he
      exact zr_one (if ((1 : Int32) = 0 ∨ (1 : Int32) = 1) then some (.inr (.inr (some (.int 1)))) else none) rfl (zR_pos (by decide) (zR_ret rfl rfl))
set_option maxRecDepth 100000 in
set_option maxHeartbeats 4000000 in
theorem ok_f38_atEnd_24 {X : zX} {d : Nat} (hd : 0 ≤ d) (v1 : Int32) (v2 : Int32) (v3 : Int32) {I : (Nat → Nat → Int32)} {J : (Nat → Nat → Int64)} (t : Int32) (h : f38_atEnd_24 v1 v2 v3 I = some t) : zRun X d 38 0 (zent 38 [.ref 24, .int v1, .int v2, .int v3]) [] (SH, I, J) (some (.int t)) (SH, I, J) := by
  unfold f38_atEnd_24 at h
  refine zr_steps 11 (15, [some (.ref 24), some (.int v1), some (.int v2), some (.int v3)], [.int (((v1 * 32) + (v2 * 8)) + v3), .ref 33], (SH, I, J)) rfl ?_
  obtain ⟨hc1, h⟩ := zbifo h
  refine zr_one (bif zin (((v1 * 32) + (v2 * 8)) + v3) 1952 then zN 16 [some (.ref 24), some (.int v1), some (.int v2), some (.int v3)] [.int (I 33 (((v1 * 32) + (v2 * 8)) + v3).toNatClampNeg)] (SH, I, J) else none) rfl (zR_bif hc1 (zR_go ?_))
  have he := Option.some.inj h
  subst he
  exact zr_one (some (.inr (.inr (some (.int (I 33 (((v1 * 32) + (v2 * 8)) + v3).toNatClampNeg)))))) rfl (zR_ret rfl rfl)
set_option maxRecDepth 100000 in
set_option maxHeartbeats 4000000 in
theorem ok_f39_allAtEnd_24_L5 {X : zX} {d : Nat} {r : Option Value} {M' : zM} (hd : 1 ≤ d) (v1 : Int32) (v2 : Int32) {I : (Nat → Nat → Int32)} {J : (Nat → Nat → Int64)} : ∀ (n : Nat) (s x : (Int32 × Int32)), zloop (f39_allAtEnd_24_L5 v1 v2 I) n s = some x → (fun (x : (Int32 × Int32)) => zRun X d 39 29 [none, none, none, some (.int x.1), none] [] (SH, I, J) r M') x → (fun (s : (Int32 × Int32)) => zRun X d 39 5 [some (.ref 24), some (.int v1), some (.int v2), some (.int s.1), some (.int s.2)] [] (SH, I, J) r M') s := zloop_ok (B := (f39_allAtEnd_24_L5 v1 v2 I)) (Wh := fun (s : (Int32 × Int32)) => zRun X d 39 5 [some (.ref 24), some (.int v1), some (.int v2), some (.int s.1), some (.int s.2)] [] (SH, I, J) r M') (Wx := fun (x : (Int32 × Int32)) => zRun X d 39 29 [none, none, none, some (.int x.1), none] [] (SH, I, J) r M') (fun s y h w => by
  unfold f39_allAtEnd_24_L5 at h
  refine zr_steps 2 (9, [some (.ref 24), some (.int v1), some (.int v2), some (.int s.1), some (.int s.2)], [.int 8, .int s.2], (SH, I, J)) rfl ?_
  refine zr_one (if (8 : Int32) ≤ s.2 then zN 29 [some (.ref 24), some (.int v1), some (.int v2), some (.int s.1), some (.int s.2)] [] (SH, I, J) else zN 12 [some (.ref 24), some (.int v1), some (.int v2), some (.int s.1), some (.int s.2)] [] (SH, I, J)) rfl (zR_if (fun hc3 => zR_go ?_) (fun hc3 => zR_go ?_))
  · rw [if_pos hc3] at h
    have he := Option.some.inj h
    subst he
    exact zr_hdr (ls2 := [none, none, none, some (.int s.1), none]) rfl rfl (show zRun X d 39 29 [none, none, none, some (.int s.1), none] [] (SH, I, J) r M' from w)
  · rw [if_neg hc3] at h
    refine zr_steps 5 (18, [some (.ref 24), some (.int v1), some (.int v2), some (.int s.1), some (.int s.2)], [.int s.2, .int v2, .int v1, .ref 24, .int s.1], (SH, I, J)) rfl ?_
    obtain ⟨t2, hc1, h⟩ := zbind h
    refine zr_one (some (.inr (.inl (38, [.ref 24, .int v1, .int v2, .int s.2], [.int s.1], 21)))) rfl (zR_call (by omega) rfl (ok_f38_atEnd_24 (by omega) v1 v2 s.2 _ hc1) ?_)
    refine zr_steps 4 (5, [some (.ref 24), some (.int v1), some (.int v2), some (.int (s.1 + t2)), some (.int (s.2 + 1))], [], (SH, I, J)) rfl ?_
    have he := Option.some.inj h
    subst he
    exact zr_hdr (ls2 := [some (.ref 24), some (.int v1), some (.int v2), some (.int (s.1 + t2)), some (.int (s.2 + 1))]) rfl rfl (show zRun X d 39 5 [some (.ref 24), some (.int v1), some (.int v2), some (.int (s.1 + t2)), some (.int (s.2 + 1))] [] (SH, I, J) r M' from w))
set_option maxRecDepth 100000 in
set_option maxHeartbeats 4000000 in
theorem ok_f39_allAtEnd_24 {X : zX} {d : Nat} (hd : 1 ≤ d) (v1 : Int32) (v2 : Int32) {I : (Nat → Nat → Int32)} {J : (Nat → Nat → Int64)} (t : Int32) (h : f39_allAtEnd_24 v1 v2 I = some t) : zRun X d 39 0 (zent 39 [.ref 24, .int v1, .int v2]) [] (SH, I, J) (some (.int t)) (SH, I, J) := by
  unfold f39_allAtEnd_24 at h
  refine zr_steps 4 (5, [some (.ref 24), some (.int v1), some (.int v2), some (.int 0), some (.int 0)], [], (SH, I, J)) rfl ?_
  obtain ⟨s4, ho5, h⟩ := zbind h
  refine zr_hdr (ls2 := [some (.ref 24), some (.int v1), some (.int v2), some (.int 0), some (.int 0)]) rfl rfl ?_
  refine ok_f39_allAtEnd_24_L5 (by omega) v1 v2 5000 ((0 : Int32), (0 : Int32)) s4 ho5 ?_
  show zRun X d 39 29 [none, none, none, some (.int s4.1), none] [] (SH, I, J) _ _
  refine zr_steps 1 (30, [none, none, none, some (.int s4.1), none], [.int s4.1], (SH, I, J)) rfl ?_
  have he := Option.some.inj h
  subst he
  exact zr_one (some (.inr (.inr (some (.int s4.1))))) rfl (zR_ret rfl rfl)
set_option maxRecDepth 100000 in
set_option maxHeartbeats 4000000 in
theorem ok_f37_hasSort_24 {X : zX} {d : Nat} (hd : 0 ≤ d) (v1 : Int32) {I : (Nat → Nat → Int32)} {J : (Nat → Nat → Int64)} (t : Int32) (h : f37_hasSort_24 v1 I = some t) : zRun X d 37 0 (zent 37 [.ref 24, .int v1]) [] (SH, I, J) (some (.int t)) (SH, I, J) := by
  unfold f37_hasSort_24 at h
  refine zr_steps 1 (1, [some (.ref 24), some (.int v1)], [.int v1], (SH, I, J)) rfl ?_
  refine zr_one (if v1 < 0 then zN 16 [some (.ref 24), some (.int v1)] [] (SH, I, J) else zN 4 [some (.ref 24), some (.int v1)] [] (SH, I, J)) rfl (zR_if (fun hc2 => zR_go ?_) (fun hc2 => zR_go ?_))
  · rw [if_pos hc2] at h
    refine zr_steps 1 (17, [some (.ref 24), some (.int v1)], [.int 0], (SH, I, J)) rfl ?_
    have he := Option.some.inj h
    subst he
    exact zr_one (if ((0 : Int32) = 0 ∨ (0 : Int32) = 1) then some (.inr (.inr (some (.int 0)))) else none) rfl (zR_pos (by decide) (zR_ret rfl rfl))
  · rw [if_neg hc2] at h
    refine zr_steps 3 (9, [some (.ref 24), some (.int v1)], [.int (I 24 14), .int v1], (SH, I, J)) rfl ?_
    refine zr_one (if (I 24 14) ≤ v1 then zN 16 [some (.ref 24), some (.int v1)] [] (SH, I, J) else zN 12 [some (.ref 24), some (.int v1)] [] (SH, I, J)) rfl (zR_if (fun hc1 => zR_go ?_) (fun hc1 => zR_go ?_))
    · rw [if_pos hc1] at h
      refine zr_steps 1 (17, [some (.ref 24), some (.int v1)], [.int 0], (SH, I, J)) rfl ?_
      have he := Option.some.inj h
      subst he
      exact zr_one (if ((0 : Int32) = 0 ∨ (0 : Int32) = 1) then some (.inr (.inr (some (.int 0)))) else none) rfl (zR_pos (by decide) (zR_ret rfl rfl))
    · rw [if_neg hc1] at h
      refine zr_steps 2 (17, [some (.ref 24), some (.int v1)], [.int 1], (SH, I, J)) rfl ?_
      have he := Option.some.inj h
      subst he
      exact zr_one (if ((1 : Int32) = 0 ∨ (1 : Int32) = 1) then some (.inr (.inr (some (.int 1)))) else none) rfl (zR_pos (by decide) (zR_ret rfl rfl))
set_option maxRecDepth 100000 in
set_option maxHeartbeats 4000000 in
theorem ok_f97_led {X : zX} {d : Nat} (hd : 2 ≤ d) (v1 : Int32) (v2 : Int32) (v3 : Int32) {I : (Nat → Nat → Int32)} {J : (Nat → Nat → Int64)} (t : Int32) (h : f97_led v1 v2 v3 I = some t) : zRun X d 97 0 (zent 97 [.ref 0, .int v1, .int v2, .int v3]) [] (SH, I, J) (some (.int t)) (SH, I, J) := by
  unfold f97_led at h
  refine zr_steps 2 (4, [some (.ref 0), some (.int v1), some (.int v2), some (.int v3)], [.int (I 0 7)], (SH, I, J)) rfl ?_
  refine zr_one (if (I 0 7) = 0 then zN 36 [some (.ref 0), some (.int v1), some (.int v2), some (.int v3)] [] (SH, I, J) else zN 7 [some (.ref 0), some (.int v1), some (.int v2), some (.int v3)] [] (SH, I, J)) rfl (zR_if (fun hc15 => zR_go ?_) (fun hc15 => zR_go ?_))
  · rw [if_pos hc15] at h
    refine zr_steps 1 (38, [some (.ref 0), some (.int v1), some (.int v2), some (.int v3)], [.int (-2000000000)], (SH, I, J)) rfl ?_
    have he := Option.some.inj h
    subst he
    exact zr_one (some (.inr (.inr (some (.int (-2000000000)))))) rfl (zR_ret rfl rfl)
  · rw [if_neg hc15] at h
    refine zr_steps 6 (19, [some (.ref 0), some (.int v1), some (.int v2), some (.int v3)], [.int (I 25 0), .int 0, .int v1], (SH, I, J)) rfl ?_
    obtain ⟨t2, hc1, h⟩ := zbind h
    refine zr_one (some (.inr (.inl (126, [.int v1, .int 0, .int (I 25 0)], [], 22)))) rfl (zR_call (by omega) rfl (ok_f126_within (by omega) v1 0 (I 25 0) _ hc1) ?_)
    refine zr_one (if t2 = 0 then zN 36 [some (.ref 0), some (.int v1), some (.int v2), some (.int v3)] [] (SH, I, J) else zN 25 [some (.ref 0), some (.int v1), some (.int v2), some (.int v3)] [] (SH, I, J)) rfl (zR_if (fun hc14 => zR_go ?_) (fun hc14 => zR_go ?_))
    · rw [if_pos hc14] at h
      refine zr_steps 1 (38, [some (.ref 0), some (.int v1), some (.int v2), some (.int v3)], [.int (-2000000000)], (SH, I, J)) rfl ?_
      have he := Option.some.inj h
      subst he
      exact zr_one (some (.inr (.inr (some (.int (-2000000000)))))) rfl (zR_ret rfl rfl)
    · rw [if_neg hc14] at h
      refine zr_steps 3 (30, [some (.ref 0), some (.int v1), some (.int v2), some (.int v3)], [.int v2, .ref 24], (SH, I, J)) rfl ?_
      obtain ⟨t4, hc3, h⟩ := zbind h
      refine zr_one (some (.inr (.inl (36, [.ref 24, .int v2], [], 33)))) rfl (zR_call (by omega) rfl (ok_f36_hasSquare_24 (by omega) v2 _ hc3) ?_)
      refine zr_one (if t4 = 0 then zN 36 [some (.ref 0), some (.int v1), some (.int v2), some (.int v3)] [] (SH, I, J) else zN 39 [some (.ref 0), some (.int v1), some (.int v2), some (.int v3)] [] (SH, I, J)) rfl (zR_if (fun hc13 => zR_go ?_) (fun hc13 => zR_go ?_))
      · rw [if_pos hc13] at h
        refine zr_steps 1 (38, [some (.ref 0), some (.int v1), some (.int v2), some (.int v3)], [.int (-2000000000)], (SH, I, J)) rfl ?_
        have he := Option.some.inj h
        subst he
        exact zr_one (some (.inr (.inr (some (.int (-2000000000)))))) rfl (zR_ret rfl rfl)
      · rw [if_neg hc13] at h
        refine zr_steps 2 (41, [some (.ref 0), some (.int v1), some (.int v2), some (.int v3)], [.int (-1), .int v3], (SH, I, J)) rfl ?_
        refine zr_one (if v3 = (-1) then zN 44 [some (.ref 0), some (.int v1), some (.int v2), some (.int v3)] [] (SH, I, J) else zN 54 [some (.ref 0), some (.int v1), some (.int v2), some (.int v3)] [] (SH, I, J)) rfl (zR_if (fun hc12 => zR_go ?_) (fun hc12 => zR_go ?_))
        · rw [if_pos hc12] at h
          refine zr_steps 4 (50, [some (.ref 0), some (.int v1), some (.int v2), some (.int v3)], [.int v2, .int v1, .ref 24], (SH, I, J)) rfl ?_
          obtain ⟨t6, hc5, h⟩ := zbind h
          refine zr_one (some (.inr (.inl (39, [.ref 24, .int v1, .int v2], [], 53)))) rfl (zR_call (by omega) rfl (ok_f39_allAtEnd_24 (by omega) v1 v2 _ hc5) ?_)
          have he := Option.some.inj h
          subst he
          exact zr_one (some (.inr (.inr (some (.int t6))))) rfl (zR_ret rfl rfl)
        · rw [if_neg hc12] at h
          refine zr_steps 3 (59, [some (.ref 0), some (.int v1), some (.int v2), some (.int v3)], [.int v3, .ref 24], (SH, I, J)) rfl ?_
          obtain ⟨t8, hc7, h⟩ := zbind h
          refine zr_one (some (.inr (.inl (37, [.ref 24, .int v3], [], 62)))) rfl (zR_call (by omega) rfl (ok_f37_hasSort_24 (by omega) v3 _ hc7) ?_)
          refine zr_one (if t8 = 0 then zN 78 [some (.ref 0), some (.int v1), some (.int v2), some (.int v3)] [] (SH, I, J) else zN 65 [some (.ref 0), some (.int v1), some (.int v2), some (.int v3)] [] (SH, I, J)) rfl (zR_if (fun hc11 => zR_go ?_) (fun hc11 => zR_go ?_))
          · rw [if_pos hc11] at h
            refine zr_steps 1 (80, [some (.ref 0), some (.int v1), some (.int v2), some (.int v3)], [.int (-2000000000)], (SH, I, J)) rfl ?_
            have he := Option.some.inj h
            subst he
            exact zr_one (some (.inr (.inr (some (.int (-2000000000)))))) rfl (zR_ret rfl rfl)
          · rw [if_neg hc11] at h
            refine zr_steps 5 (72, [some (.ref 0), some (.int v1), some (.int v2), some (.int v3)], [.int v3, .int v2, .int v1, .ref 24], (SH, I, J)) rfl ?_
            obtain ⟨t10, hc9, h⟩ := zbind h
            refine zr_one (some (.inr (.inl (38, [.ref 24, .int v1, .int v2, .int v3], [], 75)))) rfl (zR_call (by omega) rfl (ok_f38_atEnd_24 (by omega) v1 v2 v3 _ hc9) ?_)
            refine zr_steps 1 (80, [some (.ref 0), some (.int v1), some (.int v2), some (.int v3)], [.int t10], (SH, I, J)) rfl ?_
            have he := Option.some.inj h
            subst he
            exact zr_one (some (.inr (.inr (some (.int t10))))) rfl (zR_ret rfl rfl)
set_option maxRecDepth 100000 in
set_option maxHeartbeats 4000000 in
theorem ok_f175_led_L57 {X : zX} {d : Nat} {r : Option Value} {M' : zM} (hd : 1 ≤ d) (v1 : Int32) (v2 : Int32) (v3 : Int32) {I : (Nat → Nat → Int32)} {J : (Nat → Nat → Int64)} : ∀ (n : Nat) (s x : (Int32 × Int32)), zloop (f175_led_L57 v1 v2 v3 I) n s = some x → (fun (x : (Int32 × Int32)) => zRun X d 175 104 [none, none, none, none, some (.int x.1), none] [] (SH, I, J) r M') x → (fun (s : (Int32 × Int32)) => zRun X d 175 57 [some (.ref 73), some (.int v1), some (.int v2), some (.int v3), some (.int s.1), some (.int s.2)] [] (SH, I, J) r M') s := zloop_ok (B := (f175_led_L57 v1 v2 v3 I)) (Wh := fun (s : (Int32 × Int32)) => zRun X d 175 57 [some (.ref 73), some (.int v1), some (.int v2), some (.int v3), some (.int s.1), some (.int s.2)] [] (SH, I, J) r M') (Wx := fun (x : (Int32 × Int32)) => zRun X d 175 104 [none, none, none, none, some (.int x.1), none] [] (SH, I, J) r M') (fun s y h w => by
  unfold f175_led_L57 at h
  refine zr_steps 3 (63, [some (.ref 73), some (.int v1), some (.int v2), some (.int v3), some (.int s.1), some (.int s.2)], [.int (I 73 61), .int s.2], (SH, I, J)) rfl ?_
  refine zr_one (if (I 73 61) ≤ s.2 then zN 104 [some (.ref 73), some (.int v1), some (.int v2), some (.int v3), some (.int s.1), some (.int s.2)] [] (SH, I, J) else zN 66 [some (.ref 73), some (.int v1), some (.int v2), some (.int v3), some (.int s.1), some (.int s.2)] [] (SH, I, J)) rfl (zR_if (fun hc11 => zR_go ?_) (fun hc11 => zR_go ?_))
  · rw [if_pos hc11] at h
    have he := Option.some.inj h
    subst he
    exact zr_hdr (ls2 := [none, none, none, none, some (.int s.1), none]) rfl rfl (show zRun X d 175 104 [none, none, none, none, some (.int s.1), none] [] (SH, I, J) r M' from w)
  · rw [if_neg hc11] at h
    refine zr_steps 1 (67, [some (.ref 73), some (.int v1), some (.int v2), some (.int v3), some (.int s.1), some (.int s.2)], [.int v3], (SH, I, J)) rfl ?_
    refine zr_one (if v3 < 0 then zN 76 [some (.ref 73), some (.int v1), some (.int v2), some (.int v3), some (.int s.1), some (.int s.2)] [] (SH, I, J) else zN 70 [some (.ref 73), some (.int v1), some (.int v2), some (.int v3), some (.int s.1), some (.int s.2)] [] (SH, I, J)) rfl (zR_if (fun hc10 => zR_go ?_) (fun hc10 => zR_go ?_))
    · rw [if_pos hc10] at h
      refine zr_steps 12 (94, [some (.ref 73), some (.int v1), some (.int v2), some (.int v3), some (.int s.1), some (.int s.2)], [.int (((32 * v1) + (8 * v2)) + s.2), .ref 104, .int s.1], (SH, I, J)) rfl ?_
      obtain ⟨hc7, h⟩ := zbifo h
      refine zr_one (bif zin (((32 * v1) + (8 * v2)) + s.2) 1952 then zN 95 [some (.ref 73), some (.int v1), some (.int v2), some (.int v3), some (.int s.1), some (.int s.2)] [.int (I 104 (((32 * v1) + (8 * v2)) + s.2).toNatClampNeg), .int s.1] (SH, I, J) else none) rfl (zR_bif hc7 (zR_go ?_))
      refine zr_steps 4 (57, [some (.ref 73), some (.int v1), some (.int v2), some (.int v3), some (.int (s.1 + (I 104 (((32 * v1) + (8 * v2)) + s.2).toNatClampNeg))), some (.int (s.2 + 1))], [], (SH, I, J)) rfl ?_
      have he := Option.some.inj h
      subst he
      exact zr_hdr (ls2 := [some (.ref 73), some (.int v1), some (.int v2), some (.int v3), some (.int (s.1 + (I 104 (((32 * v1) + (8 * v2)) + s.2).toNatClampNeg))), some (.int (s.2 + 1))]) rfl rfl (show zRun X d 175 57 [some (.ref 73), some (.int v1), some (.int v2), some (.int v3), some (.int (s.1 + (I 104 (((32 * v1) + (8 * v2)) + s.2).toNatClampNeg))), some (.int (s.2 + 1))] [] (SH, I, J) r M' from w)
    · rw [if_neg hc10] at h
      refine zr_steps 2 (73, [some (.ref 73), some (.int v1), some (.int v2), some (.int v3), some (.int s.1), some (.int s.2)], [.int v3, .int s.2], (SH, I, J)) rfl ?_
      refine zr_one (if s.2 = v3 then zN 76 [some (.ref 73), some (.int v1), some (.int v2), some (.int v3), some (.int s.1), some (.int s.2)] [] (SH, I, J) else zN 98 [some (.ref 73), some (.int v1), some (.int v2), some (.int v3), some (.int s.1), some (.int s.2)] [] (SH, I, J)) rfl (zR_if (fun hc9 => zR_go ?_) (fun hc9 => zR_go ?_))
      · rw [if_pos hc9] at h
        refine zr_steps 12 (94, [some (.ref 73), some (.int v1), some (.int v2), some (.int v3), some (.int s.1), some (.int s.2)], [.int (((32 * v1) + (8 * v2)) + s.2), .ref 104, .int s.1], (SH, I, J)) rfl ?_
        obtain ⟨hc8, h⟩ := zbifo h
        refine zr_one (bif zin (((32 * v1) + (8 * v2)) + s.2) 1952 then zN 95 [some (.ref 73), some (.int v1), some (.int v2), some (.int v3), some (.int s.1), some (.int s.2)] [.int (I 104 (((32 * v1) + (8 * v2)) + s.2).toNatClampNeg), .int s.1] (SH, I, J) else none) rfl (zR_bif hc8 (zR_go ?_))
        refine zr_steps 4 (57, [some (.ref 73), some (.int v1), some (.int v2), some (.int v3), some (.int (s.1 + (I 104 (((32 * v1) + (8 * v2)) + s.2).toNatClampNeg))), some (.int (s.2 + 1))], [], (SH, I, J)) rfl ?_
        have he := Option.some.inj h
        subst he
        exact zr_hdr (ls2 := [some (.ref 73), some (.int v1), some (.int v2), some (.int v3), some (.int (s.1 + (I 104 (((32 * v1) + (8 * v2)) + s.2).toNatClampNeg))), some (.int (s.2 + 1))]) rfl rfl (show zRun X d 175 57 [some (.ref 73), some (.int v1), some (.int v2), some (.int v3), some (.int (s.1 + (I 104 (((32 * v1) + (8 * v2)) + s.2).toNatClampNeg))), some (.int (s.2 + 1))] [] (SH, I, J) r M' from w)
      · rw [if_neg hc9] at h
        refine zr_steps 2 (57, [some (.ref 73), some (.int v1), some (.int v2), some (.int v3), some (.int s.1), some (.int (s.2 + 1))], [], (SH, I, J)) rfl ?_
        have he := Option.some.inj h
        subst he
        exact zr_hdr (ls2 := [some (.ref 73), some (.int v1), some (.int v2), some (.int v3), some (.int s.1), some (.int (s.2 + 1))]) rfl rfl (show zRun X d 175 57 [some (.ref 73), some (.int v1), some (.int v2), some (.int v3), some (.int s.1), some (.int (s.2 + 1))] [] (SH, I, J) r M' from w))
set_option maxRecDepth 100000 in
set_option maxHeartbeats 4000000 in
theorem ok_f175_led {X : zX} {d : Nat} (hd : 1 ≤ d) (v1 : Int32) (v2 : Int32) (v3 : Int32) {I : (Nat → Nat → Int32)} {J : (Nat → Nat → Int64)} (t : Int32) (h : f175_led v1 v2 v3 I = some t) : zRun X d 175 0 (zent 175 [.ref 73, .int v1, .int v2, .int v3]) [] (SH, I, J) (some (.int t)) (SH, I, J) := by
  unfold f175_led at h
  refine zr_steps 2 (4, [some (.ref 73), some (.int v1), some (.int v2), some (.int v3), none, none], [.int (I 73 55)], (SH, I, J)) rfl ?_
  refine zr_one (if (I 73 55) < 0 then zN 47 [some (.ref 73), some (.int v1), some (.int v2), some (.int v3), none, none] [] (SH, I, J) else zN 7 [some (.ref 73), some (.int v1), some (.int v2), some (.int v3), none, none] [] (SH, I, J)) rfl (zR_if (fun hc17 => zR_go ?_) (fun hc17 => zR_go ?_))
  · rw [if_pos hc17] at h
    refine zr_steps 1 (50, [some (.ref 73), some (.int v1), some (.int v2), some (.int v3), none, none], [.int (-2000000000)], (SH, I, J)) rfl ?_
    have he := Option.some.inj h
    subst he
    exact zr_one (some (.inr (.inr (some (.int (-2000000000)))))) rfl (zR_ret rfl rfl)
  · rw [if_neg hc17] at h
    refine zr_steps 4 (13, [some (.ref 73), some (.int v1), some (.int v2), some (.int v3), none, none], [.int (I 73 55), .int 0, .int v1], (SH, I, J)) rfl ?_
    obtain ⟨t2, hc1, h⟩ := zbind h
    refine zr_one (some (.inr (.inl (129, [.int v1, .int 0, .int (I 73 55)], [], 16)))) rfl (zR_call (by omega) rfl (ok_f129_in (by omega) v1 0 (I 73 55) _ hc1) ?_)
    refine zr_one (if t2 = 0 then zN 47 [some (.ref 73), some (.int v1), some (.int v2), some (.int v3), none, none] [] (SH, I, J) else zN 19 [some (.ref 73), some (.int v1), some (.int v2), some (.int v3), none, none] [] (SH, I, J)) rfl (zR_if (fun hc16 => zR_go ?_) (fun hc16 => zR_go ?_))
    · rw [if_pos hc16] at h
      refine zr_steps 1 (50, [some (.ref 73), some (.int v1), some (.int v2), some (.int v3), none, none], [.int (-2000000000)], (SH, I, J)) rfl ?_
      have he := Option.some.inj h
      subst he
      exact zr_one (some (.inr (.inr (some (.int (-2000000000)))))) rfl (zR_ret rfl rfl)
    · rw [if_neg hc16] at h
      refine zr_steps 6 (27, [some (.ref 73), some (.int v1), some (.int v2), some (.int v3), none, none], [.int ((I 73 60) - 1), .int 0, .int v2], (SH, I, J)) rfl ?_
      obtain ⟨t4, hc3, h⟩ := zbind h
      refine zr_one (some (.inr (.inl (129, [.int v2, .int 0, .int ((I 73 60) - 1)], [], 30)))) rfl (zR_call (by omega) rfl (ok_f129_in (by omega) v2 0 ((I 73 60) - 1) _ hc3) ?_)
      refine zr_one (if t4 = 0 then zN 47 [some (.ref 73), some (.int v1), some (.int v2), some (.int v3), none, none] [] (SH, I, J) else zN 33 [some (.ref 73), some (.int v1), some (.int v2), some (.int v3), none, none] [] (SH, I, J)) rfl (zR_if (fun hc15 => zR_go ?_) (fun hc15 => zR_go ?_))
      · rw [if_pos hc15] at h
        refine zr_steps 1 (50, [some (.ref 73), some (.int v1), some (.int v2), some (.int v3), none, none], [.int (-2000000000)], (SH, I, J)) rfl ?_
        have he := Option.some.inj h
        subst he
        exact zr_one (some (.inr (.inr (some (.int (-2000000000)))))) rfl (zR_ret rfl rfl)
      · rw [if_neg hc15] at h
        refine zr_steps 6 (41, [some (.ref 73), some (.int v1), some (.int v2), some (.int v3), none, none], [.int ((I 73 61) - 1), .int (-1), .int v3], (SH, I, J)) rfl ?_
        obtain ⟨t6, hc5, h⟩ := zbind h
        refine zr_one (some (.inr (.inl (129, [.int v3, .int (-1), .int ((I 73 61) - 1)], [], 44)))) rfl (zR_call (by omega) rfl (ok_f129_in (by omega) v3 (-1) ((I 73 61) - 1) _ hc5) ?_)
        refine zr_one (if t6 = 0 then zN 47 [some (.ref 73), some (.int v1), some (.int v2), some (.int v3), none, none] [] (SH, I, J) else zN 51 [some (.ref 73), some (.int v1), some (.int v2), some (.int v3), none, none] [] (SH, I, J)) rfl (zR_if (fun hc14 => zR_go ?_) (fun hc14 => zR_go ?_))
        · rw [if_pos hc14] at h
          refine zr_steps 1 (50, [some (.ref 73), some (.int v1), some (.int v2), some (.int v3), none, none], [.int (-2000000000)], (SH, I, J)) rfl ?_
          have he := Option.some.inj h
          subst he
          exact zr_one (some (.inr (.inr (some (.int (-2000000000)))))) rfl (zR_ret rfl rfl)
        · rw [if_neg hc14] at h
          refine zr_steps 4 (57, [some (.ref 73), some (.int v1), some (.int v2), some (.int v3), some (.int 0), some (.int 0)], [], (SH, I, J)) rfl ?_
          obtain ⟨s12, ho13, h⟩ := zbind h
          refine zr_hdr (ls2 := [some (.ref 73), some (.int v1), some (.int v2), some (.int v3), some (.int 0), some (.int 0)]) rfl rfl ?_
          refine ok_f175_led_L57 (by omega) v1 v2 v3 5000 ((0 : Int32), (0 : Int32)) s12 ho13 ?_
          show zRun X d 175 104 [none, none, none, none, some (.int s12.1), none] [] (SH, I, J) _ _
          refine zr_steps 1 (106, [none, none, none, none, some (.int s12.1), none], [.int s12.1], (SH, I, J)) rfl ?_
          have he := Option.some.inj h
          subst he
          exact zr_one (some (.inr (.inr (some (.int s12.1))))) rfl (zR_ret rfl rfl)
set_option maxRecDepth 100000 in
set_option maxHeartbeats 4000000 in
theorem ok_f98_told {X : zX} {d : Nat} (hd : 1 ≤ d) (v1 : Int32) {I : (Nat → Nat → Int32)} {J : (Nat → Nat → Int64)} (t : Int32) (h : f98_told v1 I = some t) : zRun X d 98 0 (zent 98 [.ref 0, .int v1]) [] (SH, I, J) (some (.int t)) (SH, I, J) := by
  unfold f98_told at h
  refine zr_steps 2 (4, [some (.ref 0), some (.int v1)], [.int (I 0 7)], (SH, I, J)) rfl ?_
  refine zr_one (if (I 0 7) = 0 then zN 7 [some (.ref 0), some (.int v1)] [] (SH, I, J) else zN 10 [some (.ref 0), some (.int v1)] [] (SH, I, J)) rfl (zR_if (fun hc11 => zR_go ?_) (fun hc11 => zR_go ?_))
  · rw [if_pos hc11] at h
    refine zr_steps 1 (9, [some (.ref 0), some (.int v1)], [.int (-2000000000)], (SH, I, J)) rfl ?_
    have he := Option.some.inj h
    subst he
    exact zr_one (some (.inr (.inr (some (.int (-2000000000)))))) rfl (zR_ret rfl rfl)
  · rw [if_neg hc11] at h
    refine zr_steps 1 (11, [some (.ref 0), some (.int v1)], [.int v1], (SH, I, J)) rfl ?_
    refine zr_one (if v1.toInt = 0 then zN 44 [some (.ref 0), some (.int v1)] [] (SH, I, J) else (if v1.toInt = 1 then zN 55 [some (.ref 0), some (.int v1)] [] (SH, I, J) else (if v1.toInt = 2 then zN 63 [some (.ref 0), some (.int v1)] [] (SH, I, J) else (if v1.toInt = 3 then zN 71 [some (.ref 0), some (.int v1)] [] (SH, I, J) else (if v1.toInt = 4 then zN 79 [some (.ref 0), some (.int v1)] [] (SH, I, J) else zN 87 [some (.ref 0), some (.int v1)] [] (SH, I, J)))))) rfl ?_
    refine zR_if (fun hc10 => zR_go ?_) (fun hc10 => ?_)
    · rw [if_pos hc10] at h
      refine zr_steps 4 (54, [some (.ref 0), some (.int v1)], [.int (I 25 0)], (SH, I, J)) rfl ?_
      have he := Option.some.inj h
      subst he
      exact zr_one (some (.inr (.inr (some (.int (I 25 0)))))) rfl (zR_ret rfl rfl)
    rw [if_neg hc10] at h
    refine zR_if (fun hc9 => zR_go ?_) (fun hc9 => ?_)
    · rw [if_pos hc9] at h
      refine zr_steps 3 (62, [some (.ref 0), some (.int v1)], [.int (I 24 16)], (SH, I, J)) rfl ?_
      have he := Option.some.inj h
      subst he
      exact zr_one (some (.inr (.inr (some (.int (I 24 16)))))) rfl (zR_ret rfl rfl)
    rw [if_neg hc9] at h
    refine zR_if (fun hc8 => zR_go ?_) (fun hc8 => ?_)
    · rw [if_pos hc8] at h
      refine zr_steps 3 (70, [some (.ref 0), some (.int v1)], [.int (I 24 17)], (SH, I, J)) rfl ?_
      have he := Option.some.inj h
      subst he
      exact zr_one (some (.inr (.inr (some (.int (I 24 17)))))) rfl (zR_ret rfl rfl)
    rw [if_neg hc8] at h
    refine zR_if (fun hc7 => zR_go ?_) (fun hc7 => ?_)
    · rw [if_pos hc7] at h
      refine zr_steps 3 (78, [some (.ref 0), some (.int v1)], [.int (I 24 18)], (SH, I, J)) rfl ?_
      have he := Option.some.inj h
      subst he
      exact zr_one (some (.inr (.inr (some (.int (I 24 18)))))) rfl (zR_ret rfl rfl)
    rw [if_neg hc7] at h
    refine zR_if (fun hc6 => zR_go ?_) (fun hc6 => ?_)
    · rw [if_pos hc6] at h
      refine zr_steps 3 (86, [some (.ref 0), some (.int v1)], [.int (I 24 19)], (SH, I, J)) rfl ?_
      have he := Option.some.inj h
      subst he
      exact zr_one (some (.inr (.inr (some (.int (I 24 19)))))) rfl (zR_ret rfl rfl)
    rw [if_neg hc6] at h
    refine zR_go ?_
    refine zr_steps 2 (90, [some (.ref 0), some (.int v1)], [.int 10, .int v1], (SH, I, J)) rfl ?_
    refine zr_one (if v1 < 10 then zN 122 [some (.ref 0), some (.int v1)] [] (SH, I, J) else zN 93 [some (.ref 0), some (.int v1)] [] (SH, I, J)) rfl (zR_if (fun hc5 => zR_go ?_) (fun hc5 => zR_go ?_))
    · rw [if_pos hc5] at h
      refine zr_steps 1 (124, [some (.ref 0), some (.int v1)], [.int (-2000000000)], (SH, I, J)) rfl ?_
      have he := Option.some.inj h
      subst he
      exact zr_one (some (.inr (.inr (some (.int (-2000000000)))))) rfl (zR_ret rfl rfl)
    · rw [if_neg hc5] at h
      refine zr_steps 5 (101, [some (.ref 0), some (.int v1)], [.int (v1 - 10), .ref 24], (SH, I, J)) rfl ?_
      obtain ⟨t2, hc1, h⟩ := zbind h
      refine zr_one (some (.inr (.inl (36, [.ref 24, .int (v1 - 10)], [], 104)))) rfl (zR_call (by omega) rfl (ok_f36_hasSquare_24 (by omega) (v1 - 10) _ hc1) ?_)
      refine zr_one (if t2 = 0 then zN 122 [some (.ref 0), some (.int v1)] [] (SH, I, J) else zN 107 [some (.ref 0), some (.int v1)] [] (SH, I, J)) rfl (zR_if (fun hc4 => zR_go ?_) (fun hc4 => zR_go ?_))
      · rw [if_pos hc4] at h
        refine zr_steps 1 (124, [some (.ref 0), some (.int v1)], [.int (-2000000000)], (SH, I, J)) rfl ?_
        have he := Option.some.inj h
        subst he
        exact zr_one (some (.inr (.inr (some (.int (-2000000000)))))) rfl (zR_ret rfl rfl)
      · rw [if_neg hc4] at h
        refine zr_steps 6 (118, [some (.ref 0), some (.int v1)], [.int (v1 - 10), .ref 37], (SH, I, J)) rfl ?_
        obtain ⟨hc3, h⟩ := zbifo h
        refine zr_one (bif zin (v1 - 10) 4 then zN 119 [some (.ref 0), some (.int v1)] [.int (I 37 (v1 - 10).toNatClampNeg)] (SH, I, J) else none) rfl (zR_bif hc3 (zR_go ?_))
        refine zr_steps 1 (124, [some (.ref 0), some (.int v1)], [.int (I 37 (v1 - 10).toNatClampNeg)], (SH, I, J)) rfl ?_
        have he := Option.some.inj h
        subst he
        exact zr_one (some (.inr (.inr (some (.int (I 37 (v1 - 10).toNatClampNeg)))))) rfl (zR_ret rfl rfl)
set_option maxRecDepth 100000 in
set_option maxHeartbeats 4000000 in
theorem ok_f176_told {X : zX} {d : Nat} (hd : 1 ≤ d) (v1 : Int32) {I : (Nat → Nat → Int32)} {J : (Nat → Nat → Int64)} (t : Int32) (h : f176_told v1 I = some t) : zRun X d 176 0 (zent 176 [.ref 73, .int v1]) [] (SH, I, J) (some (.int t)) (SH, I, J) := by
  unfold f176_told at h
  refine zr_steps 2 (4, [some (.ref 73), some (.int v1)], [.int (I 73 55)], (SH, I, J)) rfl ?_
  refine zr_one (if (0 : Int32) ≤ (I 73 55) then zN 11 [some (.ref 73), some (.int v1)] [] (SH, I, J) else zN 7 [some (.ref 73), some (.int v1)] [] (SH, I, J)) rfl (zR_if (fun hc10 => zR_go ?_) (fun hc10 => zR_go ?_))
  · rw [if_pos hc10] at h
    refine zr_steps 6 (21, [some (.ref 73), some (.int v1)], [.int (9 + (I 73 60)), .int 10, .int v1], (SH, I, J)) rfl ?_
    obtain ⟨t2, hc1, h⟩ := zbind h
    refine zr_one (some (.inr (.inl (129, [.int v1, .int 10, .int (9 + (I 73 60))], [], 24)))) rfl (zR_call (by omega) rfl (ok_f129_in (by omega) v1 10 (9 + (I 73 60)) _ hc1) ?_)
    refine zr_one (if t2 = 0 then zN 37 [some (.ref 73), some (.int v1)] [] (SH, I, J) else zN 27 [some (.ref 73), some (.int v1)] [] (SH, I, J)) rfl (zR_if (fun hc9 => zR_go ?_) (fun hc9 => zR_go ?_))
    · rw [if_pos hc9] at h
      refine zr_steps 1 (38, [some (.ref 73), some (.int v1)], [.int v1], (SH, I, J)) rfl ?_
      refine zr_one (if v1.toInt = 0 then zN 72 [some (.ref 73), some (.int v1)] [] (SH, I, J) else (if v1.toInt = 1 then zN 77 [some (.ref 73), some (.int v1)] [] (SH, I, J) else (if v1.toInt = 2 then zN 82 [some (.ref 73), some (.int v1)] [] (SH, I, J) else (if v1.toInt = 3 then zN 87 [some (.ref 73), some (.int v1)] [] (SH, I, J) else (if v1.toInt = 4 then zN 92 [some (.ref 73), some (.int v1)] [] (SH, I, J) else zN 97 [some (.ref 73), some (.int v1)] [] (SH, I, J)))))) rfl ?_
      refine zR_if (fun hc7 => zR_go ?_) (fun hc7 => ?_)
      · rw [if_pos hc7] at h
        refine zr_steps 2 (76, [some (.ref 73), some (.int v1)], [.int (I 73 55)], (SH, I, J)) rfl ?_
        have he := Option.some.inj h
        subst he
        exact zr_one (some (.inr (.inr (some (.int (I 73 55)))))) rfl (zR_ret rfl rfl)
      rw [if_neg hc7] at h
      refine zR_if (fun hc6 => zR_go ?_) (fun hc6 => ?_)
      · rw [if_pos hc6] at h
        refine zr_steps 2 (81, [some (.ref 73), some (.int v1)], [.int (I 73 56)], (SH, I, J)) rfl ?_
        have he := Option.some.inj h
        subst he
        exact zr_one (some (.inr (.inr (some (.int (I 73 56)))))) rfl (zR_ret rfl rfl)
      rw [if_neg hc6] at h
      refine zR_if (fun hc5 => zR_go ?_) (fun hc5 => ?_)
      · rw [if_pos hc5] at h
        refine zr_steps 2 (86, [some (.ref 73), some (.int v1)], [.int (I 73 57)], (SH, I, J)) rfl ?_
        have he := Option.some.inj h
        subst he
        exact zr_one (some (.inr (.inr (some (.int (I 73 57)))))) rfl (zR_ret rfl rfl)
      rw [if_neg hc5] at h
      refine zR_if (fun hc4 => zR_go ?_) (fun hc4 => ?_)
      · rw [if_pos hc4] at h
        refine zr_steps 2 (91, [some (.ref 73), some (.int v1)], [.int (I 73 58)], (SH, I, J)) rfl ?_
        have he := Option.some.inj h
        subst he
        exact zr_one (some (.inr (.inr (some (.int (I 73 58)))))) rfl (zR_ret rfl rfl)
      rw [if_neg hc4] at h
      refine zR_if (fun hc3 => zR_go ?_) (fun hc3 => ?_)
      · rw [if_pos hc3] at h
        refine zr_steps 2 (96, [some (.ref 73), some (.int v1)], [.int (I 73 59)], (SH, I, J)) rfl ?_
        have he := Option.some.inj h
        subst he
        exact zr_one (some (.inr (.inr (some (.int (I 73 59)))))) rfl (zR_ret rfl rfl)
      rw [if_neg hc3] at h
      refine zR_go ?_
      refine zr_steps 1 (100, [some (.ref 73), some (.int v1)], [.int (-2000000000)], (SH, I, J)) rfl ?_
      have he := Option.some.inj h
      subst he
      exact zr_one (some (.inr (.inr (some (.int (-2000000000)))))) rfl (zR_ret rfl rfl)
    · rw [if_neg hc9] at h
      refine zr_steps 5 (35, [some (.ref 73), some (.int v1)], [.int (v1 - 10), .ref 105], (SH, I, J)) rfl ?_
      obtain ⟨hc8, h⟩ := zbifo h
      refine zr_one (bif zin (v1 - 10) 4 then zN 36 [some (.ref 73), some (.int v1)] [.int (I 105 (v1 - 10).toNatClampNeg)] (SH, I, J) else none) rfl (zR_bif hc8 (zR_go ?_))
      have he := Option.some.inj h
      subst he
      exact zr_one (some (.inr (.inr (some (.int (I 105 (v1 - 10).toNatClampNeg)))))) rfl (zR_ret rfl rfl)
  · rw [if_neg hc10] at h
    refine zr_steps 1 (10, [some (.ref 73), some (.int v1)], [.int (-2000000000)], (SH, I, J)) rfl ?_
    have he := Option.some.inj h
    subst he
    exact zr_one (some (.inr (.inr (some (.int (-2000000000)))))) rfl (zR_ret rfl rfl)
set_option maxRecDepth 100000 in
set_option maxHeartbeats 4000000 in
theorem ok_f101_isSortAndWay {X : zX} {d : Nat} (hd : 2 ≤ d) (v1 : Int32) {I : (Nat → Nat → Int32)} {J : (Nat → Nat → Int64)} (t : Int32) (h : f101_isSortAndWay v1 I = some t) : zRun X d 101 0 (zent 101 [.ref 0, .int v1]) [] (SH, I, J) (some (.int t)) (SH, I, J) := by
  unfold f101_isSortAndWay at h
  refine zr_steps 1 (1, [some (.ref 0), some (.int v1)], [.int v1], (SH, I, J)) rfl ?_
  refine zr_one (if v1 < 0 then zN 36 [some (.ref 0), some (.int v1)] [] (SH, I, J) else zN 4 [some (.ref 0), some (.int v1)] [] (SH, I, J)) rfl (zR_if (fun hc7 => zR_go ?_) (fun hc7 => zR_go ?_))
  · rw [if_pos hc7] at h
    refine zr_steps 1 (37, [some (.ref 0), some (.int v1)], [.int 0], (SH, I, J)) rfl ?_
    have he := Option.some.inj h
    subst he
    exact zr_one (if ((0 : Int32) = 0 ∨ (0 : Int32) = 1) then some (.inr (.inr (some (.int 0)))) else none) rfl (zR_pos (by decide) (zR_ret rfl rfl))
  · rw [if_neg hc7] at h
    refine zr_steps 4 (11, [some (.ref 0), some (.int v1)], [.int 100, .int v1, .ref 1], (SH, I, J)) rfl ?_
    refine zr_one (if (100 : Int32) = 0 then none else zN 12 [some (.ref 0), some (.int v1)] [.int (v1 / 100), .ref 1] (SH, I, J)) rfl (zR_div (by decide) (zR_go ?_))
    obtain ⟨t2, hc1, h⟩ := zbind h
    refine zr_one (some (.inr (.inl (62, [.ref 1, .int (v1 / 100)], [], 15)))) rfl (zR_call (by omega) rfl (ok_f62_isSort (by omega) (v1 / 100) _ hc1) ?_)
    refine zr_one (if t2 = 0 then zN 36 [some (.ref 0), some (.int v1)] [] (SH, I, J) else zN 18 [some (.ref 0), some (.int v1)] [] (SH, I, J)) rfl (zR_if (fun hc6 => zR_go ?_) (fun hc6 => zR_go ?_))
    · rw [if_pos hc6] at h
      refine zr_steps 1 (37, [some (.ref 0), some (.int v1)], [.int 0], (SH, I, J)) rfl ?_
      have he := Option.some.inj h
      subst he
      exact zr_one (if ((0 : Int32) = 0 ∨ (0 : Int32) = 1) then some (.inr (.inr (some (.int 0)))) else none) rfl (zR_pos (by decide) (zR_ret rfl rfl))
    · rw [if_neg hc6] at h
      refine zr_steps 4 (25, [some (.ref 0), some (.int v1)], [.int 100, .int v1, .ref 1], (SH, I, J)) rfl ?_
      refine zr_one (if (100 : Int32) = 0 then none else zN 26 [some (.ref 0), some (.int v1)] [.int (v1 - v1 / 100 * 100), .ref 1] (SH, I, J)) rfl (zR_div (by decide) (zR_go ?_))
      obtain ⟨t4, hc3, h⟩ := zbind h
      refine zr_one (some (.inr (.inl (63, [.ref 1, .int (v1 - v1 / 100 * 100)], [], 29)))) rfl (zR_call (by omega) rfl (ok_f63_areTwoSquares (by omega) (v1 - v1 / 100 * 100) _ hc3) ?_)
      refine zr_one (if t4 = 0 then zN 36 [some (.ref 0), some (.int v1)] [] (SH, I, J) else zN 32 [some (.ref 0), some (.int v1)] [] (SH, I, J)) rfl (zR_if (fun hc5 => zR_go ?_) (fun hc5 => zR_go ?_))
      · rw [if_pos hc5] at h
        refine zr_steps 1 (37, [some (.ref 0), some (.int v1)], [.int 0], (SH, I, J)) rfl ?_
        have he := Option.some.inj h
        subst he
        exact zr_one (if ((0 : Int32) = 0 ∨ (0 : Int32) = 1) then some (.inr (.inr (some (.int 0)))) else none) rfl (zR_pos (by decide) (zR_ret rfl rfl))
      · rw [if_neg hc5] at h
        refine zr_steps 2 (37, [some (.ref 0), some (.int v1)], [.int 1], (SH, I, J)) rfl ?_
        have he := Option.some.inj h
        subst he
        exact zr_one (if ((1 : Int32) = 0 ∨ (1 : Int32) = 1) then some (.inr (.inr (some (.int 1)))) else none) rfl (zR_pos (by decide) (zR_ret rfl rfl))
set_option maxRecDepth 100000 in
set_option maxHeartbeats 4000000 in
theorem ok_f77_lastMinute {X : zX} {d : Nat} (hd : 0 ≤ d) (v1 : Int32) (v2 : Int32) (v3 : Int32) {I : (Nat → Nat → Int32)} {J : (Nat → Nat → Int64)} (t : Int32) (h : f77_lastMinute v1 v2 v3 I = some t) : zRun X d 77 0 (zent 77 [.ref 1, .int v1, .int v2, .int v3]) [] (SH, I, J) (some (.int t)) (SH, I, J) := by
  unfold f77_lastMinute at h
  refine zr_steps 5 (9, [some (.ref 1), some (.int v1), some (.int v2), some (.int v3), none], [.int v1, .ref 11, .int (I 1 3)], (SH, I, J)) rfl ?_
  obtain ⟨hc1, h⟩ := zbifo h
  refine zr_one (bif zin v1 8 then zN 10 [some (.ref 1), some (.int v1), some (.int v2), some (.int v3), none] [.int (I 11 v1.toNatClampNeg), .int (I 1 3)] (SH, I, J) else none) rfl (zR_bif hc1 (zR_go ?_))
  refine zr_steps 7 (19, [some (.ref 1), some (.int v1), some (.int v2), some (.int v3), none], [.int ((v2 * 4) + v3), .ref 14, .int (I 11 v1.toNatClampNeg), .int (I 1 3)], (SH, I, J)) rfl ?_
  obtain ⟨hc2, h⟩ := zbifo h
  refine zr_one (bif zin ((v2 * 4) + v3) 16 then zN 20 [some (.ref 1), some (.int v1), some (.int v2), some (.int v3), none] [.int (I 14 ((v2 * 4) + v3).toNatClampNeg), .int (I 11 v1.toNatClampNeg), .int (I 1 3)] (SH, I, J) else none) rfl (zR_bif hc2 (zR_go ?_))
  refine zr_steps 4 (26, [some (.ref 1), some (.int v1), some (.int v2), some (.int v3), some (.int ((I 1 3) - ((I 11 v1.toNatClampNeg) * (I 14 ((v2 * 4) + v3).toNatClampNeg))))], [.int ((I 1 3) - ((I 11 v1.toNatClampNeg) * (I 14 ((v2 * 4) + v3).toNatClampNeg)))], (SH, I, J)) rfl ?_
  refine zr_one (if (0 : Int32) ≤ ((I 1 3) - ((I 11 v1.toNatClampNeg) * (I 14 ((v2 * 4) + v3).toNatClampNeg))) then zN 34 [some (.ref 1), some (.int v1), some (.int v2), some (.int v3), some (.int ((I 1 3) - ((I 11 v1.toNatClampNeg) * (I 14 ((v2 * 4) + v3).toNatClampNeg))))] [] (SH, I, J) else zN 29 [some (.ref 1), some (.int v1), some (.int v2), some (.int v3), some (.int ((I 1 3) - ((I 11 v1.toNatClampNeg) * (I 14 ((v2 * 4) + v3).toNatClampNeg))))] [] (SH, I, J)) rfl (zR_if (fun hc3 => zR_go ?_) (fun hc3 => zR_go ?_))
  · rw [if_pos hc3] at h
    refine zr_steps 1 (36, [some (.ref 1), some (.int v1), some (.int v2), some (.int v3), some (.int ((I 1 3) - ((I 11 v1.toNatClampNeg) * (I 14 ((v2 * 4) + v3).toNatClampNeg))))], [.int ((I 1 3) - ((I 11 v1.toNatClampNeg) * (I 14 ((v2 * 4) + v3).toNatClampNeg)))], (SH, I, J)) rfl ?_
    have he := Option.some.inj h
    subst he
    exact zr_one (some (.inr (.inr (some (.int ((I 1 3) - ((I 11 v1.toNatClampNeg) * (I 14 ((v2 * 4) + v3).toNatClampNeg)))))))) rfl (zR_ret rfl rfl)
  · rw [if_neg hc3] at h
    refine zr_steps 2 (36, [some (.ref 1), some (.int v1), some (.int v2), some (.int v3), some (.int ((I 1 3) - ((I 11 v1.toNatClampNeg) * (I 14 ((v2 * 4) + v3).toNatClampNeg))))], [.int (-2)], (SH, I, J)) rfl ?_
    have he := Option.some.inj h
    subst he
    exact zr_one (some (.inr (.inr (some (.int (-2)))))) rfl (zR_ret rfl rfl)
set_option maxRecDepth 100000 in
set_option maxHeartbeats 4000000 in
theorem ok_f99_last {X : zX} {d : Nat} (hd : 3 ≤ d) (v1 : Int32) {I : (Nat → Nat → Int32)} {J : (Nat → Nat → Int64)} (t : Int32) (h : f99_last v1 I = some t) : zRun X d 99 0 (zent 99 [.ref 0, .int v1]) [] (SH, I, J) (some (.int t)) (SH, I, J) := by
  unfold f99_last at h
  refine zr_steps 2 (2, [some (.ref 0), some (.int v1)], [.int v1, .ref 0], (SH, I, J)) rfl ?_
  obtain ⟨t2, hc1, h⟩ := zbind h
  refine zr_one (some (.inr (.inl (101, [.ref 0, .int v1], [], 5)))) rfl (zR_call (by omega) rfl (ok_f101_isSortAndWay (by omega) v1 _ hc1) ?_)
  refine zr_one (if t2 = 0 then zN 8 [some (.ref 0), some (.int v1)] [] (SH, I, J) else zN 10 [some (.ref 0), some (.int v1)] [] (SH, I, J)) rfl (zR_if (fun hc5 => zR_go ?_) (fun hc5 => zR_go ?_))
  · rw [if_pos hc5] at h
    refine zr_steps 1 (9, [some (.ref 0), some (.int v1)], [.int (-1)], (SH, I, J)) rfl ?_
    have he := Option.some.inj h
    subst he
    exact zr_one (some (.inr (.inr (some (.int (-1)))))) rfl (zR_ret rfl rfl)
  · rw [if_neg hc5] at h
    refine zr_steps 4 (17, [some (.ref 0), some (.int v1)], [.int 100, .int v1, .ref 1], (SH, I, J)) rfl ?_
    refine zr_one (if (100 : Int32) = 0 then none else zN 18 [some (.ref 0), some (.int v1)] [.int (v1 / 100), .ref 1] (SH, I, J)) rfl (zR_div (by decide) (zR_go ?_))
    refine zr_steps 2 (21, [some (.ref 0), some (.int v1)], [.int 10, .int v1, .int (v1 / 100), .ref 1], (SH, I, J)) rfl ?_
    refine zr_one (if (10 : Int32) = 0 then none else zN 22 [some (.ref 0), some (.int v1)] [.int (v1 / 10), .int (v1 / 100), .ref 1] (SH, I, J)) rfl (zR_div (by decide) (zR_go ?_))
    refine zr_steps 1 (24, [some (.ref 0), some (.int v1)], [.int 10, .int (v1 / 10), .int (v1 / 100), .ref 1], (SH, I, J)) rfl ?_
    refine zr_one (if (10 : Int32) = 0 then none else zN 25 [some (.ref 0), some (.int v1)] [.int ((v1 / 10) - (v1 / 10) / 10 * 10), .int (v1 / 100), .ref 1] (SH, I, J)) rfl (zR_div (by decide) (zR_go ?_))
    refine zr_steps 2 (28, [some (.ref 0), some (.int v1)], [.int 10, .int v1, .int ((v1 / 10) - (v1 / 10) / 10 * 10), .int (v1 / 100), .ref 1], (SH, I, J)) rfl ?_
    refine zr_one (if (10 : Int32) = 0 then none else zN 29 [some (.ref 0), some (.int v1)] [.int (v1 - v1 / 10 * 10), .int ((v1 / 10) - (v1 / 10) / 10 * 10), .int (v1 / 100), .ref 1] (SH, I, J)) rfl (zR_div (by decide) (zR_go ?_))
    obtain ⟨t4, hc3, h⟩ := zbind h
    refine zr_one (some (.inr (.inl (77, [.ref 1, .int (v1 / 100), .int ((v1 / 10) - (v1 / 10) / 10 * 10), .int (v1 - v1 / 10 * 10)], [], 32)))) rfl (zR_call (by omega) rfl (ok_f77_lastMinute (by omega) (v1 / 100) ((v1 / 10) - (v1 / 10) / 10 * 10) (v1 - v1 / 10 * 10) _ hc3) ?_)
    have he := Option.some.inj h
    subst he
    exact zr_one (some (.inr (.inr (some (.int t4))))) rfl (zR_ret rfl rfl)
set_option maxRecDepth 100000 in
set_option maxHeartbeats 4000000 in
theorem ok_f180_isTrip {X : zX} {d : Nat} (hd : 2 ≤ d) (v1 : Int32) {I : (Nat → Nat → Int32)} {J : (Nat → Nat → Int64)} (t : Int32) (h : f180_isTrip v1 I = some t) : zRun X d 180 0 (zent 180 [.ref 73, .int v1]) [] (SH, I, J) (some (.int t)) (SH, I, J) := by
  unfold f180_isTrip at h
  refine zr_steps 1 (1, [some (.ref 73), some (.int v1)], [.int v1], (SH, I, J)) rfl ?_
  refine zr_one (if v1 < 0 then zN 58 [some (.ref 73), some (.int v1)] [] (SH, I, J) else zN 4 [some (.ref 73), some (.int v1)] [] (SH, I, J)) rfl (zR_if (fun hc11 => zR_go ?_) (fun hc11 => zR_go ?_))
  · rw [if_pos hc11] at h
    refine zr_steps 1 (59, [some (.ref 73), some (.int v1)], [.int 0], (SH, I, J)) rfl ?_
    have he := Option.some.inj h
    subst he
    exact zr_one (if ((0 : Int32) = 0 ∨ (0 : Int32) = 1) then some (.inr (.inr (some (.int 0)))) else none) rfl (zR_pos (by decide) (zR_ret rfl rfl))
  · rw [if_neg hc11] at h
    refine zr_steps 3 (8, [some (.ref 73), some (.int v1)], [.int 100, .int v1, .ref 73], (SH, I, J)) rfl ?_
    refine zr_one (if (100 : Int32) = 0 then none else zN 9 [some (.ref 73), some (.int v1)] [.int (v1 / 100), .ref 73] (SH, I, J)) rfl (zR_div (by decide) (zR_go ?_))
    obtain ⟨t2, hc1, h⟩ := zbind h
    refine zr_one (some (.inr (.inl (131, [.ref 73, .int (v1 / 100)], [], 12)))) rfl (zR_call (by omega) rfl (ok_f131_isSort (by omega) (v1 / 100) _ hc1) ?_)
    refine zr_one (if t2 = 0 then zN 58 [some (.ref 73), some (.int v1)] [] (SH, I, J) else zN 15 [some (.ref 73), some (.int v1)] [] (SH, I, J)) rfl (zR_if (fun hc10 => zR_go ?_) (fun hc10 => zR_go ?_))
    · rw [if_pos hc10] at h
      refine zr_steps 1 (59, [some (.ref 73), some (.int v1)], [.int 0], (SH, I, J)) rfl ?_
      have he := Option.some.inj h
      subst he
      exact zr_one (if ((0 : Int32) = 0 ∨ (0 : Int32) = 1) then some (.inr (.inr (some (.int 0)))) else none) rfl (zR_pos (by decide) (zR_ret rfl rfl))
    · rw [if_neg hc10] at h
      refine zr_steps 3 (19, [some (.ref 73), some (.int v1)], [.int 10, .int v1, .ref 73], (SH, I, J)) rfl ?_
      refine zr_one (if (10 : Int32) = 0 then none else zN 20 [some (.ref 73), some (.int v1)] [.int (v1 / 10), .ref 73] (SH, I, J)) rfl (zR_div (by decide) (zR_go ?_))
      refine zr_steps 1 (22, [some (.ref 73), some (.int v1)], [.int 10, .int (v1 / 10), .ref 73], (SH, I, J)) rfl ?_
      refine zr_one (if (10 : Int32) = 0 then none else zN 23 [some (.ref 73), some (.int v1)] [.int ((v1 / 10) - (v1 / 10) / 10 * 10), .ref 73] (SH, I, J)) rfl (zR_div (by decide) (zR_go ?_))
      obtain ⟨t4, hc3, h⟩ := zbind h
      refine zr_one (some (.inr (.inl (130, [.ref 73, .int ((v1 / 10) - (v1 / 10) / 10 * 10)], [], 26)))) rfl (zR_call (by omega) rfl (ok_f130_isSquare (by omega) ((v1 / 10) - (v1 / 10) / 10 * 10) _ hc3) ?_)
      refine zr_one (if t4 = 0 then zN 58 [some (.ref 73), some (.int v1)] [] (SH, I, J) else zN 29 [some (.ref 73), some (.int v1)] [] (SH, I, J)) rfl (zR_if (fun hc9 => zR_go ?_) (fun hc9 => zR_go ?_))
      · rw [if_pos hc9] at h
        refine zr_steps 1 (59, [some (.ref 73), some (.int v1)], [.int 0], (SH, I, J)) rfl ?_
        have he := Option.some.inj h
        subst he
        exact zr_one (if ((0 : Int32) = 0 ∨ (0 : Int32) = 1) then some (.inr (.inr (some (.int 0)))) else none) rfl (zR_pos (by decide) (zR_ret rfl rfl))
      · rw [if_neg hc9] at h
        refine zr_steps 3 (33, [some (.ref 73), some (.int v1)], [.int 10, .int v1, .ref 73], (SH, I, J)) rfl ?_
        refine zr_one (if (10 : Int32) = 0 then none else zN 34 [some (.ref 73), some (.int v1)] [.int (v1 - v1 / 10 * 10), .ref 73] (SH, I, J)) rfl (zR_div (by decide) (zR_go ?_))
        obtain ⟨t6, hc5, h⟩ := zbind h
        refine zr_one (some (.inr (.inl (130, [.ref 73, .int (v1 - v1 / 10 * 10)], [], 37)))) rfl (zR_call (by omega) rfl (ok_f130_isSquare (by omega) (v1 - v1 / 10 * 10) _ hc5) ?_)
        refine zr_one (if t6 = 0 then zN 58 [some (.ref 73), some (.int v1)] [] (SH, I, J) else zN 40 [some (.ref 73), some (.int v1)] [] (SH, I, J)) rfl (zR_if (fun hc8 => zR_go ?_) (fun hc8 => zR_go ?_))
        · rw [if_pos hc8] at h
          refine zr_steps 1 (59, [some (.ref 73), some (.int v1)], [.int 0], (SH, I, J)) rfl ?_
          have he := Option.some.inj h
          subst he
          exact zr_one (if ((0 : Int32) = 0 ∨ (0 : Int32) = 1) then some (.inr (.inr (some (.int 0)))) else none) rfl (zR_pos (by decide) (zR_ret rfl rfl))
        · rw [if_neg hc8] at h
          refine zr_steps 2 (43, [some (.ref 73), some (.int v1)], [.int 10, .int v1], (SH, I, J)) rfl ?_
          refine zr_one (if (10 : Int32) = 0 then none else zN 44 [some (.ref 73), some (.int v1)] [.int (v1 / 10)] (SH, I, J)) rfl (zR_div (by decide) (zR_go ?_))
          refine zr_steps 1 (46, [some (.ref 73), some (.int v1)], [.int 10, .int (v1 / 10)], (SH, I, J)) rfl ?_
          refine zr_one (if (10 : Int32) = 0 then none else zN 47 [some (.ref 73), some (.int v1)] [.int ((v1 / 10) - (v1 / 10) / 10 * 10)] (SH, I, J)) rfl (zR_div (by decide) (zR_go ?_))
          refine zr_steps 2 (50, [some (.ref 73), some (.int v1)], [.int 10, .int v1, .int ((v1 / 10) - (v1 / 10) / 10 * 10)], (SH, I, J)) rfl ?_
          refine zr_one (if (10 : Int32) = 0 then none else zN 51 [some (.ref 73), some (.int v1)] [.int (v1 - v1 / 10 * 10), .int ((v1 / 10) - (v1 / 10) / 10 * 10)] (SH, I, J)) rfl (zR_div (by decide) (zR_go ?_))
          refine zr_one (if ((v1 / 10) - (v1 / 10) / 10 * 10) = (v1 - v1 / 10 * 10) then zN 58 [some (.ref 73), some (.int v1)] [] (SH, I, J) else zN 54 [some (.ref 73), some (.int v1)] [] (SH, I, J)) rfl (zR_if (fun hc7 => zR_go ?_) (fun hc7 => zR_go ?_))
          · rw [if_pos hc7] at h
            refine zr_steps 1 (59, [some (.ref 73), some (.int v1)], [.int 0], (SH, I, J)) rfl ?_
            have he := Option.some.inj h
            subst he
            exact zr_one (if ((0 : Int32) = 0 ∨ (0 : Int32) = 1) then some (.inr (.inr (some (.int 0)))) else none) rfl (zR_pos (by decide) (zR_ret rfl rfl))
          · rw [if_neg hc7] at h
            refine zr_steps 2 (59, [some (.ref 73), some (.int v1)], [.int 1], (SH, I, J)) rfl ?_
            have he := Option.some.inj h
            subst he
            exact zr_one (if ((1 : Int32) = 0 ∨ (1 : Int32) = 1) then some (.inr (.inr (some (.int 1)))) else none) rfl (zR_pos (by decide) (zR_ret rfl rfl))
set_option maxRecDepth 100000 in
set_option maxHeartbeats 4000000 in
theorem ok_f178_nearer {X : zX} {d : Nat} (hd : 0 ≤ d) (v1 : Int32) (v2 : Int32) (v3 : Int32) {I : (Nat → Nat → Int32)} {J : (Nat → Nat → Int64)} (t : (Nat → Nat → Int32)) (h : f178_nearer v1 v2 v3 I = some t) : zRun X d 178 0 (zent 178 [.ref 73, .int v1, .int v2, .int v3]) [] (SH, I, J) none (SH, t, J) := by
  unfold f178_nearer at h
  refine zr_steps 3 (5, [some (.ref 73), some (.int v1), some (.int v2), some (.int v3)], [.int v1, .ref 106], (SH, I, J)) rfl ?_
  obtain ⟨hc1, h⟩ := zbifo h
  refine zr_one (bif zin v1 4 then zN 6 [some (.ref 73), some (.int v1), some (.int v2), some (.int v3)] [.int (I 106 v1.toNatClampNeg)] (SH, I, J) else none) rfl (zR_bif hc1 (zR_go ?_))
  refine zr_one (if (I 106 v1.toNatClampNeg) < 0 then zN 49 [some (.ref 73), some (.int v1), some (.int v2), some (.int v3)] [] (SH, I, J) else zN 9 [some (.ref 73), some (.int v1), some (.int v2), some (.int v3)] [] (SH, I, J)) rfl (zR_if (fun hc11 => zR_go ?_) (fun hc11 => zR_go ?_))
  · rw [if_pos hc11] at h
    have he := Option.some.inj h
    subst he
    exact zr_one (some (.inr (.inr none))) rfl (zR_ret rfl rfl)
  · rw [if_neg hc11] at h
    refine zr_steps 3 (14, [some (.ref 73), some (.int v1), some (.int v2), some (.int v3)], [.int v2, .ref 106], (SH, I, J)) rfl ?_
    obtain ⟨hc2, h⟩ := zbifo h
    refine zr_one (bif zin v2 4 then zN 15 [some (.ref 73), some (.int v1), some (.int v2), some (.int v3)] [.int (I 106 v2.toNatClampNeg)] (SH, I, J) else none) rfl (zR_bif hc2 (zR_go ?_))
    refine zr_one (if (I 106 v2.toNatClampNeg) < 0 then zN 35 [some (.ref 73), some (.int v1), some (.int v2), some (.int v3)] [] (SH, I, J) else zN 18 [some (.ref 73), some (.int v1), some (.int v2), some (.int v3)] [] (SH, I, J)) rfl (zR_if (fun hc10 => zR_go ?_) (fun hc10 => zR_go ?_))
    · rw [if_pos hc10] at h
      refine zr_steps 6 (45, [some (.ref 73), some (.int v1), some (.int v2), some (.int v3)], [.int v1, .ref 106, .int v2, .ref 106], (SH, I, J)) rfl ?_
      obtain ⟨hc3, h⟩ := zbifo h
      refine zr_one (bif zin v1 4 then zN 46 [some (.ref 73), some (.int v1), some (.int v2), some (.int v3)] [.int (I 106 v1.toNatClampNeg), .int v2, .ref 106] (SH, I, J) else none) rfl (zR_bif hc3 (zR_go ?_))
      refine zr_steps 2 (48, [some (.ref 73), some (.int v1), some (.int v2), some (.int v3)], [.int ((I 106 v1.toNatClampNeg) + v3), .int v2, .ref 106], (SH, I, J)) rfl ?_
      obtain ⟨hc4, h⟩ := zbifo h
      refine zr_one (bif zin v2 4 then zN 49 [some (.ref 73), some (.int v1), some (.int v2), some (.int v3)] [] (SH, (zu I 106 v2.toNatClampNeg ((I 106 v1.toNatClampNeg) + v3)), J) else none) rfl (zR_bif hc4 (zR_go ?_))
      have he := Option.some.inj h
      subst he
      exact zr_one (some (.inr (.inr none))) rfl (zR_ret rfl rfl)
    · rw [if_neg hc10] at h
      refine zr_steps 3 (23, [some (.ref 73), some (.int v1), some (.int v2), some (.int v3)], [.int v1, .ref 106], (SH, I, J)) rfl ?_
      obtain ⟨hc5, h⟩ := zbifo h
      refine zr_one (bif zin v1 4 then zN 24 [some (.ref 73), some (.int v1), some (.int v2), some (.int v3)] [.int (I 106 v1.toNatClampNeg)] (SH, I, J) else none) rfl (zR_bif hc5 (zR_go ?_))
      refine zr_steps 5 (31, [some (.ref 73), some (.int v1), some (.int v2), some (.int v3)], [.int v2, .ref 106, .int ((I 106 v1.toNatClampNeg) + v3)], (SH, I, J)) rfl ?_
      obtain ⟨hc6, h⟩ := zbifo h
      refine zr_one (bif zin v2 4 then zN 32 [some (.ref 73), some (.int v1), some (.int v2), some (.int v3)] [.int (I 106 v2.toNatClampNeg), .int ((I 106 v1.toNatClampNeg) + v3)] (SH, I, J) else none) rfl (zR_bif hc6 (zR_go ?_))
      refine zr_one (if (I 106 v2.toNatClampNeg) ≤ ((I 106 v1.toNatClampNeg) + v3) then zN 49 [some (.ref 73), some (.int v1), some (.int v2), some (.int v3)] [] (SH, I, J) else zN 35 [some (.ref 73), some (.int v1), some (.int v2), some (.int v3)] [] (SH, I, J)) rfl (zR_if (fun hc9 => zR_go ?_) (fun hc9 => zR_go ?_))
      · rw [if_pos hc9] at h
        have he := Option.some.inj h
        subst he
        exact zr_one (some (.inr (.inr none))) rfl (zR_ret rfl rfl)
      · rw [if_neg hc9] at h
        refine zr_steps 6 (45, [some (.ref 73), some (.int v1), some (.int v2), some (.int v3)], [.int v1, .ref 106, .int v2, .ref 106], (SH, I, J)) rfl ?_
        obtain ⟨hc7, h⟩ := zbifo h
        refine zr_one (bif zin v1 4 then zN 46 [some (.ref 73), some (.int v1), some (.int v2), some (.int v3)] [.int (I 106 v1.toNatClampNeg), .int v2, .ref 106] (SH, I, J) else none) rfl (zR_bif hc7 (zR_go ?_))
        refine zr_steps 2 (48, [some (.ref 73), some (.int v1), some (.int v2), some (.int v3)], [.int ((I 106 v1.toNatClampNeg) + v3), .int v2, .ref 106], (SH, I, J)) rfl ?_
        obtain ⟨hc8, h⟩ := zbifo h
        refine zr_one (bif zin v2 4 then zN 49 [some (.ref 73), some (.int v1), some (.int v2), some (.int v3)] [] (SH, (zu I 106 v2.toNatClampNeg ((I 106 v1.toNatClampNeg) + v3)), J) else none) rfl (zR_bif hc8 (zR_go ?_))
        have he := Option.some.inj h
        subst he
        exact zr_one (some (.inr (.inr none))) rfl (zR_ret rfl rfl)
