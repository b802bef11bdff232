set_option maxRecDepth 100000 in
set_option maxHeartbeats 4000000 in
theorem ok_f177_fewest_L2 {X : zX} {d : Nat} {r : Option Value} {M' : zM} (hd : 1 ≤ d) (v1 : Int32) (v2 : Int32) {J : (Nat → Nat → Int64)} : ∀ (n : Nat) (s x : (Int32 × (Nat → Nat → Int32))), zloop (f177_fewest_L2 v1 v2) n s = some x → (fun (x : (Int32 × (Nat → Nat → Int32))) => zRun X d 177 32 [some (.ref 73), none, some (.int v2), none, none] [] (SH, x.2, J) r M') x → (fun (s : (Int32 × (Nat → Nat → Int32))) => zRun X d 177 2 [some (.ref 73), some (.int v1), some (.int v2), some (.int s.1), none] [] (SH, s.2, J) r M') s := zloop_ok (B := (f177_fewest_L2 v1 v2)) (Wh := fun (s : (Int32 × (Nat → Nat → Int32))) => zRun X d 177 2 [some (.ref 73), some (.int v1), some (.int v2), some (.int s.1), none] [] (SH, s.2, J) r M') (Wx := fun (x : (Int32 × (Nat → Nat → Int32))) => zRun X d 177 32 [some (.ref 73), none, some (.int v2), none, none] [] (SH, x.2, J) r M') (fun s y h w => by
  unfold f177_fewest_L2 at h
  refine zr_steps 3 (7, [some (.ref 73), some (.int v1), some (.int v2), some (.int s.1), none], [.int (s.2 73 1), .int s.1], (SH, s.2, J)) rfl ?_
  refine zr_one (if (s.2 73 1) ≤ s.1 then zN 32 [some (.ref 73), some (.int v1), some (.int v2), some (.int s.1), none] [] (SH, s.2, J) else zN 10 [some (.ref 73), some (.int v1), some (.int v2), some (.int s.1), none] [] (SH, s.2, J)) rfl (zR_if (fun hc4 => zR_go ?_) (fun hc4 => zR_go ?_))
  · rw [if_pos hc4] at h
    have he := Option.some.inj h
    subst he
    exact zr_hdr (ls2 := [some (.ref 73), none, some (.int v2), none, none]) rfl rfl (show zRun X d 177 32 [some (.ref 73), none, some (.int v2), none, none] [] (SH, s.2, J) r M' from w)
  · rw [if_neg hc4] at h
    refine zr_steps 5 (17, [some (.ref 73), some (.int v1), some (.int v2), some (.int s.1), none], [.int v1, .int s.1, .int s.1, .ref 106], (SH, s.2, J)) rfl ?_
    refine zr_one (if s.1 = v1 then zN 20 [some (.ref 73), some (.int v1), some (.int v2), some (.int s.1), none] [.int s.1, .ref 106] (SH, s.2, J) else zN 24 [some (.ref 73), some (.int v1), some (.int v2), some (.int s.1), none] [.int s.1, .ref 106] (SH, s.2, J)) rfl (zR_if (fun hc3 => zR_go ?_) (fun hc3 => zR_go ?_))
    · rw [if_pos hc3] at h
      refine zr_steps 2 (25, [some (.ref 73), some (.int v1), some (.int v2), some (.int s.1), none], [.int 0, .int s.1, .ref 106], (SH, s.2, J)) rfl ?_
      obtain ⟨hc1, h⟩ := zbifo h
      refine zr_one (bif zin s.1 4 then zN 26 [some (.ref 73), some (.int v1), some (.int v2), some (.int s.1), none] [] (SH, (zu s.2 106 s.1.toNatClampNeg 0), J) else none) rfl (zR_bif hc1 (zR_go ?_))
      refine zr_steps 2 (2, [some (.ref 73), some (.int v1), some (.int v2), some (.int (s.1 + 1)), none], [], (SH, (zu s.2 106 s.1.toNatClampNeg 0), J)) rfl ?_
      have he := Option.some.inj h
      subst he
      exact zr_hdr (ls2 := [some (.ref 73), some (.int v1), some (.int v2), some (.int (s.1 + 1)), none]) rfl rfl (show zRun X d 177 2 [some (.ref 73), some (.int v1), some (.int v2), some (.int (s.1 + 1)), none] [] (SH, (zu s.2 106 s.1.toNatClampNeg 0), J) r M' from w)
    · rw [if_neg hc3] at h
      refine zr_steps 1 (25, [some (.ref 73), some (.int v1), some (.int v2), some (.int s.1), none], [.int (-1), .int s.1, .ref 106], (SH, s.2, J)) rfl ?_
      obtain ⟨hc2, h⟩ := zbifo h
      refine zr_one (bif zin s.1 4 then zN 26 [some (.ref 73), some (.int v1), some (.int v2), some (.int s.1), none] [] (SH, (zu s.2 106 s.1.toNatClampNeg (-1)), J) else none) rfl (zR_bif hc2 (zR_go ?_))
      refine zr_steps 2 (2, [some (.ref 73), some (.int v1), some (.int v2), some (.int (s.1 + 1)), none], [], (SH, (zu s.2 106 s.1.toNatClampNeg (-1)), J)) rfl ?_
      have he := Option.some.inj h
      subst he
      exact zr_hdr (ls2 := [some (.ref 73), some (.int v1), some (.int v2), some (.int (s.1 + 1)), none]) rfl rfl (show zRun X d 177 2 [some (.ref 73), some (.int v1), some (.int v2), some (.int (s.1 + 1)), none] [] (SH, (zu s.2 106 s.1.toNatClampNeg (-1)), J) r M' from w))
set_option maxRecDepth 100000 in
set_option maxHeartbeats 4000000 in
theorem ok_f177_fewest_L45 {X : zX} {d : Nat} {r : Option Value} {M' : zM} (hd : 1 ≤ d) (v2 : Int32) (v3 : Int32) {J : (Nat → Nat → Int64)} : ∀ (n : Nat) (s x : (Int32 × (Nat → Nat → Int32))), zloop (f177_fewest_L45 v2 v3) n s = some x → (fun (x : (Int32 × (Nat → Nat → Int32))) => zRun X d 177 110 [some (.ref 73), none, some (.int v2), some (.int v3), none] [] (SH, x.2, J) r M') x → (fun (s : (Int32 × (Nat → Nat → Int32))) => zRun X d 177 45 [some (.ref 73), none, some (.int v2), some (.int v3), some (.int s.1)] [] (SH, s.2, J) r M') s := zloop_ok (B := (f177_fewest_L45 v2 v3)) (Wh := fun (s : (Int32 × (Nat → Nat → Int32))) => zRun X d 177 45 [some (.ref 73), none, some (.int v2), some (.int v3), some (.int s.1)] [] (SH, s.2, J) r M') (Wx := fun (x : (Int32 × (Nat → Nat → Int32))) => zRun X d 177 110 [some (.ref 73), none, some (.int v2), some (.int v3), none] [] (SH, x.2, J) r M') (fun s y h w => by
  unfold f177_fewest_L45 at h
  refine zr_steps 3 (51, [some (.ref 73), none, some (.int v2), some (.int v3), some (.int s.1)], [.int (s.2 73 4), .int s.1], (SH, s.2, J)) rfl ?_
  refine zr_one (if (s.2 73 4) ≤ s.1 then zN 110 [some (.ref 73), none, some (.int v2), some (.int v3), some (.int s.1)] [] (SH, s.2, J) else zN 54 [some (.ref 73), none, some (.int v2), some (.int v3), some (.int s.1)] [] (SH, s.2, J)) rfl (zR_if (fun hc17 => zR_go ?_) (fun hc17 => zR_go ?_))
  · rw [if_pos hc17] at h
    have he := Option.some.inj h
    subst he
    exact zr_hdr (ls2 := [some (.ref 73), none, some (.int v2), some (.int v3), none]) rfl rfl (show zRun X d 177 110 [some (.ref 73), none, some (.int v2), some (.int v3), none] [] (SH, s.2, J) r M' from w)
  · rw [if_neg hc17] at h
    refine zr_steps 4 (61, [some (.ref 73), none, some (.int v2), some (.int v3), some (.int s.1)], [.int s.1, .ref 76, .ref 73], (SH, s.2, J)) rfl ?_
    obtain ⟨hc7, h⟩ := zbifo h
    refine zr_one (bif zin s.1 12 then zN 62 [some (.ref 73), none, some (.int v2), some (.int v3), some (.int s.1)] [.int (s.2 76 s.1.toNatClampNeg), .ref 73] (SH, s.2, J) else none) rfl (zR_bif hc7 (zR_go ?_))
    refine zr_steps 3 (68, [some (.ref 73), none, some (.int v2), some (.int v3), some (.int s.1)], [.int s.1, .ref 77, .int (s.2 76 s.1.toNatClampNeg), .ref 73], (SH, s.2, J)) rfl ?_
    obtain ⟨hc8, h⟩ := zbifo h
    refine zr_one (bif zin s.1 12 then zN 69 [some (.ref 73), none, some (.int v2), some (.int v3), some (.int s.1)] [.int (s.2 77 s.1.toNatClampNeg), .int (s.2 76 s.1.toNatClampNeg), .ref 73] (SH, s.2, J) else none) rfl (zR_bif hc8 (zR_go ?_))
    refine zr_steps 3 (75, [some (.ref 73), none, some (.int v2), some (.int v3), some (.int s.1)], [.int s.1, .ref 78, .int (s.2 77 s.1.toNatClampNeg), .int (s.2 76 s.1.toNatClampNeg), .ref 73], (SH, s.2, J)) rfl ?_
    obtain ⟨hc9, h⟩ := zbifo h
    refine zr_one (bif zin s.1 12 then zN 76 [some (.ref 73), none, some (.int v2), some (.int v3), some (.int s.1)] [.int (s.2 78 s.1.toNatClampNeg), .int (s.2 77 s.1.toNatClampNeg), .int (s.2 76 s.1.toNatClampNeg), .ref 73] (SH, s.2, J) else none) rfl (zR_bif hc9 (zR_go ?_))
    obtain ⟨t11, hc10, h⟩ := zbind h
    refine zr_one (some (.inr (.inl (178, [.ref 73, .int (s.2 76 s.1.toNatClampNeg), .int (s.2 77 s.1.toNatClampNeg), .int (s.2 78 s.1.toNatClampNeg)], [], 79)))) rfl (zR_call (by omega) rfl (ok_f178_nearer (by omega) (s.2 76 s.1.toNatClampNeg) (s.2 77 s.1.toNatClampNeg) (s.2 78 s.1.toNatClampNeg) _ hc10) ?_)
    refine zr_steps 4 (86, [some (.ref 73), none, some (.int v2), some (.int v3), some (.int s.1)], [.int s.1, .ref 77, .ref 73], (SH, t11, J)) rfl ?_
    obtain ⟨hc12, h⟩ := zbifo h
    refine zr_one (bif zin s.1 12 then zN 87 [some (.ref 73), none, some (.int v2), some (.int v3), some (.int s.1)] [.int (t11 77 s.1.toNatClampNeg), .ref 73] (SH, t11, J) else none) rfl (zR_bif hc12 (zR_go ?_))
    refine zr_steps 3 (93, [some (.ref 73), none, some (.int v2), some (.int v3), some (.int s.1)], [.int s.1, .ref 76, .int (t11 77 s.1.toNatClampNeg), .ref 73], (SH, t11, J)) rfl ?_
    obtain ⟨hc13, h⟩ := zbifo h
    refine zr_one (bif zin s.1 12 then zN 94 [some (.ref 73), none, some (.int v2), some (.int v3), some (.int s.1)] [.int (t11 76 s.1.toNatClampNeg), .int (t11 77 s.1.toNatClampNeg), .ref 73] (SH, t11, J) else none) rfl (zR_bif hc13 (zR_go ?_))
    refine zr_steps 3 (100, [some (.ref 73), none, some (.int v2), some (.int v3), some (.int s.1)], [.int s.1, .ref 78, .int (t11 76 s.1.toNatClampNeg), .int (t11 77 s.1.toNatClampNeg), .ref 73], (SH, t11, J)) rfl ?_
    obtain ⟨hc14, h⟩ := zbifo h
    refine zr_one (bif zin s.1 12 then zN 101 [some (.ref 73), none, some (.int v2), some (.int v3), some (.int s.1)] [.int (t11 78 s.1.toNatClampNeg), .int (t11 76 s.1.toNatClampNeg), .int (t11 77 s.1.toNatClampNeg), .ref 73] (SH, t11, J) else none) rfl (zR_bif hc14 (zR_go ?_))
    obtain ⟨t16, hc15, h⟩ := zbind h
    refine zr_one (some (.inr (.inl (178, [.ref 73, .int (t11 77 s.1.toNatClampNeg), .int (t11 76 s.1.toNatClampNeg), .int (t11 78 s.1.toNatClampNeg)], [], 104)))) rfl (zR_call (by omega) rfl (ok_f178_nearer (by omega) (t11 77 s.1.toNatClampNeg) (t11 76 s.1.toNatClampNeg) (t11 78 s.1.toNatClampNeg) _ hc15) ?_)
    refine zr_steps 2 (45, [some (.ref 73), none, some (.int v2), some (.int v3), some (.int (s.1 + 1))], [], (SH, t16, J)) rfl ?_
    have he := Option.some.inj h
    subst he
    exact zr_hdr (ls2 := [some (.ref 73), none, some (.int v2), some (.int v3), some (.int (s.1 + 1))]) rfl rfl (show zRun X d 177 45 [some (.ref 73), none, some (.int v2), some (.int v3), some (.int (s.1 + 1))] [] (SH, t16, J) r M' from w))
set_option maxRecDepth 100000 in
set_option maxHeartbeats 4000000 in
theorem ok_f177_fewest_L34 {X : zX} {d : Nat} {r : Option Value} {M' : zM} (hd : 1 ≤ d) (v2 : Int32) {J : (Nat → Nat → Int64)} : ∀ (n : Nat) (s x : (Int32 × (Nat → Nat → Int32))), zloop (f177_fewest_L34 v2) n s = some x → (fun (x : (Int32 × (Nat → Nat → Int32))) => zRun X d 177 116 [some (.ref 73), none, some (.int v2), none, none] [] (SH, x.2, J) r M') x → (fun (s : (Int32 × (Nat → Nat → Int32))) => zRun X d 177 34 [some (.ref 73), none, some (.int v2), some (.int s.1), none] [] (SH, s.2, J) r M') s := zloop_ok (B := (f177_fewest_L34 v2)) (Wh := fun (s : (Int32 × (Nat → Nat → Int32))) => zRun X d 177 34 [some (.ref 73), none, some (.int v2), some (.int s.1), none] [] (SH, s.2, J) r M') (Wx := fun (x : (Int32 × (Nat → Nat → Int32))) => zRun X d 177 116 [some (.ref 73), none, some (.int v2), none, none] [] (SH, x.2, J) r M') (fun s y h w => by
  unfold f177_fewest_L34 at h
  refine zr_steps 3 (39, [some (.ref 73), none, some (.int v2), some (.int s.1), none], [.int (s.2 73 1), .int s.1], (SH, s.2, J)) rfl ?_
  refine zr_one (if (s.2 73 1) ≤ s.1 then zN 116 [some (.ref 73), none, some (.int v2), some (.int s.1), none] [] (SH, s.2, J) else zN 42 [some (.ref 73), none, some (.int v2), some (.int s.1), none] [] (SH, s.2, J)) rfl (zR_if (fun hc20 => zR_go ?_) (fun hc20 => zR_go ?_))
  · rw [if_pos hc20] at h
    have he := Option.some.inj h
    subst he
    exact zr_hdr (ls2 := [some (.ref 73), none, some (.int v2), none, none]) rfl rfl (show zRun X d 177 116 [some (.ref 73), none, some (.int v2), none, none] [] (SH, s.2, J) r M' from w)
  · rw [if_neg hc20] at h
    refine zr_steps 2 (45, [some (.ref 73), none, some (.int v2), some (.int s.1), some (.int 0)], [], (SH, s.2, J)) rfl ?_
    obtain ⟨s18, ho19, h⟩ := zbind h
    refine zr_hdr (ls2 := [some (.ref 73), none, some (.int v2), some (.int s.1), some (.int 0)]) rfl rfl ?_
    refine ok_f177_fewest_L45 (by omega) v2 s.1 5000 ((0 : Int32), s.2) s18 ho19 ?_
    show zRun X d 177 110 [some (.ref 73), none, some (.int v2), some (.int s.1), none] [] (SH, s18.2, J) _ _
    refine zr_steps 2 (34, [some (.ref 73), none, some (.int v2), some (.int (s.1 + 1)), none], [], (SH, s18.2, J)) rfl ?_
    have he := Option.some.inj h
    subst he
    exact zr_hdr (ls2 := [some (.ref 73), none, some (.int v2), some (.int (s.1 + 1)), none]) rfl rfl (show zRun X d 177 34 [some (.ref 73), none, some (.int v2), some (.int (s.1 + 1)), none] [] (SH, s18.2, J) r M' from w))
set_option maxRecDepth 100000 in
set_option maxHeartbeats 4000000 in
theorem ok_f177_fewest {X : zX} {d : Nat} (hd : 1 ≤ d) (v1 : Int32) (v2 : Int32) {I : (Nat → Nat → Int32)} {J : (Nat → Nat → Int64)} (t : (Int32 × (Nat → Nat → Int32))) (h : f177_fewest v1 v2 I = some t) : zRun X d 177 0 (zent 177 [.ref 73, .int v1, .int v2]) [] (SH, I, J) (some (.int t.1)) (SH, t.2, J) := by
  unfold f177_fewest at h
  refine zr_steps 2 (2, [some (.ref 73), some (.int v1), some (.int v2), some (.int 0), none], [], (SH, I, J)) rfl ?_
  obtain ⟨s5, ho6, h⟩ := zbind h
  refine zr_hdr (ls2 := [some (.ref 73), some (.int v1), some (.int v2), some (.int 0), none]) rfl rfl ?_
  refine ok_f177_fewest_L2 (by omega) v1 v2 5000 ((0 : Int32), I) s5 ho6 ?_
  show zRun X d 177 32 [some (.ref 73), none, some (.int v2), none, none] [] (SH, s5.2, J) _ _
  refine zr_steps 2 (34, [some (.ref 73), none, some (.int v2), some (.int 0), none], [], (SH, s5.2, J)) rfl ?_
  obtain ⟨s21, ho22, h⟩ := zbind h
  refine zr_hdr (ls2 := [some (.ref 73), none, some (.int v2), some (.int 0), none]) rfl rfl ?_
  refine ok_f177_fewest_L34 (by omega) v2 5000 ((0 : Int32), s5.2) s21 ho22 ?_
  show zRun X d 177 116 [some (.ref 73), none, some (.int v2), none, none] [] (SH, s21.2, J) _ _
  refine zr_steps 3 (121, [some (.ref 73), none, some (.int v2), none, none], [.int v2, .ref 106], (SH, s21.2, J)) rfl ?_
  obtain ⟨hc23, h⟩ := zbifo h
  refine zr_one (bif zin v2 4 then zN 122 [some (.ref 73), none, some (.int v2), none, none] [.int (s21.2 106 v2.toNatClampNeg)] (SH, s21.2, J) else none) rfl (zR_bif hc23 (zR_go ?_))
  have he := Option.some.inj h
  subst he
  exact zr_one (some (.inr (.inr (some (.int (s21.2 106 v2.toNatClampNeg)))))) rfl (zR_ret rfl rfl)
set_option maxRecDepth 100000 in
set_option maxHeartbeats 4000000 in
theorem ok_f179_lastOf {X : zX} {d : Nat} (hd : 2 ≤ d) (v1 : Int32) (v2 : Int32) (v3 : Int32) {I : (Nat → Nat → Int32)} {J : (Nat → Nat → Int64)} (t : (Int32 × (Nat → Nat → Int32))) (h : f179_lastOf v1 v2 v3 I = some t) : zRun X d 179 0 (zent 179 [.ref 73, .int v1, .int v2, .int v3]) [] (SH, I, J) (some (.int t.1)) (SH, t.2, J) := by
  unfold f179_lastOf at h
  refine zr_steps 3 (3, [some (.ref 73), some (.int v1), some (.int v2), some (.int v3), none], [.int v3, .int v2, .ref 73], (SH, I, J)) rfl ?_
  obtain ⟨t2, hc1, h⟩ := zbind h
  refine zr_one (some (.inr (.inl (177, [.ref 73, .int v2, .int v3], [], 6)))) rfl (zR_call (by omega) rfl (ok_f177_fewest (by omega) v2 v3 _ hc1) ?_)
  refine zr_steps 2 (10, [some (.ref 73), some (.int v1), some (.int v2), some (.int v3), some (.int t2.1)], [.int t2.1], (SH, t2.2, J)) rfl ?_
  refine zr_one (if t2.1 < 0 then zN 29 [some (.ref 73), some (.int v1), some (.int v2), some (.int v3), some (.int t2.1)] [] (SH, t2.2, J) else zN 13 [some (.ref 73), some (.int v1), some (.int v2), some (.int v3), some (.int t2.1)] [] (SH, t2.2, J)) rfl (zR_if (fun hc6 => zR_go ?_) (fun hc6 => zR_go ?_))
  · rw [if_pos hc6] at h
    refine zr_steps 1 (31, [some (.ref 73), some (.int v1), some (.int v2), some (.int v3), some (.int t2.1)], [.int (-2)], (SH, t2.2, J)) rfl ?_
    have he := Option.some.inj h
    subst he
    exact zr_one (some (.inr (.inr (some (.int (-2)))))) rfl (zR_ret rfl rfl)
  · rw [if_neg hc6] at h
    refine zr_steps 5 (22, [some (.ref 73), some (.int v1), some (.int v2), some (.int v3), some (.int t2.1)], [.int v1, .ref 83, .int (t2.2 73 15)], (SH, t2.2, J)) rfl ?_
    obtain ⟨hc3, h⟩ := zbifo h
    refine zr_one (bif zin v1 8 then zN 23 [some (.ref 73), some (.int v1), some (.int v2), some (.int v3), some (.int t2.1)] [.int (t2.2 83 v1.toNatClampNeg), .int (t2.2 73 15)] (SH, t2.2, J) else none) rfl (zR_bif hc3 (zR_go ?_))
    refine zr_steps 2 (26, [some (.ref 73), some (.int v1), some (.int v2), some (.int v3), some (.int t2.1)], [.int ((t2.2 83 v1.toNatClampNeg) * t2.1), .int (t2.2 73 15)], (SH, t2.2, J)) rfl ?_
    refine zr_one (if ((t2.2 83 v1.toNatClampNeg) * t2.1) ≤ (t2.2 73 15) then zN 32 [some (.ref 73), some (.int v1), some (.int v2), some (.int v3), some (.int t2.1)] [] (SH, t2.2, J) else zN 29 [some (.ref 73), some (.int v1), some (.int v2), some (.int v3), some (.int t2.1)] [] (SH, t2.2, J)) rfl (zR_if (fun hc5 => zR_go ?_) (fun hc5 => zR_go ?_))
    · rw [if_pos hc5] at h
      refine zr_steps 5 (41, [some (.ref 73), some (.int v1), some (.int v2), some (.int v3), some (.int t2.1)], [.int v1, .ref 83, .int (t2.2 73 15)], (SH, t2.2, J)) rfl ?_
      obtain ⟨hc4, h⟩ := zbifo h
      refine zr_one (bif zin v1 8 then zN 42 [some (.ref 73), some (.int v1), some (.int v2), some (.int v3), some (.int t2.1)] [.int (t2.2 83 v1.toNatClampNeg), .int (t2.2 73 15)] (SH, t2.2, J) else none) rfl (zR_bif hc4 (zR_go ?_))
      refine zr_steps 3 (46, [some (.ref 73), some (.int v1), some (.int v2), some (.int v3), some (.int t2.1)], [.int ((t2.2 73 15) - ((t2.2 83 v1.toNatClampNeg) * t2.1))], (SH, t2.2, J)) rfl ?_
      have he := Option.some.inj h
      subst he
      exact zr_one (some (.inr (.inr (some (.int ((t2.2 73 15) - ((t2.2 83 v1.toNatClampNeg) * t2.1))))))) rfl (zR_ret rfl rfl)
    · rw [if_neg hc5] at h
      refine zr_steps 1 (31, [some (.ref 73), some (.int v1), some (.int v2), some (.int v3), some (.int t2.1)], [.int (-2)], (SH, t2.2, J)) rfl ?_
      have he := Option.some.inj h
      subst he
      exact zr_one (some (.inr (.inr (some (.int (-2)))))) rfl (zR_ret rfl rfl)
set_option maxRecDepth 100000 in
set_option maxHeartbeats 4000000 in
theorem ok_f181_last {X : zX} {d : Nat} (hd : 3 ≤ d) (v1 : Int32) {I : (Nat → Nat → Int32)} {J : (Nat → Nat → Int64)} (t : (Int32 × (Nat → Nat → Int32))) (h : f181_last v1 I = some t) : zRun X d 181 0 (zent 181 [.ref 73, .int v1]) [] (SH, I, J) (some (.int t.1)) (SH, t.2, J) := by
  unfold f181_last at h
  refine zr_steps 2 (2, [some (.ref 73), some (.int v1)], [.int v1, .ref 73], (SH, I, J)) rfl ?_
  obtain ⟨t2, hc1, h⟩ := zbind h
  refine zr_one (some (.inr (.inl (180, [.ref 73, .int v1], [], 5)))) rfl (zR_call (by omega) rfl (ok_f180_isTrip (by omega) v1 _ hc1) ?_)
  refine zr_one (if t2 = 0 then zN 30 [some (.ref 73), some (.int v1)] [] (SH, I, J) else zN 8 [some (.ref 73), some (.int v1)] [] (SH, I, J)) rfl (zR_if (fun hc5 => zR_go ?_) (fun hc5 => zR_go ?_))
  · rw [if_pos hc5] at h
    refine zr_steps 1 (31, [some (.ref 73), some (.int v1)], [.int (-1)], (SH, I, J)) rfl ?_
    have he := Option.some.inj h
    subst he
    exact zr_one (some (.inr (.inr (some (.int (-1)))))) rfl (zR_ret rfl rfl)
  · rw [if_neg hc5] at h
    refine zr_steps 3 (12, [some (.ref 73), some (.int v1)], [.int 100, .int v1, .ref 73], (SH, I, J)) rfl ?_
    refine zr_one (if (100 : Int32) = 0 then none else zN 13 [some (.ref 73), some (.int v1)] [.int (v1 / 100), .ref 73] (SH, I, J)) rfl (zR_div (by decide) (zR_go ?_))
    refine zr_steps 2 (16, [some (.ref 73), some (.int v1)], [.int 10, .int v1, .int (v1 / 100), .ref 73], (SH, I, J)) rfl ?_
    refine zr_one (if (10 : Int32) = 0 then none else zN 17 [some (.ref 73), some (.int v1)] [.int (v1 / 10), .int (v1 / 100), .ref 73] (SH, I, J)) rfl (zR_div (by decide) (zR_go ?_))
    refine zr_steps 1 (19, [some (.ref 73), some (.int v1)], [.int 10, .int (v1 / 10), .int (v1 / 100), .ref 73], (SH, I, J)) rfl ?_
    refine zr_one (if (10 : Int32) = 0 then none else zN 20 [some (.ref 73), some (.int v1)] [.int ((v1 / 10) - (v1 / 10) / 10 * 10), .int (v1 / 100), .ref 73] (SH, I, J)) rfl (zR_div (by decide) (zR_go ?_))
    refine zr_steps 2 (23, [some (.ref 73), some (.int v1)], [.int 10, .int v1, .int ((v1 / 10) - (v1 / 10) / 10 * 10), .int (v1 / 100), .ref 73], (SH, I, J)) rfl ?_
    refine zr_one (if (10 : Int32) = 0 then none else zN 24 [some (.ref 73), some (.int v1)] [.int (v1 - v1 / 10 * 10), .int ((v1 / 10) - (v1 / 10) / 10 * 10), .int (v1 / 100), .ref 73] (SH, I, J)) rfl (zR_div (by decide) (zR_go ?_))
    obtain ⟨t4, hc3, h⟩ := zbind h
    refine zr_one (some (.inr (.inl (179, [.ref 73, .int (v1 / 100), .int ((v1 / 10) - (v1 / 10) / 10 * 10), .int (v1 - v1 / 10 * 10)], [], 27)))) rfl (zR_call (by omega) rfl (ok_f179_lastOf (by omega) (v1 / 100) ((v1 / 10) - (v1 / 10) / 10 * 10) (v1 - v1 / 10 * 10) _ hc3) ?_)
    refine zr_steps 1 (31, [some (.ref 73), some (.int v1)], [.int t4.1], (SH, t4.2, J)) rfl ?_
    have he := Option.some.inj h
    subst he
    exact zr_one (some (.inr (.inr (some (.int t4.1))))) rfl (zR_ret rfl rfl)
set_option maxRecDepth 100000 in
set_option maxHeartbeats 4000000 in
theorem ok_f78_mostOver_L6 {X : zX} {d : Nat} {r : Option Value} {M' : zM} (hd : 0 ≤ d) (v1 : Int32) (v2 : Int32) (v3 : Int32) {I : (Nat → Nat → Int32)} {J : (Nat → Nat → Int64)} : ∀ (n : Nat) (s x : (Int32 × Int32)), zloop (f78_mostOver_L6 v1 v2 v3 I) n s = some x → (fun (x : (Int32 × Int32)) => zRun X d 78 103 [none, none, none, none, some (.int x.1), none] [] (SH, I, J) r M') x → (fun (s : (Int32 × Int32)) => zRun X d 78 6 [some (.ref 1), some (.int v1), some (.int v2), some (.int v3), some (.int s.1), some (.int s.2)] [] (SH, I, J) r M') s := zloop_ok (B := (f78_mostOver_L6 v1 v2 v3 I)) (Wh := fun (s : (Int32 × Int32)) => zRun X d 78 6 [some (.ref 1), some (.int v1), some (.int v2), some (.int v3), some (.int s.1), some (.int s.2)] [] (SH, I, J) r M') (Wx := fun (x : (Int32 × Int32)) => zRun X d 78 103 [none, none, none, none, some (.int x.1), none] [] (SH, I, J) r M') (fun s y h w => by
  unfold f78_mostOver_L6 at h
  refine zr_steps 3 (12, [some (.ref 1), some (.int v1), some (.int v2), some (.int v3), some (.int s.1), some (.int s.2)], [.int (I 1 1), .int s.2], (SH, I, J)) rfl ?_
  refine zr_one (if (I 1 1) ≤ s.2 then zN 103 [some (.ref 1), some (.int v1), some (.int v2), some (.int v3), some (.int s.1), some (.int s.2)] [] (SH, I, J) else zN 15 [some (.ref 1), some (.int v1), some (.int v2), some (.int v3), some (.int s.1), some (.int s.2)] [] (SH, I, J)) rfl (zR_if (fun hc22 => zR_go ?_) (fun hc22 => zR_go ?_))
  · rw [if_pos hc22] at h
    have he := Option.some.inj h
    subst he
    exact zr_hdr (ls2 := [none, none, none, none, some (.int s.1), none]) rfl rfl (show zRun X d 78 103 [none, none, none, none, some (.int s.1), none] [] (SH, I, J) r M' from w)
  · rw [if_neg hc22] at h
    refine zr_steps 3 (21, [some (.ref 1), some (.int v1), some (.int v2), some (.int v3), some (.int s.1), some (.int s.2)], [.int s.2, .ref 4], (SH, I, J)) rfl ?_
    obtain ⟨hc1, h⟩ := zbifo h
    refine zr_one (bif zin s.2 12 then zN 22 [some (.ref 1), some (.int v1), some (.int v2), some (.int v3), some (.int s.1), some (.int s.2)] [.int (I 4 s.2.toNatClampNeg)] (SH, I, J) else none) rfl (zR_bif hc1 (zR_go ?_))
    refine zr_steps 1 (23, [some (.ref 1), some (.int v1), some (.int v2), some (.int v3), some (.int s.1), some (.int s.2)], [.int v2, .int (I 4 s.2.toNatClampNeg)], (SH, I, J)) rfl ?_
    refine zr_one (if (I 4 s.2.toNatClampNeg) = v2 then zN 26 [some (.ref 1), some (.int v1), some (.int v2), some (.int v3), some (.int s.1), some (.int s.2)] [] (SH, I, J) else zN 37 [some (.ref 1), some (.int v1), some (.int v2), some (.int v3), some (.int s.1), some (.int s.2)] [] (SH, I, J)) rfl (zR_if (fun hc21 => zR_go ?_) (fun hc21 => zR_go ?_))
    · rw [if_pos hc21] at h
      refine zr_steps 3 (32, [some (.ref 1), some (.int v1), some (.int v2), some (.int v3), some (.int s.1), some (.int s.2)], [.int s.2, .ref 5], (SH, I, J)) rfl ?_
      obtain ⟨hc2, h⟩ := zbifo h
      refine zr_one (bif zin s.2 12 then zN 33 [some (.ref 1), some (.int v1), some (.int v2), some (.int v3), some (.int s.1), some (.int s.2)] [.int (I 5 s.2.toNatClampNeg)] (SH, I, J) else none) rfl (zR_bif hc2 (zR_go ?_))
      refine zr_steps 1 (34, [some (.ref 1), some (.int v1), some (.int v2), some (.int v3), some (.int s.1), some (.int s.2)], [.int v3, .int (I 5 s.2.toNatClampNeg)], (SH, I, J)) rfl ?_
      refine zr_one (if (I 5 s.2.toNatClampNeg) = v3 then zN 59 [some (.ref 1), some (.int v1), some (.int v2), some (.int v3), some (.int s.1), some (.int s.2)] [] (SH, I, J) else zN 37 [some (.ref 1), some (.int v1), some (.int v2), some (.int v3), some (.int s.1), some (.int s.2)] [] (SH, I, J)) rfl (zR_if (fun hc13 => zR_go ?_) (fun hc13 => zR_go ?_))
      · rw [if_pos hc13] at h
        refine zr_steps 4 (67, [some (.ref 1), some (.int v1), some (.int v2), some (.int v3), some (.int s.1), some (.int s.2)], [.int s.2, .ref 7, .int s.1], (SH, I, J)) rfl ?_
        obtain ⟨hc3, h⟩ := zbifo h
        refine zr_one (bif zin s.2 12 then zN 68 [some (.ref 1), some (.int v1), some (.int v2), some (.int v3), some (.int s.1), some (.int s.2)] [.int (I 7 s.2.toNatClampNeg), .int s.1] (SH, I, J) else none) rfl (zR_bif hc3 (zR_go ?_))
        refine zr_steps 8 (80, [some (.ref 1), some (.int v1), some (.int v2), some (.int v3), some (.int s.1), some (.int s.2)], [.int v1, .ref 11, .int ((I 1 3) + 1), .int 0, .int (I 7 s.2.toNatClampNeg), .int s.1], (SH, I, J)) rfl ?_
        obtain ⟨hc4, h⟩ := zbifo h
        refine zr_one (bif zin v1 8 then zN 81 [some (.ref 1), some (.int v1), some (.int v2), some (.int v3), some (.int s.1), some (.int s.2)] [.int (I 11 v1.toNatClampNeg), .int ((I 1 3) + 1), .int 0, .int (I 7 s.2.toNatClampNeg), .int s.1] (SH, I, J) else none) rfl (zR_bif hc4 (zR_go ?_))
        refine zr_steps 3 (87, [some (.ref 1), some (.int v1), some (.int v2), some (.int v3), some (.int s.1), some (.int s.2)], [.int s.2, .ref 6, .int (I 11 v1.toNatClampNeg), .int ((I 1 3) + 1), .int 0, .int (I 7 s.2.toNatClampNeg), .int s.1], (SH, I, J)) rfl ?_
        obtain ⟨hc5, h⟩ := zbifo h
        refine zr_one (bif zin s.2 12 then zN 88 [some (.ref 1), some (.int v1), some (.int v2), some (.int v3), some (.int s.1), some (.int s.2)] [.int (I 6 s.2.toNatClampNeg), .int (I 11 v1.toNatClampNeg), .int ((I 1 3) + 1), .int 0, .int (I 7 s.2.toNatClampNeg), .int s.1] (SH, I, J) else none) rfl (zR_bif hc5 (zR_go ?_))
        refine zr_steps 8 (6, [some (.ref 1), some (.int v1), some (.int v2), some (.int v3), some (.int (s.1 + ((I 7 s.2.toNatClampNeg) * (zmax 0 (((I 1 3) + 1) - ((I 11 v1.toNatClampNeg) * (I 6 s.2.toNatClampNeg))))))), some (.int (s.2 + 1))], [], (SH, I, J)) rfl ?_
        have he := Option.some.inj h
        subst he
        exact zr_hdr (ls2 := [some (.ref 1), some (.int v1), some (.int v2), some (.int v3), some (.int (s.1 + ((I 7 s.2.toNatClampNeg) * (zmax 0 (((I 1 3) + 1) - ((I 11 v1.toNatClampNeg) * (I 6 s.2.toNatClampNeg))))))), some (.int (s.2 + 1))]) rfl rfl (show zRun X d 78 6 [some (.ref 1), some (.int v1), some (.int v2), some (.int v3), some (.int (s.1 + ((I 7 s.2.toNatClampNeg) * (zmax 0 (((I 1 3) + 1) - ((I 11 v1.toNatClampNeg) * (I 6 s.2.toNatClampNeg))))))), some (.int (s.2 + 1))] [] (SH, I, J) r M' from w)
      · rw [if_neg hc13] at h
        refine zr_steps 3 (43, [some (.ref 1), some (.int v1), some (.int v2), some (.int v3), some (.int s.1), some (.int s.2)], [.int s.2, .ref 4], (SH, I, J)) rfl ?_
        obtain ⟨hc6, h⟩ := zbifo h
        refine zr_one (bif zin s.2 12 then zN 44 [some (.ref 1), some (.int v1), some (.int v2), some (.int v3), some (.int s.1), some (.int s.2)] [.int (I 4 s.2.toNatClampNeg)] (SH, I, J) else none) rfl (zR_bif hc6 (zR_go ?_))
        refine zr_steps 1 (45, [some (.ref 1), some (.int v1), some (.int v2), some (.int v3), some (.int s.1), some (.int s.2)], [.int v3, .int (I 4 s.2.toNatClampNeg)], (SH, I, J)) rfl ?_
        refine zr_one (if (I 4 s.2.toNatClampNeg) = v3 then zN 48 [some (.ref 1), some (.int v1), some (.int v2), some (.int v3), some (.int s.1), some (.int s.2)] [] (SH, I, J) else zN 97 [some (.ref 1), some (.int v1), some (.int v2), some (.int v3), some (.int s.1), some (.int s.2)] [] (SH, I, J)) rfl (zR_if (fun hc12 => zR_go ?_) (fun hc12 => zR_go ?_))
        · rw [if_pos hc12] at h
          refine zr_steps 3 (54, [some (.ref 1), some (.int v1), some (.int v2), some (.int v3), some (.int s.1), some (.int s.2)], [.int s.2, .ref 5], (SH, I, J)) rfl ?_
          obtain ⟨hc7, h⟩ := zbifo h
          refine zr_one (bif zin s.2 12 then zN 55 [some (.ref 1), some (.int v1), some (.int v2), some (.int v3), some (.int s.1), some (.int s.2)] [.int (I 5 s.2.toNatClampNeg)] (SH, I, J) else none) rfl (zR_bif hc7 (zR_go ?_))
          refine zr_steps 1 (56, [some (.ref 1), some (.int v1), some (.int v2), some (.int v3), some (.int s.1), some (.int s.2)], [.int v2, .int (I 5 s.2.toNatClampNeg)], (SH, I, J)) rfl ?_
          refine zr_one (if (I 5 s.2.toNatClampNeg) = v2 then zN 59 [some (.ref 1), some (.int v1), some (.int v2), some (.int v3), some (.int s.1), some (.int s.2)] [] (SH, I, J) else zN 97 [some (.ref 1), some (.int v1), some (.int v2), some (.int v3), some (.int s.1), some (.int s.2)] [] (SH, I, J)) rfl (zR_if (fun hc11 => zR_go ?_) (fun hc11 => zR_go ?_))
          · rw [if_pos hc11] at h
            refine zr_steps 4 (67, [some (.ref 1), some (.int v1), some (.int v2), some (.int v3), some (.int s.1), some (.int s.2)], [.int s.2, .ref 7, .int s.1], (SH, I, J)) rfl ?_
            obtain ⟨hc8, h⟩ := zbifo h
            refine zr_one (bif zin s.2 12 then zN 68 [some (.ref 1), some (.int v1), some (.int v2), some (.int v3), some (.int s.1), some (.int s.2)] [.int (I 7 s.2.toNatClampNeg), .int s.1] (SH, I, J) else none) rfl (zR_bif hc8 (zR_go ?_))
            refine zr_steps 8 (80, [some (.ref 1), some (.int v1), some (.int v2), some (.int v3), some (.int s.1), some (.int s.2)], [.int v1, .ref 11, .int ((I 1 3) + 1), .int 0, .int (I 7 s.2.toNatClampNeg), .int s.1], (SH, I, J)) rfl ?_
            obtain ⟨hc9, h⟩ := zbifo h
            refine zr_one (bif zin v1 8 then zN 81 [some (.ref 1), some (.int v1), some (.int v2), some (.int v3), some (.int s.1), some (.int s.2)] [.int (I 11 v1.toNatClampNeg), .int ((I 1 3) + 1), .int 0, .int (I 7 s.2.toNatClampNeg), .int s.1] (SH, I, J) else none) rfl (zR_bif hc9 (zR_go ?_))
            refine zr_steps 3 (87, [some (.ref 1), some (.int v1), some (.int v2), some (.int v3), some (.int s.1), some (.int s.2)], [.int s.2, .ref 6, .int (I 11 v1.toNatClampNeg), .int ((I 1 3) + 1), .int 0, .int (I 7 s.2.toNatClampNeg), .int s.1], (SH, I, J)) rfl ?_
            obtain ⟨hc10, h⟩ := zbifo h
            refine zr_one (bif zin s.2 12 then zN 88 [some (.ref 1), some (.int v1), some (.int v2), some (.int v3), some (.int s.1), some (.int s.2)] [.int (I 6 s.2.toNatClampNeg), .int (I 11 v1.toNatClampNeg), .int ((I 1 3) + 1), .int 0, .int (I 7 s.2.toNatClampNeg), .int s.1] (SH, I, J) else none) rfl (zR_bif hc10 (zR_go ?_))
            refine zr_steps 8 (6, [some (.ref 1), some (.int v1), some (.int v2), some (.int v3), some (.int (s.1 + ((I 7 s.2.toNatClampNeg) * (zmax 0 (((I 1 3) + 1) - ((I 11 v1.toNatClampNeg) * (I 6 s.2.toNatClampNeg))))))), some (.int (s.2 + 1))], [], (SH, I, J)) rfl ?_
            have he := Option.some.inj h
            subst he
            exact zr_hdr (ls2 := [some (.ref 1), some (.int v1), some (.int v2), some (.int v3), some (.int (s.1 + ((I 7 s.2.toNatClampNeg) * (zmax 0 (((I 1 3) + 1) - ((I 11 v1.toNatClampNeg) * (I 6 s.2.toNatClampNeg))))))), some (.int (s.2 + 1))]) rfl rfl (show zRun X d 78 6 [some (.ref 1), some (.int v1), some (.int v2), some (.int v3), some (.int (s.1 + ((I 7 s.2.toNatClampNeg) * (zmax 0 (((I 1 3) + 1) - ((I 11 v1.toNatClampNeg) * (I 6 s.2.toNatClampNeg))))))), some (.int (s.2 + 1))] [] (SH, I, J) r M' from w)
          · rw [if_neg hc11] at h
            refine zr_steps 2 (6, [some (.ref 1), some (.int v1), some (.int v2), some (.int v3), some (.int s.1), some (.int (s.2 + 1))], [], (SH, I, J)) rfl ?_
            have he := Option.some.inj h
            subst he
            exact zr_hdr (ls2 := [some (.ref 1), some (.int v1), some (.int v2), some (.int v3), some (.int s.1), some (.int (s.2 + 1))]) rfl rfl (show zRun X d 78 6 [some (.ref 1), some (.int v1), some (.int v2), some (.int v3), some (.int s.1), some (.int (s.2 + 1))] [] (SH, I, J) r M' from w)
        · rw [if_neg hc12] at h
          refine zr_steps 2 (6, [some (.ref 1), some (.int v1), some (.int v2), some (.int v3), some (.int s.1), some (.int (s.2 + 1))], [], (SH, I, J)) rfl ?_
          have he := Option.some.inj h
          subst he
          exact zr_hdr (ls2 := [some (.ref 1), some (.int v1), some (.int v2), some (.int v3), some (.int s.1), some (.int (s.2 + 1))]) rfl rfl (show zRun X d 78 6 [some (.ref 1), some (.int v1), some (.int v2), some (.int v3), some (.int s.1), some (.int (s.2 + 1))] [] (SH, I, J) r M' from w)
    · rw [if_neg hc21] at h
      refine zr_steps 3 (43, [some (.ref 1), some (.int v1), some (.int v2), some (.int v3), some (.int s.1), some (.int s.2)], [.int s.2, .ref 4], (SH, I, J)) rfl ?_
      obtain ⟨hc14, h⟩ := zbifo h
      refine zr_one (bif zin s.2 12 then zN 44 [some (.ref 1), some (.int v1), some (.int v2), some (.int v3), some (.int s.1), some (.int s.2)] [.int (I 4 s.2.toNatClampNeg)] (SH, I, J) else none) rfl (zR_bif hc14 (zR_go ?_))
      refine zr_steps 1 (45, [some (.ref 1), some (.int v1), some (.int v2), some (.int v3), some (.int s.1), some (.int s.2)], [.int v3, .int (I 4 s.2.toNatClampNeg)], (SH, I, J)) rfl ?_
      refine zr_one (if (I 4 s.2.toNatClampNeg) = v3 then zN 48 [some (.ref 1), some (.int v1), some (.int v2), some (.int v3), some (.int s.1), some (.int s.2)] [] (SH, I, J) else zN 97 [some (.ref 1), some (.int v1), some (.int v2), some (.int v3), some (.int s.1), some (.int s.2)] [] (SH, I, J)) rfl (zR_if (fun hc20 => zR_go ?_) (fun hc20 => zR_go ?_))
      · rw [if_pos hc20] at h
        refine zr_steps 3 (54, [some (.ref 1), some (.int v1), some (.int v2), some (.int v3), some (.int s.1), some (.int s.2)], [.int s.2, .ref 5], (SH, I, J)) rfl ?_
        obtain ⟨hc15, h⟩ := zbifo h
        refine zr_one (bif zin s.2 12 then zN 55 [some (.ref 1), some (.int v1), some (.int v2), some (.int v3), some (.int s.1), some (.int s.2)] [.int (I 5 s.2.toNatClampNeg)] (SH, I, J) else none) rfl (zR_bif hc15 (zR_go ?_))
        refine zr_steps 1 (56, [some (.ref 1), some (.int v1), some (.int v2), some (.int v3), some (.int s.1), some (.int s.2)], [.int v2, .int (I 5 s.2.toNatClampNeg)], (SH, I, J)) rfl ?_
        refine zr_one (if (I 5 s.2.toNatClampNeg) = v2 then zN 59 [some (.ref 1), some (.int v1), some (.int v2), some (.int v3), some (.int s.1), some (.int s.2)] [] (SH, I, J) else zN 97 [some (.ref 1), some (.int v1), some (.int v2), some (.int v3), some (.int s.1), some (.int s.2)] [] (SH, I, J)) rfl (zR_if (fun hc19 => zR_go ?_) (fun hc19 => zR_go ?_))
        · rw [if_pos hc19] at h
          refine zr_steps 4 (67, [some (.ref 1), some (.int v1), some (.int v2), some (.int v3), some (.int s.1), some (.int s.2)], [.int s.2, .ref 7, .int s.1], (SH, I, J)) rfl ?_
          obtain ⟨hc16, h⟩ := zbifo h
          refine zr_one (bif zin s.2 12 then zN 68 [some (.ref 1), some (.int v1), some (.int v2), some (.int v3), some (.int s.1), some (.int s.2)] [.int (I 7 s.2.toNatClampNeg), .int s.1] (SH, I, J) else none) rfl (zR_bif hc16 (zR_go ?_))
          refine zr_steps 8 (80, [some (.ref 1), some (.int v1), some (.int v2), some (.int v3), some (.int s.1), some (.int s.2)], [.int v1, .ref 11, .int ((I 1 3) + 1), .int 0, .int (I 7 s.2.toNatClampNeg), .int s.1], (SH, I, J)) rfl ?_
          obtain ⟨hc17, h⟩ := zbifo h
          refine zr_one (bif zin v1 8 then zN 81 [some (.ref 1), some (.int v1), some (.int v2), some (.int v3), some (.int s.1), some (.int s.2)] [.int (I 11 v1.toNatClampNeg), .int ((I 1 3) + 1), .int 0, .int (I 7 s.2.toNatClampNeg), .int s.1] (SH, I, J) else none) rfl (zR_bif hc17 (zR_go ?_))
          refine zr_steps 3 (87, [some (.ref 1), some (.int v1), some (.int v2), some (.int v3), some (.int s.1), some (.int s.2)], [.int s.2, .ref 6, .int (I 11 v1.toNatClampNeg), .int ((I 1 3) + 1), .int 0, .int (I 7 s.2.toNatClampNeg), .int s.1], (SH, I, J)) rfl ?_
          obtain ⟨hc18, h⟩ := zbifo h
          refine zr_one (bif zin s.2 12 then zN 88 [some (.ref 1), some (.int v1), some (.int v2), some (.int v3), some (.int s.1), some (.int s.2)] [.int (I 6 s.2.toNatClampNeg), .int (I 11 v1.toNatClampNeg), .int ((I 1 3) + 1), .int 0, .int (I 7 s.2.toNatClampNeg), .int s.1] (SH, I, J) else none) rfl (zR_bif hc18 (zR_go ?_))
          refine zr_steps 8 (6, [some (.ref 1), some (.int v1), some (.int v2), some (.int v3), some (.int (s.1 + ((I 7 s.2.toNatClampNeg) * (zmax 0 (((I 1 3) + 1) - ((I 11 v1.toNatClampNeg) * (I 6 s.2.toNatClampNeg))))))), some (.int (s.2 + 1))], [], (SH, I, J)) rfl ?_
          have he := Option.some.inj h
          subst he
          exact zr_hdr (ls2 := [some (.ref 1), some (.int v1), some (.int v2), some (.int v3), some (.int (s.1 + ((I 7 s.2.toNatClampNeg) * (zmax 0 (((I 1 3) + 1) - ((I 11 v1.toNatClampNeg) * (I 6 s.2.toNatClampNeg))))))), some (.int (s.2 + 1))]) rfl rfl (show zRun X d 78 6 [some (.ref 1), some (.int v1), some (.int v2), some (.int v3), some (.int (s.1 + ((I 7 s.2.toNatClampNeg) * (zmax 0 (((I 1 3) + 1) - ((I 11 v1.toNatClampNeg) * (I 6 s.2.toNatClampNeg))))))), some (.int (s.2 + 1))] [] (SH, I, J) r M' from w)
        · rw [if_neg hc19] at h
          refine zr_steps 2 (6, [some (.ref 1), some (.int v1), some (.int v2), some (.int v3), some (.int s.1), some (.int (s.2 + 1))], [], (SH, I, J)) rfl ?_
          have he := Option.some.inj h
          subst he
          exact zr_hdr (ls2 := [some (.ref 1), some (.int v1), some (.int v2), some (.int v3), some (.int s.1), some (.int (s.2 + 1))]) rfl rfl (show zRun X d 78 6 [some (.ref 1), some (.int v1), some (.int v2), some (.int v3), some (.int s.1), some (.int (s.2 + 1))] [] (SH, I, J) r M' from w)
      · rw [if_neg hc20] at h
        refine zr_steps 2 (6, [some (.ref 1), some (.int v1), some (.int v2), some (.int v3), some (.int s.1), some (.int (s.2 + 1))], [], (SH, I, J)) rfl ?_
        have he := Option.some.inj h
        subst he
        exact zr_hdr (ls2 := [some (.ref 1), some (.int v1), some (.int v2), some (.int v3), some (.int s.1), some (.int (s.2 + 1))]) rfl rfl (show zRun X d 78 6 [some (.ref 1), some (.int v1), some (.int v2), some (.int v3), some (.int s.1), some (.int (s.2 + 1))] [] (SH, I, J) r M' from w))
set_option maxRecDepth 100000 in
set_option maxHeartbeats 4000000 in
theorem ok_f78_mostOver {X : zX} {d : Nat} (hd : 0 ≤ d) (v1 : Int32) (v2 : Int32) (v3 : Int32) {I : (Nat → Nat → Int32)} {J : (Nat → Nat → Int64)} (t : Int32) (h : f78_mostOver v1 v2 v3 I = some t) : zRun X d 78 0 (zent 78 [.ref 1, .int v1, .int v2, .int v3]) [] (SH, I, J) (some (.int t)) (SH, I, J) := by
  unfold f78_mostOver at h
  refine zr_steps 4 (6, [some (.ref 1), some (.int v1), some (.int v2), some (.int v3), some (.int 0), some (.int 0)], [], (SH, I, J)) rfl ?_
  obtain ⟨s23, ho24, h⟩ := zbind h
  refine zr_hdr (ls2 := [some (.ref 1), some (.int v1), some (.int v2), some (.int v3), some (.int 0), some (.int 0)]) rfl rfl ?_
  refine ok_f78_mostOver_L6 (by omega) v1 v2 v3 5000 ((0 : Int32), (0 : Int32)) s23 ho24 ?_
  show zRun X d 78 103 [none, none, none, none, some (.int s23.1), none] [] (SH, I, J) _ _
  refine zr_steps 1 (105, [none, none, none, none, some (.int s23.1), none], [.int s23.1], (SH, I, J)) rfl ?_
  have he := Option.some.inj h
  subst he
  exact zr_one (some (.inr (.inr (some (.int s23.1))))) rfl (zR_ret rfl rfl)
set_option maxRecDepth 100000 in
set_option maxHeartbeats 4000000 in
theorem ok_f100_flow {X : zX} {d : Nat} (hd : 3 ≤ d) (v1 : Int32) {I : (Nat → Nat → Int32)} {J : (Nat → Nat → Int64)} (t : Int32) (h : f100_flow v1 I = some t) : zRun X d 100 0 (zent 100 [.ref 0, .int v1]) [] (SH, I, J) (some (.int t)) (SH, I, J) := by
  unfold f100_flow at h
  refine zr_steps 2 (2, [some (.ref 0), some (.int v1)], [.int v1, .ref 0], (SH, I, J)) rfl ?_
  obtain ⟨t2, hc1, h⟩ := zbind h
  refine zr_one (some (.inr (.inl (101, [.ref 0, .int v1], [], 5)))) rfl (zR_call (by omega) rfl (ok_f101_isSortAndWay (by omega) v1 _ hc1) ?_)
  refine zr_one (if t2 = 0 then zN 8 [some (.ref 0), some (.int v1)] [] (SH, I, J) else zN 10 [some (.ref 0), some (.int v1)] [] (SH, I, J)) rfl (zR_if (fun hc5 => zR_go ?_) (fun hc5 => zR_go ?_))
  · rw [if_pos hc5] at h
    refine zr_steps 1 (9, [some (.ref 0), some (.int v1)], [.int (-1)], (SH, I, J)) rfl ?_
    have he := Option.some.inj h
    subst he
    exact zr_one (some (.inr (.inr (some (.int (-1)))))) rfl (zR_ret rfl rfl)
  · rw [if_neg hc5] at h
    refine zr_steps 4 (17, [some (.ref 0), some (.int v1)], [.int 100, .int v1, .ref 1], (SH, I, J)) rfl ?_
    refine zr_one (if (100 : Int32) = 0 then none else zN 18 [some (.ref 0), some (.int v1)] [.int (v1 / 100), .ref 1] (SH, I, J)) rfl (zR_div (by decide) (zR_go ?_))
    refine zr_steps 2 (21, [some (.ref 0), some (.int v1)], [.int 10, .int v1, .int (v1 / 100), .ref 1], (SH, I, J)) rfl ?_
    refine zr_one (if (10 : Int32) = 0 then none else zN 22 [some (.ref 0), some (.int v1)] [.int (v1 / 10), .int (v1 / 100), .ref 1] (SH, I, J)) rfl (zR_div (by decide) (zR_go ?_))
    refine zr_steps 1 (24, [some (.ref 0), some (.int v1)], [.int 10, .int (v1 / 10), .int (v1 / 100), .ref 1], (SH, I, J)) rfl ?_
    refine zr_one (if (10 : Int32) = 0 then none else zN 25 [some (.ref 0), some (.int v1)] [.int ((v1 / 10) - (v1 / 10) / 10 * 10), .int (v1 / 100), .ref 1] (SH, I, J)) rfl (zR_div (by decide) (zR_go ?_))
    refine zr_steps 2 (28, [some (.ref 0), some (.int v1)], [.int 10, .int v1, .int ((v1 / 10) - (v1 / 10) / 10 * 10), .int (v1 / 100), .ref 1], (SH, I, J)) rfl ?_
    refine zr_one (if (10 : Int32) = 0 then none else zN 29 [some (.ref 0), some (.int v1)] [.int (v1 - v1 / 10 * 10), .int ((v1 / 10) - (v1 / 10) / 10 * 10), .int (v1 / 100), .ref 1] (SH, I, J)) rfl (zR_div (by decide) (zR_go ?_))
    obtain ⟨t4, hc3, h⟩ := zbind h
    refine zr_one (some (.inr (.inl (78, [.ref 1, .int (v1 / 100), .int ((v1 / 10) - (v1 / 10) / 10 * 10), .int (v1 - v1 / 10 * 10)], [], 32)))) rfl (zR_call (by omega) rfl (ok_f78_mostOver (by omega) (v1 / 100) ((v1 / 10) - (v1 / 10) / 10 * 10) (v1 - v1 / 10 * 10) _ hc3) ?_)
    have he := Option.some.inj h
    subst he
    exact zr_one (some (.inr (.inr (some (.int t4))))) rfl (zR_ret rfl rfl)
set_option maxRecDepth 100000 in
set_option maxHeartbeats 4000000 in
theorem ok_f182_flow_L14 {X : zX} {d : Nat} {r : Option Value} {M' : zM} (hd : 3 ≤ d) (v1 : Int32) {I : (Nat → Nat → Int32)} {J : (Nat → Nat → Int64)} : ∀ (n : Nat) (s x : (Int32 × Int32)), zloop (f182_flow_L14 v1 I) n s = some x → (fun (x : (Int32 × Int32)) => zRun X d 182 99 [none, none, some (.int x.1), none, none] [] (SH, I, J) r M') x → (fun (s : (Int32 × Int32)) => zRun X d 182 14 [some (.ref 73), some (.int v1), some (.int s.1), some (.int s.2), none] [] (SH, I, J) r M') s := zloop_ok (B := (f182_flow_L14 v1 I)) (Wh := fun (s : (Int32 × Int32)) => zRun X d 182 14 [some (.ref 73), some (.int v1), some (.int s.1), some (.int s.2), none] [] (SH, I, J) r M') (Wx := fun (x : (Int32 × Int32)) => zRun X d 182 99 [none, none, some (.int x.1), none, none] [] (SH, I, J) r M') (fun s y h w => by
  unfold f182_flow_L14 at h
  refine zr_steps 3 (19, [some (.ref 73), some (.int v1), some (.int s.1), some (.int s.2), none], [.int (I 73 4), .int s.2], (SH, I, J)) rfl ?_
  refine zr_one (if (I 73 4) ≤ s.2 then zN 99 [some (.ref 73), some (.int v1), some (.int s.1), some (.int s.2), none] [] (SH, I, J) else zN 22 [some (.ref 73), some (.int v1), some (.int s.1), some (.int s.2), none] [] (SH, I, J)) rfl (zR_if (fun hc12 => zR_go ?_) (fun hc12 => zR_go ?_))
  · rw [if_pos hc12] at h
    have he := Option.some.inj h
    subst he
    exact zr_hdr (ls2 := [none, none, some (.int s.1), none, none]) rfl rfl (show zRun X d 182 99 [none, none, some (.int s.1), none, none] [] (SH, I, J) r M' from w)
  · rw [if_neg hc12] at h
    refine zr_steps 8 (35, [some (.ref 73), some (.int v1), some (.int s.1), some (.int s.2), none], [.int 100, .int v1, .ref 83, .int ((I 73 15) + 1)], (SH, I, J)) rfl ?_
    refine zr_one (if (100 : Int32) = 0 then none else zN 36 [some (.ref 73), some (.int v1), some (.int s.1), some (.int s.2), none] [.int (v1 / 100), .ref 83, .int ((I 73 15) + 1)] (SH, I, J)) rfl (zR_div (by decide) (zR_go ?_))
    obtain ⟨hc3, h⟩ := zbifo h
    refine zr_one (bif zin (v1 / 100) 8 then zN 37 [some (.ref 73), some (.int v1), some (.int s.1), some (.int s.2), none] [.int (I 83 (v1 / 100).toNatClampNeg), .int ((I 73 15) + 1)] (SH, I, J) else none) rfl (zR_bif hc3 (zR_go ?_))
    refine zr_steps 3 (42, [some (.ref 73), some (.int v1), some (.int s.1), some (.int s.2), none], [.int s.2, .ref 78, .int (I 83 (v1 / 100).toNatClampNeg), .int ((I 73 15) + 1)], (SH, I, J)) rfl ?_
    obtain ⟨hc4, h⟩ := zbifo h
    refine zr_one (bif zin s.2 12 then zN 43 [some (.ref 73), some (.int v1), some (.int s.1), some (.int s.2), none] [.int (I 78 s.2.toNatClampNeg), .int (I 83 (v1 / 100).toNatClampNeg), .int ((I 73 15) + 1)] (SH, I, J) else none) rfl (zR_bif hc4 (zR_go ?_))
    refine zr_steps 4 (49, [some (.ref 73), some (.int v1), some (.int s.1), some (.int s.2), some (.int (((I 73 15) + 1) - ((I 83 (v1 / 100).toNatClampNeg) * (I 78 s.2.toNatClampNeg))))], [.int (((I 73 15) + 1) - ((I 83 (v1 / 100).toNatClampNeg) * (I 78 s.2.toNatClampNeg)))], (SH, I, J)) rfl ?_
    refine zr_one (if (((I 73 15) + 1) - ((I 83 (v1 / 100).toNatClampNeg) * (I 78 s.2.toNatClampNeg))) ≤ 0 then zN 93 [some (.ref 73), some (.int v1), some (.int s.1), some (.int s.2), some (.int (((I 73 15) + 1) - ((I 83 (v1 / 100).toNatClampNeg) * (I 78 s.2.toNatClampNeg))))] [] (SH, I, J) else zN 52 [some (.ref 73), some (.int v1), some (.int s.1), some (.int s.2), some (.int (((I 73 15) + 1) - ((I 83 (v1 / 100).toNatClampNeg) * (I 78 s.2.toNatClampNeg))))] [] (SH, I, J)) rfl (zR_if (fun hc11 => zR_go ?_) (fun hc11 => zR_go ?_))
    · rw [if_pos hc11] at h
      refine zr_steps 2 (14, [some (.ref 73), some (.int v1), some (.int s.1), some (.int (s.2 + 1)), some (.int (((I 73 15) + 1) - ((I 83 (v1 / 100).toNatClampNeg) * (I 78 s.2.toNatClampNeg))))], [], (SH, I, J)) rfl ?_
      have he := Option.some.inj h
      subst he
      exact zr_hdr (ls2 := [some (.ref 73), some (.int v1), some (.int s.1), some (.int (s.2 + 1)), none]) rfl rfl (show zRun X d 182 14 [some (.ref 73), some (.int v1), some (.int s.1), some (.int (s.2 + 1)), none] [] (SH, I, J) r M' from w)
    · rw [if_neg hc11] at h
      refine zr_steps 3 (57, [some (.ref 73), some (.int v1), some (.int s.1), some (.int s.2), some (.int (((I 73 15) + 1) - ((I 83 (v1 / 100).toNatClampNeg) * (I 78 s.2.toNatClampNeg))))], [.int s.2, .ref 76], (SH, I, J)) rfl ?_
      obtain ⟨hc5, h⟩ := zbifo h
      refine zr_one (bif zin s.2 12 then zN 58 [some (.ref 73), some (.int v1), some (.int s.1), some (.int s.2), some (.int (((I 73 15) + 1) - ((I 83 (v1 / 100).toNatClampNeg) * (I 78 s.2.toNatClampNeg))))] [.int (I 76 s.2.toNatClampNeg)] (SH, I, J) else none) rfl (zR_bif hc5 (zR_go ?_))
      refine zr_steps 3 (63, [some (.ref 73), some (.int v1), some (.int s.1), some (.int s.2), some (.int (((I 73 15) + 1) - ((I 83 (v1 / 100).toNatClampNeg) * (I 78 s.2.toNatClampNeg))))], [.int s.2, .ref 77, .int (I 76 s.2.toNatClampNeg)], (SH, I, J)) rfl ?_
      obtain ⟨hc6, h⟩ := zbifo h
      refine zr_one (bif zin s.2 12 then zN 64 [some (.ref 73), some (.int v1), some (.int s.1), some (.int s.2), some (.int (((I 73 15) + 1) - ((I 83 (v1 / 100).toNatClampNeg) * (I 78 s.2.toNatClampNeg))))] [.int (I 77 s.2.toNatClampNeg), .int (I 76 s.2.toNatClampNeg)] (SH, I, J) else none) rfl (zR_bif hc6 (zR_go ?_))
      refine zr_steps 2 (67, [some (.ref 73), some (.int v1), some (.int s.1), some (.int s.2), some (.int (((I 73 15) + 1) - ((I 83 (v1 / 100).toNatClampNeg) * (I 78 s.2.toNatClampNeg))))], [.int 10, .int v1, .int (I 77 s.2.toNatClampNeg), .int (I 76 s.2.toNatClampNeg)], (SH, I, J)) rfl ?_
      refine zr_one (if (10 : Int32) = 0 then none else zN 68 [some (.ref 73), some (.int v1), some (.int s.1), some (.int s.2), some (.int (((I 73 15) + 1) - ((I 83 (v1 / 100).toNatClampNeg) * (I 78 s.2.toNatClampNeg))))] [.int (v1 / 10), .int (I 77 s.2.toNatClampNeg), .int (I 76 s.2.toNatClampNeg)] (SH, I, J)) rfl (zR_div (by decide) (zR_go ?_))
      refine zr_steps 1 (70, [some (.ref 73), some (.int v1), some (.int s.1), some (.int s.2), some (.int (((I 73 15) + 1) - ((I 83 (v1 / 100).toNatClampNeg) * (I 78 s.2.toNatClampNeg))))], [.int 10, .int (v1 / 10), .int (I 77 s.2.toNatClampNeg), .int (I 76 s.2.toNatClampNeg)], (SH, I, J)) rfl ?_
      refine zr_one (if (10 : Int32) = 0 then none else zN 71 [some (.ref 73), some (.int v1), some (.int s.1), some (.int s.2), some (.int (((I 73 15) + 1) - ((I 83 (v1 / 100).toNatClampNeg) * (I 78 s.2.toNatClampNeg))))] [.int ((v1 / 10) - (v1 / 10) / 10 * 10), .int (I 77 s.2.toNatClampNeg), .int (I 76 s.2.toNatClampNeg)] (SH, I, J)) rfl (zR_div (by decide) (zR_go ?_))
      refine zr_steps 2 (74, [some (.ref 73), some (.int v1), some (.int s.1), some (.int s.2), some (.int (((I 73 15) + 1) - ((I 83 (v1 / 100).toNatClampNeg) * (I 78 s.2.toNatClampNeg))))], [.int 10, .int v1, .int ((v1 / 10) - (v1 / 10) / 10 * 10), .int (I 77 s.2.toNatClampNeg), .int (I 76 s.2.toNatClampNeg)], (SH, I, J)) rfl ?_
      refine zr_one (if (10 : Int32) = 0 then none else zN 75 [some (.ref 73), some (.int v1), some (.int s.1), some (.int s.2), some (.int (((I 73 15) + 1) - ((I 83 (v1 / 100).toNatClampNeg) * (I 78 s.2.toNatClampNeg))))] [.int (v1 - v1 / 10 * 10), .int ((v1 / 10) - (v1 / 10) / 10 * 10), .int (I 77 s.2.toNatClampNeg), .int (I 76 s.2.toNatClampNeg)] (SH, I, J)) rfl (zR_div (by decide) (zR_go ?_))
      obtain ⟨t8, hc7, h⟩ := zbind h
      refine zr_one (some (.inr (.inl (169, [.int (I 76 s.2.toNatClampNeg), .int (I 77 s.2.toNatClampNeg), .int ((v1 / 10) - (v1 / 10) / 10 * 10), .int (v1 - v1 / 10 * 10)], [], 78)))) rfl (zR_call (by omega) rfl (ok_f169_doesLead (by omega) (I 76 s.2.toNatClampNeg) (I 77 s.2.toNatClampNeg) ((v1 / 10) - (v1 / 10) / 10 * 10) (v1 - v1 / 10 * 10) _ hc7) ?_)
      refine zr_one (if t8 = 0 then zN 93 [some (.ref 73), some (.int v1), some (.int s.1), some (.int s.2), some (.int (((I 73 15) + 1) - ((I 83 (v1 / 100).toNatClampNeg) * (I 78 s.2.toNatClampNeg))))] [] (SH, I, J) else zN 81 [some (.ref 73), some (.int v1), some (.int s.1), some (.int s.2), some (.int (((I 73 15) + 1) - ((I 83 (v1 / 100).toNatClampNeg) * (I 78 s.2.toNatClampNeg))))] [] (SH, I, J)) rfl (zR_if (fun hc10 => zR_go ?_) (fun hc10 => zR_go ?_))
      · rw [if_pos hc10] at h
        refine zr_steps 2 (14, [some (.ref 73), some (.int v1), some (.int s.1), some (.int (s.2 + 1)), some (.int (((I 73 15) + 1) - ((I 83 (v1 / 100).toNatClampNeg) * (I 78 s.2.toNatClampNeg))))], [], (SH, I, J)) rfl ?_
        have he := Option.some.inj h
        subst he
        exact zr_hdr (ls2 := [some (.ref 73), some (.int v1), some (.int s.1), some (.int (s.2 + 1)), none]) rfl rfl (show zRun X d 182 14 [some (.ref 73), some (.int v1), some (.int s.1), some (.int (s.2 + 1)), none] [] (SH, I, J) r M' from w)
      · rw [if_neg hc10] at h
        refine zr_steps 4 (87, [some (.ref 73), some (.int v1), some (.int s.1), some (.int s.2), some (.int (((I 73 15) + 1) - ((I 83 (v1 / 100).toNatClampNeg) * (I 78 s.2.toNatClampNeg))))], [.int s.2, .ref 79, .int s.1], (SH, I, J)) rfl ?_
        obtain ⟨hc9, h⟩ := zbifo h
        refine zr_one (bif zin s.2 12 then zN 88 [some (.ref 73), some (.int v1), some (.int s.1), some (.int s.2), some (.int (((I 73 15) + 1) - ((I 83 (v1 / 100).toNatClampNeg) * (I 78 s.2.toNatClampNeg))))] [.int (I 79 s.2.toNatClampNeg), .int s.1] (SH, I, J) else none) rfl (zR_bif hc9 (zR_go ?_))
        refine zr_steps 6 (14, [some (.ref 73), some (.int v1), some (.int (s.1 + ((I 79 s.2.toNatClampNeg) * (((I 73 15) + 1) - ((I 83 (v1 / 100).toNatClampNeg) * (I 78 s.2.toNatClampNeg)))))), some (.int (s.2 + 1)), some (.int (((I 73 15) + 1) - ((I 83 (v1 / 100).toNatClampNeg) * (I 78 s.2.toNatClampNeg))))], [], (SH, I, J)) rfl ?_
        have he := Option.some.inj h
        subst he
        exact zr_hdr (ls2 := [some (.ref 73), some (.int v1), some (.int (s.1 + ((I 79 s.2.toNatClampNeg) * (((I 73 15) + 1) - ((I 83 (v1 / 100).toNatClampNeg) * (I 78 s.2.toNatClampNeg)))))), some (.int (s.2 + 1)), none]) rfl rfl (show zRun X d 182 14 [some (.ref 73), some (.int v1), some (.int (s.1 + ((I 79 s.2.toNatClampNeg) * (((I 73 15) + 1) - ((I 83 (v1 / 100).toNatClampNeg) * (I 78 s.2.toNatClampNeg)))))), some (.int (s.2 + 1)), none] [] (SH, I, J) r M' from w))
set_option maxRecDepth 100000 in
set_option maxHeartbeats 4000000 in
theorem ok_f182_flow {X : zX} {d : Nat} (hd : 3 ≤ d) (v1 : Int32) {I : (Nat → Nat → Int32)} {J : (Nat → Nat → Int64)} (t : Int32) (h : f182_flow v1 I = some t) : zRun X d 182 0 (zent 182 [.ref 73, .int v1]) [] (SH, I, J) (some (.int t)) (SH, I, J) := by
  unfold f182_flow at h
  refine zr_steps 2 (2, [some (.ref 73), some (.int v1), none, none, none], [.int v1, .ref 73], (SH, I, J)) rfl ?_
  obtain ⟨t2, hc1, h⟩ := zbind h
  refine zr_one (some (.inr (.inl (180, [.ref 73, .int v1], [], 5)))) rfl (zR_call (by omega) rfl (ok_f180_isTrip (by omega) v1 _ hc1) ?_)
  refine zr_one (if t2 = 0 then zN 8 [some (.ref 73), some (.int v1), none, none, none] [] (SH, I, J) else zN 10 [some (.ref 73), some (.int v1), none, none, none] [] (SH, I, J)) rfl (zR_if (fun hc15 => zR_go ?_) (fun hc15 => zR_go ?_))
  · rw [if_pos hc15] at h
    refine zr_steps 1 (9, [some (.ref 73), some (.int v1), none, none, none], [.int (-1)], (SH, I, J)) rfl ?_
    have he := Option.some.inj h
    subst he
    exact zr_one (some (.inr (.inr (some (.int (-1)))))) rfl (zR_ret rfl rfl)
  · rw [if_neg hc15] at h
    refine zr_steps 4 (14, [some (.ref 73), some (.int v1), some (.int 0), some (.int 0), none], [], (SH, I, J)) rfl ?_
    obtain ⟨s13, ho14, h⟩ := zbind h
    refine zr_hdr (ls2 := [some (.ref 73), some (.int v1), some (.int 0), some (.int 0), none]) rfl rfl ?_
    refine ok_f182_flow_L14 (by omega) v1 5000 ((0 : Int32), (0 : Int32)) s13 ho14 ?_
    show zRun X d 182 99 [none, none, some (.int s13.1), none, none] [] (SH, I, J) _ _
    refine zr_steps 1 (100, [none, none, some (.int s13.1), none, none], [.int s13.1], (SH, I, J)) rfl ?_
    have he := Option.some.inj h
    subst he
    exact zr_one (some (.inr (.inr (some (.int s13.1))))) rfl (zR_ret rfl rfl)
set_option maxRecDepth 100000 in
set_option maxHeartbeats 4000000 in
theorem ok_f75_fewerWant {X : zX} {d : Nat} (hd : 1 ≤ d) {I : (Nat → Nat → Int32)} {J : (Nat → Nat → Int64)} (t : Int32) (h : f75_fewerWant I = some t) : zRun X d 75 0 (zent 75 [.ref 1]) [] (SH, I, J) (some (.int t)) (SH, I, J) := by
  unfold f75_fewerWant at h
  refine zr_steps 2 (2, [some (.ref 1), none], [.int 0, .ref 1], (SH, I, J)) rfl ?_
  obtain ⟨t2, hc1, h⟩ := zbind h
  refine zr_one (some (.inr (.inl (74, [.ref 1, .int 0], [], 5)))) rfl (zR_call (by omega) rfl (ok_f74_wanting (by omega) 0 _ hc1) ?_)
  refine zr_steps 2 (7, [some (.ref 1), none], [.int 1, .ref 1, .int t2], (SH, I, J)) rfl ?_
  obtain ⟨t4, hc3, h⟩ := zbind h
  refine zr_one (some (.inr (.inl (74, [.ref 1, .int 1], [.int t2], 10)))) rfl (zR_call (by omega) rfl (ok_f74_wanting (by omega) 1 _ hc3) ?_)
  refine zr_steps 3 (13, [some (.ref 1), some (.int (t2 - t4))], [.int (t2 - t4)], (SH, I, J)) rfl ?_
  refine zr_one (if (t2 - t4) = 0 then zN 16 [some (.ref 1), some (.int (t2 - t4))] [] (SH, I, J) else zN 19 [some (.ref 1), some (.int (t2 - t4))] [] (SH, I, J)) rfl (zR_if (fun hc6 => zR_go ?_) (fun hc6 => zR_go ?_))
  · rw [if_pos hc6] at h
    refine zr_steps 1 (18, [some (.ref 1), some (.int (t2 - t4))], [.int (-2)], (SH, I, J)) rfl ?_
    have he := Option.some.inj h
    subst he
    exact zr_one (some (.inr (.inr (some (.int (-2)))))) rfl (zR_ret rfl rfl)
  · rw [if_neg hc6] at h
    refine zr_steps 1 (20, [some (.ref 1), some (.int (t2 - t4))], [.int (t2 - t4)], (SH, I, J)) rfl ?_
    refine zr_one (if (0 : Int32) ≤ (t2 - t4) then zN 27 [some (.ref 1), some (.int (t2 - t4))] [] (SH, I, J) else zN 23 [some (.ref 1), some (.int (t2 - t4))] [] (SH, I, J)) rfl (zR_if (fun hc5 => zR_go ?_) (fun hc5 => zR_go ?_))
    · rw [if_pos hc5] at h
      refine zr_steps 1 (28, [some (.ref 1), some (.int (t2 - t4))], [.int 1], (SH, I, J)) rfl ?_
      have he := Option.some.inj h
      subst he
      exact zr_one (some (.inr (.inr (some (.int 1))))) rfl (zR_ret rfl rfl)
    · rw [if_neg hc5] at h
      refine zr_steps 2 (28, [some (.ref 1), some (.int (t2 - t4))], [.int 0], (SH, I, J)) rfl ?_
      have he := Option.some.inj h
      subst he
      exact zr_one (some (.inr (.inr (some (.int 0))))) rfl (zR_ret rfl rfl)
set_option maxRecDepth 100000 in
set_option maxHeartbeats 4000000 in
theorem ok_f81_asIn_39 {X : zX} {d : Nat} (hd : 0 ≤ d) {I : (Nat → Nat → Int32)} {J : (Nat → Nat → Int64)} (t : (Nat → Nat → Int32)) (h : f81_asIn_39 I = some t) : zRun X d 81 0 (zent 81 [.ref 39, .ref 1]) [] (SH, I, J) none (SH, t, J) := by
  unfold f81_asIn_39 at h
  refine zr_steps 21 (38, [some (.ref 39), some (.ref 1)], [.int 8, .int 0, .ref 40, .int 0, .ref 10], (SH, (zu (zu (zu (zu I 39 0 (I 1 3)) 39 1 (I 1 4)) 39 3 0) 39 4 (-1)), J)) rfl ?_
  obtain ⟨hc1, h⟩ := zbifo h
  refine zr_one (zcopy 38 [some (.ref 39), some (.ref 1)] [.int 8, .int 0, .ref 40, .int 0, .ref 10] (SH, (zu (zu (zu (zu I 39 0 (I 1 3)) 39 1 (I 1 4)) 39 3 0) 39 4 (-1)), J)) rfl (zR_copy (na := 8) (nb := 8) rfl rfl rfl rfl hc1 rfl ?_)
  refine zr_steps 7 (53, [some (.ref 39), some (.ref 1)], [.int 8, .int 0, .ref 41, .int 0, .ref 12], (SH, (zcp (zu (zu (zu (zu I 39 0 (I 1 3)) 39 1 (I 1 4)) 39 3 0) 39 4 (-1)) 10 40 0 0 8), J)) rfl ?_
  obtain ⟨hc2, h⟩ := zbifo h
  refine zr_one (zcopy 53 [some (.ref 39), some (.ref 1)] [.int 8, .int 0, .ref 41, .int 0, .ref 12] (SH, (zcp (zu (zu (zu (zu I 39 0 (I 1 3)) 39 1 (I 1 4)) 39 3 0) 39 4 (-1)) 10 40 0 0 8), J)) rfl (zR_copy (na := 8) (nb := 8) rfl rfl rfl rfl hc2 rfl ?_)
  have he := Option.some.inj h
  subst he
  exact zr_one (some (.inr (.inr none))) rfl (zR_ret rfl rfl)
set_option maxRecDepth 100000 in
set_option maxHeartbeats 4000000 in
theorem ok_f41_begin_38_L24 {X : zX} {d : Nat} {r : Option Value} {M' : zM} (hd : 0 ≤ d) {J : (Nat → Nat → Int64)} : ∀ (n : Nat) (s x : (Int32 × (Nat → Nat → Int32))), zloop f41_begin_38_L24 n s = some x → (fun (x : (Int32 × (Nat → Nat → Int32))) => zRun X d 41 59 [some (.ref 38), none] [] (SH, x.2, J) r M') x → (fun (s : (Int32 × (Nat → Nat → Int32))) => zRun X d 41 24 [some (.ref 38), some (.int s.1)] [] (SH, s.2, J) r M') s := zloop_ok (B := f41_begin_38_L24) (Wh := fun (s : (Int32 × (Nat → Nat → Int32))) => zRun X d 41 24 [some (.ref 38), some (.int s.1)] [] (SH, s.2, J) r M') (Wx := fun (x : (Int32 × (Nat → Nat → Int32))) => zRun X d 41 59 [some (.ref 38), none] [] (SH, x.2, J) r M') (fun s y h w => by
  unfold f41_begin_38_L24 at h
  refine zr_steps 2 (27, [some (.ref 38), some (.int s.1)], [.int 32, .int s.1], (SH, s.2, J)) rfl ?_
  refine zr_one (if (32 : Int32) ≤ s.1 then zN 59 [some (.ref 38), some (.int s.1)] [] (SH, s.2, J) else zN 30 [some (.ref 38), some (.int s.1)] [] (SH, s.2, J)) rfl (zR_if (fun hc4 => zR_go ?_) (fun hc4 => zR_go ?_))
  · rw [if_pos hc4] at h
    have he := Option.some.inj h
    subst he
    exact zr_hdr (ls2 := [some (.ref 38), none]) rfl rfl (show zRun X d 41 59 [some (.ref 38), none] [] (SH, s.2, J) r M' from w)
  · rw [if_neg hc4] at h
    refine zr_steps 4 (36, [some (.ref 38), some (.int s.1)], [.int 0, .int s.1, .ref 42], (SH, s.2, J)) rfl ?_
    obtain ⟨hc1, h⟩ := zbifo h
    refine zr_one (bif zin s.1 32 then zN 37 [some (.ref 38), some (.int s.1)] [] (SH, (zu s.2 42 s.1.toNatClampNeg 0), J) else none) rfl (zR_bif hc1 (zR_go ?_))
    refine zr_steps 4 (43, [some (.ref 38), some (.int s.1)], [.int 0, .int s.1, .ref 43], (SH, (zu s.2 42 s.1.toNatClampNeg 0), J)) rfl ?_
    obtain ⟨hc2, h⟩ := zbifo h
    refine zr_one (bif zin s.1 32 then zN 44 [some (.ref 38), some (.int s.1)] [] (SH, (zu (zu s.2 42 s.1.toNatClampNeg 0) 43 s.1.toNatClampNeg 0), J) else none) rfl (zR_bif hc2 (zR_go ?_))
    refine zr_steps 4 (52, [some (.ref 38), some (.int s.1)], [.int 200, .int s.1, .ref 44], (SH, (zu (zu s.2 42 s.1.toNatClampNeg 0) 43 s.1.toNatClampNeg 0), J)) rfl ?_
    obtain ⟨hc3, h⟩ := zbifo h
    refine zr_one (bif zin s.1 32 then zN 53 [some (.ref 38), some (.int s.1)] [] (SH, (zu (zu (zu s.2 42 s.1.toNatClampNeg 0) 43 s.1.toNatClampNeg 0) 44 s.1.toNatClampNeg 200), J) else none) rfl (zR_bif hc3 (zR_go ?_))
    refine zr_steps 2 (24, [some (.ref 38), some (.int (s.1 + 1))], [], (SH, (zu (zu (zu s.2 42 s.1.toNatClampNeg 0) 43 s.1.toNatClampNeg 0) 44 s.1.toNatClampNeg 200), J)) rfl ?_
    have he := Option.some.inj h
    subst he
    exact zr_hdr (ls2 := [some (.ref 38), some (.int (s.1 + 1))]) rfl rfl (show zRun X d 41 24 [some (.ref 38), some (.int (s.1 + 1))] [] (SH, (zu (zu (zu s.2 42 s.1.toNatClampNeg 0) 43 s.1.toNatClampNeg 0) 44 s.1.toNatClampNeg 200), J) r M' from w))
set_option maxRecDepth 100000 in
set_option maxHeartbeats 4000000 in
theorem ok_f41_begin_38_L61 {X : zX} {d : Nat} {r : Option Value} {M' : zM} (hd : 0 ≤ d) {J : (Nat → Nat → Int64)} : ∀ (n : Nat) (s x : (Int32 × (Nat → Nat → Int32))), zloop f41_begin_38_L61 n s = some x → (fun (x : (Int32 × (Nat → Nat → Int32))) => zRun X d 41 90 [some (.ref 38), none] [] (SH, x.2, J) r M') x → (fun (s : (Int32 × (Nat → Nat → Int32))) => zRun X d 41 61 [some (.ref 38), some (.int s.1)] [] (SH, s.2, J) r M') s := zloop_ok (B := f41_begin_38_L61) (Wh := fun (s : (Int32 × (Nat → Nat → Int32))) => zRun X d 41 61 [some (.ref 38), some (.int s.1)] [] (SH, s.2, J) r M') (Wx := fun (x : (Int32 × (Nat → Nat → Int32))) => zRun X d 41 90 [some (.ref 38), none] [] (SH, x.2, J) r M') (fun s y h w => by
  unfold f41_begin_38_L61 at h
  refine zr_steps 8 (74, [some (.ref 38), some (.int s.1)], [.int (((s.2 39 0) + 1) * 32), .int s.1], (SH, s.2, J)) rfl ?_
  refine zr_one (if (((s.2 39 0) + 1) * 32) ≤ s.1 then zN 90 [some (.ref 38), some (.int s.1)] [] (SH, s.2, J) else zN 77 [some (.ref 38), some (.int s.1)] [] (SH, s.2, J)) rfl (zR_if (fun hc8 => zR_go ?_) (fun hc8 => zR_go ?_))
  · rw [if_pos hc8] at h
    have he := Option.some.inj h
    subst he
    exact zr_hdr (ls2 := [some (.ref 38), none]) rfl rfl (show zRun X d 41 90 [some (.ref 38), none] [] (SH, s.2, J) r M' from w)
  · rw [if_neg hc8] at h
    refine zr_steps 4 (83, [some (.ref 38), some (.int s.1)], [.int 0, .int s.1, .ref 46], (SH, s.2, J)) rfl ?_
    obtain ⟨hc7, h⟩ := zbifo h
    refine zr_one (bif zin s.1 1952 then zN 84 [some (.ref 38), some (.int s.1)] [] (SH, (zu s.2 46 s.1.toNatClampNeg 0), J) else none) rfl (zR_bif hc7 (zR_go ?_))
    refine zr_steps 2 (61, [some (.ref 38), some (.int (s.1 + 1))], [], (SH, (zu s.2 46 s.1.toNatClampNeg 0), J)) rfl ?_
    have he := Option.some.inj h
    subst he
    exact zr_hdr (ls2 := [some (.ref 38), some (.int (s.1 + 1))]) rfl rfl (show zRun X d 41 61 [some (.ref 38), some (.int (s.1 + 1))] [] (SH, (zu s.2 46 s.1.toNatClampNeg 0), J) r M' from w))
set_option maxRecDepth 100000 in
set_option maxHeartbeats 4000000 in
theorem ok_f41_begin_38_L92 {X : zX} {d : Nat} {r : Option Value} {M' : zM} (hd : 0 ≤ d) {J : (Nat → Nat → Int64)} : ∀ (n : Nat) (s x : (Int32 × (Nat → Nat → Int32))), zloop f41_begin_38_L92 n s = some x → (fun (x : (Int32 × (Nat → Nat → Int32))) => zRun X d 41 110 [some (.ref 38), none] [] (SH, x.2, J) r M') x → (fun (s : (Int32 × (Nat → Nat → Int32))) => zRun X d 41 92 [some (.ref 38), some (.int s.1)] [] (SH, s.2, J) r M') s := zloop_ok (B := f41_begin_38_L92) (Wh := fun (s : (Int32 × (Nat → Nat → Int32))) => zRun X d 41 92 [some (.ref 38), some (.int s.1)] [] (SH, s.2, J) r M') (Wx := fun (x : (Int32 × (Nat → Nat → Int32))) => zRun X d 41 110 [some (.ref 38), none] [] (SH, x.2, J) r M') (fun s y h w => by
  unfold f41_begin_38_L92 at h
  refine zr_steps 2 (94, [some (.ref 38), some (.int s.1)], [.int 4, .int s.1], (SH, s.2, J)) rfl ?_
  refine zr_one (if (4 : Int32) ≤ s.1 then zN 110 [some (.ref 38), some (.int s.1)] [] (SH, s.2, J) else zN 97 [some (.ref 38), some (.int s.1)] [] (SH, s.2, J)) rfl (zR_if (fun hc12 => zR_go ?_) (fun hc12 => zR_go ?_))
  · rw [if_pos hc12] at h
    have he := Option.some.inj h
    subst he
    exact zr_hdr (ls2 := [some (.ref 38), none]) rfl rfl (show zRun X d 41 110 [some (.ref 38), none] [] (SH, s.2, J) r M' from w)
  · rw [if_neg hc12] at h
    refine zr_steps 4 (103, [some (.ref 38), some (.int s.1)], [.int 0, .int s.1, .ref 45], (SH, s.2, J)) rfl ?_
    obtain ⟨hc11, h⟩ := zbifo h
    refine zr_one (bif zin s.1 4 then zN 104 [some (.ref 38), some (.int s.1)] [] (SH, (zu s.2 45 s.1.toNatClampNeg 0), J) else none) rfl (zR_bif hc11 (zR_go ?_))
    refine zr_steps 2 (92, [some (.ref 38), some (.int (s.1 + 1))], [], (SH, (zu s.2 45 s.1.toNatClampNeg 0), J)) rfl ?_
    have he := Option.some.inj h
    subst he
    exact zr_hdr (ls2 := [some (.ref 38), some (.int (s.1 + 1))]) rfl rfl (show zRun X d 41 92 [some (.ref 38), some (.int (s.1 + 1))] [] (SH, (zu s.2 45 s.1.toNatClampNeg 0), J) r M' from w))
set_option maxRecDepth 100000 in
set_option maxHeartbeats 4000000 in
theorem ok_f41_begin_38_L112 {X : zX} {d : Nat} {r : Option Value} {M' : zM} (hd : 0 ≤ d) {J : (Nat → Nat → Int64)} : ∀ (n : Nat) (s x : (Int32 × (Nat → Nat → Int32))), zloop f41_begin_38_L112 n s = some x → (fun (x : (Int32 × (Nat → Nat → Int32))) => zRun X d 41 183 [some (.ref 38), none] [] (SH, x.2, J) r M') x → (fun (s : (Int32 × (Nat → Nat → Int32))) => zRun X d 41 112 [some (.ref 38), some (.int s.1)] [] (SH, s.2, J) r M') s := zloop_ok (B := f41_begin_38_L112) (Wh := fun (s : (Int32 × (Nat → Nat → Int32))) => zRun X d 41 112 [some (.ref 38), some (.int s.1)] [] (SH, s.2, J) r M') (Wx := fun (x : (Int32 × (Nat → Nat → Int32))) => zRun X d 41 183 [some (.ref 38), none] [] (SH, x.2, J) r M') (fun s y h w => by
  unfold f41_begin_38_L112 at h
  refine zr_steps 4 (120, [some (.ref 38), some (.int s.1)], [.int (s.2 1 2), .int s.1], (SH, s.2, J)) rfl ?_
  refine zr_one (if (s.2 1 2) ≤ s.1 then zN 183 [some (.ref 38), some (.int s.1)] [] (SH, s.2, J) else zN 123 [some (.ref 38), some (.int s.1)] [] (SH, s.2, J)) rfl (zR_if (fun hc22 => zR_go ?_) (fun hc22 => zR_go ?_))
  · rw [if_pos hc22] at h
    have he := Option.some.inj h
    subst he
    exact zr_hdr (ls2 := [some (.ref 38), none]) rfl rfl (show zRun X d 41 183 [some (.ref 38), none] [] (SH, s.2, J) r M' from w)
  · rw [if_neg hc22] at h
    refine zr_steps 6 (135, [some (.ref 38), some (.int s.1)], [.int s.1, .ref 40, .ref 42], (SH, s.2, J)) rfl ?_
    obtain ⟨hc15, h⟩ := zbifo h
    refine zr_one (bif zin s.1 8 then zN 136 [some (.ref 38), some (.int s.1)] [.int (s.2 40 s.1.toNatClampNeg), .ref 42] (SH, s.2, J) else none) rfl (zR_bif hc15 (zR_go ?_))
    refine zr_steps 8 (149, [some (.ref 38), some (.int s.1)], [.int s.1, .ref 8, .int (((s.2 40 s.1.toNatClampNeg) * 8) + s.1), .ref 42], (SH, s.2, J)) rfl ?_
    obtain ⟨hc16, h⟩ := zbifo h
    refine zr_one (bif zin s.1 8 then zN 150 [some (.ref 38), some (.int s.1)] [.int (s.2 8 s.1.toNatClampNeg), .int (((s.2 40 s.1.toNatClampNeg) * 8) + s.1), .ref 42] (SH, s.2, J) else none) rfl (zR_bif hc16 (zR_go ?_))
    obtain ⟨hc17, h⟩ := zbifo h
    refine zr_one (bif zin (((s.2 40 s.1.toNatClampNeg) * 8) + s.1) 32 then zN 151 [some (.ref 38), some (.int s.1)] [] (SH, (zu s.2 42 (((s.2 40 s.1.toNatClampNeg) * 8) + s.1).toNatClampNeg (s.2 8 s.1.toNatClampNeg)), J) else none) rfl (zR_bif hc17 (zR_go ?_))
    refine zr_steps 6 (163, [some (.ref 38), some (.int s.1)], [.int s.1, .ref 40, .ref 45], (SH, (zu s.2 42 (((s.2 40 s.1.toNatClampNeg) * 8) + s.1).toNatClampNeg (s.2 8 s.1.toNatClampNeg)), J)) rfl ?_
    obtain ⟨hc18, h⟩ := zbifo h
    refine zr_one (bif zin s.1 8 then zN 164 [some (.ref 38), some (.int s.1)] [.int (s.2 40 s.1.toNatClampNeg), .ref 45] (SH, (zu s.2 42 (((s.2 40 s.1.toNatClampNeg) * 8) + s.1).toNatClampNeg (s.2 8 s.1.toNatClampNeg)), J) else none) rfl (zR_bif hc18 (zR_go ?_))
    refine zr_steps 1 (165, [some (.ref 38), some (.int s.1)], [.int (s.2 40 s.1.toNatClampNeg), .ref 45, .int (s.2 40 s.1.toNatClampNeg), .ref 45], (SH, (zu s.2 42 (((s.2 40 s.1.toNatClampNeg) * 8) + s.1).toNatClampNeg (s.2 8 s.1.toNatClampNeg)), J)) rfl ?_
    obtain ⟨hc19, h⟩ := zbifo h
    refine zr_one (bif zin (s.2 40 s.1.toNatClampNeg) 4 then zN 166 [some (.ref 38), some (.int s.1)] [.int (s.2 45 (s.2 40 s.1.toNatClampNeg).toNatClampNeg), .int (s.2 40 s.1.toNatClampNeg), .ref 45] (SH, (zu s.2 42 (((s.2 40 s.1.toNatClampNeg) * 8) + s.1).toNatClampNeg (s.2 8 s.1.toNatClampNeg)), J) else none) rfl (zR_bif hc19 (zR_go ?_))
    refine zr_steps 4 (174, [some (.ref 38), some (.int s.1)], [.int s.1, .ref 8, .int (s.2 45 (s.2 40 s.1.toNatClampNeg).toNatClampNeg), .int (s.2 40 s.1.toNatClampNeg), .ref 45], (SH, (zu s.2 42 (((s.2 40 s.1.toNatClampNeg) * 8) + s.1).toNatClampNeg (s.2 8 s.1.toNatClampNeg)), J)) rfl ?_
    obtain ⟨hc20, h⟩ := zbifo h
    refine zr_one (bif zin s.1 8 then zN 175 [some (.ref 38), some (.int s.1)] [.int (s.2 8 s.1.toNatClampNeg), .int (s.2 45 (s.2 40 s.1.toNatClampNeg).toNatClampNeg), .int (s.2 40 s.1.toNatClampNeg), .ref 45] (SH, (zu s.2 42 (((s.2 40 s.1.toNatClampNeg) * 8) + s.1).toNatClampNeg (s.2 8 s.1.toNatClampNeg)), J) else none) rfl (zR_bif hc20 (zR_go ?_))
    refine zr_steps 1 (176, [some (.ref 38), some (.int s.1)], [.int ((s.2 45 (s.2 40 s.1.toNatClampNeg).toNatClampNeg) + (s.2 8 s.1.toNatClampNeg)), .int (s.2 40 s.1.toNatClampNeg), .ref 45], (SH, (zu s.2 42 (((s.2 40 s.1.toNatClampNeg) * 8) + s.1).toNatClampNeg (s.2 8 s.1.toNatClampNeg)), J)) rfl ?_
    obtain ⟨hc21, h⟩ := zbifo h
    refine zr_one (bif zin (s.2 40 s.1.toNatClampNeg) 4 then zN 177 [some (.ref 38), some (.int s.1)] [] (SH, (zu (zu s.2 42 (((s.2 40 s.1.toNatClampNeg) * 8) + s.1).toNatClampNeg (s.2 8 s.1.toNatClampNeg)) 45 (s.2 40 s.1.toNatClampNeg).toNatClampNeg ((s.2 45 (s.2 40 s.1.toNatClampNeg).toNatClampNeg) + (s.2 8 s.1.toNatClampNeg))), J) else none) rfl (zR_bif hc21 (zR_go ?_))
    refine zr_steps 2 (112, [some (.ref 38), some (.int (s.1 + 1))], [], (SH, (zu (zu s.2 42 (((s.2 40 s.1.toNatClampNeg) * 8) + s.1).toNatClampNeg (s.2 8 s.1.toNatClampNeg)) 45 (s.2 40 s.1.toNatClampNeg).toNatClampNeg ((s.2 45 (s.2 40 s.1.toNatClampNeg).toNatClampNeg) + (s.2 8 s.1.toNatClampNeg))), J)) rfl ?_
    have he := Option.some.inj h
    subst he
    exact zr_hdr (ls2 := [some (.ref 38), some (.int (s.1 + 1))]) rfl rfl (show zRun X d 41 112 [some (.ref 38), some (.int (s.1 + 1))] [] (SH, (zu (zu s.2 42 (((s.2 40 s.1.toNatClampNeg) * 8) + s.1).toNatClampNeg (s.2 8 s.1.toNatClampNeg)) 45 (s.2 40 s.1.toNatClampNeg).toNatClampNeg ((s.2 45 (s.2 40 s.1.toNatClampNeg).toNatClampNeg) + (s.2 8 s.1.toNatClampNeg))), J) r M' from w))
set_option maxRecDepth 100000 in
set_option maxHeartbeats 4000000 in
theorem ok_f41_begin_38 {X : zX} {d : Nat} (hd : 0 ≤ d) {I : (Nat → Nat → Int32)} {J : (Nat → Nat → Int64)} (t : (Nat → Nat → Int32)) (h : f41_begin_38 I = some t) : zRun X d 41 0 (zent 41 [.ref 38]) [] (SH, I, J) none (SH, t, J) := by
  unfold f41_begin_38 at h
  refine zr_steps 12 (24, [some (.ref 38), some (.int 0)], [], (SH, (zu (zu I 38 13 (I 1 0)) 38 14 (I 1 2)), J)) rfl ?_
  obtain ⟨s5, ho6, h⟩ := zbind h
  refine zr_hdr (ls2 := [some (.ref 38), some (.int 0)]) rfl rfl ?_
  refine ok_f41_begin_38_L24 (by omega) 5000 ((0 : Int32), (zu (zu I 38 13 (I 1 0)) 38 14 (I 1 2))) s5 ho6 ?_
  show zRun X d 41 59 [some (.ref 38), none] [] (SH, s5.2, J) _ _
  refine zr_steps 2 (61, [some (.ref 38), some (.int 0)], [], (SH, s5.2, J)) rfl ?_
  obtain ⟨s9, ho10, h⟩ := zbind h
  refine zr_hdr (ls2 := [some (.ref 38), some (.int 0)]) rfl rfl ?_
  refine ok_f41_begin_38_L61 (by omega) 5000 ((0 : Int32), s5.2) s9 ho10 ?_
  show zRun X d 41 90 [some (.ref 38), none] [] (SH, s9.2, J) _ _
  refine zr_steps 2 (92, [some (.ref 38), some (.int 0)], [], (SH, s9.2, J)) rfl ?_
  obtain ⟨s13, ho14, h⟩ := zbind h
  refine zr_hdr (ls2 := [some (.ref 38), some (.int 0)]) rfl rfl ?_
  refine ok_f41_begin_38_L92 (by omega) 5000 ((0 : Int32), s9.2) s13 ho14 ?_
  show zRun X d 41 110 [some (.ref 38), none] [] (SH, s13.2, J) _ _
  refine zr_steps 2 (112, [some (.ref 38), some (.int 0)], [], (SH, s13.2, J)) rfl ?_
  obtain ⟨s23, ho24, h⟩ := zbind h
  refine zr_hdr (ls2 := [some (.ref 38), some (.int 0)]) rfl rfl ?_
  refine ok_f41_begin_38_L112 (by omega) 5000 ((0 : Int32), s13.2) s23 ho24 ?_
  show zRun X d 41 183 [some (.ref 38), none] [] (SH, s23.2, J) _ _
  refine zr_steps 6 (195, [some (.ref 38), none], [.int (s23.2 39 2), .ref 45, .int (s23.2 39 2), .ref 45], (SH, s23.2, J)) rfl ?_
  obtain ⟨hc25, h⟩ := zbifo h
  refine zr_one (bif zin (s23.2 39 2) 4 then zN 196 [some (.ref 38), none] [.int (s23.2 45 (s23.2 39 2).toNatClampNeg), .int (s23.2 39 2), .ref 45] (SH, s23.2, J) else none) rfl (zR_bif hc25 (zR_go ?_))
  refine zr_steps 4 (204, [some (.ref 38), none], [.int ((s23.2 45 (s23.2 39 2).toNatClampNeg) + (s23.2 39 3)), .int (s23.2 39 2), .ref 45], (SH, s23.2, J)) rfl ?_
  obtain ⟨hc26, h⟩ := zbifo h
  refine zr_one (bif zin (s23.2 39 2) 4 then zN 205 [some (.ref 38), none] [] (SH, (zu s23.2 45 (s23.2 39 2).toNatClampNeg ((s23.2 45 (s23.2 39 2).toNatClampNeg) + (s23.2 39 3))), J) else none) rfl (zR_bif hc26 (zR_go ?_))
  have he := Option.some.inj h
  subst he
  exact zr_one (some (.inr (.inr none))) rfl (zR_ret rfl rfl)
set_option maxRecDepth 100000 in
set_option maxHeartbeats 4000000 in
theorem ok_f43_seenIn_38 {X : zX} {d : Nat} (hd : 0 ≤ d) (v1 : Int32) {I : (Nat → Nat → Int32)} {J : (Nat → Nat → Int64)} (t : Int32) (h : f43_seenIn_38 v1 I = some t) : zRun X d 43 0 (zent 43 [.ref 38, .int v1]) [] (SH, I, J) (some (.int t)) (SH, I, J) := by
  unfold f43_seenIn_38 at h
  refine zr_steps 8 (12, [some (.ref 38), some (.int v1)], [.int (((I 38 12) * 4) + v1), .ref 48], (SH, I, J)) rfl ?_
  obtain ⟨hc1, h⟩ := zbifo h
  refine zr_one (bif zin (((I 38 12) * 4) + v1) 240 then zN 13 [some (.ref 38), some (.int v1)] [.int (I 48 (((I 38 12) * 4) + v1).toNatClampNeg)] (SH, I, J) else none) rfl (zR_bif hc1 (zR_go ?_))
  have he := Option.some.inj h
  subst he
  exact zr_one (some (.inr (.inr (some (.int (I 48 (((I 38 12) * 4) + v1).toNatClampNeg)))))) rfl (zR_ret rfl rfl)
set_option maxRecDepth 100000 in
set_option maxHeartbeats 4000000 in
theorem ok_f42_see_38_L2 {X : zX} {d : Nat} {r : Option Value} {M' : zM} (hd : 1 ≤ d) (v1 : Int32) {J : (Nat → Nat → Int64)} : ∀ (n : Nat) (s x : (Int32 × (Nat → Nat → Int32))), zloop (f42_see_38_L2 v1) n s = some x → (fun (x : (Int32 × (Nat → Nat → Int32))) => zRun X d 42 29 [some (.ref 38), some (.int v1), none, none] [] (SH, x.2, J) r M') x → (fun (s : (Int32 × (Nat → Nat → Int32))) => zRun X d 42 2 [some (.ref 38), some (.int v1), some (.int s.1), none] [] (SH, s.2, J) r M') s := zloop_ok (B := (f42_see_38_L2 v1)) (Wh := fun (s : (Int32 × (Nat → Nat → Int32))) => zRun X d 42 2 [some (.ref 38), some (.int v1), some (.int s.1), none] [] (SH, s.2, J) r M') (Wx := fun (x : (Int32 × (Nat → Nat → Int32))) => zRun X d 42 29 [some (.ref 38), some (.int v1), none, none] [] (SH, x.2, J) r M') (fun s y h w => by
  unfold f42_see_38_L2 at h
  refine zr_steps 2 (4, [some (.ref 38), some (.int v1), some (.int s.1), none], [.int 4, .int s.1], (SH, s.2, J)) rfl ?_
  refine zr_one (if (4 : Int32) ≤ s.1 then zN 29 [some (.ref 38), some (.int v1), some (.int s.1), none] [] (SH, s.2, J) else zN 7 [some (.ref 38), some (.int v1), some (.int s.1), none] [] (SH, s.2, J)) rfl (zR_if (fun hc3 => zR_go ?_) (fun hc3 => zR_go ?_))
  · rw [if_pos hc3] at h
    have he := Option.some.inj h
    subst he
    exact zr_hdr (ls2 := [some (.ref 38), some (.int v1), none, none]) rfl rfl (show zRun X d 42 29 [some (.ref 38), some (.int v1), none, none] [] (SH, s.2, J) r M' from w)
  · rw [if_neg hc3] at h
    refine zr_steps 10 (21, [some (.ref 38), some (.int v1), some (.int s.1), none], [.int s.1, .ref 45, .int ((v1 * 4) + s.1), .ref 48], (SH, s.2, J)) rfl ?_
    obtain ⟨hc1, h⟩ := zbifo h
    refine zr_one (bif zin s.1 4 then zN 22 [some (.ref 38), some (.int v1), some (.int s.1), none] [.int (s.2 45 s.1.toNatClampNeg), .int ((v1 * 4) + s.1), .ref 48] (SH, s.2, J) else none) rfl (zR_bif hc1 (zR_go ?_))
    obtain ⟨hc2, h⟩ := zbifo h
    refine zr_one (bif zin ((v1 * 4) + s.1) 240 then zN 23 [some (.ref 38), some (.int v1), some (.int s.1), none] [] (SH, (zu s.2 48 ((v1 * 4) + s.1).toNatClampNeg (s.2 45 s.1.toNatClampNeg)), J) else none) rfl (zR_bif hc2 (zR_go ?_))
    refine zr_steps 2 (2, [some (.ref 38), some (.int v1), some (.int (s.1 + 1)), none], [], (SH, (zu s.2 48 ((v1 * 4) + s.1).toNatClampNeg (s.2 45 s.1.toNatClampNeg)), J)) rfl ?_
    have he := Option.some.inj h
    subst he
    exact zr_hdr (ls2 := [some (.ref 38), some (.int v1), some (.int (s.1 + 1)), none]) rfl rfl (show zRun X d 42 2 [some (.ref 38), some (.int v1), some (.int (s.1 + 1)), none] [] (SH, (zu s.2 48 ((v1 * 4) + s.1).toNatClampNeg (s.2 45 s.1.toNatClampNeg)), J) r M' from w))
set_option maxRecDepth 100000 in
set_option maxHeartbeats 4000000 in
theorem ok_f42_see_38_L50 {X : zX} {d : Nat} {r : Option Value} {M' : zM} (hd : 1 ≤ d) (v1 : Int32) {I : (Nat → Nat → Int32)} {J : (Nat → Nat → Int64)} : ∀ (n : Nat) (s x : (Int32 × Int32)), zloop (f42_see_38_L50 v1 I) n s = some x → (fun (x : (Int32 × Int32)) => zRun X d 42 86 [some (.ref 38), some (.int v1), some (.int x.1), none] [] (SH, I, J) r M') x → (fun (s : (Int32 × Int32)) => zRun X d 42 50 [some (.ref 38), some (.int v1), some (.int s.1), some (.int s.2)] [] (SH, I, J) r M') s := zloop_ok (B := (f42_see_38_L50 v1 I)) (Wh := fun (s : (Int32 × Int32)) => zRun X d 42 50 [some (.ref 38), some (.int v1), some (.int s.1), some (.int s.2)] [] (SH, I, J) r M') (Wx := fun (x : (Int32 × Int32)) => zRun X d 42 86 [some (.ref 38), some (.int v1), some (.int x.1), none] [] (SH, I, J) r M') (fun s y h w => by
  unfold f42_see_38_L50 at h
  refine zr_steps 4 (58, [some (.ref 38), some (.int v1), some (.int s.1), some (.int s.2)], [.int (I 1 0), .int s.2], (SH, I, J)) rfl ?_
  refine zr_one (if (I 1 0) ≤ s.2 then zN 86 [some (.ref 38), some (.int v1), some (.int s.1), some (.int s.2)] [] (SH, I, J) else zN 61 [some (.ref 38), some (.int v1), some (.int s.1), some (.int s.2)] [] (SH, I, J)) rfl (zR_if (fun hc11 => zR_go ?_) (fun hc11 => zR_go ?_))
  · rw [if_pos hc11] at h
    have he := Option.some.inj h
    subst he
    exact zr_hdr (ls2 := [some (.ref 38), some (.int v1), some (.int s.1), none]) rfl rfl (show zRun X d 42 86 [some (.ref 38), some (.int v1), some (.int s.1), none] [] (SH, I, J) r M' from w)
  · rw [if_neg hc11] at h
    refine zr_steps 2 (63, [some (.ref 38), some (.int v1), some (.int s.1), some (.int s.2)], [.int s.2, .ref 38], (SH, I, J)) rfl ?_
    obtain ⟨t7, hc6, h⟩ := zbind h
    refine zr_one (some (.inr (.inl (43, [.ref 38, .int s.2], [], 66)))) rfl (zR_call (by omega) rfl (ok_f43_seenIn_38 (by omega) s.2 _ hc6) ?_)
    refine zr_steps 2 (68, [some (.ref 38), some (.int v1), some (.int s.1), some (.int s.2)], [.int s.1, .ref 38, .int t7], (SH, I, J)) rfl ?_
    obtain ⟨t9, hc8, h⟩ := zbind h
    refine zr_one (some (.inr (.inl (43, [.ref 38, .int s.1], [.int t7], 71)))) rfl (zR_call (by omega) rfl (ok_f43_seenIn_38 (by omega) s.1 _ hc8) ?_)
    refine zr_one (if t7 ≤ t9 then zN 78 [some (.ref 38), some (.int v1), some (.int s.1), some (.int s.2)] [] (SH, I, J) else zN 74 [some (.ref 38), some (.int v1), some (.int s.1), some (.int s.2)] [] (SH, I, J)) rfl (zR_if (fun hc10 => zR_go ?_) (fun hc10 => zR_go ?_))
    · rw [if_pos hc10] at h
      refine zr_steps 4 (50, [some (.ref 38), some (.int v1), some (.int s.1), some (.int (s.2 + 1))], [], (SH, I, J)) rfl ?_
      have he := Option.some.inj h
      subst he
      exact zr_hdr (ls2 := [some (.ref 38), some (.int v1), some (.int s.1), some (.int (s.2 + 1))]) rfl rfl (show zRun X d 42 50 [some (.ref 38), some (.int v1), some (.int s.1), some (.int (s.2 + 1))] [] (SH, I, J) r M' from w)
    · rw [if_neg hc10] at h
      refine zr_steps 5 (50, [some (.ref 38), some (.int v1), some (.int s.2), some (.int (s.2 + 1))], [], (SH, I, J)) rfl ?_
      have he := Option.some.inj h
      subst he
      exact zr_hdr (ls2 := [some (.ref 38), some (.int v1), some (.int s.2), some (.int (s.2 + 1))]) rfl rfl (show zRun X d 42 50 [some (.ref 38), some (.int v1), some (.int s.2), some (.int (s.2 + 1))] [] (SH, I, J) r M' from w))
set_option maxRecDepth 100000 in
set_option maxHeartbeats 4000000 in
theorem ok_f42_see_38 {X : zX} {d : Nat} (hd : 1 ≤ d) (v1 : Int32) {I : (Nat → Nat → Int32)} {J : (Nat → Nat → Int64)} (t : (Nat → Nat → Int32)) (h : f42_see_38 v1 I = some t) : zRun X d 42 0 (zent 42 [.ref 38, .int v1]) [] (SH, I, J) none (SH, t, J) := by
  unfold f42_see_38 at h
  refine zr_steps 2 (2, [some (.ref 38), some (.int v1), some (.int 0), none], [], (SH, I, J)) rfl ?_
  obtain ⟨s4, ho5, h⟩ := zbind h
  refine zr_hdr (ls2 := [some (.ref 38), some (.int v1), some (.int 0), none]) rfl rfl ?_
  refine ok_f42_see_38_L2 (by omega) v1 5000 ((0 : Int32), I) s4 ho5 ?_
  show zRun X d 42 29 [some (.ref 38), some (.int v1), none, none] [] (SH, s4.2, J) _ _
  refine zr_steps 13 (50, [some (.ref 38), some (.int v1), some (.int 0), some (.int 1)], [], (SH, (zu s4.2 38 12 (zmax 0 (v1 - (s4.2 39 1)))), J)) rfl ?_
  obtain ⟨s12, ho13, h⟩ := zbind h
  refine zr_hdr (ls2 := [some (.ref 38), some (.int v1), some (.int 0), some (.int 1)]) rfl rfl ?_
  refine ok_f42_see_38_L50 (by omega) v1 5000 ((0 : Int32), (1 : Int32)) s12 ho13 ?_
  show zRun X d 42 86 [some (.ref 38), some (.int v1), some (.int s12.1), none] [] (SH, (zu s4.2 38 12 (zmax 0 (v1 - (s4.2 39 1)))), J) _ _
  refine zr_steps 8 (100, [some (.ref 38), some (.int v1), some (.int s12.1), none], [.int ((s4.2 39 0) - v1), .int 0, .ref 50], (SH, (zu s4.2 38 12 (zmax 0 (v1 - (s4.2 39 1)))), J)) rfl ?_
  refine zr_one (bif zin 0 8 then zN 101 [some (.ref 38), some (.int v1), some (.int s12.1), none] [] (SH, (zu (zu s4.2 38 12 (zmax 0 (v1 - (s4.2 39 1)))) 50 0 ((s4.2 39 0) - v1)), J) else none) rfl (zR_bif (by decide) (zR_go ?_))
  refine zr_steps 4 (107, [some (.ref 38), some (.int v1), some (.int s12.1), none], [.int s12.1, .int 5, .ref 50], (SH, (zu (zu s4.2 38 12 (zmax 0 (v1 - (s4.2 39 1)))) 50 0 ((s4.2 39 0) - v1)), J)) rfl ?_
  refine zr_one (bif zin 5 8 then zN 108 [some (.ref 38), some (.int v1), some (.int s12.1), none] [] (SH, (zu (zu (zu s4.2 38 12 (zmax 0 (v1 - (s4.2 39 1)))) 50 0 ((s4.2 39 0) - v1)) 50 5 s12.1), J) else none) rfl (zR_bif (by decide) (zR_go ?_))
  refine zr_steps 5 (116, [some (.ref 38), some (.int v1), some (.int s12.1), none], [.int s12.1, .ref 38, .int 6, .ref 50], (SH, (zu (zu (zu s4.2 38 12 (zmax 0 (v1 - (s4.2 39 1)))) 50 0 ((s4.2 39 0) - v1)) 50 5 s12.1), J)) rfl ?_
  obtain ⟨t15, hc14, h⟩ := zbind h
  refine zr_one (some (.inr (.inl (43, [.ref 38, .int s12.1], [.int 6, .ref 50], 119)))) rfl (zR_call (by omega) rfl (ok_f43_seenIn_38 (by omega) s12.1 _ hc14) ?_)
  refine zr_one (bif zin 6 8 then zN 120 [some (.ref 38), some (.int v1), some (.int s12.1), none] [] (SH, (zu (zu (zu (zu s4.2 38 12 (zmax 0 (v1 - (s4.2 39 1)))) 50 0 ((s4.2 39 0) - v1)) 50 5 s12.1) 50 6 t15), J) else none) rfl (zR_bif (by decide) (zR_go ?_))
  have he := Option.some.inj h
  subst he
  exact zr_one (some (.inr (.inr none))) rfl (zR_ret rfl rfl)
