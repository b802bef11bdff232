set_option maxRecDepth 100000 in
set_option maxHeartbeats 4000000 in
theorem ok_f49_tally_24_L56 {X : zX} {d : Nat} {r : Option Value} {M' : zM} (hd : 2 ≤ d) (v1 : Int32) {J : (Nat → Nat → Int64)} : ∀ (n : Nat) (s x : (Int32 × (Nat → Nat → Int32))), zloop (f49_tally_24_L56 v1) n s = some x → (fun (x : (Int32 × (Nat → Nat → Int32))) => zRun X d 49 88 [some (.ref 24), some (.int v1), none] [] (SH, x.2, J) r M') x → (fun (s : (Int32 × (Nat → Nat → Int32))) => zRun X d 49 56 [some (.ref 24), some (.int v1), some (.int s.1)] [] (SH, s.2, J) r M') s := zloop_ok (B := (f49_tally_24_L56 v1)) (Wh := fun (s : (Int32 × (Nat → Nat → Int32))) => zRun X d 49 56 [some (.ref 24), some (.int v1), some (.int s.1)] [] (SH, s.2, J) r M') (Wx := fun (x : (Int32 × (Nat → Nat → Int32))) => zRun X d 49 88 [some (.ref 24), some (.int v1), none] [] (SH, x.2, J) r M') (fun s y h w => by
  unfold f49_tally_24_L56 at h
  refine zr_steps 2 (59, [some (.ref 24), some (.int v1), some (.int s.1)], [.int 8, .int s.1], (SH, s.2, J)) rfl ?_
  refine zr_one (if (8 : Int32) ≤ s.1 then zN 88 [some (.ref 24), some (.int v1), some (.int s.1)] [] (SH, s.2, J) else zN 62 [some (.ref 24), some (.int v1), some (.int s.1)] [] (SH, s.2, J)) rfl (zR_if (fun hc7 => zR_go ?_) (fun hc7 => zR_go ?_))
  · rw [if_pos hc7] at h
    have he := Option.some.inj h
    subst he
    exact zr_hdr (ls2 := [some (.ref 24), some (.int v1), none]) rfl rfl (show zRun X d 49 88 [some (.ref 24), some (.int v1), none] [] (SH, s.2, J) r M' from w)
  · rw [if_neg hc7] at h
    refine zr_steps 4 (68, [some (.ref 24), some (.int v1), some (.int s.1)], [.int v1, .ref 37, .int v1, .ref 37], (SH, s.2, J)) rfl ?_
    obtain ⟨hc4, h⟩ := zbifo h
    refine zr_one (bif zin v1 4 then zN 69 [some (.ref 24), some (.int v1), some (.int s.1)] [.int (s.2 37 v1.toNatClampNeg), .int v1, .ref 37] (SH, s.2, J) else none) rfl (zR_bif hc4 (zR_go ?_))
    refine zr_steps 7 (79, [some (.ref 24), some (.int v1), some (.int s.1)], [.int ((v1 * 8) + s.1), .ref 30, .int (s.2 37 v1.toNatClampNeg), .int v1, .ref 37], (SH, s.2, J)) rfl ?_
    obtain ⟨hc5, h⟩ := zbifo h
    refine zr_one (bif zin ((v1 * 8) + s.1) 32 then zN 80 [some (.ref 24), some (.int v1), some (.int s.1)] [.int (s.2 30 ((v1 * 8) + s.1).toNatClampNeg), .int (s.2 37 v1.toNatClampNeg), .int v1, .ref 37] (SH, s.2, J) else none) rfl (zR_bif hc5 (zR_go ?_))
    refine zr_steps 1 (81, [some (.ref 24), some (.int v1), some (.int s.1)], [.int ((s.2 37 v1.toNatClampNeg) + (s.2 30 ((v1 * 8) + s.1).toNatClampNeg)), .int v1, .ref 37], (SH, s.2, J)) rfl ?_
    obtain ⟨hc6, h⟩ := zbifo h
    refine zr_one (bif zin v1 4 then zN 82 [some (.ref 24), some (.int v1), some (.int s.1)] [] (SH, (zu s.2 37 v1.toNatClampNeg ((s.2 37 v1.toNatClampNeg) + (s.2 30 ((v1 * 8) + s.1).toNatClampNeg))), J) else none) rfl (zR_bif hc6 (zR_go ?_))
    refine zr_steps 2 (56, [some (.ref 24), some (.int v1), some (.int (s.1 + 1))], [], (SH, (zu s.2 37 v1.toNatClampNeg ((s.2 37 v1.toNatClampNeg) + (s.2 30 ((v1 * 8) + s.1).toNatClampNeg))), J)) rfl ?_
    have he := Option.some.inj h
    subst he
    exact zr_hdr (ls2 := [some (.ref 24), some (.int v1), some (.int (s.1 + 1))]) rfl rfl (show zRun X d 49 56 [some (.ref 24), some (.int v1), some (.int (s.1 + 1))] [] (SH, (zu s.2 37 v1.toNatClampNeg ((s.2 37 v1.toNatClampNeg) + (s.2 30 ((v1 * 8) + s.1).toNatClampNeg))), J) r M' from w))
set_option maxRecDepth 100000 in
set_option maxHeartbeats 4000000 in
theorem ok_f49_tally_24_L21 {X : zX} {d : Nat} {r : Option Value} {M' : zM} (hd : 2 ≤ d) {J : (Nat → Nat → Int64)} : ∀ (n : Nat) (s x : (Int32 × (Nat → Nat → Int32))), zloop f49_tally_24_L21 n s = some x → (fun (x : (Int32 × (Nat → Nat → Int32))) => zRun X d 49 109 [some (.ref 24), none, none] [] (SH, x.2, J) r M') x → (fun (s : (Int32 × (Nat → Nat → Int32))) => zRun X d 49 21 [some (.ref 24), some (.int s.1), none] [] (SH, s.2, J) r M') s := zloop_ok (B := f49_tally_24_L21) (Wh := fun (s : (Int32 × (Nat → Nat → Int32))) => zRun X d 49 21 [some (.ref 24), some (.int s.1), none] [] (SH, s.2, J) r M') (Wx := fun (x : (Int32 × (Nat → Nat → Int32))) => zRun X d 49 109 [some (.ref 24), none, none] [] (SH, x.2, J) r M') (fun s y h w => by
  unfold f49_tally_24_L21 at h
  refine zr_steps 2 (23, [some (.ref 24), some (.int s.1), none], [.int 4, .int s.1], (SH, s.2, J)) rfl ?_
  refine zr_one (if (4 : Int32) ≤ s.1 then zN 109 [some (.ref 24), some (.int s.1), none] [] (SH, s.2, J) else zN 26 [some (.ref 24), some (.int s.1), none] [] (SH, s.2, J)) rfl (zR_if (fun hc16 => zR_go ?_) (fun hc16 => zR_go ?_))
  · rw [if_pos hc16] at h
    have he := Option.some.inj h
    subst he
    exact zr_hdr (ls2 := [some (.ref 24), none, none]) rfl rfl (show zRun X d 49 109 [some (.ref 24), none, none] [] (SH, s.2, J) r M' from w)
  · rw [if_neg hc16] at h
    refine zr_steps 7 (39, [some (.ref 24), some (.int s.1), none], [.int (s.2 25 2), .int s.1, .int s.1, .ref 37], (SH, s.2, J)) rfl ?_
    refine zr_one (if s.1 = (s.2 25 2) then zN 42 [some (.ref 24), some (.int s.1), none] [.int s.1, .ref 37] (SH, s.2, J) else zN 52 [some (.ref 24), some (.int s.1), none] [.int s.1, .ref 37] (SH, s.2, J)) rfl (zR_if (fun hc15 => zR_go ?_) (fun hc15 => zR_go ?_))
    · rw [if_pos hc15] at h
      refine zr_steps 4 (53, [some (.ref 24), some (.int s.1), none], [.int (s.2 25 3), .int s.1, .ref 37], (SH, s.2, J)) rfl ?_
      obtain ⟨hc3, h⟩ := zbifo h
      refine zr_one (bif zin s.1 4 then zN 54 [some (.ref 24), some (.int s.1), none] [] (SH, (zu s.2 37 s.1.toNatClampNeg (s.2 25 3)), J) else none) rfl (zR_bif hc3 (zR_go ?_))
      refine zr_steps 2 (56, [some (.ref 24), some (.int s.1), some (.int 0)], [], (SH, (zu s.2 37 s.1.toNatClampNeg (s.2 25 3)), J)) rfl ?_
      obtain ⟨s8, ho9, h⟩ := zbind h
      refine zr_hdr (ls2 := [some (.ref 24), some (.int s.1), some (.int 0)]) rfl rfl ?_
      refine ok_f49_tally_24_L56 (by omega) s.1 5000 ((0 : Int32), (zu s.2 37 s.1.toNatClampNeg (s.2 25 3))) s8 ho9 ?_
      show zRun X d 49 88 [some (.ref 24), some (.int s.1), none] [] (SH, s8.2, J) _ _
      refine zr_steps 6 (98, [some (.ref 24), some (.int s.1), none], [.int s.1, .ref 31, .int (s8.2 24 19), .ref 24], (SH, s8.2, J)) rfl ?_
      obtain ⟨hc10, h⟩ := zbifo h
      refine zr_one (bif zin s.1 4 then zN 99 [some (.ref 24), some (.int s.1), none] [.int (s8.2 31 s.1.toNatClampNeg), .int (s8.2 24 19), .ref 24] (SH, s8.2, J) else none) rfl (zR_bif hc10 (zR_go ?_))
      refine zr_steps 4 (21, [some (.ref 24), some (.int (s.1 + 1)), none], [], (SH, (zu s8.2 24 19 ((s8.2 24 19) - (s8.2 31 s.1.toNatClampNeg))), J)) rfl ?_
      have he := Option.some.inj h
      subst he
      exact zr_hdr (ls2 := [some (.ref 24), some (.int (s.1 + 1)), none]) rfl rfl (show zRun X d 49 21 [some (.ref 24), some (.int (s.1 + 1)), none] [] (SH, (zu s8.2 24 19 ((s8.2 24 19) - (s8.2 31 s.1.toNatClampNeg))), J) r M' from w)
    · rw [if_neg hc15] at h
      refine zr_steps 1 (53, [some (.ref 24), some (.int s.1), none], [.int 0, .int s.1, .ref 37], (SH, s.2, J)) rfl ?_
      obtain ⟨hc11, h⟩ := zbifo h
      refine zr_one (bif zin s.1 4 then zN 54 [some (.ref 24), some (.int s.1), none] [] (SH, (zu s.2 37 s.1.toNatClampNeg 0), J) else none) rfl (zR_bif hc11 (zR_go ?_))
      refine zr_steps 2 (56, [some (.ref 24), some (.int s.1), some (.int 0)], [], (SH, (zu s.2 37 s.1.toNatClampNeg 0), J)) rfl ?_
      obtain ⟨s12, ho13, h⟩ := zbind h
      refine zr_hdr (ls2 := [some (.ref 24), some (.int s.1), some (.int 0)]) rfl rfl ?_
      refine ok_f49_tally_24_L56 (by omega) s.1 5000 ((0 : Int32), (zu s.2 37 s.1.toNatClampNeg 0)) s12 ho13 ?_
      show zRun X d 49 88 [some (.ref 24), some (.int s.1), none] [] (SH, s12.2, J) _ _
      refine zr_steps 6 (98, [some (.ref 24), some (.int s.1), none], [.int s.1, .ref 31, .int (s12.2 24 19), .ref 24], (SH, s12.2, J)) rfl ?_
      obtain ⟨hc14, h⟩ := zbifo h
      refine zr_one (bif zin s.1 4 then zN 99 [some (.ref 24), some (.int s.1), none] [.int (s12.2 31 s.1.toNatClampNeg), .int (s12.2 24 19), .ref 24] (SH, s12.2, J) else none) rfl (zR_bif hc14 (zR_go ?_))
      refine zr_steps 4 (21, [some (.ref 24), some (.int (s.1 + 1)), none], [], (SH, (zu s12.2 24 19 ((s12.2 24 19) - (s12.2 31 s.1.toNatClampNeg))), J)) rfl ?_
      have he := Option.some.inj h
      subst he
      exact zr_hdr (ls2 := [some (.ref 24), some (.int (s.1 + 1)), none]) rfl rfl (show zRun X d 49 21 [some (.ref 24), some (.int (s.1 + 1)), none] [] (SH, (zu s12.2 24 19 ((s12.2 24 19) - (s12.2 31 s.1.toNatClampNeg))), J) r M' from w))
set_option maxRecDepth 100000 in
set_option maxHeartbeats 4000000 in
theorem ok_f49_tally_24_L116 {X : zX} {d : Nat} {r : Option Value} {M' : zM} (hd : 2 ≤ d) {J : (Nat → Nat → Int64)} : ∀ (n : Nat) (s x : (Int32 × (Nat → Nat → Int32))), zloop f49_tally_24_L116 n s = some x → (fun (x : (Int32 × (Nat → Nat → Int32))) => zRun X d 49 163 [some (.ref 24), none, none] [] (SH, x.2, J) r M') x → (fun (s : (Int32 × (Nat → Nat → Int32))) => zRun X d 49 116 [some (.ref 24), some (.int s.1), none] [] (SH, s.2, J) r M') s := zloop_ok (B := f49_tally_24_L116) (Wh := fun (s : (Int32 × (Nat → Nat → Int32))) => zRun X d 49 116 [some (.ref 24), some (.int s.1), none] [] (SH, s.2, J) r M') (Wx := fun (x : (Int32 × (Nat → Nat → Int32))) => zRun X d 49 163 [some (.ref 24), none, none] [] (SH, x.2, J) r M') (fun s y h w => by
  unfold f49_tally_24_L116 at h
  refine zr_steps 4 (124, [some (.ref 24), some (.int s.1), none], [.int (s.2 1 0), .int s.1], (SH, s.2, J)) rfl ?_
  refine zr_one (if (s.2 1 0) ≤ s.1 then zN 163 [some (.ref 24), some (.int s.1), none] [] (SH, s.2, J) else zN 127 [some (.ref 24), some (.int s.1), none] [] (SH, s.2, J)) rfl (zR_if (fun hc22 => zR_go ?_) (fun hc22 => zR_go ?_))
  · rw [if_pos hc22] at h
    have he := Option.some.inj h
    subst he
    exact zr_hdr (ls2 := [some (.ref 24), none, none]) rfl rfl (show zRun X d 49 163 [some (.ref 24), none, none] [] (SH, s.2, J) r M' from w)
  · rw [if_neg hc22] at h
    refine zr_steps 4 (133, [some (.ref 24), some (.int s.1), none], [.int s.1, .ref 37, .ref 24], (SH, s.2, J)) rfl ?_
    obtain ⟨hc19, h⟩ := zbifo h
    refine zr_one (bif zin s.1 4 then zN 134 [some (.ref 24), some (.int s.1), none] [.int (s.2 37 s.1.toNatClampNeg), .ref 24] (SH, s.2, J) else none) rfl (zR_bif hc19 (zR_go ?_))
    refine zr_steps 4 (142, [some (.ref 24), some (.int s.1), none], [.int (s.2 24 16), .ref 37, .int (s.2 37 s.1.toNatClampNeg), .ref 24], (SH, s.2, J)) rfl ?_
    obtain ⟨hc20, h⟩ := zbifo h
    refine zr_one (bif zin (s.2 24 16) 4 then zN 143 [some (.ref 24), some (.int s.1), none] [.int (s.2 37 (s.2 24 16).toNatClampNeg), .int (s.2 37 s.1.toNatClampNeg), .ref 24] (SH, s.2, J) else none) rfl (zR_bif hc20 (zR_go ?_))
    refine zr_one (if (s.2 37 s.1.toNatClampNeg) ≤ (s.2 37 (s.2 24 16).toNatClampNeg) then zN 150 [some (.ref 24), some (.int s.1), none] [.ref 24] (SH, s.2, J) else zN 146 [some (.ref 24), some (.int s.1), none] [.ref 24] (SH, s.2, J)) rfl (zR_if (fun hc21 => zR_go ?_) (fun hc21 => zR_go ?_))
    · rw [if_pos hc21] at h
      refine zr_steps 5 (116, [some (.ref 24), some (.int (s.1 + 1)), none], [], (SH, (zu s.2 24 16 (s.2 24 16)), J)) rfl ?_
      have he := Option.some.inj h
      subst he
      exact zr_hdr (ls2 := [some (.ref 24), some (.int (s.1 + 1)), none]) rfl rfl (show zRun X d 49 116 [some (.ref 24), some (.int (s.1 + 1)), none] [] (SH, (zu s.2 24 16 (s.2 24 16)), J) r M' from w)
    · rw [if_neg hc21] at h
      refine zr_steps 5 (116, [some (.ref 24), some (.int (s.1 + 1)), none], [], (SH, (zu s.2 24 16 s.1), J)) rfl ?_
      have he := Option.some.inj h
      subst he
      exact zr_hdr (ls2 := [some (.ref 24), some (.int (s.1 + 1)), none]) rfl rfl (show zRun X d 49 116 [some (.ref 24), some (.int (s.1 + 1)), none] [] (SH, (zu s.2 24 16 s.1), J) r M' from w))
set_option maxRecDepth 100000 in
set_option maxHeartbeats 4000000 in
theorem ok_f49_tally_24_L167 {X : zX} {d : Nat} {r : Option Value} {M' : zM} (hd : 2 ≤ d) {I : (Nat → Nat → Int32)} {J : (Nat → Nat → Int64)} : ∀ (n : Nat) (s x : (Int32 × Int32)), zloop (f49_tally_24_L167 I) n s = some x → (fun (x : (Int32 × Int32)) => zRun X d 49 207 [some (.ref 24), some (.int x.1), none] [] (SH, I, J) r M') x → (fun (s : (Int32 × Int32)) => zRun X d 49 167 [some (.ref 24), some (.int s.1), some (.int s.2)] [] (SH, I, J) r M') s := zloop_ok (B := (f49_tally_24_L167 I)) (Wh := fun (s : (Int32 × Int32)) => zRun X d 49 167 [some (.ref 24), some (.int s.1), some (.int s.2)] [] (SH, I, J) r M') (Wx := fun (x : (Int32 × Int32)) => zRun X d 49 207 [some (.ref 24), some (.int x.1), none] [] (SH, I, J) r M') (fun s y h w => by
  unfold f49_tally_24_L167 at h
  refine zr_steps 4 (175, [some (.ref 24), some (.int s.1), some (.int s.2)], [.int (I 1 0), .int s.2], (SH, I, J)) rfl ?_
  refine zr_one (if (I 1 0) ≤ s.2 then zN 207 [some (.ref 24), some (.int s.1), some (.int s.2)] [] (SH, I, J) else zN 178 [some (.ref 24), some (.int s.1), some (.int s.2)] [] (SH, I, J)) rfl (zR_if (fun hc27 => zR_go ?_) (fun hc27 => zR_go ?_))
  · rw [if_pos hc27] at h
    have he := Option.some.inj h
    subst he
    exact zr_hdr (ls2 := [some (.ref 24), some (.int s.1), none]) rfl rfl (show zRun X d 49 207 [some (.ref 24), some (.int s.1), none] [] (SH, I, J) r M' from w)
  · rw [if_neg hc27] at h
    refine zr_steps 3 (183, [some (.ref 24), some (.int s.1), some (.int s.2)], [.int (I 24 16), .int s.2], (SH, I, J)) rfl ?_
    refine zr_one (if s.2 = (I 24 16) then zN 199 [some (.ref 24), some (.int s.1), some (.int s.2)] [] (SH, I, J) else zN 186 [some (.ref 24), some (.int s.1), some (.int s.2)] [] (SH, I, J)) rfl (zR_if (fun hc26 => zR_go ?_) (fun hc26 => zR_go ?_))
    · rw [if_pos hc26] at h
      refine zr_steps 4 (167, [some (.ref 24), some (.int s.1), some (.int (s.2 + 1))], [], (SH, I, J)) rfl ?_
      have he := Option.some.inj h
      subst he
      exact zr_hdr (ls2 := [some (.ref 24), some (.int s.1), some (.int (s.2 + 1))]) rfl rfl (show zRun X d 49 167 [some (.ref 24), some (.int s.1), some (.int (s.2 + 1))] [] (SH, I, J) r M' from w)
    · rw [if_neg hc26] at h
      refine zr_steps 4 (192, [some (.ref 24), some (.int s.1), some (.int s.2)], [.int s.2, .ref 37, .int s.1], (SH, I, J)) rfl ?_
      obtain ⟨hc25, h⟩ := zbifo h
      refine zr_one (bif zin s.2 4 then zN 193 [some (.ref 24), some (.int s.1), some (.int s.2)] [.int (I 37 s.2.toNatClampNeg), .int s.1] (SH, I, J) else none) rfl (zR_bif hc25 (zR_go ?_))
      refine zr_steps 5 (167, [some (.ref 24), some (.int (zmax s.1 (I 37 s.2.toNatClampNeg))), some (.int (s.2 + 1))], [], (SH, I, J)) rfl ?_
      have he := Option.some.inj h
      subst he
      exact zr_hdr (ls2 := [some (.ref 24), some (.int (zmax s.1 (I 37 s.2.toNatClampNeg))), some (.int (s.2 + 1))]) rfl rfl (show zRun X d 49 167 [some (.ref 24), some (.int (zmax s.1 (I 37 s.2.toNatClampNeg))), some (.int (s.2 + 1))] [] (SH, I, J) r M' from w))
set_option maxRecDepth 100000 in
set_option maxHeartbeats 4000000 in
theorem ok_f49_tally_24 {X : zX} {d : Nat} (hd : 2 ≤ d) {I : (Nat → Nat → Int32)} {J : (Nat → Nat → Int64)} (t : (Nat → Nat → Int32)) (h : f49_tally_24 I = some t) : zRun X d 49 0 (zent 49 [.ref 24]) [] (SH, I, J) none (SH, t, J) := by
  unfold f49_tally_24 at h
  refine zr_steps 3 (5, [some (.ref 24), none, none], [.ref 1, .ref 24], (SH, I, J)) rfl ?_
  obtain ⟨t2, hc1, h⟩ := zbind h
  refine zr_one (some (.inr (.inl (73, [.ref 1], [.ref 24], 8)))) rfl (zR_call (by omega) rfl (ok_f73_people (by omega)  _ hc1) ?_)
  refine zr_steps 7 (21, [some (.ref 24), some (.int 0), none], [], (SH, (zu I 24 19 (t2 + (I 25 3))), J)) rfl ?_
  obtain ⟨s17, ho18, h⟩ := zbind h
  refine zr_hdr (ls2 := [some (.ref 24), some (.int 0), none]) rfl rfl ?_
  refine ok_f49_tally_24_L21 (by omega) 5000 ((0 : Int32), (zu I 24 19 (t2 + (I 25 3)))) s17 ho18 ?_
  show zRun X d 49 109 [some (.ref 24), none, none] [] (SH, s17.2, J) _ _
  refine zr_steps 5 (116, [some (.ref 24), some (.int 1), none], [], (SH, (zu s17.2 24 16 0), J)) rfl ?_
  obtain ⟨s23, ho24, h⟩ := zbind h
  refine zr_hdr (ls2 := [some (.ref 24), some (.int 1), none]) rfl rfl ?_
  refine ok_f49_tally_24_L116 (by omega) 5000 ((1 : Int32), (zu s17.2 24 16 0)) s23 ho24 ?_
  show zRun X d 49 163 [some (.ref 24), none, none] [] (SH, s23.2, J) _ _
  refine zr_steps 4 (167, [some (.ref 24), some (.int 0), some (.int 0)], [], (SH, s23.2, J)) rfl ?_
  obtain ⟨s28, ho29, h⟩ := zbind h
  refine zr_hdr (ls2 := [some (.ref 24), some (.int 0), some (.int 0)]) rfl rfl ?_
  refine ok_f49_tally_24_L167 (by omega) 5000 ((0 : Int32), (0 : Int32)) s28 ho29 ?_
  show zRun X d 49 207 [some (.ref 24), some (.int s28.1), none] [] (SH, s23.2, J) _ _
  refine zr_steps 6 (219, [some (.ref 24), some (.int s28.1), none], [.int (s23.2 24 16), .ref 3, .ref 24], (SH, s23.2, J)) rfl ?_
  obtain ⟨hc30, h⟩ := zbifo h
  refine zr_one (bif zin (s23.2 24 16) 4 then zN 220 [some (.ref 24), some (.int s28.1), none] [.int (s23.2 3 (s23.2 24 16).toNatClampNeg), .ref 24] (SH, s23.2, J) else none) rfl (zR_bif hc30 (zR_go ?_))
  refine zr_steps 6 (232, [some (.ref 24), some (.int s28.1), none], [.int (s23.2 24 16), .ref 37, .ref 24], (SH, (zu s23.2 24 17 (s23.2 3 (s23.2 24 16).toNatClampNeg)), J)) rfl ?_
  obtain ⟨hc31, h⟩ := zbifo h
  refine zr_one (bif zin (s23.2 24 16) 4 then zN 233 [some (.ref 24), some (.int s28.1), none] [.int (s23.2 37 (s23.2 24 16).toNatClampNeg), .ref 24] (SH, (zu s23.2 24 17 (s23.2 3 (s23.2 24 16).toNatClampNeg)), J) else none) rfl (zR_bif hc31 (zR_go ?_))
  refine zr_steps 3 (238, [some (.ref 24), some (.int s28.1), none], [], (SH, (zu (zu s23.2 24 17 (s23.2 3 (s23.2 24 16).toNatClampNeg)) 24 18 ((s23.2 37 (s23.2 24 16).toNatClampNeg) - s28.1)), J)) rfl ?_
  have he := Option.some.inj h
  subst he
  exact zr_one (some (.inr (.inr none))) rfl (zR_ret rfl rfl)
set_option maxRecDepth 100000 in
set_option maxHeartbeats 4000000 in
theorem ok_f40_pass_24_L6 {X : zX} {d : Nat} {r : Option Value} {M' : zM} (hd : 6 ≤ d) {J : (Nat → Nat → Int64)} : ∀ (n : Nat) (s x : (Int32 × (Nat → Nat → Int32))), zloop f40_pass_24_L6 n s = some x → (fun (x : (Int32 × (Nat → Nat → Int32))) => zRun X d 40 43 [some (.ref 24), none] [] (SH, x.2, J) r M') x → (fun (s : (Int32 × (Nat → Nat → Int32))) => zRun X d 40 6 [some (.ref 24), some (.int s.1)] [] (SH, s.2, J) r M') s := zloop_ok (B := f40_pass_24_L6) (Wh := fun (s : (Int32 × (Nat → Nat → Int32))) => zRun X d 40 6 [some (.ref 24), some (.int s.1)] [] (SH, s.2, J) r M') (Wx := fun (x : (Int32 × (Nat → Nat → Int32))) => zRun X d 40 43 [some (.ref 24), none] [] (SH, x.2, J) r M') (fun s y h w => by
  unfold f40_pass_24_L6 at h
  refine zr_steps 4 (14, [some (.ref 24), some (.int s.1)], [.int (s.2 25 0), .int s.1], (SH, s.2, J)) rfl ?_
  refine zr_one (if (s.2 25 0) ≤ s.1 then zN 43 [some (.ref 24), some (.int s.1)] [] (SH, s.2, J) else zN 17 [some (.ref 24), some (.int s.1)] [] (SH, s.2, J)) rfl (zR_if (fun hc11 => zR_go ?_) (fun hc11 => zR_go ?_))
  · rw [if_pos hc11] at h
    have he := Option.some.inj h
    subst he
    exact zr_hdr (ls2 := [some (.ref 24), none]) rfl rfl (show zRun X d 40 43 [some (.ref 24), none] [] (SH, s.2, J) r M' from w)
  · rw [if_neg hc11] at h
    refine zr_steps 2 (19, [some (.ref 24), some (.int s.1)], [.int s.1, .ref 24], (SH, s.2, J)) rfl ?_
    obtain ⟨t4, hc3, h⟩ := zbind h
    refine zr_one (some (.inr (.inl (42, [.ref 24, .int s.1], [], 22)))) rfl (zR_call (by omega) rfl (ok_f42_see_24 (by omega) s.1 _ hc3) ?_)
    refine zr_steps 2 (24, [some (.ref 24), some (.int s.1)], [.int s.1, .ref 24], (SH, t4, J)) rfl ?_
    obtain ⟨t6, hc5, h⟩ := zbind h
    refine zr_one (some (.inr (.inl (44, [.ref 24, .int s.1], [], 27)))) rfl (zR_call (by omega) rfl (ok_f44_arrive_24 (by omega) s.1 _ hc5) ?_)
    refine zr_steps 2 (29, [some (.ref 24), some (.int s.1)], [.int s.1, .ref 24], (SH, t6, J)) rfl ?_
    obtain ⟨t8, hc7, h⟩ := zbind h
    refine zr_one (some (.inr (.inl (45, [.ref 24, .int s.1], [], 32)))) rfl (zR_call (by omega) rfl (ok_f45_go_24 (by omega) s.1 _ hc7) ?_)
    refine zr_steps 2 (34, [some (.ref 24), some (.int s.1)], [.int s.1, .ref 24], (SH, t8, J)) rfl ?_
    obtain ⟨t10, hc9, h⟩ := zbind h
    refine zr_one (some (.inr (.inl (48, [.ref 24, .int s.1], [], 37)))) rfl (zR_call (by omega) rfl (ok_f48_end_24 (by omega) s.1 _ hc9) ?_)
    refine zr_steps 2 (6, [some (.ref 24), some (.int (s.1 + 1))], [], (SH, t10, J)) rfl ?_
    have he := Option.some.inj h
    subst he
    exact zr_hdr (ls2 := [some (.ref 24), some (.int (s.1 + 1))]) rfl rfl (show zRun X d 40 6 [some (.ref 24), some (.int (s.1 + 1))] [] (SH, t10, J) r M' from w))
set_option maxRecDepth 100000 in
set_option maxHeartbeats 4000000 in
theorem ok_f40_pass_24 {X : zX} {d : Nat} (hd : 6 ≤ d) {I : (Nat → Nat → Int32)} {J : (Nat → Nat → Int64)} (t : (Nat → Nat → Int32)) (h : f40_pass_24 I = some t) : zRun X d 40 0 (zent 40 [.ref 24]) [] (SH, I, J) none (SH, t, J) := by
  unfold f40_pass_24 at h
  refine zr_steps 1 (1, [some (.ref 24), none], [.ref 24], (SH, I, J)) rfl ?_
  obtain ⟨t2, hc1, h⟩ := zbind h
  refine zr_one (some (.inr (.inl (41, [.ref 24], [], 4)))) rfl (zR_call (by omega) rfl (ok_f41_begin_24 (by omega)  _ hc1) ?_)
  refine zr_steps 2 (6, [some (.ref 24), some (.int 0)], [], (SH, t2, J)) rfl ?_
  obtain ⟨s12, ho13, h⟩ := zbind h
  refine zr_hdr (ls2 := [some (.ref 24), some (.int 0)]) rfl rfl ?_
  refine ok_f40_pass_24_L6 (by omega) 5000 ((0 : Int32), t2) s12 ho13 ?_
  show zRun X d 40 43 [some (.ref 24), none] [] (SH, s12.2, J) _ _
  refine zr_steps 4 (51, [some (.ref 24), none], [.int (s12.2 25 0), .ref 24], (SH, s12.2, J)) rfl ?_
  obtain ⟨t15, hc14, h⟩ := zbind h
  refine zr_one (some (.inr (.inl (44, [.ref 24, .int (s12.2 25 0)], [], 54)))) rfl (zR_call (by omega) rfl (ok_f44_arrive_24 (by omega) (s12.2 25 0) _ hc14) ?_)
  refine zr_steps 4 (62, [some (.ref 24), none], [.int (t15 25 0), .ref 24], (SH, t15, J)) rfl ?_
  obtain ⟨t17, hc16, h⟩ := zbind h
  refine zr_one (some (.inr (.inl (48, [.ref 24, .int (t15 25 0)], [], 65)))) rfl (zR_call (by omega) rfl (ok_f48_end_24 (by omega) (t15 25 0) _ hc16) ?_)
  refine zr_steps 1 (66, [some (.ref 24), none], [.ref 24], (SH, t17, J)) rfl ?_
  obtain ⟨t19, hc18, h⟩ := zbind h
  refine zr_one (some (.inr (.inl (49, [.ref 24], [], 69)))) rfl (zR_call (by omega) rfl (ok_f49_tally_24 (by omega)  _ hc18) ?_)
  have he := Option.some.inj h
  subst he
  exact zr_one (some (.inr (.inr none))) rfl (zR_ret rfl rfl)
set_option maxRecDepth 100000 in
set_option maxHeartbeats 4000000 in
theorem ok_f96_run {X : zX} {d : Nat} (hd : 7 ≤ d) {I : (Nat → Nat → Int32)} {J : (Nat → Nat → Int64)} (t : (Int32 × (Nat → Nat → Int32))) (h : f96_run I = some t) : zRun X d 96 0 (zent 96 [.ref 0]) [] (SH, I, J) (some (.int t.1)) (SH, t.2, J) := by
  unfold f96_run at h
  refine zr_steps 3 (7, [some (.ref 0)], [.int (I 1 0)], (SH, I, J)) rfl ?_
  refine zr_one (if (I 1 0) = 0 then zN 10 [some (.ref 0)] [] (SH, I, J) else zN 13 [some (.ref 0)] [] (SH, I, J)) rfl (zR_if (fun hc5 => zR_go ?_) (fun hc5 => zR_go ?_))
  · rw [if_pos hc5] at h
    refine zr_steps 1 (12, [some (.ref 0)], [.int (-5)], (SH, I, J)) rfl ?_
    have he := Option.some.inj h
    subst he
    exact zr_one (some (.inr (.inr (some (.int (-5)))))) rfl (zR_ret rfl rfl)
  · rw [if_neg hc5] at h
    refine zr_steps 5 (24, [some (.ref 0)], [.ref 1, .ref 25], (SH, I, J)) rfl ?_
    obtain ⟨t2, hc1, h⟩ := zbind h
    refine zr_one (some (.inr (.inl (81, [.ref 25, .ref 1], [], 27)))) rfl (zR_call (by omega) rfl (ok_f81_asIn_25 (by omega)  _ hc1) ?_)
    refine zr_steps 2 (31, [some (.ref 0)], [.ref 24], (SH, t2, J)) rfl ?_
    obtain ⟨t4, hc3, h⟩ := zbind h
    refine zr_one (some (.inr (.inl (40, [.ref 24], [], 34)))) rfl (zR_call (by omega) rfl (ok_f40_pass_24 (by omega)  _ hc3) ?_)
    refine zr_steps 2 (36, [some (.ref 0)], [.int 1, .ref 0], (SH, t4, J)) rfl ?_
    refine zr_one (if (1 : Int32) = 0 ∨ (1 : Int32) = 1 then zN 39 [some (.ref 0)] [] (SH, (zu t4 0 7 1), J) else none) rfl (zR_pos (by decide) (zR_go ?_))
    refine zr_steps 3 (46, [some (.ref 0)], [.int (t4 24 17)], (SH, (zu t4 0 7 1), J)) rfl ?_
    have he := Option.some.inj h
    subst he
    exact zr_one (some (.inr (.inr (some (.int (t4 24 17)))))) rfl (zR_ret rfl rfl)
set_option maxRecDepth 100000 in
set_option maxHeartbeats 4000000 in
theorem ok_f166_inSquare_L26 {X : zX} {d : Nat} {r : Option Value} {M' : zM} (hd : 0 ≤ d) (v1 : Int32) {I : (Nat → Nat → Int32)} {J : (Nat → Nat → Int64)} : ∀ (n : Nat) (s x : (Int32 × Int32)), zloop (f166_inSquare_L26 v1 I) n s = some x → (fun (x : (Int32 × Int32)) => zRun X d 166 54 [none, none, some (.int x.1), none] [] (SH, I, J) r M') x → (fun (s : (Int32 × Int32)) => zRun X d 166 26 [some (.ref 73), some (.int v1), some (.int s.1), some (.int s.2)] [] (SH, I, J) r M') s := zloop_ok (B := (f166_inSquare_L26 v1 I)) (Wh := fun (s : (Int32 × Int32)) => zRun X d 166 26 [some (.ref 73), some (.int v1), some (.int s.1), some (.int s.2)] [] (SH, I, J) r M') (Wx := fun (x : (Int32 × Int32)) => zRun X d 166 54 [none, none, some (.int x.1), none] [] (SH, I, J) r M') (fun s y h w => by
  unfold f166_inSquare_L26 at h
  refine zr_steps 3 (31, [some (.ref 73), some (.int v1), some (.int s.1), some (.int s.2)], [.int (I 73 9), .int s.2], (SH, I, J)) rfl ?_
  refine zr_one (if (I 73 9) ≤ s.2 then zN 54 [some (.ref 73), some (.int v1), some (.int s.1), some (.int s.2)] [] (SH, I, J) else zN 34 [some (.ref 73), some (.int v1), some (.int s.1), some (.int s.2)] [] (SH, I, J)) rfl (zR_if (fun hc2 => zR_go ?_) (fun hc2 => zR_go ?_))
  · rw [if_pos hc2] at h
    have he := Option.some.inj h
    subst he
    exact zr_hdr (ls2 := [none, none, some (.int s.1), none]) rfl rfl (show zRun X d 166 54 [none, none, some (.int s.1), none] [] (SH, I, J) r M' from w)
  · rw [if_neg hc2] at h
    refine zr_steps 8 (45, [some (.ref 73), some (.int v1), some (.int s.1), some (.int s.2)], [.int ((8 * v1) + s.2), .ref 97, .int s.1], (SH, I, J)) rfl ?_
    obtain ⟨hc1, h⟩ := zbifo h
    refine zr_one (bif zin ((8 * v1) + s.2) 32 then zN 46 [some (.ref 73), some (.int v1), some (.int s.1), some (.int s.2)] [.int (I 97 ((8 * v1) + s.2).toNatClampNeg), .int s.1] (SH, I, J) else none) rfl (zR_bif hc1 (zR_go ?_))
    refine zr_steps 4 (26, [some (.ref 73), some (.int v1), some (.int (s.1 + (I 97 ((8 * v1) + s.2).toNatClampNeg))), some (.int (s.2 + 1))], [], (SH, I, J)) rfl ?_
    have he := Option.some.inj h
    subst he
    exact zr_hdr (ls2 := [some (.ref 73), some (.int v1), some (.int (s.1 + (I 97 ((8 * v1) + s.2).toNatClampNeg))), some (.int (s.2 + 1))]) rfl rfl (show zRun X d 166 26 [some (.ref 73), some (.int v1), some (.int (s.1 + (I 97 ((8 * v1) + s.2).toNatClampNeg))), some (.int (s.2 + 1))] [] (SH, I, J) r M' from w))
set_option maxRecDepth 100000 in
set_option maxHeartbeats 4000000 in
theorem ok_f166_inSquare {X : zX} {d : Nat} (hd : 0 ≤ d) (v1 : Int32) {I : (Nat → Nat → Int32)} {J : (Nat → Nat → Int64)} (t : Int32) (h : f166_inSquare v1 I = some t) : zRun X d 166 0 (zent 166 [.ref 73, .int v1]) [] (SH, I, J) (some (.int t)) (SH, I, J) := by
  unfold f166_inSquare at h
  refine zr_steps 2 (4, [some (.ref 73), some (.int v1), none, none], [.int (I 73 45)], (SH, I, J)) rfl ?_
  refine zr_one (if (I 73 45) ≤ 0 then zN 22 [some (.ref 73), some (.int v1), none, none] [] (SH, I, J) else zN 7 [some (.ref 73), some (.int v1), none, none] [] (SH, I, J)) rfl (zR_if (fun hc10 => zR_go ?_) (fun hc10 => zR_go ?_))
  · rw [if_pos hc10] at h
    refine zr_steps 4 (26, [some (.ref 73), some (.int v1), some (.int 0), some (.int 0)], [], (SH, I, J)) rfl ?_
    obtain ⟨s3, ho4, h⟩ := zbind h
    refine zr_hdr (ls2 := [some (.ref 73), some (.int v1), some (.int 0), some (.int 0)]) rfl rfl ?_
    refine ok_f166_inSquare_L26 (by omega) v1 5000 ((0 : Int32), (0 : Int32)) s3 ho4 ?_
    show zRun X d 166 54 [none, none, some (.int s3.1), none] [] (SH, I, J) _ _
    refine zr_steps 1 (55, [none, none, some (.int s3.1), none], [.int s3.1], (SH, I, J)) rfl ?_
    have he := Option.some.inj h
    subst he
    exact zr_one (some (.inr (.inr (some (.int s3.1))))) rfl (zR_ret rfl rfl)
  · rw [if_neg hc10] at h
    refine zr_steps 3 (12, [some (.ref 73), some (.int v1), none, none], [.int (I 73 46), .int v1], (SH, I, J)) rfl ?_
    refine zr_one (if v1 = (I 73 46) then zN 15 [some (.ref 73), some (.int v1), none, none] [] (SH, I, J) else zN 22 [some (.ref 73), some (.int v1), none, none] [] (SH, I, J)) rfl (zR_if (fun hc9 => zR_go ?_) (fun hc9 => zR_go ?_))
    · rw [if_pos hc9] at h
      refine zr_steps 6 (26, [some (.ref 73), some (.int v1), some (.int (I 73 45)), some (.int 0)], [], (SH, I, J)) rfl ?_
      obtain ⟨s5, ho6, h⟩ := zbind h
      refine zr_hdr (ls2 := [some (.ref 73), some (.int v1), some (.int (I 73 45)), some (.int 0)]) rfl rfl ?_
      refine ok_f166_inSquare_L26 (by omega) v1 5000 ((I 73 45), (0 : Int32)) s5 ho6 ?_
      show zRun X d 166 54 [none, none, some (.int s5.1), none] [] (SH, I, J) _ _
      refine zr_steps 1 (55, [none, none, some (.int s5.1), none], [.int s5.1], (SH, I, J)) rfl ?_
      have he := Option.some.inj h
      subst he
      exact zr_one (some (.inr (.inr (some (.int s5.1))))) rfl (zR_ret rfl rfl)
    · rw [if_neg hc9] at h
      refine zr_steps 4 (26, [some (.ref 73), some (.int v1), some (.int 0), some (.int 0)], [], (SH, I, J)) rfl ?_
      obtain ⟨s7, ho8, h⟩ := zbind h
      refine zr_hdr (ls2 := [some (.ref 73), some (.int v1), some (.int 0), some (.int 0)]) rfl rfl ?_
      refine ok_f166_inSquare_L26 (by omega) v1 5000 ((0 : Int32), (0 : Int32)) s7 ho8 ?_
      show zRun X d 166 54 [none, none, some (.int s7.1), none] [] (SH, I, J) _ _
      refine zr_steps 1 (55, [none, none, some (.int s7.1), none], [.int s7.1], (SH, I, J)) rfl ?_
      have he := Option.some.inj h
      subst he
      exact zr_one (some (.inr (.inr (some (.int s7.1))))) rfl (zR_ret rfl rfl)
set_option maxRecDepth 100000 in
set_option maxHeartbeats 4000000 in
theorem ok_f167_arrive_L26 {X : zX} {d : Nat} {r : Option Value} {M' : zM} (hd : 1 ≤ d) (v1 : Int32) (v2 : Int32) {J : (Nat → Nat → Int64)} : ∀ (n : Nat) (s x : (Int32 × Int32 × (Nat → Nat → Int32))), zloop (f167_arrive_L26 v1 v2) n s = some x → (fun (x : (Int32 × Int32 × (Nat → Nat → Int32))) => zRun X d 167 133 [some (.ref 73), some (.int v1), some (.int v2), none, none, none, none] [] (SH, x.2.2, J) r M') x → (fun (s : (Int32 × Int32 × (Nat → Nat → Int32))) => zRun X d 167 26 [some (.ref 73), some (.int v1), some (.int v2), some (.int s.1), some (.int s.2.1), none, none] [] (SH, s.2.2, J) r M') s := zloop_ok (B := (f167_arrive_L26 v1 v2)) (Wh := fun (s : (Int32 × Int32 × (Nat → Nat → Int32))) => zRun X d 167 26 [some (.ref 73), some (.int v1), some (.int v2), some (.int s.1), some (.int s.2.1), none, none] [] (SH, s.2.2, J) r M') (Wx := fun (x : (Int32 × Int32 × (Nat → Nat → Int32))) => zRun X d 167 133 [some (.ref 73), some (.int v1), some (.int v2), none, none, none, none] [] (SH, x.2.2, J) r M') (fun s y h w => by
  unfold f167_arrive_L26 at h
  refine zr_steps 3 (32, [some (.ref 73), some (.int v1), some (.int v2), some (.int s.1), some (.int s.2.1), none, none], [.int (s.2.2 73 9), .int s.2.1], (SH, s.2.2, J)) rfl ?_
  refine zr_one (if (s.2.2 73 9) ≤ s.2.1 then zN 133 [some (.ref 73), some (.int v1), some (.int v2), some (.int s.1), some (.int s.2.1), none, none] [] (SH, s.2.2, J) else zN 35 [some (.ref 73), some (.int v1), some (.int v2), some (.int s.1), some (.int s.2.1), none, none] [] (SH, s.2.2, J)) rfl (zR_if (fun hc20 => zR_go ?_) (fun hc20 => zR_go ?_))
  · rw [if_pos hc20] at h
    have he := Option.some.inj h
    subst he
    exact zr_hdr (ls2 := [some (.ref 73), some (.int v1), some (.int v2), none, none, none, none]) rfl rfl (show zRun X d 167 133 [some (.ref 73), some (.int v1), some (.int v2), none, none, none, none] [] (SH, s.2.2, J) r M' from w)
  · rw [if_neg hc20] at h
    refine zr_steps 10 (51, [some (.ref 73), some (.int v1), some (.int v2), some (.int s.1), some (.int s.2.1), some (.int ((8 * v2) + s.2.1)), none], [.int ((8 * v2) + s.2.1), .ref 98, .int ((8 * v2) + s.2.1), .ref 98], (SH, s.2.2, J)) rfl ?_
    obtain ⟨hc4, h⟩ := zbifo h
    refine zr_one (bif zin ((8 * v2) + s.2.1) 32 then zN 52 [some (.ref 73), some (.int v1), some (.int v2), some (.int s.1), some (.int s.2.1), some (.int ((8 * v2) + s.2.1)), none] [.int (s.2.2 98 ((8 * v2) + s.2.1).toNatClampNeg), .int ((8 * v2) + s.2.1), .ref 98] (SH, s.2.2, J) else none) rfl (zR_bif hc4 (zR_go ?_))
    refine zr_steps 7 (63, [some (.ref 73), some (.int v1), some (.int v2), some (.int s.1), some (.int s.2.1), some (.int ((8 * v2) + s.2.1)), none], [.int ((32 * v1) + ((8 * v2) + s.2.1)), .ref 99, .int (s.2.2 98 ((8 * v2) + s.2.1).toNatClampNeg), .int ((8 * v2) + s.2.1), .ref 98], (SH, s.2.2, J)) rfl ?_
    obtain ⟨hc5, h⟩ := zbifo h
    refine zr_one (bif zin ((32 * v1) + ((8 * v2) + s.2.1)) 4864 then zN 64 [some (.ref 73), some (.int v1), some (.int v2), some (.int s.1), some (.int s.2.1), some (.int ((8 * v2) + s.2.1)), none] [.int (s.2.2 99 ((32 * v1) + ((8 * v2) + s.2.1)).toNatClampNeg), .int (s.2.2 98 ((8 * v2) + s.2.1).toNatClampNeg), .int ((8 * v2) + s.2.1), .ref 98] (SH, s.2.2, J) else none) rfl (zR_bif hc5 (zR_go ?_))
    refine zr_steps 1 (65, [some (.ref 73), some (.int v1), some (.int v2), some (.int s.1), some (.int s.2.1), some (.int ((8 * v2) + s.2.1)), none], [.int ((s.2.2 98 ((8 * v2) + s.2.1).toNatClampNeg) + (s.2.2 99 ((32 * v1) + ((8 * v2) + s.2.1)).toNatClampNeg)), .int ((8 * v2) + s.2.1), .ref 98], (SH, s.2.2, J)) rfl ?_
    obtain ⟨hc6, h⟩ := zbifo h
    refine zr_one (bif zin ((8 * v2) + s.2.1) 32 then zN 66 [some (.ref 73), some (.int v1), some (.int v2), some (.int s.1), some (.int s.2.1), some (.int ((8 * v2) + s.2.1)), none] [] (SH, (zu s.2.2 98 ((8 * v2) + s.2.1).toNatClampNeg ((s.2.2 98 ((8 * v2) + s.2.1).toNatClampNeg) + (s.2.2 99 ((32 * v1) + ((8 * v2) + s.2.1)).toNatClampNeg))), J) else none) rfl (zR_bif hc6 (zR_go ?_))
    refine zr_steps 3 (72, [some (.ref 73), some (.int v1), some (.int v2), some (.int s.1), some (.int s.2.1), some (.int ((8 * v2) + s.2.1)), none], [.int ((8 * v2) + s.2.1), .ref 98], (SH, (zu s.2.2 98 ((8 * v2) + s.2.1).toNatClampNeg ((s.2.2 98 ((8 * v2) + s.2.1).toNatClampNeg) + (s.2.2 99 ((32 * v1) + ((8 * v2) + s.2.1)).toNatClampNeg))), J)) rfl ?_
    obtain ⟨hc7, h⟩ := zbifo h
    refine zr_one (bif zin ((8 * v2) + s.2.1) 32 then zN 73 [some (.ref 73), some (.int v1), some (.int v2), some (.int s.1), some (.int s.2.1), some (.int ((8 * v2) + s.2.1)), none] [.int ((zu s.2.2 98 ((8 * v2) + s.2.1).toNatClampNeg ((s.2.2 98 ((8 * v2) + s.2.1).toNatClampNeg) + (s.2.2 99 ((32 * v1) + ((8 * v2) + s.2.1)).toNatClampNeg))) 98 ((8 * v2) + s.2.1).toNatClampNeg)] (SH, (zu s.2.2 98 ((8 * v2) + s.2.1).toNatClampNeg ((s.2.2 98 ((8 * v2) + s.2.1).toNatClampNeg) + (s.2.2 99 ((32 * v1) + ((8 * v2) + s.2.1)).toNatClampNeg))), J) else none) rfl (zR_bif hc7 (zR_go ?_))
    refine zr_steps 1 (74, [some (.ref 73), some (.int v1), some (.int v2), some (.int s.1), some (.int s.2.1), some (.int ((8 * v2) + s.2.1)), none], [.int s.1, .int ((zu s.2.2 98 ((8 * v2) + s.2.1).toNatClampNeg ((s.2.2 98 ((8 * v2) + s.2.1).toNatClampNeg) + (s.2.2 99 ((32 * v1) + ((8 * v2) + s.2.1)).toNatClampNeg))) 98 ((8 * v2) + s.2.1).toNatClampNeg)], (SH, (zu s.2.2 98 ((8 * v2) + s.2.1).toNatClampNeg ((s.2.2 98 ((8 * v2) + s.2.1).toNatClampNeg) + (s.2.2 99 ((32 * v1) + ((8 * v2) + s.2.1)).toNatClampNeg))), J)) rfl ?_
    refine zr_one (if s.1 ≤ ((zu s.2.2 98 ((8 * v2) + s.2.1).toNatClampNeg ((s.2.2 98 ((8 * v2) + s.2.1).toNatClampNeg) + (s.2.2 99 ((32 * v1) + ((8 * v2) + s.2.1)).toNatClampNeg))) 98 ((8 * v2) + s.2.1).toNatClampNeg) then zN 87 [some (.ref 73), some (.int v1), some (.int v2), some (.int s.1), some (.int s.2.1), some (.int ((8 * v2) + s.2.1)), none] [] (SH, (zu s.2.2 98 ((8 * v2) + s.2.1).toNatClampNeg ((s.2.2 98 ((8 * v2) + s.2.1).toNatClampNeg) + (s.2.2 99 ((32 * v1) + ((8 * v2) + s.2.1)).toNatClampNeg))), J) else zN 77 [some (.ref 73), some (.int v1), some (.int v2), some (.int s.1), some (.int s.2.1), some (.int ((8 * v2) + s.2.1)), none] [] (SH, (zu s.2.2 98 ((8 * v2) + s.2.1).toNatClampNeg ((s.2.2 98 ((8 * v2) + s.2.1).toNatClampNeg) + (s.2.2 99 ((32 * v1) + ((8 * v2) + s.2.1)).toNatClampNeg))), J)) rfl (zR_if (fun hc19 => zR_go ?_) (fun hc19 => zR_go ?_))
    · rw [if_pos hc19] at h
      refine zr_steps 3 (92, [some (.ref 73), some (.int v1), some (.int v2), some (.int s.1), some (.int s.2.1), some (.int ((8 * v2) + s.2.1)), some (.int s.1)], [.int s.1], (SH, (zu s.2.2 98 ((8 * v2) + s.2.1).toNatClampNeg ((s.2.2 98 ((8 * v2) + s.2.1).toNatClampNeg) + (s.2.2 99 ((32 * v1) + ((8 * v2) + s.2.1)).toNatClampNeg))), J)) rfl ?_
      refine zr_one (if (0 : Int32) < s.1 then zN 98 [some (.ref 73), some (.int v1), some (.int v2), some (.int s.1), some (.int s.2.1), some (.int ((8 * v2) + s.2.1)), some (.int s.1)] [] (SH, (zu s.2.2 98 ((8 * v2) + s.2.1).toNatClampNeg ((s.2.2 98 ((8 * v2) + s.2.1).toNatClampNeg) + (s.2.2 99 ((32 * v1) + ((8 * v2) + s.2.1)).toNatClampNeg))), J) else zN 95 [some (.ref 73), some (.int v1), some (.int v2), some (.int s.1), some (.int s.2.1), some (.int ((8 * v2) + s.2.1)), some (.int s.1)] [] (SH, (zu s.2.2 98 ((8 * v2) + s.2.1).toNatClampNeg ((s.2.2 98 ((8 * v2) + s.2.1).toNatClampNeg) + (s.2.2 99 ((32 * v1) + ((8 * v2) + s.2.1)).toNatClampNeg))), J)) rfl (zR_if (fun hc12 => zR_go ?_) (fun hc12 => zR_go ?_))
      · rw [if_pos hc12] at h
        refine zr_steps 4 (105, [some (.ref 73), some (.int v1), some (.int v2), some (.int s.1), some (.int s.2.1), some (.int ((8 * v2) + s.2.1)), some (.int s.1)], [.int ((8 * v2) + s.2.1), .ref 98, .int ((8 * v2) + s.2.1), .ref 98], (SH, (zu s.2.2 98 ((8 * v2) + s.2.1).toNatClampNeg ((s.2.2 98 ((8 * v2) + s.2.1).toNatClampNeg) + (s.2.2 99 ((32 * v1) + ((8 * v2) + s.2.1)).toNatClampNeg))), J)) rfl ?_
        obtain ⟨hc8, h⟩ := zbifo h
        refine zr_one (bif zin ((8 * v2) + s.2.1) 32 then zN 106 [some (.ref 73), some (.int v1), some (.int v2), some (.int s.1), some (.int s.2.1), some (.int ((8 * v2) + s.2.1)), some (.int s.1)] [.int ((zu s.2.2 98 ((8 * v2) + s.2.1).toNatClampNeg ((s.2.2 98 ((8 * v2) + s.2.1).toNatClampNeg) + (s.2.2 99 ((32 * v1) + ((8 * v2) + s.2.1)).toNatClampNeg))) 98 ((8 * v2) + s.2.1).toNatClampNeg), .int ((8 * v2) + s.2.1), .ref 98] (SH, (zu s.2.2 98 ((8 * v2) + s.2.1).toNatClampNeg ((s.2.2 98 ((8 * v2) + s.2.1).toNatClampNeg) + (s.2.2 99 ((32 * v1) + ((8 * v2) + s.2.1)).toNatClampNeg))), J) else none) rfl (zR_bif hc8 (zR_go ?_))
        refine zr_steps 2 (109, [some (.ref 73), some (.int v1), some (.int v2), some (.int s.1), some (.int s.2.1), some (.int ((8 * v2) + s.2.1)), some (.int s.1)], [.int (((zu s.2.2 98 ((8 * v2) + s.2.1).toNatClampNeg ((s.2.2 98 ((8 * v2) + s.2.1).toNatClampNeg) + (s.2.2 99 ((32 * v1) + ((8 * v2) + s.2.1)).toNatClampNeg))) 98 ((8 * v2) + s.2.1).toNatClampNeg) - s.1), .int ((8 * v2) + s.2.1), .ref 98], (SH, (zu s.2.2 98 ((8 * v2) + s.2.1).toNatClampNeg ((s.2.2 98 ((8 * v2) + s.2.1).toNatClampNeg) + (s.2.2 99 ((32 * v1) + ((8 * v2) + s.2.1)).toNatClampNeg))), J)) rfl ?_
        obtain ⟨hc9, h⟩ := zbifo h
        refine zr_one (bif zin ((8 * v2) + s.2.1) 32 then zN 110 [some (.ref 73), some (.int v1), some (.int v2), some (.int s.1), some (.int s.2.1), some (.int ((8 * v2) + s.2.1)), some (.int s.1)] [] (SH, (zu (zu s.2.2 98 ((8 * v2) + s.2.1).toNatClampNeg ((s.2.2 98 ((8 * v2) + s.2.1).toNatClampNeg) + (s.2.2 99 ((32 * v1) + ((8 * v2) + s.2.1)).toNatClampNeg))) 98 ((8 * v2) + s.2.1).toNatClampNeg (((zu s.2.2 98 ((8 * v2) + s.2.1).toNatClampNeg ((s.2.2 98 ((8 * v2) + s.2.1).toNatClampNeg) + (s.2.2 99 ((32 * v1) + ((8 * v2) + s.2.1)).toNatClampNeg))) 98 ((8 * v2) + s.2.1).toNatClampNeg) - s.1)), J) else none) rfl (zR_bif hc9 (zR_go ?_))
        refine zr_steps 4 (117, [some (.ref 73), some (.int v1), some (.int v2), some (.int s.1), some (.int s.2.1), some (.int ((8 * v2) + s.2.1)), some (.int s.1)], [.int ((8 * v2) + s.2.1), .ref 97, .int ((8 * v2) + s.2.1), .ref 97], (SH, (zu (zu s.2.2 98 ((8 * v2) + s.2.1).toNatClampNeg ((s.2.2 98 ((8 * v2) + s.2.1).toNatClampNeg) + (s.2.2 99 ((32 * v1) + ((8 * v2) + s.2.1)).toNatClampNeg))) 98 ((8 * v2) + s.2.1).toNatClampNeg (((zu s.2.2 98 ((8 * v2) + s.2.1).toNatClampNeg ((s.2.2 98 ((8 * v2) + s.2.1).toNatClampNeg) + (s.2.2 99 ((32 * v1) + ((8 * v2) + s.2.1)).toNatClampNeg))) 98 ((8 * v2) + s.2.1).toNatClampNeg) - s.1)), J)) rfl ?_
        obtain ⟨hc10, h⟩ := zbifo h
        refine zr_one (bif zin ((8 * v2) + s.2.1) 32 then zN 118 [some (.ref 73), some (.int v1), some (.int v2), some (.int s.1), some (.int s.2.1), some (.int ((8 * v2) + s.2.1)), some (.int s.1)] [.int (s.2.2 97 ((8 * v2) + s.2.1).toNatClampNeg), .int ((8 * v2) + s.2.1), .ref 97] (SH, (zu (zu s.2.2 98 ((8 * v2) + s.2.1).toNatClampNeg ((s.2.2 98 ((8 * v2) + s.2.1).toNatClampNeg) + (s.2.2 99 ((32 * v1) + ((8 * v2) + s.2.1)).toNatClampNeg))) 98 ((8 * v2) + s.2.1).toNatClampNeg (((zu s.2.2 98 ((8 * v2) + s.2.1).toNatClampNeg ((s.2.2 98 ((8 * v2) + s.2.1).toNatClampNeg) + (s.2.2 99 ((32 * v1) + ((8 * v2) + s.2.1)).toNatClampNeg))) 98 ((8 * v2) + s.2.1).toNatClampNeg) - s.1)), J) else none) rfl (zR_bif hc10 (zR_go ?_))
        refine zr_steps 2 (121, [some (.ref 73), some (.int v1), some (.int v2), some (.int s.1), some (.int s.2.1), some (.int ((8 * v2) + s.2.1)), some (.int s.1)], [.int ((s.2.2 97 ((8 * v2) + s.2.1).toNatClampNeg) + s.1), .int ((8 * v2) + s.2.1), .ref 97], (SH, (zu (zu s.2.2 98 ((8 * v2) + s.2.1).toNatClampNeg ((s.2.2 98 ((8 * v2) + s.2.1).toNatClampNeg) + (s.2.2 99 ((32 * v1) + ((8 * v2) + s.2.1)).toNatClampNeg))) 98 ((8 * v2) + s.2.1).toNatClampNeg (((zu s.2.2 98 ((8 * v2) + s.2.1).toNatClampNeg ((s.2.2 98 ((8 * v2) + s.2.1).toNatClampNeg) + (s.2.2 99 ((32 * v1) + ((8 * v2) + s.2.1)).toNatClampNeg))) 98 ((8 * v2) + s.2.1).toNatClampNeg) - s.1)), J)) rfl ?_
        obtain ⟨hc11, h⟩ := zbifo h
        refine zr_one (bif zin ((8 * v2) + s.2.1) 32 then zN 122 [some (.ref 73), some (.int v1), some (.int v2), some (.int s.1), some (.int s.2.1), some (.int ((8 * v2) + s.2.1)), some (.int s.1)] [] (SH, (zu (zu (zu s.2.2 98 ((8 * v2) + s.2.1).toNatClampNeg ((s.2.2 98 ((8 * v2) + s.2.1).toNatClampNeg) + (s.2.2 99 ((32 * v1) + ((8 * v2) + s.2.1)).toNatClampNeg))) 98 ((8 * v2) + s.2.1).toNatClampNeg (((zu s.2.2 98 ((8 * v2) + s.2.1).toNatClampNeg ((s.2.2 98 ((8 * v2) + s.2.1).toNatClampNeg) + (s.2.2 99 ((32 * v1) + ((8 * v2) + s.2.1)).toNatClampNeg))) 98 ((8 * v2) + s.2.1).toNatClampNeg) - s.1)) 97 ((8 * v2) + s.2.1).toNatClampNeg ((s.2.2 97 ((8 * v2) + s.2.1).toNatClampNeg) + s.1)), J) else none) rfl (zR_bif hc11 (zR_go ?_))
        refine zr_steps 6 (26, [some (.ref 73), some (.int v1), some (.int v2), some (.int (s.1 - s.1)), some (.int (s.2.1 + 1)), some (.int ((8 * v2) + s.2.1)), some (.int s.1)], [], (SH, (zu (zu (zu s.2.2 98 ((8 * v2) + s.2.1).toNatClampNeg ((s.2.2 98 ((8 * v2) + s.2.1).toNatClampNeg) + (s.2.2 99 ((32 * v1) + ((8 * v2) + s.2.1)).toNatClampNeg))) 98 ((8 * v2) + s.2.1).toNatClampNeg (((zu s.2.2 98 ((8 * v2) + s.2.1).toNatClampNeg ((s.2.2 98 ((8 * v2) + s.2.1).toNatClampNeg) + (s.2.2 99 ((32 * v1) + ((8 * v2) + s.2.1)).toNatClampNeg))) 98 ((8 * v2) + s.2.1).toNatClampNeg) - s.1)) 97 ((8 * v2) + s.2.1).toNatClampNeg ((s.2.2 97 ((8 * v2) + s.2.1).toNatClampNeg) + s.1)), J)) rfl ?_
        have he := Option.some.inj h
        subst he
        exact zr_hdr (ls2 := [some (.ref 73), some (.int v1), some (.int v2), some (.int (s.1 - s.1)), some (.int (s.2.1 + 1)), none, none]) rfl rfl (show zRun X d 167 26 [some (.ref 73), some (.int v1), some (.int v2), some (.int (s.1 - s.1)), some (.int (s.2.1 + 1)), none, none] [] (SH, (zu (zu (zu s.2.2 98 ((8 * v2) + s.2.1).toNatClampNeg ((s.2.2 98 ((8 * v2) + s.2.1).toNatClampNeg) + (s.2.2 99 ((32 * v1) + ((8 * v2) + s.2.1)).toNatClampNeg))) 98 ((8 * v2) + s.2.1).toNatClampNeg (((zu s.2.2 98 ((8 * v2) + s.2.1).toNatClampNeg ((s.2.2 98 ((8 * v2) + s.2.1).toNatClampNeg) + (s.2.2 99 ((32 * v1) + ((8 * v2) + s.2.1)).toNatClampNeg))) 98 ((8 * v2) + s.2.1).toNatClampNeg) - s.1)) 97 ((8 * v2) + s.2.1).toNatClampNeg ((s.2.2 97 ((8 * v2) + s.2.1).toNatClampNeg) + s.1)), J) r M' from w)
      · rw [if_neg hc12] at h
        refine zr_steps 3 (26, [some (.ref 73), some (.int v1), some (.int v2), some (.int s.1), some (.int (s.2.1 + 1)), some (.int ((8 * v2) + s.2.1)), some (.int s.1)], [], (SH, (zu s.2.2 98 ((8 * v2) + s.2.1).toNatClampNeg ((s.2.2 98 ((8 * v2) + s.2.1).toNatClampNeg) + (s.2.2 99 ((32 * v1) + ((8 * v2) + s.2.1)).toNatClampNeg))), J)) rfl ?_
        have he := Option.some.inj h
        subst he
        exact zr_hdr (ls2 := [some (.ref 73), some (.int v1), some (.int v2), some (.int s.1), some (.int (s.2.1 + 1)), none, none]) rfl rfl (show zRun X d 167 26 [some (.ref 73), some (.int v1), some (.int v2), some (.int s.1), some (.int (s.2.1 + 1)), none, none] [] (SH, (zu s.2.2 98 ((8 * v2) + s.2.1).toNatClampNeg ((s.2.2 98 ((8 * v2) + s.2.1).toNatClampNeg) + (s.2.2 99 ((32 * v1) + ((8 * v2) + s.2.1)).toNatClampNeg))), J) r M' from w)
    · rw [if_neg hc19] at h
      refine zr_steps 3 (83, [some (.ref 73), some (.int v1), some (.int v2), some (.int s.1), some (.int s.2.1), some (.int ((8 * v2) + s.2.1)), none], [.int ((8 * v2) + s.2.1), .ref 98], (SH, (zu s.2.2 98 ((8 * v2) + s.2.1).toNatClampNeg ((s.2.2 98 ((8 * v2) + s.2.1).toNatClampNeg) + (s.2.2 99 ((32 * v1) + ((8 * v2) + s.2.1)).toNatClampNeg))), J)) rfl ?_
      obtain ⟨hc13, h⟩ := zbifo h
      refine zr_one (bif zin ((8 * v2) + s.2.1) 32 then zN 84 [some (.ref 73), some (.int v1), some (.int v2), some (.int s.1), some (.int s.2.1), some (.int ((8 * v2) + s.2.1)), none] [.int ((zu s.2.2 98 ((8 * v2) + s.2.1).toNatClampNeg ((s.2.2 98 ((8 * v2) + s.2.1).toNatClampNeg) + (s.2.2 99 ((32 * v1) + ((8 * v2) + s.2.1)).toNatClampNeg))) 98 ((8 * v2) + s.2.1).toNatClampNeg)] (SH, (zu s.2.2 98 ((8 * v2) + s.2.1).toNatClampNeg ((s.2.2 98 ((8 * v2) + s.2.1).toNatClampNeg) + (s.2.2 99 ((32 * v1) + ((8 * v2) + s.2.1)).toNatClampNeg))), J) else none) rfl (zR_bif hc13 (zR_go ?_))
      refine zr_steps 3 (92, [some (.ref 73), some (.int v1), some (.int v2), some (.int s.1), some (.int s.2.1), some (.int ((8 * v2) + s.2.1)), some (.int ((zu s.2.2 98 ((8 * v2) + s.2.1).toNatClampNeg ((s.2.2 98 ((8 * v2) + s.2.1).toNatClampNeg) + (s.2.2 99 ((32 * v1) + ((8 * v2) + s.2.1)).toNatClampNeg))) 98 ((8 * v2) + s.2.1).toNatClampNeg))], [.int ((zu s.2.2 98 ((8 * v2) + s.2.1).toNatClampNeg ((s.2.2 98 ((8 * v2) + s.2.1).toNatClampNeg) + (s.2.2 99 ((32 * v1) + ((8 * v2) + s.2.1)).toNatClampNeg))) 98 ((8 * v2) + s.2.1).toNatClampNeg)], (SH, (zu s.2.2 98 ((8 * v2) + s.2.1).toNatClampNeg ((s.2.2 98 ((8 * v2) + s.2.1).toNatClampNeg) + (s.2.2 99 ((32 * v1) + ((8 * v2) + s.2.1)).toNatClampNeg))), J)) rfl ?_
      refine zr_one (if (0 : Int32) < ((zu s.2.2 98 ((8 * v2) + s.2.1).toNatClampNeg ((s.2.2 98 ((8 * v2) + s.2.1).toNatClampNeg) + (s.2.2 99 ((32 * v1) + ((8 * v2) + s.2.1)).toNatClampNeg))) 98 ((8 * v2) + s.2.1).toNatClampNeg) then zN 98 [some (.ref 73), some (.int v1), some (.int v2), some (.int s.1), some (.int s.2.1), some (.int ((8 * v2) + s.2.1)), some (.int ((zu s.2.2 98 ((8 * v2) + s.2.1).toNatClampNeg ((s.2.2 98 ((8 * v2) + s.2.1).toNatClampNeg) + (s.2.2 99 ((32 * v1) + ((8 * v2) + s.2.1)).toNatClampNeg))) 98 ((8 * v2) + s.2.1).toNatClampNeg))] [] (SH, (zu s.2.2 98 ((8 * v2) + s.2.1).toNatClampNeg ((s.2.2 98 ((8 * v2) + s.2.1).toNatClampNeg) + (s.2.2 99 ((32 * v1) + ((8 * v2) + s.2.1)).toNatClampNeg))), J) else zN 95 [some (.ref 73), some (.int v1), some (.int v2), some (.int s.1), some (.int s.2.1), some (.int ((8 * v2) + s.2.1)), some (.int ((zu s.2.2 98 ((8 * v2) + s.2.1).toNatClampNeg ((s.2.2 98 ((8 * v2) + s.2.1).toNatClampNeg) + (s.2.2 99 ((32 * v1) + ((8 * v2) + s.2.1)).toNatClampNeg))) 98 ((8 * v2) + s.2.1).toNatClampNeg))] [] (SH, (zu s.2.2 98 ((8 * v2) + s.2.1).toNatClampNeg ((s.2.2 98 ((8 * v2) + s.2.1).toNatClampNeg) + (s.2.2 99 ((32 * v1) + ((8 * v2) + s.2.1)).toNatClampNeg))), J)) rfl (zR_if (fun hc18 => zR_go ?_) (fun hc18 => zR_go ?_))
      · rw [if_pos hc18] at h
        refine zr_steps 4 (105, [some (.ref 73), some (.int v1), some (.int v2), some (.int s.1), some (.int s.2.1), some (.int ((8 * v2) + s.2.1)), some (.int ((zu s.2.2 98 ((8 * v2) + s.2.1).toNatClampNeg ((s.2.2 98 ((8 * v2) + s.2.1).toNatClampNeg) + (s.2.2 99 ((32 * v1) + ((8 * v2) + s.2.1)).toNatClampNeg))) 98 ((8 * v2) + s.2.1).toNatClampNeg))], [.int ((8 * v2) + s.2.1), .ref 98, .int ((8 * v2) + s.2.1), .ref 98], (SH, (zu s.2.2 98 ((8 * v2) + s.2.1).toNatClampNeg ((s.2.2 98 ((8 * v2) + s.2.1).toNatClampNeg) + (s.2.2 99 ((32 * v1) + ((8 * v2) + s.2.1)).toNatClampNeg))), J)) rfl ?_
        obtain ⟨hc14, h⟩ := zbifo h
        refine zr_one (bif zin ((8 * v2) + s.2.1) 32 then zN 106 [some (.ref 73), some (.int v1), some (.int v2), some (.int s.1), some (.int s.2.1), some (.int ((8 * v2) + s.2.1)), some (.int ((zu s.2.2 98 ((8 * v2) + s.2.1).toNatClampNeg ((s.2.2 98 ((8 * v2) + s.2.1).toNatClampNeg) + (s.2.2 99 ((32 * v1) + ((8 * v2) + s.2.1)).toNatClampNeg))) 98 ((8 * v2) + s.2.1).toNatClampNeg))] [.int ((zu s.2.2 98 ((8 * v2) + s.2.1).toNatClampNeg ((s.2.2 98 ((8 * v2) + s.2.1).toNatClampNeg) + (s.2.2 99 ((32 * v1) + ((8 * v2) + s.2.1)).toNatClampNeg))) 98 ((8 * v2) + s.2.1).toNatClampNeg), .int ((8 * v2) + s.2.1), .ref 98] (SH, (zu s.2.2 98 ((8 * v2) + s.2.1).toNatClampNeg ((s.2.2 98 ((8 * v2) + s.2.1).toNatClampNeg) + (s.2.2 99 ((32 * v1) + ((8 * v2) + s.2.1)).toNatClampNeg))), J) else none) rfl (zR_bif hc14 (zR_go ?_))
        refine zr_steps 2 (109, [some (.ref 73), some (.int v1), some (.int v2), some (.int s.1), some (.int s.2.1), some (.int ((8 * v2) + s.2.1)), some (.int ((zu s.2.2 98 ((8 * v2) + s.2.1).toNatClampNeg ((s.2.2 98 ((8 * v2) + s.2.1).toNatClampNeg) + (s.2.2 99 ((32 * v1) + ((8 * v2) + s.2.1)).toNatClampNeg))) 98 ((8 * v2) + s.2.1).toNatClampNeg))], [.int (((zu s.2.2 98 ((8 * v2) + s.2.1).toNatClampNeg ((s.2.2 98 ((8 * v2) + s.2.1).toNatClampNeg) + (s.2.2 99 ((32 * v1) + ((8 * v2) + s.2.1)).toNatClampNeg))) 98 ((8 * v2) + s.2.1).toNatClampNeg) - ((zu s.2.2 98 ((8 * v2) + s.2.1).toNatClampNeg ((s.2.2 98 ((8 * v2) + s.2.1).toNatClampNeg) + (s.2.2 99 ((32 * v1) + ((8 * v2) + s.2.1)).toNatClampNeg))) 98 ((8 * v2) + s.2.1).toNatClampNeg)), .int ((8 * v2) + s.2.1), .ref 98], (SH, (zu s.2.2 98 ((8 * v2) + s.2.1).toNatClampNeg ((s.2.2 98 ((8 * v2) + s.2.1).toNatClampNeg) + (s.2.2 99 ((32 * v1) + ((8 * v2) + s.2.1)).toNatClampNeg))), J)) rfl ?_
        obtain ⟨hc15, h⟩ := zbifo h
        refine zr_one (bif zin ((8 * v2) + s.2.1) 32 then zN 110 [some (.ref 73), some (.int v1), some (.int v2), some (.int s.1), some (.int s.2.1), some (.int ((8 * v2) + s.2.1)), some (.int ((zu s.2.2 98 ((8 * v2) + s.2.1).toNatClampNeg ((s.2.2 98 ((8 * v2) + s.2.1).toNatClampNeg) + (s.2.2 99 ((32 * v1) + ((8 * v2) + s.2.1)).toNatClampNeg))) 98 ((8 * v2) + s.2.1).toNatClampNeg))] [] (SH, (zu (zu s.2.2 98 ((8 * v2) + s.2.1).toNatClampNeg ((s.2.2 98 ((8 * v2) + s.2.1).toNatClampNeg) + (s.2.2 99 ((32 * v1) + ((8 * v2) + s.2.1)).toNatClampNeg))) 98 ((8 * v2) + s.2.1).toNatClampNeg (((zu s.2.2 98 ((8 * v2) + s.2.1).toNatClampNeg ((s.2.2 98 ((8 * v2) + s.2.1).toNatClampNeg) + (s.2.2 99 ((32 * v1) + ((8 * v2) + s.2.1)).toNatClampNeg))) 98 ((8 * v2) + s.2.1).toNatClampNeg) - ((zu s.2.2 98 ((8 * v2) + s.2.1).toNatClampNeg ((s.2.2 98 ((8 * v2) + s.2.1).toNatClampNeg) + (s.2.2 99 ((32 * v1) + ((8 * v2) + s.2.1)).toNatClampNeg))) 98 ((8 * v2) + s.2.1).toNatClampNeg))), J) else none) rfl (zR_bif hc15 (zR_go ?_))
        refine zr_steps 4 (117, [some (.ref 73), some (.int v1), some (.int v2), some (.int s.1), some (.int s.2.1), some (.int ((8 * v2) + s.2.1)), some (.int ((zu s.2.2 98 ((8 * v2) + s.2.1).toNatClampNeg ((s.2.2 98 ((8 * v2) + s.2.1).toNatClampNeg) + (s.2.2 99 ((32 * v1) + ((8 * v2) + s.2.1)).toNatClampNeg))) 98 ((8 * v2) + s.2.1).toNatClampNeg))], [.int ((8 * v2) + s.2.1), .ref 97, .int ((8 * v2) + s.2.1), .ref 97], (SH, (zu (zu s.2.2 98 ((8 * v2) + s.2.1).toNatClampNeg ((s.2.2 98 ((8 * v2) + s.2.1).toNatClampNeg) + (s.2.2 99 ((32 * v1) + ((8 * v2) + s.2.1)).toNatClampNeg))) 98 ((8 * v2) + s.2.1).toNatClampNeg (((zu s.2.2 98 ((8 * v2) + s.2.1).toNatClampNeg ((s.2.2 98 ((8 * v2) + s.2.1).toNatClampNeg) + (s.2.2 99 ((32 * v1) + ((8 * v2) + s.2.1)).toNatClampNeg))) 98 ((8 * v2) + s.2.1).toNatClampNeg) - ((zu s.2.2 98 ((8 * v2) + s.2.1).toNatClampNeg ((s.2.2 98 ((8 * v2) + s.2.1).toNatClampNeg) + (s.2.2 99 ((32 * v1) + ((8 * v2) + s.2.1)).toNatClampNeg))) 98 ((8 * v2) + s.2.1).toNatClampNeg))), J)) rfl ?_
        obtain ⟨hc16, h⟩ := zbifo h
        refine zr_one (bif zin ((8 * v2) + s.2.1) 32 then zN 118 [some (.ref 73), some (.int v1), some (.int v2), some (.int s.1), some (.int s.2.1), some (.int ((8 * v2) + s.2.1)), some (.int ((zu s.2.2 98 ((8 * v2) + s.2.1).toNatClampNeg ((s.2.2 98 ((8 * v2) + s.2.1).toNatClampNeg) + (s.2.2 99 ((32 * v1) + ((8 * v2) + s.2.1)).toNatClampNeg))) 98 ((8 * v2) + s.2.1).toNatClampNeg))] [.int (s.2.2 97 ((8 * v2) + s.2.1).toNatClampNeg), .int ((8 * v2) + s.2.1), .ref 97] (SH, (zu (zu s.2.2 98 ((8 * v2) + s.2.1).toNatClampNeg ((s.2.2 98 ((8 * v2) + s.2.1).toNatClampNeg) + (s.2.2 99 ((32 * v1) + ((8 * v2) + s.2.1)).toNatClampNeg))) 98 ((8 * v2) + s.2.1).toNatClampNeg (((zu s.2.2 98 ((8 * v2) + s.2.1).toNatClampNeg ((s.2.2 98 ((8 * v2) + s.2.1).toNatClampNeg) + (s.2.2 99 ((32 * v1) + ((8 * v2) + s.2.1)).toNatClampNeg))) 98 ((8 * v2) + s.2.1).toNatClampNeg) - ((zu s.2.2 98 ((8 * v2) + s.2.1).toNatClampNeg ((s.2.2 98 ((8 * v2) + s.2.1).toNatClampNeg) + (s.2.2 99 ((32 * v1) + ((8 * v2) + s.2.1)).toNatClampNeg))) 98 ((8 * v2) + s.2.1).toNatClampNeg))), J) else none) rfl (zR_bif hc16 (zR_go ?_))
        refine zr_steps 2 (121, [some (.ref 73), some (.int v1), some (.int v2), some (.int s.1), some (.int s.2.1), some (.int ((8 * v2) + s.2.1)), some (.int ((zu s.2.2 98 ((8 * v2) + s.2.1).toNatClampNeg ((s.2.2 98 ((8 * v2) + s.2.1).toNatClampNeg) + (s.2.2 99 ((32 * v1) + ((8 * v2) + s.2.1)).toNatClampNeg))) 98 ((8 * v2) + s.2.1).toNatClampNeg))], [.int ((s.2.2 97 ((8 * v2) + s.2.1).toNatClampNeg) + ((zu s.2.2 98 ((8 * v2) + s.2.1).toNatClampNeg ((s.2.2 98 ((8 * v2) + s.2.1).toNatClampNeg) + (s.2.2 99 ((32 * v1) + ((8 * v2) + s.2.1)).toNatClampNeg))) 98 ((8 * v2) + s.2.1).toNatClampNeg)), .int ((8 * v2) + s.2.1), .ref 97], (SH, (zu (zu s.2.2 98 ((8 * v2) + s.2.1).toNatClampNeg ((s.2.2 98 ((8 * v2) + s.2.1).toNatClampNeg) + (s.2.2 99 ((32 * v1) + ((8 * v2) + s.2.1)).toNatClampNeg))) 98 ((8 * v2) + s.2.1).toNatClampNeg (((zu s.2.2 98 ((8 * v2) + s.2.1).toNatClampNeg ((s.2.2 98 ((8 * v2) + s.2.1).toNatClampNeg) + (s.2.2 99 ((32 * v1) + ((8 * v2) + s.2.1)).toNatClampNeg))) 98 ((8 * v2) + s.2.1).toNatClampNeg) - ((zu s.2.2 98 ((8 * v2) + s.2.1).toNatClampNeg ((s.2.2 98 ((8 * v2) + s.2.1).toNatClampNeg) + (s.2.2 99 ((32 * v1) + ((8 * v2) + s.2.1)).toNatClampNeg))) 98 ((8 * v2) + s.2.1).toNatClampNeg))), J)) rfl ?_
        obtain ⟨hc17, h⟩ := zbifo h
        refine zr_one (bif zin ((8 * v2) + s.2.1) 32 then zN 122 [some (.ref 73), some (.int v1), some (.int v2), some (.int s.1), some (.int s.2.1), some (.int ((8 * v2) + s.2.1)), some (.int ((zu s.2.2 98 ((8 * v2) + s.2.1).toNatClampNeg ((s.2.2 98 ((8 * v2) + s.2.1).toNatClampNeg) + (s.2.2 99 ((32 * v1) + ((8 * v2) + s.2.1)).toNatClampNeg))) 98 ((8 * v2) + s.2.1).toNatClampNeg))] [] (SH, (zu (zu (zu s.2.2 98 ((8 * v2) + s.2.1).toNatClampNeg ((s.2.2 98 ((8 * v2) + s.2.1).toNatClampNeg) + (s.2.2 99 ((32 * v1) + ((8 * v2) + s.2.1)).toNatClampNeg))) 98 ((8 * v2) + s.2.1).toNatClampNeg (((zu s.2.2 98 ((8 * v2) + s.2.1).toNatClampNeg ((s.2.2 98 ((8 * v2) + s.2.1).toNatClampNeg) + (s.2.2 99 ((32 * v1) + ((8 * v2) + s.2.1)).toNatClampNeg))) 98 ((8 * v2) + s.2.1).toNatClampNeg) - ((zu s.2.2 98 ((8 * v2) + s.2.1).toNatClampNeg ((s.2.2 98 ((8 * v2) + s.2.1).toNatClampNeg) + (s.2.2 99 ((32 * v1) + ((8 * v2) + s.2.1)).toNatClampNeg))) 98 ((8 * v2) + s.2.1).toNatClampNeg))) 97 ((8 * v2) + s.2.1).toNatClampNeg ((s.2.2 97 ((8 * v2) + s.2.1).toNatClampNeg) + ((zu s.2.2 98 ((8 * v2) + s.2.1).toNatClampNeg ((s.2.2 98 ((8 * v2) + s.2.1).toNatClampNeg) + (s.2.2 99 ((32 * v1) + ((8 * v2) + s.2.1)).toNatClampNeg))) 98 ((8 * v2) + s.2.1).toNatClampNeg))), J) else none) rfl (zR_bif hc17 (zR_go ?_))
        refine zr_steps 6 (26, [some (.ref 73), some (.int v1), some (.int v2), some (.int (s.1 - ((zu s.2.2 98 ((8 * v2) + s.2.1).toNatClampNeg ((s.2.2 98 ((8 * v2) + s.2.1).toNatClampNeg) + (s.2.2 99 ((32 * v1) + ((8 * v2) + s.2.1)).toNatClampNeg))) 98 ((8 * v2) + s.2.1).toNatClampNeg))), some (.int (s.2.1 + 1)), some (.int ((8 * v2) + s.2.1)), some (.int ((zu s.2.2 98 ((8 * v2) + s.2.1).toNatClampNeg ((s.2.2 98 ((8 * v2) + s.2.1).toNatClampNeg) + (s.2.2 99 ((32 * v1) + ((8 * v2) + s.2.1)).toNatClampNeg))) 98 ((8 * v2) + s.2.1).toNatClampNeg))], [], (SH, (zu (zu (zu s.2.2 98 ((8 * v2) + s.2.1).toNatClampNeg ((s.2.2 98 ((8 * v2) + s.2.1).toNatClampNeg) + (s.2.2 99 ((32 * v1) + ((8 * v2) + s.2.1)).toNatClampNeg))) 98 ((8 * v2) + s.2.1).toNatClampNeg (((zu s.2.2 98 ((8 * v2) + s.2.1).toNatClampNeg ((s.2.2 98 ((8 * v2) + s.2.1).toNatClampNeg) + (s.2.2 99 ((32 * v1) + ((8 * v2) + s.2.1)).toNatClampNeg))) 98 ((8 * v2) + s.2.1).toNatClampNeg) - ((zu s.2.2 98 ((8 * v2) + s.2.1).toNatClampNeg ((s.2.2 98 ((8 * v2) + s.2.1).toNatClampNeg) + (s.2.2 99 ((32 * v1) + ((8 * v2) + s.2.1)).toNatClampNeg))) 98 ((8 * v2) + s.2.1).toNatClampNeg))) 97 ((8 * v2) + s.2.1).toNatClampNeg ((s.2.2 97 ((8 * v2) + s.2.1).toNatClampNeg) + ((zu s.2.2 98 ((8 * v2) + s.2.1).toNatClampNeg ((s.2.2 98 ((8 * v2) + s.2.1).toNatClampNeg) + (s.2.2 99 ((32 * v1) + ((8 * v2) + s.2.1)).toNatClampNeg))) 98 ((8 * v2) + s.2.1).toNatClampNeg))), J)) rfl ?_
        have he := Option.some.inj h
        subst he
        exact zr_hdr (ls2 := [some (.ref 73), some (.int v1), some (.int v2), some (.int (s.1 - ((zu s.2.2 98 ((8 * v2) + s.2.1).toNatClampNeg ((s.2.2 98 ((8 * v2) + s.2.1).toNatClampNeg) + (s.2.2 99 ((32 * v1) + ((8 * v2) + s.2.1)).toNatClampNeg))) 98 ((8 * v2) + s.2.1).toNatClampNeg))), some (.int (s.2.1 + 1)), none, none]) rfl rfl (show zRun X d 167 26 [some (.ref 73), some (.int v1), some (.int v2), some (.int (s.1 - ((zu s.2.2 98 ((8 * v2) + s.2.1).toNatClampNeg ((s.2.2 98 ((8 * v2) + s.2.1).toNatClampNeg) + (s.2.2 99 ((32 * v1) + ((8 * v2) + s.2.1)).toNatClampNeg))) 98 ((8 * v2) + s.2.1).toNatClampNeg))), some (.int (s.2.1 + 1)), none, none] [] (SH, (zu (zu (zu s.2.2 98 ((8 * v2) + s.2.1).toNatClampNeg ((s.2.2 98 ((8 * v2) + s.2.1).toNatClampNeg) + (s.2.2 99 ((32 * v1) + ((8 * v2) + s.2.1)).toNatClampNeg))) 98 ((8 * v2) + s.2.1).toNatClampNeg (((zu s.2.2 98 ((8 * v2) + s.2.1).toNatClampNeg ((s.2.2 98 ((8 * v2) + s.2.1).toNatClampNeg) + (s.2.2 99 ((32 * v1) + ((8 * v2) + s.2.1)).toNatClampNeg))) 98 ((8 * v2) + s.2.1).toNatClampNeg) - ((zu s.2.2 98 ((8 * v2) + s.2.1).toNatClampNeg ((s.2.2 98 ((8 * v2) + s.2.1).toNatClampNeg) + (s.2.2 99 ((32 * v1) + ((8 * v2) + s.2.1)).toNatClampNeg))) 98 ((8 * v2) + s.2.1).toNatClampNeg))) 97 ((8 * v2) + s.2.1).toNatClampNeg ((s.2.2 97 ((8 * v2) + s.2.1).toNatClampNeg) + ((zu s.2.2 98 ((8 * v2) + s.2.1).toNatClampNeg ((s.2.2 98 ((8 * v2) + s.2.1).toNatClampNeg) + (s.2.2 99 ((32 * v1) + ((8 * v2) + s.2.1)).toNatClampNeg))) 98 ((8 * v2) + s.2.1).toNatClampNeg))), J) r M' from w)
      · rw [if_neg hc18] at h
        refine zr_steps 3 (26, [some (.ref 73), some (.int v1), some (.int v2), some (.int s.1), some (.int (s.2.1 + 1)), some (.int ((8 * v2) + s.2.1)), some (.int ((zu s.2.2 98 ((8 * v2) + s.2.1).toNatClampNeg ((s.2.2 98 ((8 * v2) + s.2.1).toNatClampNeg) + (s.2.2 99 ((32 * v1) + ((8 * v2) + s.2.1)).toNatClampNeg))) 98 ((8 * v2) + s.2.1).toNatClampNeg))], [], (SH, (zu s.2.2 98 ((8 * v2) + s.2.1).toNatClampNeg ((s.2.2 98 ((8 * v2) + s.2.1).toNatClampNeg) + (s.2.2 99 ((32 * v1) + ((8 * v2) + s.2.1)).toNatClampNeg))), J)) rfl ?_
        have he := Option.some.inj h
        subst he
        exact zr_hdr (ls2 := [some (.ref 73), some (.int v1), some (.int v2), some (.int s.1), some (.int (s.2.1 + 1)), none, none]) rfl rfl (show zRun X d 167 26 [some (.ref 73), some (.int v1), some (.int v2), some (.int s.1), some (.int (s.2.1 + 1)), none, none] [] (SH, (zu s.2.2 98 ((8 * v2) + s.2.1).toNatClampNeg ((s.2.2 98 ((8 * v2) + s.2.1).toNatClampNeg) + (s.2.2 99 ((32 * v1) + ((8 * v2) + s.2.1)).toNatClampNeg))), J) r M' from w))
set_option maxRecDepth 100000 in
set_option maxHeartbeats 4000000 in
theorem ok_f167_arrive_L2 {X : zX} {d : Nat} {r : Option Value} {M' : zM} (hd : 1 ≤ d) (v1 : Int32) {J : (Nat → Nat → Int64)} : ∀ (n : Nat) (s x : (Int32 × (Nat → Nat → Int32))), zloop (f167_arrive_L2 v1) n s = some x → (fun (x : (Int32 × (Nat → Nat → Int32))) => zRun X d 167 139 [none, none, none, none, none, none, none] [] (SH, x.2, J) r M') x → (fun (s : (Int32 × (Nat → Nat → Int32))) => zRun X d 167 2 [some (.ref 73), some (.int v1), some (.int s.1), none, none, none, none] [] (SH, s.2, J) r M') s := zloop_ok (B := (f167_arrive_L2 v1)) (Wh := fun (s : (Int32 × (Nat → Nat → Int32))) => zRun X d 167 2 [some (.ref 73), some (.int v1), some (.int s.1), none, none, none, none] [] (SH, s.2, J) r M') (Wx := fun (x : (Int32 × (Nat → Nat → Int32))) => zRun X d 167 139 [none, none, none, none, none, none, none] [] (SH, x.2, J) r M') (fun s y h w => by
  unfold f167_arrive_L2 at h
  refine zr_steps 3 (7, [some (.ref 73), some (.int v1), some (.int s.1), none, none, none, none], [.int (s.2 73 1), .int s.1], (SH, s.2, J)) rfl ?_
  refine zr_one (if (s.2 73 1) ≤ s.1 then zN 139 [some (.ref 73), some (.int v1), some (.int s.1), none, none, none, none] [] (SH, s.2, J) else zN 10 [some (.ref 73), some (.int v1), some (.int s.1), none, none, none, none] [] (SH, s.2, J)) rfl (zR_if (fun hc23 => zR_go ?_) (fun hc23 => zR_go ?_))
  · rw [if_pos hc23] at h
    have he := Option.some.inj h
    subst he
    exact zr_hdv (ls2 := [none, none, none, none, none, none, none]) rfl rfl (show zRun X d 167 139 [none, none, none, none, none, none, none] [] (SH, s.2, J) r M' from w)
  · rw [if_neg hc23] at h
    refine zr_steps 3 (15, [some (.ref 73), some (.int v1), some (.int s.1), none, none, none, none], [.int s.1, .ref 74], (SH, s.2, J)) rfl ?_
    obtain ⟨hc1, h⟩ := zbifo h
    refine zr_one (bif zin s.1 4 then zN 16 [some (.ref 73), some (.int v1), some (.int s.1), none, none, none, none] [.int (s.2 74 s.1.toNatClampNeg)] (SH, s.2, J) else none) rfl (zR_bif hc1 (zR_go ?_))
    refine zr_steps 2 (18, [some (.ref 73), some (.int v1), some (.int s.1), none, none, none, none], [.int s.1, .ref 73, .int (s.2 74 s.1.toNatClampNeg)], (SH, s.2, J)) rfl ?_
    obtain ⟨t3, hc2, h⟩ := zbind h
    refine zr_one (some (.inr (.inl (166, [.ref 73, .int s.1], [.int (s.2 74 s.1.toNatClampNeg)], 21)))) rfl (zR_call (by omega) rfl (ok_f166_inSquare (by omega) s.1 _ hc2) ?_)
    refine zr_steps 4 (26, [some (.ref 73), some (.int v1), some (.int s.1), some (.int ((s.2 74 s.1.toNatClampNeg) - t3)), some (.int 0), none, none], [], (SH, s.2, J)) rfl ?_
    obtain ⟨s21, ho22, h⟩ := zbind h
    refine zr_hdr (ls2 := [some (.ref 73), some (.int v1), some (.int s.1), some (.int ((s.2 74 s.1.toNatClampNeg) - t3)), some (.int 0), none, none]) rfl rfl ?_
    refine ok_f167_arrive_L26 (by omega) v1 s.1 5000 (((s.2 74 s.1.toNatClampNeg) - t3), (0 : Int32), s.2) s21 ho22 ?_
    show zRun X d 167 133 [some (.ref 73), some (.int v1), some (.int s.1), none, none, none, none] [] (SH, s21.2.2, J) _ _
    refine zr_steps 2 (2, [some (.ref 73), some (.int v1), some (.int (s.1 + 1)), none, none, none, none], [], (SH, s21.2.2, J)) rfl ?_
    have he := Option.some.inj h
    subst he
    exact zr_hdr (ls2 := [some (.ref 73), some (.int v1), some (.int (s.1 + 1)), none, none, none, none]) rfl rfl (show zRun X d 167 2 [some (.ref 73), some (.int v1), some (.int (s.1 + 1)), none, none, none, none] [] (SH, s21.2.2, J) r M' from w))
set_option maxRecDepth 100000 in
set_option maxHeartbeats 4000000 in
theorem ok_f167_arrive {X : zX} {d : Nat} (hd : 1 ≤ d) (v1 : Int32) {I : (Nat → Nat → Int32)} {J : (Nat → Nat → Int64)} (t : (Nat → Nat → Int32)) (h : f167_arrive v1 I = some t) : zRun X d 167 0 (zent 167 [.ref 73, .int v1]) [] (SH, I, J) none (SH, t, J) := by
  unfold f167_arrive at h
  refine zr_steps 2 (2, [some (.ref 73), some (.int v1), some (.int 0), none, none, none, none], [], (SH, I, J)) rfl ?_
  obtain ⟨s24, ho25, h⟩ := zbind h
  refine zr_hdr (ls2 := [some (.ref 73), some (.int v1), some (.int 0), none, none, none, none]) rfl rfl ?_
  refine ok_f167_arrive_L2 (by omega) v1 5000 ((0 : Int32), I) s24 ho25 ?_
  show zRun X d 167 139 [none, none, none, none, none, none, none] [] (SH, s24.2, J) _ _
  have he := Option.some.inj h
  subst he
  exact zr_one (some (.inr (.inr none))) rfl (zR_ret rfl rfl)
set_option maxRecDepth 100000 in
set_option maxHeartbeats 4000000 in
theorem ok_f156_isLaw {X : zX} {d : Nat} (hd : 1 ≤ d) (v1 : Int32) {I : (Nat → Nat → Int32)} {J : (Nat → Nat → Int64)} (t : Int32) (h : f156_isLaw v1 I = some t) : zRun X d 156 0 (zent 156 [.ref 73, .int v1]) [] (SH, I, J) (some (.int t)) (SH, I, J) := by
  unfold f156_isLaw at h
  refine zr_steps 6 (8, [some (.ref 73), some (.int v1)], [.int ((I 73 31) - 1), .int 0, .int v1], (SH, I, J)) rfl ?_
  obtain ⟨t2, hc1, h⟩ := zbind h
  refine zr_one (some (.inr (.inl (129, [.int v1, .int 0, .int ((I 73 31) - 1)], [], 11)))) rfl (zR_call (by omega) rfl (ok_f129_in (by omega) v1 0 ((I 73 31) - 1) _ hc1) ?_)
  obtain ⟨hc3, h⟩ := zifo h
  have he := Option.some.inj h
  subst he
  exact zr_one (if ((t2 : Int32) = 0 ∨ (t2 : Int32) = 1) then some (.inr (.inr (some (.int t2)))) else none) rfl (zR_pos hc3 (zR_ret rfl rfl))
set_option maxRecDepth 100000 in
set_option maxHeartbeats 4000000 in
theorem ok_f153_twoOf {X : zX} {d : Nat} (hd : 0 ≤ d) (v0 : Int32) (v1 : Int32) (v2 : Int32) {I : (Nat → Nat → Int32)} {J : (Nat → Nat → Int64)} (t : Int32) (h : f153_twoOf v0 v1 v2 = some t) : zRun X d 153 0 (zent 153 [.int v0, .int v1, .int v2]) [] (SH, I, J) (some (.int t)) (SH, I, J) := by
  unfold f153_twoOf at h
  refine zr_steps 1 (1, [some (.int v0), some (.int v1), some (.int v2)], [.int v0], (SH, I, J)) rfl ?_
  refine zr_one (if v0.toInt = 37 then zN 154 [some (.int v0), some (.int v1), some (.int v2)] [] (SH, I, J) else (if v0.toInt = 38 then zN 204 [some (.int v0), some (.int v1), some (.int v2)] [] (SH, I, J) else (if v0.toInt = 39 then zN 218 [some (.int v0), some (.int v1), some (.int v2)] [] (SH, I, J) else (if v0.toInt = 40 then zN 218 [some (.int v0), some (.int v1), some (.int v2)] [] (SH, I, J) else (if v0.toInt = 41 then zN 218 [some (.int v0), some (.int v1), some (.int v2)] [] (SH, I, J) else (if v0.toInt = 42 then zN 128 [some (.int v0), some (.int v1), some (.int v2)] [] (SH, I, J) else (if v0.toInt = 43 then zN 120 [some (.int v0), some (.int v1), some (.int v2)] [] (SH, I, J) else (if v0.toInt = 44 then zN 218 [some (.int v0), some (.int v1), some (.int v2)] [] (SH, I, J) else (if v0.toInt = 45 then zN 124 [some (.int v0), some (.int v1), some (.int v2)] [] (SH, I, J) else (if v0.toInt = 46 then zN 218 [some (.int v0), some (.int v1), some (.int v2)] [] (SH, I, J) else (if v0.toInt = 47 then zN 132 [some (.int v0), some (.int v1), some (.int v2)] [] (SH, I, J) else (if v0.toInt = 48 then zN 218 [some (.int v0), some (.int v1), some (.int v2)] [] (SH, I, J) else (if v0.toInt = 49 then zN 218 [some (.int v0), some (.int v1), some (.int v2)] [] (SH, I, J) else (if v0.toInt = 50 then zN 218 [some (.int v0), some (.int v1), some (.int v2)] [] (SH, I, J) else (if v0.toInt = 51 then zN 218 [some (.int v0), some (.int v1), some (.int v2)] [] (SH, I, J) else (if v0.toInt = 52 then zN 218 [some (.int v0), some (.int v1), some (.int v2)] [] (SH, I, J) else (if v0.toInt = 53 then zN 218 [some (.int v0), some (.int v1), some (.int v2)] [] (SH, I, J) else (if v0.toInt = 54 then zN 218 [some (.int v0), some (.int v1), some (.int v2)] [] (SH, I, J) else (if v0.toInt = 55 then zN 218 [some (.int v0), some (.int v1), some (.int v2)] [] (SH, I, J) else (if v0.toInt = 56 then zN 218 [some (.int v0), some (.int v1), some (.int v2)] [] (SH, I, J) else (if v0.toInt = 57 then zN 218 [some (.int v0), some (.int v1), some (.int v2)] [] (SH, I, J) else (if v0.toInt = 58 then zN 218 [some (.int v0), some (.int v1), some (.int v2)] [] (SH, I, J) else (if v0.toInt = 59 then zN 218 [some (.int v0), some (.int v1), some (.int v2)] [] (SH, I, J) else (if v0.toInt = 60 then zN 171 [some (.int v0), some (.int v1), some (.int v2)] [] (SH, I, J) else (if v0.toInt = 61 then zN 182 [some (.int v0), some (.int v1), some (.int v2)] [] (SH, I, J) else (if v0.toInt = 62 then zN 193 [some (.int v0), some (.int v1), some (.int v2)] [] (SH, I, J) else zN 218 [some (.int v0), some (.int v1), some (.int v2)] [] (SH, I, J))))))))))))))))))))))))))) rfl ?_
  refine zR_if (fun hc73 => zR_go ?_) (fun hc73 => ?_)
  · rw [if_pos hc73] at h
    refine zr_steps 1 (155, [some (.int v0), some (.int v1), some (.int v2)], [.int v2], (SH, I, J)) rfl ?_
    refine zr_one (if v2 = 0 then zN 163 [some (.int v0), some (.int v1), some (.int v2)] [] (SH, I, J) else zN 158 [some (.int v0), some (.int v1), some (.int v2)] [] (SH, I, J)) rfl (zR_if (fun hc3 => zR_go ?_) (fun hc3 => zR_go ?_))
    · rw [if_pos hc3] at h
      refine zr_steps 2 (170, [some (.int v0), some (.int v1), some (.int v2)], [.int 0], (SH, I, J)) rfl ?_
      have he := Option.some.inj h
      subst he
      exact zr_one (some (.inr (.inr (some (.int 0))))) rfl (zR_ret rfl rfl)
    · rw [if_neg hc3] at h
      refine zr_steps 2 (160, [some (.int v0), some (.int v1), some (.int v2)], [.int (-1), .int v2], (SH, I, J)) rfl ?_
      refine zr_one (if v2 = (-1) then zN 163 [some (.int v0), some (.int v1), some (.int v2)] [] (SH, I, J) else zN 167 [some (.int v0), some (.int v1), some (.int v2)] [] (SH, I, J)) rfl (zR_if (fun hc2 => zR_go ?_) (fun hc2 => zR_go ?_))
      · rw [if_pos hc2] at h
        refine zr_steps 2 (170, [some (.int v0), some (.int v1), some (.int v2)], [.int 0], (SH, I, J)) rfl ?_
        have he := Option.some.inj h
        subst he
        exact zr_one (some (.inr (.inr (some (.int 0))))) rfl (zR_ret rfl rfl)
      · rw [if_neg hc2] at h
        refine zr_steps 2 (169, [some (.int v0), some (.int v1), some (.int v2)], [.int v2, .int v1], (SH, I, J)) rfl ?_
        obtain ⟨hc1, h⟩ := zdivo h
        refine zr_one (if (v2 : Int32) = 0 then none else zN 170 [some (.int v0), some (.int v1), some (.int v2)] [.int (v1 - v1 / v2 * v2)] (SH, I, J)) rfl (zR_div hc1 (zR_go ?_))
        have he := Option.some.inj h
        subst he
        exact zr_one (some (.inr (.inr (some (.int (v1 - v1 / v2 * v2)))))) rfl (zR_ret rfl rfl)
  rw [if_neg hc73] at h
  refine zR_if (fun hc72 => zR_go ?_) (fun hc72 => ?_)
  · rw [if_pos hc72] at h
    refine zr_steps 1 (205, [some (.int v0), some (.int v1), some (.int v2)], [.int v1], (SH, I, J)) rfl ?_
    refine zr_one (if v1 = 0 then zN 216 [some (.int v0), some (.int v1), some (.int v2)] [] (SH, I, J) else zN 208 [some (.int v0), some (.int v1), some (.int v2)] [] (SH, I, J)) rfl (zR_if (fun hc5 => zR_go ?_) (fun hc5 => zR_go ?_))
    · rw [if_pos hc5] at h
      refine zr_steps 1 (217, [some (.int v0), some (.int v1), some (.int v2)], [.int 0], (SH, I, J)) rfl ?_
      have he := Option.some.inj h
      subst he
      exact zr_one (some (.inr (.inr (some (.int 0))))) rfl (zR_ret rfl rfl)
    · rw [if_neg hc5] at h
      refine zr_steps 1 (209, [some (.int v0), some (.int v1), some (.int v2)], [.int v2], (SH, I, J)) rfl ?_
      refine zr_one (if v2 = 0 then zN 216 [some (.int v0), some (.int v1), some (.int v2)] [] (SH, I, J) else zN 212 [some (.int v0), some (.int v1), some (.int v2)] [] (SH, I, J)) rfl (zR_if (fun hc4 => zR_go ?_) (fun hc4 => zR_go ?_))
      · rw [if_pos hc4] at h
        refine zr_steps 1 (217, [some (.int v0), some (.int v1), some (.int v2)], [.int 0], (SH, I, J)) rfl ?_
        have he := Option.some.inj h
        subst he
        exact zr_one (some (.inr (.inr (some (.int 0))))) rfl (zR_ret rfl rfl)
      · rw [if_neg hc4] at h
        refine zr_steps 2 (217, [some (.int v0), some (.int v1), some (.int v2)], [.int 1], (SH, I, J)) rfl ?_
        have he := Option.some.inj h
        subst he
        exact zr_one (some (.inr (.inr (some (.int 1))))) rfl (zR_ret rfl rfl)
  rw [if_neg hc72] at h
  refine zR_if (fun hc71 => zR_go ?_) (fun hc71 => ?_)
  · rw [if_pos hc71] at h
    refine zr_steps 1 (219, [some (.int v0), some (.int v1), some (.int v2)], [.int v1], (SH, I, J)) rfl ?_
    refine zr_one (if v1 = 0 then zN 222 [some (.int v0), some (.int v1), some (.int v2)] [] (SH, I, J) else zN 226 [some (.int v0), some (.int v1), some (.int v2)] [] (SH, I, J)) rfl (zR_if (fun hc7 => zR_go ?_) (fun hc7 => zR_go ?_))
    · rw [if_pos hc7] at h
      refine zr_steps 1 (223, [some (.int v0), some (.int v1), some (.int v2)], [.int v2], (SH, I, J)) rfl ?_
      refine zr_one (if v2 = 0 then zN 230 [some (.int v0), some (.int v1), some (.int v2)] [] (SH, I, J) else zN 226 [some (.int v0), some (.int v1), some (.int v2)] [] (SH, I, J)) rfl (zR_if (fun hc6 => zR_go ?_) (fun hc6 => zR_go ?_))
      · rw [if_pos hc6] at h
        refine zr_steps 1 (231, [some (.int v0), some (.int v1), some (.int v2)], [.int 0], (SH, I, J)) rfl ?_
        have he := Option.some.inj h
        subst he
        exact zr_one (some (.inr (.inr (some (.int 0))))) rfl (zR_ret rfl rfl)
      · rw [if_neg hc6] at h
        refine zr_steps 2 (231, [some (.int v0), some (.int v1), some (.int v2)], [.int 1], (SH, I, J)) rfl ?_
        have he := Option.some.inj h
        subst he
        exact zr_one (some (.inr (.inr (some (.int 1))))) rfl (zR_ret rfl rfl)
    · rw [if_neg hc7] at h
      refine zr_steps 2 (231, [some (.int v0), some (.int v1), some (.int v2)], [.int 1], (SH, I, J)) rfl ?_
      have he := Option.some.inj h
      subst he
      exact zr_one (some (.inr (.inr (some (.int 1))))) rfl (zR_ret rfl rfl)
  rw [if_neg hc71] at h
  refine zR_if (fun hc70 => zR_go ?_) (fun hc70 => ?_)
  · rw [if_pos hc70] at h
    refine zr_steps 1 (219, [some (.int v0), some (.int v1), some (.int v2)], [.int v1], (SH, I, J)) rfl ?_
    refine zr_one (if v1 = 0 then zN 222 [some (.int v0), some (.int v1), some (.int v2)] [] (SH, I, J) else zN 226 [some (.int v0), some (.int v1), some (.int v2)] [] (SH, I, J)) rfl (zR_if (fun hc9 => zR_go ?_) (fun hc9 => zR_go ?_))
    · rw [if_pos hc9] at h
      refine zr_steps 1 (223, [some (.int v0), some (.int v1), some (.int v2)], [.int v2], (SH, I, J)) rfl ?_
      refine zr_one (if v2 = 0 then zN 230 [some (.int v0), some (.int v1), some (.int v2)] [] (SH, I, J) else zN 226 [some (.int v0), some (.int v1), some (.int v2)] [] (SH, I, J)) rfl (zR_if (fun hc8 => zR_go ?_) (fun hc8 => zR_go ?_))
      · rw [if_pos hc8] at h
        refine zr_steps 1 (231, [some (.int v0), some (.int v1), some (.int v2)], [.int 0], (SH, I, J)) rfl ?_
        have he := Option.some.inj h
        subst he
        exact zr_one (some (.inr (.inr (some (.int 0))))) rfl (zR_ret rfl rfl)
      · rw [if_neg hc8] at h
        refine zr_steps 2 (231, [some (.int v0), some (.int v1), some (.int v2)], [.int 1], (SH, I, J)) rfl ?_
        have he := Option.some.inj h
        subst he
        exact zr_one (some (.inr (.inr (some (.int 1))))) rfl (zR_ret rfl rfl)
    · rw [if_neg hc9] at h
      refine zr_steps 2 (231, [some (.int v0), some (.int v1), some (.int v2)], [.int 1], (SH, I, J)) rfl ?_
      have he := Option.some.inj h
      subst he
      exact zr_one (some (.inr (.inr (some (.int 1))))) rfl (zR_ret rfl rfl)
  rw [if_neg hc70] at h
  refine zR_if (fun hc69 => zR_go ?_) (fun hc69 => ?_)
  · rw [if_pos hc69] at h
    refine zr_steps 1 (219, [some (.int v0), some (.int v1), some (.int v2)], [.int v1], (SH, I, J)) rfl ?_
    refine zr_one (if v1 = 0 then zN 222 [some (.int v0), some (.int v1), some (.int v2)] [] (SH, I, J) else zN 226 [some (.int v0), some (.int v1), some (.int v2)] [] (SH, I, J)) rfl (zR_if (fun hc11 => zR_go ?_) (fun hc11 => zR_go ?_))
    · rw [if_pos hc11] at h
      refine zr_steps 1 (223, [some (.int v0), some (.int v1), some (.int v2)], [.int v2], (SH, I, J)) rfl ?_
      refine zr_one (if v2 = 0 then zN 230 [some (.int v0), some (.int v1), some (.int v2)] [] (SH, I, J) else zN 226 [some (.int v0), some (.int v1), some (.int v2)] [] (SH, I, J)) rfl (zR_if (fun hc10 => zR_go ?_) (fun hc10 => zR_go ?_))
      · rw [if_pos hc10] at h
        refine zr_steps 1 (231, [some (.int v0), some (.int v1), some (.int v2)], [.int 0], (SH, I, J)) rfl ?_
        have he := Option.some.inj h
        subst he
        exact zr_one (some (.inr (.inr (some (.int 0))))) rfl (zR_ret rfl rfl)
      · rw [if_neg hc10] at h
        refine zr_steps 2 (231, [some (.int v0), some (.int v1), some (.int v2)], [.int 1], (SH, I, J)) rfl ?_
        have he := Option.some.inj h
        subst he
        exact zr_one (some (.inr (.inr (some (.int 1))))) rfl (zR_ret rfl rfl)
    · rw [if_neg hc11] at h
      refine zr_steps 2 (231, [some (.int v0), some (.int v1), some (.int v2)], [.int 1], (SH, I, J)) rfl ?_
      have he := Option.some.inj h
      subst he
      exact zr_one (some (.inr (.inr (some (.int 1))))) rfl (zR_ret rfl rfl)
  rw [if_neg hc69] at h
  refine zR_if (fun hc68 => zR_go ?_) (fun hc68 => ?_)
  · rw [if_pos hc68] at h
    refine zr_steps 3 (131, [some (.int v0), some (.int v1), some (.int v2)], [.int (v1 * v2)], (SH, I, J)) rfl ?_
    have he := Option.some.inj h
    subst he
    exact zr_one (some (.inr (.inr (some (.int (v1 * v2)))))) rfl (zR_ret rfl rfl)
  rw [if_neg hc68] at h
  refine zR_if (fun hc67 => zR_go ?_) (fun hc67 => ?_)
  · rw [if_pos hc67] at h
    refine zr_steps 3 (123, [some (.int v0), some (.int v1), some (.int v2)], [.int (v1 + v2)], (SH, I, J)) rfl ?_
    have he := Option.some.inj h
    subst he
    exact zr_one (some (.inr (.inr (some (.int (v1 + v2)))))) rfl (zR_ret rfl rfl)
  rw [if_neg hc67] at h
  refine zR_if (fun hc66 => zR_go ?_) (fun hc66 => ?_)
  · rw [if_pos hc66] at h
    refine zr_steps 1 (219, [some (.int v0), some (.int v1), some (.int v2)], [.int v1], (SH, I, J)) rfl ?_
    refine zr_one (if v1 = 0 then zN 222 [some (.int v0), some (.int v1), some (.int v2)] [] (SH, I, J) else zN 226 [some (.int v0), some (.int v1), some (.int v2)] [] (SH, I, J)) rfl (zR_if (fun hc13 => zR_go ?_) (fun hc13 => zR_go ?_))
    · rw [if_pos hc13] at h
      refine zr_steps 1 (223, [some (.int v0), some (.int v1), some (.int v2)], [.int v2], (SH, I, J)) rfl ?_
      refine zr_one (if v2 = 0 then zN 230 [some (.int v0), some (.int v1), some (.int v2)] [] (SH, I, J) else zN 226 [some (.int v0), some (.int v1), some (.int v2)] [] (SH, I, J)) rfl (zR_if (fun hc12 => zR_go ?_) (fun hc12 => zR_go ?_))
      · rw [if_pos hc12] at h
        refine zr_steps 1 (231, [some (.int v0), some (.int v1), some (.int v2)], [.int 0], (SH, I, J)) rfl ?_
        have he := Option.some.inj h
        subst he
        exact zr_one (some (.inr (.inr (some (.int 0))))) rfl (zR_ret rfl rfl)
      · rw [if_neg hc12] at h
        refine zr_steps 2 (231, [some (.int v0), some (.int v1), some (.int v2)], [.int 1], (SH, I, J)) rfl ?_
        have he := Option.some.inj h
        subst he
        exact zr_one (some (.inr (.inr (some (.int 1))))) rfl (zR_ret rfl rfl)
    · rw [if_neg hc13] at h
      refine zr_steps 2 (231, [some (.int v0), some (.int v1), some (.int v2)], [.int 1], (SH, I, J)) rfl ?_
      have he := Option.some.inj h
      subst he
      exact zr_one (some (.inr (.inr (some (.int 1))))) rfl (zR_ret rfl rfl)
  rw [if_neg hc66] at h
  refine zR_if (fun hc65 => zR_go ?_) (fun hc65 => ?_)
  · rw [if_pos hc65] at h
    refine zr_steps 3 (127, [some (.int v0), some (.int v1), some (.int v2)], [.int (v1 - v2)], (SH, I, J)) rfl ?_
    have he := Option.some.inj h
    subst he
    exact zr_one (some (.inr (.inr (some (.int (v1 - v2)))))) rfl (zR_ret rfl rfl)
  rw [if_neg hc65] at h
  refine zR_if (fun hc64 => zR_go ?_) (fun hc64 => ?_)
  · rw [if_pos hc64] at h
    refine zr_steps 1 (219, [some (.int v0), some (.int v1), some (.int v2)], [.int v1], (SH, I, J)) rfl ?_
    refine zr_one (if v1 = 0 then zN 222 [some (.int v0), some (.int v1), some (.int v2)] [] (SH, I, J) else zN 226 [some (.int v0), some (.int v1), some (.int v2)] [] (SH, I, J)) rfl (zR_if (fun hc15 => zR_go ?_) (fun hc15 => zR_go ?_))
    · rw [if_pos hc15] at h
      refine zr_steps 1 (223, [some (.int v0), some (.int v1), some (.int v2)], [.int v2], (SH, I, J)) rfl ?_
      refine zr_one (if v2 = 0 then zN 230 [some (.int v0), some (.int v1), some (.int v2)] [] (SH, I, J) else zN 226 [some (.int v0), some (.int v1), some (.int v2)] [] (SH, I, J)) rfl (zR_if (fun hc14 => zR_go ?_) (fun hc14 => zR_go ?_))
      · rw [if_pos hc14] at h
        refine zr_steps 1 (231, [some (.int v0), some (.int v1), some (.int v2)], [.int 0], (SH, I, J)) rfl ?_
        have he := Option.some.inj h
        subst he
        exact zr_one (some (.inr (.inr (some (.int 0))))) rfl (zR_ret rfl rfl)
      · rw [if_neg hc14] at h
        refine zr_steps 2 (231, [some (.int v0), some (.int v1), some (.int v2)], [.int 1], (SH, I, J)) rfl ?_
        have he := Option.some.inj h
        subst he
        exact zr_one (some (.inr (.inr (some (.int 1))))) rfl (zR_ret rfl rfl)
    · rw [if_neg hc15] at h
      refine zr_steps 2 (231, [some (.int v0), some (.int v1), some (.int v2)], [.int 1], (SH, I, J)) rfl ?_
      have he := Option.some.inj h
      subst he
      exact zr_one (some (.inr (.inr (some (.int 1))))) rfl (zR_ret rfl rfl)
  rw [if_neg hc64] at h
  refine zR_if (fun hc63 => zR_go ?_) (fun hc63 => ?_)
  · rw [if_pos hc63] at h
    refine zr_steps 1 (133, [some (.int v0), some (.int v1), some (.int v2)], [.int v2], (SH, I, J)) rfl ?_
    refine zr_one (if v2 = 0 then zN 136 [some (.int v0), some (.int v1), some (.int v2)] [] (SH, I, J) else zN 140 [some (.int v0), some (.int v1), some (.int v2)] [] (SH, I, J)) rfl (zR_if (fun hc18 => zR_go ?_) (fun hc18 => zR_go ?_))
    · rw [if_pos hc18] at h
      refine zr_steps 2 (153, [some (.int v0), some (.int v1), some (.int v2)], [.int 0], (SH, I, J)) rfl ?_
      have he := Option.some.inj h
      subst he
      exact zr_one (some (.inr (.inr (some (.int 0))))) rfl (zR_ret rfl rfl)
    · rw [if_neg hc18] at h
      refine zr_steps 2 (142, [some (.int v0), some (.int v1), some (.int v2)], [.int (-1), .int v2], (SH, I, J)) rfl ?_
      refine zr_one (if v2 = (-1) then zN 145 [some (.int v0), some (.int v1), some (.int v2)] [] (SH, I, J) else zN 150 [some (.int v0), some (.int v1), some (.int v2)] [] (SH, I, J)) rfl (zR_if (fun hc17 => zR_go ?_) (fun hc17 => zR_go ?_))
      · rw [if_pos hc17] at h
        refine zr_steps 3 (153, [some (.int v0), some (.int v1), some (.int v2)], [.int (-v1)], (SH, I, J)) rfl ?_
        have he := Option.some.inj h
        subst he
        exact zr_one (some (.inr (.inr (some (.int (-v1)))))) rfl (zR_ret rfl rfl)
      · rw [if_neg hc17] at h
        refine zr_steps 2 (152, [some (.int v0), some (.int v1), some (.int v2)], [.int v2, .int v1], (SH, I, J)) rfl ?_
        obtain ⟨hc16, h⟩ := zdivo h
        refine zr_one (if (v2 : Int32) = 0 then none else zN 153 [some (.int v0), some (.int v1), some (.int v2)] [.int (v1 / v2)] (SH, I, J)) rfl (zR_div hc16 (zR_go ?_))
        have he := Option.some.inj h
        subst he
        exact zr_one (some (.inr (.inr (some (.int (v1 / v2)))))) rfl (zR_ret rfl rfl)
  rw [if_neg hc63] at h
  refine zR_if (fun hc62 => zR_go ?_) (fun hc62 => ?_)
  · rw [if_pos hc62] at h
    refine zr_steps 1 (219, [some (.int v0), some (.int v1), some (.int v2)], [.int v1], (SH, I, J)) rfl ?_
    refine zr_one (if v1 = 0 then zN 222 [some (.int v0), some (.int v1), some (.int v2)] [] (SH, I, J) else zN 226 [some (.int v0), some (.int v1), some (.int v2)] [] (SH, I, J)) rfl (zR_if (fun hc20 => zR_go ?_) (fun hc20 => zR_go ?_))
    · rw [if_pos hc20] at h
      refine zr_steps 1 (223, [some (.int v0), some (.int v1), some (.int v2)], [.int v2], (SH, I, J)) rfl ?_
      refine zr_one (if v2 = 0 then zN 230 [some (.int v0), some (.int v1), some (.int v2)] [] (SH, I, J) else zN 226 [some (.int v0), some (.int v1), some (.int v2)] [] (SH, I, J)) rfl (zR_if (fun hc19 => zR_go ?_) (fun hc19 => zR_go ?_))
      · rw [if_pos hc19] at h
        refine zr_steps 1 (231, [some (.int v0), some (.int v1), some (.int v2)], [.int 0], (SH, I, J)) rfl ?_
        have he := Option.some.inj h
        subst he
        exact zr_one (some (.inr (.inr (some (.int 0))))) rfl (zR_ret rfl rfl)
      · rw [if_neg hc19] at h
        refine zr_steps 2 (231, [some (.int v0), some (.int v1), some (.int v2)], [.int 1], (SH, I, J)) rfl ?_
        have he := Option.some.inj h
        subst he
        exact zr_one (some (.inr (.inr (some (.int 1))))) rfl (zR_ret rfl rfl)
    · rw [if_neg hc20] at h
      refine zr_steps 2 (231, [some (.int v0), some (.int v1), some (.int v2)], [.int 1], (SH, I, J)) rfl ?_
      have he := Option.some.inj h
      subst he
      exact zr_one (some (.inr (.inr (some (.int 1))))) rfl (zR_ret rfl rfl)
  rw [if_neg hc62] at h
  refine zR_if (fun hc61 => zR_go ?_) (fun hc61 => ?_)
  · rw [if_pos hc61] at h
    refine zr_steps 1 (219, [some (.int v0), some (.int v1), some (.int v2)], [.int v1], (SH, I, J)) rfl ?_
    refine zr_one (if v1 = 0 then zN 222 [some (.int v0), some (.int v1), some (.int v2)] [] (SH, I, J) else zN 226 [some (.int v0), some (.int v1), some (.int v2)] [] (SH, I, J)) rfl (zR_if (fun hc22 => zR_go ?_) (fun hc22 => zR_go ?_))
    · rw [if_pos hc22] at h
      refine zr_steps 1 (223, [some (.int v0), some (.int v1), some (.int v2)], [.int v2], (SH, I, J)) rfl ?_
      refine zr_one (if v2 = 0 then zN 230 [some (.int v0), some (.int v1), some (.int v2)] [] (SH, I, J) else zN 226 [some (.int v0), some (.int v1), some (.int v2)] [] (SH, I, J)) rfl (zR_if (fun hc21 => zR_go ?_) (fun hc21 => zR_go ?_))
      · rw [if_pos hc21] at h
        refine zr_steps 1 (231, [some (.int v0), some (.int v1), some (.int v2)], [.int 0], (SH, I, J)) rfl ?_
        have he := Option.some.inj h
        subst he
        exact zr_one (some (.inr (.inr (some (.int 0))))) rfl (zR_ret rfl rfl)
      · rw [if_neg hc21] at h
        refine zr_steps 2 (231, [some (.int v0), some (.int v1), some (.int v2)], [.int 1], (SH, I, J)) rfl ?_
        have he := Option.some.inj h
        subst he
        exact zr_one (some (.inr (.inr (some (.int 1))))) rfl (zR_ret rfl rfl)
    · rw [if_neg hc22] at h
      refine zr_steps 2 (231, [some (.int v0), some (.int v1), some (.int v2)], [.int 1], (SH, I, J)) rfl ?_
      have he := Option.some.inj h
      subst he
      exact zr_one (some (.inr (.inr (some (.int 1))))) rfl (zR_ret rfl rfl)
  rw [if_neg hc61] at h
  refine zR_if (fun hc60 => zR_go ?_) (fun hc60 => ?_)
  · rw [if_pos hc60] at h
    refine zr_steps 1 (219, [some (.int v0), some (.int v1), some (.int v2)], [.int v1], (SH, I, J)) rfl ?_
    refine zr_one (if v1 = 0 then zN 222 [some (.int v0), some (.int v1), some (.int v2)] [] (SH, I, J) else zN 226 [some (.int v0), some (.int v1), some (.int v2)] [] (SH, I, J)) rfl (zR_if (fun hc24 => zR_go ?_) (fun hc24 => zR_go ?_))
    · rw [if_pos hc24] at h
      refine zr_steps 1 (223, [some (.int v0), some (.int v1), some (.int v2)], [.int v2], (SH, I, J)) rfl ?_
      refine zr_one (if v2 = 0 then zN 230 [some (.int v0), some (.int v1), some (.int v2)] [] (SH, I, J) else zN 226 [some (.int v0), some (.int v1), some (.int v2)] [] (SH, I, J)) rfl (zR_if (fun hc23 => zR_go ?_) (fun hc23 => zR_go ?_))
      · rw [if_pos hc23] at h
        refine zr_steps 1 (231, [some (.int v0), some (.int v1), some (.int v2)], [.int 0], (SH, I, J)) rfl ?_
        have he := Option.some.inj h
        subst he
        exact zr_one (some (.inr (.inr (some (.int 0))))) rfl (zR_ret rfl rfl)
      · rw [if_neg hc23] at h
        refine zr_steps 2 (231, [some (.int v0), some (.int v1), some (.int v2)], [.int 1], (SH, I, J)) rfl ?_
        have he := Option.some.inj h
        subst he
        exact zr_one (some (.inr (.inr (some (.int 1))))) rfl (zR_ret rfl rfl)
    · rw [if_neg hc24] at h
      refine zr_steps 2 (231, [some (.int v0), some (.int v1), some (.int v2)], [.int 1], (SH, I, J)) rfl ?_
      have he := Option.some.inj h
      subst he
      exact zr_one (some (.inr (.inr (some (.int 1))))) rfl (zR_ret rfl rfl)
  rw [if_neg hc60] at h
  refine zR_if (fun hc59 => zR_go ?_) (fun hc59 => ?_)
  · rw [if_pos hc59] at h
    refine zr_steps 1 (219, [some (.int v0), some (.int v1), some (.int v2)], [.int v1], (SH, I, J)) rfl ?_
    refine zr_one (if v1 = 0 then zN 222 [some (.int v0), some (.int v1), some (.int v2)] [] (SH, I, J) else zN 226 [some (.int v0), some (.int v1), some (.int v2)] [] (SH, I, J)) rfl (zR_if (fun hc26 => zR_go ?_) (fun hc26 => zR_go ?_))
    · rw [if_pos hc26] at h
      refine zr_steps 1 (223, [some (.int v0), some (.int v1), some (.int v2)], [.int v2], (SH, I, J)) rfl ?_
      refine zr_one (if v2 = 0 then zN 230 [some (.int v0), some (.int v1), some (.int v2)] [] (SH, I, J) else zN 226 [some (.int v0), some (.int v1), some (.int v2)] [] (SH, I, J)) rfl (zR_if (fun hc25 => zR_go ?_) (fun hc25 => zR_go ?_))
      · rw [if_pos hc25] at h
        refine zr_steps 1 (231, [some (.int v0), some (.int v1), some (.int v2)], [.int 0], (SH, I, J)) rfl ?_
        have he := Option.some.inj h
        subst he
        exact zr_one (some (.inr (.inr (some (.int 0))))) rfl (zR_ret rfl rfl)
      · rw [if_neg hc25] at h
        refine zr_steps 2 (231, [some (.int v0), some (.int v1), some (.int v2)], [.int 1], (SH, I, J)) rfl ?_
        have he := Option.some.inj h
        subst he
        exact zr_one (some (.inr (.inr (some (.int 1))))) rfl (zR_ret rfl rfl)
    · rw [if_neg hc26] at h
      refine zr_steps 2 (231, [some (.int v0), some (.int v1), some (.int v2)], [.int 1], (SH, I, J)) rfl ?_
      have he := Option.some.inj h
      subst he
      exact zr_one (some (.inr (.inr (some (.int 1))))) rfl (zR_ret rfl rfl)
  rw [if_neg hc59] at h
  refine zR_if (fun hc58 => zR_go ?_) (fun hc58 => ?_)
  · rw [if_pos hc58] at h
    refine zr_steps 1 (219, [some (.int v0), some (.int v1), some (.int v2)], [.int v1], (SH, I, J)) rfl ?_
    refine zr_one (if v1 = 0 then zN 222 [some (.int v0), some (.int v1), some (.int v2)] [] (SH, I, J) else zN 226 [some (.int v0), some (.int v1), some (.int v2)] [] (SH, I, J)) rfl (zR_if (fun hc28 => zR_go ?_) (fun hc28 => zR_go ?_))
    · rw [if_pos hc28] at h
      refine zr_steps 1 (223, [some (.int v0), some (.int v1), some (.int v2)], [.int v2], (SH, I, J)) rfl ?_
      refine zr_one (if v2 = 0 then zN 230 [some (.int v0), some (.int v1), some (.int v2)] [] (SH, I, J) else zN 226 [some (.int v0), some (.int v1), some (.int v2)] [] (SH, I, J)) rfl (zR_if (fun hc27 => zR_go ?_) (fun hc27 => zR_go ?_))
      · rw [if_pos hc27] at h
        refine zr_steps 1 (231, [some (.int v0), some (.int v1), some (.int v2)], [.int 0], (SH, I, J)) rfl ?_
        have he := Option.some.inj h
        subst he
        exact zr_one (some (.inr (.inr (some (.int 0))))) rfl (zR_ret rfl rfl)
      · rw [if_neg hc27] at h
        refine zr_steps 2 (231, [some (.int v0), some (.int v1), some (.int v2)], [.int 1], (SH, I, J)) rfl ?_
        have he := Option.some.inj h
        subst he
        exact zr_one (some (.inr (.inr (some (.int 1))))) rfl (zR_ret rfl rfl)
    · rw [if_neg hc28] at h
      refine zr_steps 2 (231, [some (.int v0), some (.int v1), some (.int v2)], [.int 1], (SH, I, J)) rfl ?_
      have he := Option.some.inj h
      subst he
      exact zr_one (some (.inr (.inr (some (.int 1))))) rfl (zR_ret rfl rfl)
  rw [if_neg hc58] at h
  refine zR_if (fun hc57 => zR_go ?_) (fun hc57 => ?_)
  · rw [if_pos hc57] at h
    refine zr_steps 1 (219, [some (.int v0), some (.int v1), some (.int v2)], [.int v1], (SH, I, J)) rfl ?_
    refine zr_one (if v1 = 0 then zN 222 [some (.int v0), some (.int v1), some (.int v2)] [] (SH, I, J) else zN 226 [some (.int v0), some (.int v1), some (.int v2)] [] (SH, I, J)) rfl (zR_if (fun hc30 => zR_go ?_) (fun hc30 => zR_go ?_))
    · rw [if_pos hc30] at h
      refine zr_steps 1 (223, [some (.int v0), some (.int v1), some (.int v2)], [.int v2], (SH, I, J)) rfl ?_
      refine zr_one (if v2 = 0 then zN 230 [some (.int v0), some (.int v1), some (.int v2)] [] (SH, I, J) else zN 226 [some (.int v0), some (.int v1), some (.int v2)] [] (SH, I, J)) rfl (zR_if (fun hc29 => zR_go ?_) (fun hc29 => zR_go ?_))
      · rw [if_pos hc29] at h
        refine zr_steps 1 (231, [some (.int v0), some (.int v1), some (.int v2)], [.int 0], (SH, I, J)) rfl ?_
        have he := Option.some.inj h
        subst he
        exact zr_one (some (.inr (.inr (some (.int 0))))) rfl (zR_ret rfl rfl)
      · rw [if_neg hc29] at h
        refine zr_steps 2 (231, [some (.int v0), some (.int v1), some (.int v2)], [.int 1], (SH, I, J)) rfl ?_
        have he := Option.some.inj h
        subst he
        exact zr_one (some (.inr (.inr (some (.int 1))))) rfl (zR_ret rfl rfl)
    · rw [if_neg hc30] at h
      refine zr_steps 2 (231, [some (.int v0), some (.int v1), some (.int v2)], [.int 1], (SH, I, J)) rfl ?_
      have he := Option.some.inj h
      subst he
      exact zr_one (some (.inr (.inr (some (.int 1))))) rfl (zR_ret rfl rfl)
  rw [if_neg hc57] at h
  refine zR_if (fun hc56 => zR_go ?_) (fun hc56 => ?_)
  · rw [if_pos hc56] at h
    refine zr_steps 1 (219, [some (.int v0), some (.int v1), some (.int v2)], [.int v1], (SH, I, J)) rfl ?_
    refine zr_one (if v1 = 0 then zN 222 [some (.int v0), some (.int v1), some (.int v2)] [] (SH, I, J) else zN 226 [some (.int v0), some (.int v1), some (.int v2)] [] (SH, I, J)) rfl (zR_if (fun hc32 => zR_go ?_) (fun hc32 => zR_go ?_))
    · rw [if_pos hc32] at h
      refine zr_steps 1 (223, [some (.int v0), some (.int v1), some (.int v2)], [.int v2], (SH, I, J)) rfl ?_
      refine zr_one (if v2 = 0 then zN 230 [some (.int v0), some (.int v1), some (.int v2)] [] (SH, I, J) else zN 226 [some (.int v0), some (.int v1), some (.int v2)] [] (SH, I, J)) rfl (zR_if (fun hc31 => zR_go ?_) (fun hc31 => zR_go ?_))
      · rw [if_pos hc31] at h
        refine zr_steps 1 (231, [some (.int v0), some (.int v1), some (.int v2)], [.int 0], (SH, I, J)) rfl ?_
        have he := Option.some.inj h
        subst he
        exact zr_one (some (.inr (.inr (some (.int 0))))) rfl (zR_ret rfl rfl)
      · rw [if_neg hc31] at h
        refine zr_steps 2 (231, [some (.int v0), some (.int v1), some (.int v2)], [.int 1], (SH, I, J)) rfl ?_
        have he := Option.some.inj h
        subst he
        exact zr_one (some (.inr (.inr (some (.int 1))))) rfl (zR_ret rfl rfl)
    · rw [if_neg hc32] at h
      refine zr_steps 2 (231, [some (.int v0), some (.int v1), some (.int v2)], [.int 1], (SH, I, J)) rfl ?_
      have he := Option.some.inj h
      subst he
      exact zr_one (some (.inr (.inr (some (.int 1))))) rfl (zR_ret rfl rfl)
  rw [if_neg hc56] at h
  refine zR_if (fun hc55 => zR_go ?_) (fun hc55 => ?_)
  · rw [if_pos hc55] at h
    refine zr_steps 1 (219, [some (.int v0), some (.int v1), some (.int v2)], [.int v1], (SH, I, J)) rfl ?_
    refine zr_one (if v1 = 0 then zN 222 [some (.int v0), some (.int v1), some (.int v2)] [] (SH, I, J) else zN 226 [some (.int v0), some (.int v1), some (.int v2)] [] (SH, I, J)) rfl (zR_if (fun hc34 => zR_go ?_) (fun hc34 => zR_go ?_))
    · rw [if_pos hc34] at h
      refine zr_steps 1 (223, [some (.int v0), some (.int v1), some (.int v2)], [.int v2], (SH, I, J)) rfl ?_
      refine zr_one (if v2 = 0 then zN 230 [some (.int v0), some (.int v1), some (.int v2)] [] (SH, I, J) else zN 226 [some (.int v0), some (.int v1), some (.int v2)] [] (SH, I, J)) rfl (zR_if (fun hc33 => zR_go ?_) (fun hc33 => zR_go ?_))
      · rw [if_pos hc33] at h
        refine zr_steps 1 (231, [some (.int v0), some (.int v1), some (.int v2)], [.int 0], (SH, I, J)) rfl ?_
        have he := Option.some.inj h
        subst he
        exact zr_one (some (.inr (.inr (some (.int 0))))) rfl (zR_ret rfl rfl)
      · rw [if_neg hc33] at h
        refine zr_steps 2 (231, [some (.int v0), some (.int v1), some (.int v2)], [.int 1], (SH, I, J)) rfl ?_
        have he := Option.some.inj h
        subst he
        exact zr_one (some (.inr (.inr (some (.int 1))))) rfl (zR_ret rfl rfl)
    · rw [if_neg hc34] at h
      refine zr_steps 2 (231, [some (.int v0), some (.int v1), some (.int v2)], [.int 1], (SH, I, J)) rfl ?_
      have he := Option.some.inj h
      subst he
      exact zr_one (some (.inr (.inr (some (.int 1))))) rfl (zR_ret rfl rfl)
  rw [if_neg hc55] at h
  refine zR_if (fun hc54 => zR_go ?_) (fun hc54 => ?_)
  · rw [if_pos hc54] at h
    refine zr_steps 1 (219, [some (.int v0), some (.int v1), some (.int v2)], [.int v1], (SH, I, J)) rfl ?_
    refine zr_one (if v1 = 0 then zN 222 [some (.int v0), some (.int v1), some (.int v2)] [] (SH, I, J) else zN 226 [some (.int v0), some (.int v1), some (.int v2)] [] (SH, I, J)) rfl (zR_if (fun hc36 => zR_go ?_) (fun hc36 => zR_go ?_))
    · rw [if_pos hc36] at h
      refine zr_steps 1 (223, [some (.int v0), some (.int v1), some (.int v2)], [.int v2], (SH, I, J)) rfl ?_
      refine zr_one (if v2 = 0 then zN 230 [some (.int v0), some (.int v1), some (.int v2)] [] (SH, I, J) else zN 226 [some (.int v0), some (.int v1), some (.int v2)] [] (SH, I, J)) rfl (zR_if (fun hc35 => zR_go ?_) (fun hc35 => zR_go ?_))
      · rw [if_pos hc35] at h
        refine zr_steps 1 (231, [some (.int v0), some (.int v1), some (.int v2)], [.int 0], (SH, I, J)) rfl ?_
        have he := Option.some.inj h
        subst he
        exact zr_one (some (.inr (.inr (some (.int 0))))) rfl (zR_ret rfl rfl)
      · rw [if_neg hc35] at h
        refine zr_steps 2 (231, [some (.int v0), some (.int v1), some (.int v2)], [.int 1], (SH, I, J)) rfl ?_
        have he := Option.some.inj h
        subst he
        exact zr_one (some (.inr (.inr (some (.int 1))))) rfl (zR_ret rfl rfl)
    · rw [if_neg hc36] at h
      refine zr_steps 2 (231, [some (.int v0), some (.int v1), some (.int v2)], [.int 1], (SH, I, J)) rfl ?_
      have he := Option.some.inj h
      subst he
      exact zr_one (some (.inr (.inr (some (.int 1))))) rfl (zR_ret rfl rfl)
  rw [if_neg hc54] at h
  refine zR_if (fun hc53 => zR_go ?_) (fun hc53 => ?_)
  · rw [if_pos hc53] at h
    refine zr_steps 1 (219, [some (.int v0), some (.int v1), some (.int v2)], [.int v1], (SH, I, J)) rfl ?_
    refine zr_one (if v1 = 0 then zN 222 [some (.int v0), some (.int v1), some (.int v2)] [] (SH, I, J) else zN 226 [some (.int v0), some (.int v1), some (.int v2)] [] (SH, I, J)) rfl (zR_if (fun hc38 => zR_go ?_) (fun hc38 => zR_go ?_))
    · rw [if_pos hc38] at h
      refine zr_steps 1 (223, [some (.int v0), some (.int v1), some (.int v2)], [.int v2], (SH, I, J)) rfl ?_
      refine zr_one (if v2 = 0 then zN 230 [some (.int v0), some (.int v1), some (.int v2)] [] (SH, I, J) else zN 226 [some (.int v0), some (.int v1), some (.int v2)] [] (SH, I, J)) rfl (zR_if (fun hc37 => zR_go ?_) (fun hc37 => zR_go ?_))
      · rw [if_pos hc37] at h
        refine zr_steps 1 (231, [some (.int v0), some (.int v1), some (.int v2)], [.int 0], (SH, I, J)) rfl ?_
        have he := Option.some.inj h
        subst he
        exact zr_one (some (.inr (.inr (some (.int 0))))) rfl (zR_ret rfl rfl)
      · rw [if_neg hc37] at h
        refine zr_steps 2 (231, [some (.int v0), some (.int v1), some (.int v2)], [.int 1], (SH, I, J)) rfl ?_
        have he := Option.some.inj h
        subst he
        exact zr_one (some (.inr (.inr (some (.int 1))))) rfl (zR_ret rfl rfl)
    · rw [if_neg hc38] at h
      refine zr_steps 2 (231, [some (.int v0), some (.int v1), some (.int v2)], [.int 1], (SH, I, J)) rfl ?_
      have he := Option.some.inj h
      subst he
      exact zr_one (some (.inr (.inr (some (.int 1))))) rfl (zR_ret rfl rfl)
  rw [if_neg hc53] at h
  refine zR_if (fun hc52 => zR_go ?_) (fun hc52 => ?_)
  · rw [if_pos hc52] at h
    refine zr_steps 1 (219, [some (.int v0), some (.int v1), some (.int v2)], [.int v1], (SH, I, J)) rfl ?_
    refine zr_one (if v1 = 0 then zN 222 [some (.int v0), some (.int v1), some (.int v2)] [] (SH, I, J) else zN 226 [some (.int v0), some (.int v1), some (.int v2)] [] (SH, I, J)) rfl (zR_if (fun hc40 => zR_go ?_) (fun hc40 => zR_go ?_))
    · rw [if_pos hc40] at h
      refine zr_steps 1 (223, [some (.int v0), some (.int v1), some (.int v2)], [.int v2], (SH, I, J)) rfl ?_
      refine zr_one (if v2 = 0 then zN 230 [some (.int v0), some (.int v1), some (.int v2)] [] (SH, I, J) else zN 226 [some (.int v0), some (.int v1), some (.int v2)] [] (SH, I, J)) rfl (zR_if (fun hc39 => zR_go ?_) (fun hc39 => zR_go ?_))
      · rw [if_pos hc39] at h
        refine zr_steps 1 (231, [some (.int v0), some (.int v1), some (.int v2)], [.int 0], (SH, I, J)) rfl ?_
        have he := Option.some.inj h
        subst he
        exact zr_one (some (.inr (.inr (some (.int 0))))) rfl (zR_ret rfl rfl)
      · rw [if_neg hc39] at h
        refine zr_steps 2 (231, [some (.int v0), some (.int v1), some (.int v2)], [.int 1], (SH, I, J)) rfl ?_
        have he := Option.some.inj h
        subst he
        exact zr_one (some (.inr (.inr (some (.int 1))))) rfl (zR_ret rfl rfl)
    · rw [if_neg hc40] at h
      refine zr_steps 2 (231, [some (.int v0), some (.int v1), some (.int v2)], [.int 1], (SH, I, J)) rfl ?_
      have he := Option.some.inj h
      subst he
      exact zr_one (some (.inr (.inr (some (.int 1))))) rfl (zR_ret rfl rfl)
  rw [if_neg hc52] at h
  refine zR_if (fun hc51 => zR_go ?_) (fun hc51 => ?_)
  · rw [if_pos hc51] at h
    refine zr_steps 1 (219, [some (.int v0), some (.int v1), some (.int v2)], [.int v1], (SH, I, J)) rfl ?_
    refine zr_one (if v1 = 0 then zN 222 [some (.int v0), some (.int v1), some (.int v2)] [] (SH, I, J) else zN 226 [some (.int v0), some (.int v1), some (.int v2)] [] (SH, I, J)) rfl (zR_if (fun hc42 => zR_go ?_) (fun hc42 => zR_go ?_))
    · rw [if_pos hc42] at h
      refine zr_steps 1 (223, [some (.int v0), some (.int v1), some (.int v2)], [.int v2], (SH, I, J)) rfl ?_
      refine zr_one (if v2 = 0 then zN 230 [some (.int v0), some (.int v1), some (.int v2)] [] (SH, I, J) else zN 226 [some (.int v0), some (.int v1), some (.int v2)] [] (SH, I, J)) rfl (zR_if (fun hc41 => zR_go ?_) (fun hc41 => zR_go ?_))
      · rw [if_pos hc41] at h
        refine zr_steps 1 (231, [some (.int v0), some (.int v1), some (.int v2)], [.int 0], (SH, I, J)) rfl ?_
        have he := Option.some.inj h
        subst he
        exact zr_one (some (.inr (.inr (some (.int 0))))) rfl (zR_ret rfl rfl)
      · rw [if_neg hc41] at h
        refine zr_steps 2 (231, [some (.int v0), some (.int v1), some (.int v2)], [.int 1], (SH, I, J)) rfl ?_
        have he := Option.some.inj h
        subst he
        exact zr_one (some (.inr (.inr (some (.int 1))))) rfl (zR_ret rfl rfl)
    · rw [if_neg hc42] at h
      refine zr_steps 2 (231, [some (.int v0), some (.int v1), some (.int v2)], [.int 1], (SH, I, J)) rfl ?_
      have he := Option.some.inj h
      subst he
      exact zr_one (some (.inr (.inr (some (.int 1))))) rfl (zR_ret rfl rfl)
  rw [if_neg hc51] at h
  refine zR_if (fun hc50 => zR_go ?_) (fun hc50 => ?_)
  · rw [if_pos hc50] at h
    refine zr_steps 2 (173, [some (.int v0), some (.int v1), some (.int v2)], [.int v2, .int v1], (SH, I, J)) rfl ?_
    refine zr_one (if v2 ≤ v1 then zN 180 [some (.int v0), some (.int v1), some (.int v2)] [] (SH, I, J) else zN 176 [some (.int v0), some (.int v1), some (.int v2)] [] (SH, I, J)) rfl (zR_if (fun hc43 => zR_go ?_) (fun hc43 => zR_go ?_))
    · rw [if_pos hc43] at h
      refine zr_steps 1 (181, [some (.int v0), some (.int v1), some (.int v2)], [.int 0], (SH, I, J)) rfl ?_
      have he := Option.some.inj h
      subst he
      exact zr_one (some (.inr (.inr (some (.int 0))))) rfl (zR_ret rfl rfl)
    · rw [if_neg hc43] at h
      refine zr_steps 2 (181, [some (.int v0), some (.int v1), some (.int v2)], [.int 1], (SH, I, J)) rfl ?_
      have he := Option.some.inj h
      subst he
      exact zr_one (some (.inr (.inr (some (.int 1))))) rfl (zR_ret rfl rfl)
  rw [if_neg hc50] at h
  refine zR_if (fun hc49 => zR_go ?_) (fun hc49 => ?_)
  · rw [if_pos hc49] at h
    refine zr_steps 2 (184, [some (.int v0), some (.int v1), some (.int v2)], [.int v2, .int v1], (SH, I, J)) rfl ?_
    refine zr_one (if v1 = v2 then zN 187 [some (.int v0), some (.int v1), some (.int v2)] [] (SH, I, J) else zN 191 [some (.int v0), some (.int v1), some (.int v2)] [] (SH, I, J)) rfl (zR_if (fun hc44 => zR_go ?_) (fun hc44 => zR_go ?_))
    · rw [if_pos hc44] at h
      refine zr_steps 2 (192, [some (.int v0), some (.int v1), some (.int v2)], [.int 1], (SH, I, J)) rfl ?_
      have he := Option.some.inj h
      subst he
      exact zr_one (some (.inr (.inr (some (.int 1))))) rfl (zR_ret rfl rfl)
    · rw [if_neg hc44] at h
      refine zr_steps 1 (192, [some (.int v0), some (.int v1), some (.int v2)], [.int 0], (SH, I, J)) rfl ?_
      have he := Option.some.inj h
      subst he
      exact zr_one (some (.inr (.inr (some (.int 0))))) rfl (zR_ret rfl rfl)
  rw [if_neg hc49] at h
  refine zR_if (fun hc48 => zR_go ?_) (fun hc48 => ?_)
  · rw [if_pos hc48] at h
    refine zr_steps 2 (195, [some (.int v0), some (.int v1), some (.int v2)], [.int v2, .int v1], (SH, I, J)) rfl ?_
    refine zr_one (if v1 ≤ v2 then zN 202 [some (.int v0), some (.int v1), some (.int v2)] [] (SH, I, J) else zN 198 [some (.int v0), some (.int v1), some (.int v2)] [] (SH, I, J)) rfl (zR_if (fun hc45 => zR_go ?_) (fun hc45 => zR_go ?_))
    · rw [if_pos hc45] at h
      refine zr_steps 1 (203, [some (.int v0), some (.int v1), some (.int v2)], [.int 0], (SH, I, J)) rfl ?_
      have he := Option.some.inj h
      subst he
      exact zr_one (some (.inr (.inr (some (.int 0))))) rfl (zR_ret rfl rfl)
    · rw [if_neg hc45] at h
      refine zr_steps 2 (203, [some (.int v0), some (.int v1), some (.int v2)], [.int 1], (SH, I, J)) rfl ?_
      have he := Option.some.inj h
      subst he
      exact zr_one (some (.inr (.inr (some (.int 1))))) rfl (zR_ret rfl rfl)
  rw [if_neg hc48] at h
  refine zR_go ?_
  refine zr_steps 1 (219, [some (.int v0), some (.int v1), some (.int v2)], [.int v1], (SH, I, J)) rfl ?_
  refine zr_one (if v1 = 0 then zN 222 [some (.int v0), some (.int v1), some (.int v2)] [] (SH, I, J) else zN 226 [some (.int v0), some (.int v1), some (.int v2)] [] (SH, I, J)) rfl (zR_if (fun hc47 => zR_go ?_) (fun hc47 => zR_go ?_))
  · rw [if_pos hc47] at h
    refine zr_steps 1 (223, [some (.int v0), some (.int v1), some (.int v2)], [.int v2], (SH, I, J)) rfl ?_
    refine zr_one (if v2 = 0 then zN 230 [some (.int v0), some (.int v1), some (.int v2)] [] (SH, I, J) else zN 226 [some (.int v0), some (.int v1), some (.int v2)] [] (SH, I, J)) rfl (zR_if (fun hc46 => zR_go ?_) (fun hc46 => zR_go ?_))
    · rw [if_pos hc46] at h
      refine zr_steps 1 (231, [some (.int v0), some (.int v1), some (.int v2)], [.int 0], (SH, I, J)) rfl ?_
      have he := Option.some.inj h
      subst he
      exact zr_one (some (.inr (.inr (some (.int 0))))) rfl (zR_ret rfl rfl)
    · rw [if_neg hc46] at h
      refine zr_steps 2 (231, [some (.int v0), some (.int v1), some (.int v2)], [.int 1], (SH, I, J)) rfl ?_
      have he := Option.some.inj h
      subst he
      exact zr_one (some (.inr (.inr (some (.int 1))))) rfl (zR_ret rfl rfl)
  · rw [if_neg hc47] at h
    refine zr_steps 2 (231, [some (.int v0), some (.int v1), some (.int v2)], [.int 1], (SH, I, J)) rfl ?_
    have he := Option.some.inj h
    subst he
    exact zr_one (some (.inr (.inr (some (.int 1))))) rfl (zR_ret rfl rfl)
