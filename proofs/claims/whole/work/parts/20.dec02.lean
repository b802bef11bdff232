set_option maxRecDepth 100000 in
set_option maxHeartbeats 4000000 in
theorem ok_f22_readPart_L39 {X : zX} {d : Nat} {r : Option Value} {M' : zM} {n0 : Nat} (ih : ((∀ {X : zX} {d : Nat} (hd : n0 + 4 ≤ d) (v1 : Int32) (v2 : Int32) (I : (Nat → Nat → Int32)) (J : (Nat → Nat → Int64)) (t : (Int32 × (Nat → Nat → Int32))), (F22 n0).1 v1 v2 I = some t → zRun X d 22 0 (zent 22 [.ref 15, .int v1, .int v2]) [] (SH, I, J) (some (.int t.1)) (SH, t.2, J)) ∧ (∀ {X : zX} {d : Nat} (hd : n0 + 4 ≤ d) (v1 : Int32) (I : (Nat → Nat → Int32)) (J : (Nat → Nat → Int64)) (t : (Int32 × (Nat → Nat → Int32))), (F22 n0).2.1 v1 I = some t → zRun X d 24 0 (zent 24 [.ref 15, .int v1]) [] (SH, I, J) (some (.int t.1)) (SH, t.2, J)) ∧ (∀ {X : zX} {d : Nat} (hd : n0 + 4 ≤ d) (v1 : Int32) (v2 : Int32) (I : (Nat → Nat → Int32)) (J : (Nat → Nat → Int64)) (t : (Int32 × (Nat → Nat → Int32))), (F22 n0).2.2 v1 v2 I = some t → zRun X d 25 0 (zent 25 [.ref 15, .int v1, .int v2]) [] (SH, I, J) (some (.int t.1)) (SH, t.2, J)))) (hd : n0 + 1 + 4 ≤ d) (v1 : Int32) (v2 : Int32) (v3 : Int32) {J : (Nat → Nat → Int64)} : ∀ (n : Nat) (s : (Int32 × (Nat → Nat → Int32))) (t : (Int32 × (Nat → Nat → Int32)) ⊕ (Int32 × (Nat → Nat → Int32))), zloopR (f22_readPart_L39 (F22 n0) v1 v2 v3) n s = some t → zSumE (fun (x : (Int32 × (Nat → Nat → Int32))) => r = (some (.int x.1)) ∧ M' = (SH, x.2, J)) (fun (x : (Int32 × (Nat → Nat → Int32))) => zRun X d 22 101 [none, none, none, none, none, none] [] (SH, x.2, J) r M') t → (fun (s : (Int32 × (Nat → Nat → Int32))) => zRun X d 22 39 [some (.ref 15), some (.int v1), some (.int v2), some (.int v3), some (.int s.1), none] [] (SH, s.2, J) r M') s := zloopR_ok (B := (f22_readPart_L39 (F22 n0) v1 v2 v3)) (Wh := fun (s : (Int32 × (Nat → Nat → Int32))) => zRun X d 22 39 [some (.ref 15), some (.int v1), some (.int v2), some (.int v3), some (.int s.1), none] [] (SH, s.2, J) r M') (Wx := fun (x : (Int32 × (Nat → Nat → Int32))) => zRun X d 22 101 [none, none, none, none, none, none] [] (SH, x.2, J) r M') (Wr := fun (x : (Int32 × (Nat → Nat → Int32))) => r = (some (.int x.1)) ∧ M' = (SH, x.2, J)) (fun s y h w => by
  unfold f22_readPart_L39 at h
  refine zr_steps 2 (42, [some (.ref 15), some (.int v1), some (.int v2), some (.int v3), some (.int s.1), none], [.int v3, .int s.1], (SH, s.2, J)) rfl ?_
  refine zr_one (if v3 ≤ s.1 then zN 101 [some (.ref 15), some (.int v1), some (.int v2), some (.int v3), some (.int s.1), none] [] (SH, s.2, J) else zN 45 [some (.ref 15), some (.int v1), some (.int v2), some (.int v3), some (.int s.1), none] [] (SH, s.2, J)) rfl (zR_if (fun hc15 => zR_go ?_) (fun hc15 => zR_go ?_))
  · rw [if_pos hc15] at h
    have he := Option.some.inj h
    subst he
    exact zr_hdr (ls2 := [none, none, none, none, none, none]) rfl rfl (show zRun X d 22 101 [none, none, none, none, none, none] [] (SH, s.2, J) r M' from w)
  · rw [if_neg hc15] at h
    refine zr_steps 2 (47, [some (.ref 15), some (.int v1), some (.int v2), some (.int v3), some (.int s.1), none], [.ref 15, .int v1], (SH, s.2, J)) rfl ?_
    obtain ⟨t4, hc3, h⟩ := zbind h
    refine zr_one (some (.inr (.inl (28, [.ref 15], [.int v1], 50)))) rfl (zR_call (by omega) rfl (ok_f28_next (by omega)  _ hc3) ?_)
    obtain ⟨t6, hc5, h⟩ := zbind h
    refine zr_one (some (.inr (.inl (23, [.int t4], [.int v1], 53)))) rfl (zR_call (by omega) rfl (ok_f23_levelOf (by omega) t4 _ hc5) ?_)
    refine zr_one (if v1 = t6 then zN 56 [some (.ref 15), some (.int v1), some (.int v2), some (.int v3), some (.int s.1), none] [] (SH, s.2, J) else zN 101 [some (.ref 15), some (.int v1), some (.int v2), some (.int v3), some (.int s.1), none] [] (SH, s.2, J)) rfl (zR_if (fun hc14 => zR_go ?_) (fun hc14 => zR_go ?_))
    · rw [if_pos hc14] at h
      refine zr_steps 1 (57, [some (.ref 15), some (.int v1), some (.int v2), some (.int v3), some (.int s.1), none], [.ref 15], (SH, s.2, J)) rfl ?_
      obtain ⟨t8, hc7, h⟩ := zbind h
      refine zr_one (some (.inr (.inl (28, [.ref 15], [], 60)))) rfl (zR_call (by omega) rfl (ok_f28_next (by omega)  _ hc7) ?_)
      refine zr_steps 12 (77, [some (.ref 15), some (.int v1), some (.int v2), some (.int v3), some (.int s.1), some (.int t8)], [.int v2, .int (v1 + 1), .ref 15], (SH, (zu s.2 15 4 ((s.2 15 4) + 1)), J)) rfl ?_
      obtain ⟨t10, hc9, h⟩ := zbind h
      refine zr_one (some (.inr (.inl (22, [.ref 15, .int (v1 + 1), .int v2], [], 80)))) rfl (zR_call (by omega) rfl (ih.1 (by omega) (v1 + 1) v2 (zu s.2 15 4 ((s.2 15 4) + 1)) J _ hc9) ?_)
      refine zr_one (if t10.1 = 0 then zN 83 [some (.ref 15), some (.int v1), some (.int v2), some (.int v3), some (.int s.1), some (.int t8)] [] (SH, t10.2, J) else zN 85 [some (.ref 15), some (.int v1), some (.int v2), some (.int v3), some (.int s.1), some (.int t8)] [] (SH, t10.2, J)) rfl (zR_if (fun hc13 => zR_go ?_) (fun hc13 => zR_go ?_))
      · rw [if_pos hc13] at h
        refine zr_steps 1 (84, [some (.ref 15), some (.int v1), some (.int v2), some (.int v3), some (.int s.1), some (.int t8)], [.int 0], (SH, t10.2, J)) rfl ?_
        have he := Option.some.inj h
        subst he
        obtain ⟨e1, e2⟩ := (show r = (some (.int 0)) ∧ M' = (SH, t10.2, J) from w)
        exact zr_one (if ((0 : Int32) = 0 ∨ (0 : Int32) = 1) then some (.inr (.inr (some (.int 0)))) else none) rfl (zR_pos (by decide) (zR_ret e1.symm e2.symm))
      · rw [if_neg hc13] at h
        refine zr_steps 4 (92, [some (.ref 15), some (.int v1), some (.int v2), some (.int v3), some (.int s.1), some (.int t8)], [.int (20000 + t8), .ref 15], (SH, t10.2, J)) rfl ?_
        obtain ⟨t12, hc11, h⟩ := zbind h
        refine zr_one (some (.inr (.inl (29, [.ref 15, .int (20000 + t8)], [], 95)))) rfl (zR_call (by omega) rfl (ok_f29_write (by omega) (20000 + t8) _ hc11) ?_)
        refine zr_steps 2 (39, [some (.ref 15), some (.int v1), some (.int v2), some (.int v3), some (.int (s.1 + 1)), some (.int t8)], [], (SH, t12, J)) rfl ?_
        have he := Option.some.inj h
        subst he
        exact zr_hdr (ls2 := [some (.ref 15), some (.int v1), some (.int v2), some (.int v3), some (.int (s.1 + 1)), none]) rfl rfl (show zRun X d 22 39 [some (.ref 15), some (.int v1), some (.int v2), some (.int v3), some (.int (s.1 + 1)), none] [] (SH, t12, J) r M' from w)
    · rw [if_neg hc14] at h
      have he := Option.some.inj h
      subst he
      exact zr_hdr (ls2 := [none, none, none, none, none, none]) rfl rfl (show zRun X d 22 101 [none, none, none, none, none, none] [] (SH, s.2, J) r M' from w))
set_option maxRecDepth 100000 in
set_option maxHeartbeats 4000000 in
theorem okb_f22_readPart {n0 : Nat} (ih : ((∀ {X : zX} {d : Nat} (hd : n0 + 4 ≤ d) (v1 : Int32) (v2 : Int32) (I : (Nat → Nat → Int32)) (J : (Nat → Nat → Int64)) (t : (Int32 × (Nat → Nat → Int32))), (F22 n0).1 v1 v2 I = some t → zRun X d 22 0 (zent 22 [.ref 15, .int v1, .int v2]) [] (SH, I, J) (some (.int t.1)) (SH, t.2, J)) ∧ (∀ {X : zX} {d : Nat} (hd : n0 + 4 ≤ d) (v1 : Int32) (I : (Nat → Nat → Int32)) (J : (Nat → Nat → Int64)) (t : (Int32 × (Nat → Nat → Int32))), (F22 n0).2.1 v1 I = some t → zRun X d 24 0 (zent 24 [.ref 15, .int v1]) [] (SH, I, J) (some (.int t.1)) (SH, t.2, J)) ∧ (∀ {X : zX} {d : Nat} (hd : n0 + 4 ≤ d) (v1 : Int32) (v2 : Int32) (I : (Nat → Nat → Int32)) (J : (Nat → Nat → Int64)) (t : (Int32 × (Nat → Nat → Int32))), (F22 n0).2.2 v1 v2 I = some t → zRun X d 25 0 (zent 25 [.ref 15, .int v1, .int v2]) [] (SH, I, J) (some (.int t.1)) (SH, t.2, J)))) {X : zX} {d : Nat} (hd : n0 + 1 + 4 ≤ d) (v1 : Int32) (v2 : Int32) (I : (Nat → Nat → Int32)) (J : (Nat → Nat → Int64)) (t : (Int32 × (Nat → Nat → Int32))) (h : bf22_readPart (F22 n0) v1 v2 I = some t) : zRun X d 22 0 (zent 22 [.ref 15, .int v1, .int v2]) [] (SH, I, J) (some (.int t.1)) (SH, t.2, J) := by
  unfold bf22_readPart at h
  refine zr_steps 2 (2, [some (.ref 15), some (.int v1), some (.int v2), none, none, none], [.int 5, .int v1], (SH, I, J)) rfl ?_
  refine zr_one (if v1 < 5 then zN 11 [some (.ref 15), some (.int v1), some (.int v2), none, none, none] [] (SH, I, J) else zN 5 [some (.ref 15), some (.int v1), some (.int v2), none, none, none] [] (SH, I, J)) rfl (zR_if (fun hc27 => zR_go ?_) (fun hc27 => zR_go ?_))
  · rw [if_pos hc27] at h
    refine zr_steps 5 (16, [some (.ref 15), some (.int v1), some (.int v2), none, none, none], [.int v2, .int (v1 + 1), .ref 15], (SH, I, J)) rfl ?_
    obtain ⟨t2, hc1, h⟩ := zbind h
    refine zr_one (some (.inr (.inl (22, [.ref 15, .int (v1 + 1), .int v2], [], 19)))) rfl (zR_call (by omega) rfl (ih.1 (by omega) (v1 + 1) v2 I J _ hc1) ?_)
    refine zr_one (if t2.1 = 0 then zN 22 [some (.ref 15), some (.int v1), some (.int v2), none, none, none] [] (SH, t2.2, J) else zN 24 [some (.ref 15), some (.int v1), some (.int v2), none, none, none] [] (SH, t2.2, J)) rfl (zR_if (fun hc23 => zR_go ?_) (fun hc23 => zR_go ?_))
    · rw [if_pos hc23] at h
      refine zr_steps 1 (23, [some (.ref 15), some (.int v1), some (.int v2), none, none, none], [.int 0], (SH, t2.2, J)) rfl ?_
      have he := Option.some.inj h
      subst he
      exact zr_one (if ((0 : Int32) = 0 ∨ (0 : Int32) = 1) then some (.inr (.inr (some (.int 0)))) else none) rfl (zR_pos (by decide) (zR_ret rfl rfl))
    · rw [if_neg hc23] at h
      refine zr_steps 2 (26, [some (.ref 15), some (.int v1), some (.int v2), none, none, none], [.int 2, .int v1], (SH, t2.2, J)) rfl ?_
      refine zr_one (if v1 = 2 then zN 29 [some (.ref 15), some (.int v1), some (.int v2), none, none, none] [] (SH, t2.2, J) else zN 33 [some (.ref 15), some (.int v1), some (.int v2), none, none, none] [] (SH, t2.2, J)) rfl (zR_if (fun hc22 => zR_go ?_) (fun hc22 => zR_go ?_))
      · rw [if_pos hc22] at h
        refine zr_steps 5 (39, [some (.ref 15), some (.int v1), some (.int v2), some (.int 1), some (.int 0), none], [], (SH, t2.2, J)) rfl ?_
        obtain ⟨y18, ho17, hy⟩ := zbRe h
        refine zr_hdr (ls2 := [some (.ref 15), some (.int v1), some (.int v2), some (.int 1), some (.int 0), none]) rfl rfl ?_
        refine ok_f22_readPart_L39 ih (by omega) v1 v2 1 5000 ((0 : Int32), t2.2) y18 ho17 ?_
        rcases hy with ⟨rr, rfl, h⟩ | ⟨s16, rfl, h⟩
        · have he := Option.some.inj h
          subst he
          exact ⟨rfl, rfl⟩
        · show zRun X d 22 101 [none, none, none, none, none, none] [] (SH, s16.2, J) _ _
          refine zr_steps 1 (102, [none, none, none, none, none, none], [.int 1], (SH, s16.2, J)) rfl ?_
          have he := Option.some.inj h
          subst he
          exact zr_one (if ((1 : Int32) = 0 ∨ (1 : Int32) = 1) then some (.inr (.inr (some (.int 1)))) else none) rfl (zR_pos (by decide) (zR_ret rfl rfl))
      · rw [if_neg hc22] at h
        refine zr_steps 4 (39, [some (.ref 15), some (.int v1), some (.int v2), some (.int 120), some (.int 0), none], [], (SH, t2.2, J)) rfl ?_
        obtain ⟨y21, ho20, hy⟩ := zbRe h
        refine zr_hdr (ls2 := [some (.ref 15), some (.int v1), some (.int v2), some (.int 120), some (.int 0), none]) rfl rfl ?_
        refine ok_f22_readPart_L39 ih (by omega) v1 v2 120 5000 ((0 : Int32), t2.2) y21 ho20 ?_
        rcases hy with ⟨rr, rfl, h⟩ | ⟨s19, rfl, h⟩
        · have he := Option.some.inj h
          subst he
          exact ⟨rfl, rfl⟩
        · show zRun X d 22 101 [none, none, none, none, none, none] [] (SH, s19.2, J) _ _
          refine zr_steps 1 (102, [none, none, none, none, none, none], [.int 1], (SH, s19.2, J)) rfl ?_
          have he := Option.some.inj h
          subst he
          exact zr_one (if ((1 : Int32) = 0 ∨ (1 : Int32) = 1) then some (.inr (.inr (some (.int 1)))) else none) rfl (zR_pos (by decide) (zR_ret rfl rfl))
  · rw [if_neg hc27] at h
    refine zr_steps 2 (7, [some (.ref 15), some (.int v1), some (.int v2), none, none, none], [.int v2, .ref 15], (SH, I, J)) rfl ?_
    obtain ⟨t25, hc24, h⟩ := zbind h
    refine zr_one (some (.inr (.inl (24, [.ref 15, .int v2], [], 10)))) rfl (zR_call (by omega) rfl (ih.2.1 (by omega) v2 I J _ hc24) ?_)
    obtain ⟨hc26, h⟩ := zifo h
    have he := Option.some.inj h
    subst he
    exact zr_one (if ((t25.1 : Int32) = 0 ∨ (t25.1 : Int32) = 1) then some (.inr (.inr (some (.int t25.1)))) else none) rfl (zR_pos hc26 (zR_ret rfl rfl))
set_option maxRecDepth 100000 in
set_option maxHeartbeats 4000000 in
theorem okb_f24_readOperand {n0 : Nat} (ih : ((∀ {X : zX} {d : Nat} (hd : n0 + 4 ≤ d) (v1 : Int32) (v2 : Int32) (I : (Nat → Nat → Int32)) (J : (Nat → Nat → Int64)) (t : (Int32 × (Nat → Nat → Int32))), (F22 n0).1 v1 v2 I = some t → zRun X d 22 0 (zent 22 [.ref 15, .int v1, .int v2]) [] (SH, I, J) (some (.int t.1)) (SH, t.2, J)) ∧ (∀ {X : zX} {d : Nat} (hd : n0 + 4 ≤ d) (v1 : Int32) (I : (Nat → Nat → Int32)) (J : (Nat → Nat → Int64)) (t : (Int32 × (Nat → Nat → Int32))), (F22 n0).2.1 v1 I = some t → zRun X d 24 0 (zent 24 [.ref 15, .int v1]) [] (SH, I, J) (some (.int t.1)) (SH, t.2, J)) ∧ (∀ {X : zX} {d : Nat} (hd : n0 + 4 ≤ d) (v1 : Int32) (v2 : Int32) (I : (Nat → Nat → Int32)) (J : (Nat → Nat → Int64)) (t : (Int32 × (Nat → Nat → Int32))), (F22 n0).2.2 v1 v2 I = some t → zRun X d 25 0 (zent 25 [.ref 15, .int v1, .int v2]) [] (SH, I, J) (some (.int t.1)) (SH, t.2, J)))) {X : zX} {d : Nat} (hd : n0 + 1 + 4 ≤ d) (v1 : Int32) (I : (Nat → Nat → Int32)) (J : (Nat → Nat → Int64)) (t : (Int32 × (Nat → Nat → Int32))) (h : bf24_readOperand (F22 n0) v1 I = some t) : zRun X d 24 0 (zent 24 [.ref 15, .int v1]) [] (SH, I, J) (some (.int t.1)) (SH, t.2, J) := by
  unfold bf24_readOperand at h
  refine zr_steps 1 (1, [some (.ref 15), some (.int v1), none, none], [.ref 15], (SH, I, J)) rfl ?_
  obtain ⟨t2, hc1, h⟩ := zbind h
  refine zr_one (some (.inr (.inl (28, [.ref 15], [], 4)))) rfl (zR_call (by omega) rfl (ok_f28_next (by omega)  _ hc1) ?_)
  refine zr_steps 2 (6, [some (.ref 15), some (.int v1), some (.int t2), none], [.int t2], (SH, I, J)) rfl ?_
  obtain ⟨t4, hc3, h⟩ := zbind h
  refine zr_one (some (.inr (.inl (27, [.int t2], [], 9)))) rfl (zR_call (by omega) rfl (ok_f27_isDigit (by omega) t2 _ hc3) ?_)
  refine zr_one (if t4 = 0 then zN 18 [some (.ref 15), some (.int v1), some (.int t2), none] [] (SH, I, J) else zN 12 [some (.ref 15), some (.int v1), some (.int t2), none] [] (SH, I, J)) rfl (zR_if (fun hc39 => zR_go ?_) (fun hc39 => zR_go ?_))
  · rw [if_pos hc39] at h
    refine zr_steps 1 (19, [some (.ref 15), some (.int v1), some (.int t2), none], [.int t2], (SH, I, J)) rfl ?_
    refine zr_one (if (0 : Int32) ≤ t2 then zN 26 [some (.ref 15), some (.int v1), some (.int t2), none] [] (SH, I, J) else zN 22 [some (.ref 15), some (.int v1), some (.int t2), none] [] (SH, I, J)) rfl (zR_if (fun hc36 => zR_go ?_) (fun hc36 => zR_go ?_))
    · rw [if_pos hc36] at h
      refine zr_steps 3 (30, [some (.ref 15), some (.int v1), some (.int t2), none], [.int (t2.toUInt32 % 65536).toInt32, .ref 1001], (SH, I, J)) rfl ?_
      obtain ⟨t6, hc5, h⟩ := zbind h
      refine zr_one (some (.inr (.inl (219, [.ref 1001, .int (t2.toUInt32 % 65536).toInt32], [], 33)))) rfl (zR_call (by omega) rfl (ok_f219_indexOf (by omega) (t2.toUInt32 % 65536).toInt32 _ hc5) ?_)
      refine zr_steps 2 (35, [some (.ref 15), some (.int v1), some (.int t2), some (.int t6)], [.int t6], (SH, I, J)) rfl ?_
      refine zr_one (if t6 < 0 then zN 59 [some (.ref 15), some (.int v1), some (.int t2), some (.int t6)] [] (SH, I, J) else zN 38 [some (.ref 15), some (.int v1), some (.int t2), some (.int t6)] [] (SH, I, J)) rfl (zR_if (fun hc22 => zR_go ?_) (fun hc22 => zR_go ?_))
      · rw [if_pos hc22] at h
        refine zr_steps 2 (62, [some (.ref 15), some (.int v1), some (.int t2), some (.int t6)], [.int 6, .int v1], (SH, I, J)) rfl ?_
        refine zr_one (if (6 : Int32) ≤ v1 then zN 83 [some (.ref 15), some (.int v1), some (.int t2), some (.int t6)] [] (SH, I, J) else zN 65 [some (.ref 15), some (.int v1), some (.int t2), some (.int t6)] [] (SH, I, J)) rfl (zR_if (fun hc19 => zR_go ?_) (fun hc19 => zR_go ?_))
        · rw [if_pos hc19] at h
          refine zr_steps 1 (84, [some (.ref 15), some (.int v1), some (.int t2), some (.int t6)], [.int 0], (SH, I, J)) rfl ?_
          have he := Option.some.inj h
          subst he
          exact zr_one (if ((0 : Int32) = 0 ∨ (0 : Int32) = 1) then some (.inr (.inr (some (.int 0)))) else none) rfl (zR_pos (by decide) (zR_ret rfl rfl))
        · rw [if_neg hc19] at h
          refine zr_steps 2 (68, [some (.ref 15), some (.int v1), some (.int t2), some (.int t6)], [.int 40, .int t2], (SH, I, J)) rfl ?_
          refine zr_one (if t2 = 40 then zN 85 [some (.ref 15), some (.int v1), some (.int t2), some (.int t6)] [] (SH, I, J) else zN 71 [some (.ref 15), some (.int v1), some (.int t2), some (.int t6)] [] (SH, I, J)) rfl (zR_if (fun hc18 => zR_go ?_) (fun hc18 => zR_go ?_))
          · rw [if_pos hc18] at h
            refine zr_steps 11 (100, [some (.ref 15), some (.int v1), some (.int t2), some (.int t6)], [.int (v1 + 1), .int t2, .ref 15], (SH, (zu I 15 4 ((I 15 4) + 1)), J)) rfl ?_
            obtain ⟨t8, hc7, h⟩ := zbind h
            refine zr_one (some (.inr (.inl (25, [.ref 15, .int t2, .int (v1 + 1)], [], 103)))) rfl (zR_call (by omega) rfl (ih.2.2 (by omega) t2 (v1 + 1) (zu I 15 4 ((I 15 4) + 1)) J _ hc7) ?_)
            obtain ⟨hc9, h⟩ := zifo h
            have he := Option.some.inj h
            subst he
            exact zr_one (if ((t8.1 : Int32) = 0 ∨ (t8.1 : Int32) = 1) then some (.inr (.inr (some (.int t8.1)))) else none) rfl (zR_pos hc9 (zR_ret rfl rfl))
          · rw [if_neg hc18] at h
            refine zr_steps 2 (74, [some (.ref 15), some (.int v1), some (.int t2), some (.int t6)], [.int 33, .int t2], (SH, I, J)) rfl ?_
            refine zr_one (if t2 = 33 then zN 85 [some (.ref 15), some (.int v1), some (.int t2), some (.int t6)] [] (SH, I, J) else zN 77 [some (.ref 15), some (.int v1), some (.int t2), some (.int t6)] [] (SH, I, J)) rfl (zR_if (fun hc17 => zR_go ?_) (fun hc17 => zR_go ?_))
            · rw [if_pos hc17] at h
              refine zr_steps 11 (100, [some (.ref 15), some (.int v1), some (.int t2), some (.int t6)], [.int (v1 + 1), .int t2, .ref 15], (SH, (zu I 15 4 ((I 15 4) + 1)), J)) rfl ?_
              obtain ⟨t11, hc10, h⟩ := zbind h
              refine zr_one (some (.inr (.inl (25, [.ref 15, .int t2, .int (v1 + 1)], [], 103)))) rfl (zR_call (by omega) rfl (ih.2.2 (by omega) t2 (v1 + 1) (zu I 15 4 ((I 15 4) + 1)) J _ hc10) ?_)
              obtain ⟨hc12, h⟩ := zifo h
              have he := Option.some.inj h
              subst he
              exact zr_one (if ((t11.1 : Int32) = 0 ∨ (t11.1 : Int32) = 1) then some (.inr (.inr (some (.int t11.1)))) else none) rfl (zR_pos hc12 (zR_ret rfl rfl))
            · rw [if_neg hc17] at h
              refine zr_steps 2 (80, [some (.ref 15), some (.int v1), some (.int t2), some (.int t6)], [.int 45, .int t2], (SH, I, J)) rfl ?_
              refine zr_one (if t2 = 45 then zN 85 [some (.ref 15), some (.int v1), some (.int t2), some (.int t6)] [] (SH, I, J) else zN 83 [some (.ref 15), some (.int v1), some (.int t2), some (.int t6)] [] (SH, I, J)) rfl (zR_if (fun hc16 => zR_go ?_) (fun hc16 => zR_go ?_))
              · rw [if_pos hc16] at h
                refine zr_steps 11 (100, [some (.ref 15), some (.int v1), some (.int t2), some (.int t6)], [.int (v1 + 1), .int t2, .ref 15], (SH, (zu I 15 4 ((I 15 4) + 1)), J)) rfl ?_
                obtain ⟨t14, hc13, h⟩ := zbind h
                refine zr_one (some (.inr (.inl (25, [.ref 15, .int t2, .int (v1 + 1)], [], 103)))) rfl (zR_call (by omega) rfl (ih.2.2 (by omega) t2 (v1 + 1) (zu I 15 4 ((I 15 4) + 1)) J _ hc13) ?_)
                obtain ⟨hc15, h⟩ := zifo h
                have he := Option.some.inj h
                subst he
                exact zr_one (if ((t14.1 : Int32) = 0 ∨ (t14.1 : Int32) = 1) then some (.inr (.inr (some (.int t14.1)))) else none) rfl (zR_pos hc15 (zR_ret rfl rfl))
              · rw [if_neg hc16] at h
                refine zr_steps 1 (84, [some (.ref 15), some (.int v1), some (.int t2), some (.int t6)], [.int 0], (SH, I, J)) rfl ?_
                have he := Option.some.inj h
                subst he
                exact zr_one (if ((0 : Int32) = 0 ∨ (0 : Int32) = 1) then some (.inr (.inr (some (.int 0)))) else none) rfl (zR_pos (by decide) (zR_ret rfl rfl))
      · rw [if_neg hc22] at h
        refine zr_steps 10 (54, [some (.ref 15), some (.int v1), some (.int t2), some (.int t6)], [.int (10000 + t6), .ref 15], (SH, (zu I 15 4 ((I 15 4) + 1)), J)) rfl ?_
        obtain ⟨t21, hc20, h⟩ := zbind h
        refine zr_one (some (.inr (.inl (29, [.ref 15, .int (10000 + t6)], [], 57)))) rfl (zR_call (by omega) rfl (ok_f29_write (by omega) (10000 + t6) _ hc20) ?_)
        refine zr_steps 1 (58, [some (.ref 15), some (.int v1), some (.int t2), some (.int t6)], [.int 1], (SH, t21, J)) rfl ?_
        have he := Option.some.inj h
        subst he
        exact zr_one (if ((1 : Int32) = 0 ∨ (1 : Int32) = 1) then some (.inr (.inr (some (.int 1)))) else none) rfl (zR_pos (by decide) (zR_ret rfl rfl))
    · rw [if_neg hc36] at h
      refine zr_steps 4 (35, [some (.ref 15), some (.int v1), some (.int t2), some (.int (-1))], [.int (-1)], (SH, I, J)) rfl ?_
      refine zr_one (if ((-1) : Int32) < 0 then zN 59 [some (.ref 15), some (.int v1), some (.int t2), some (.int (-1))] [] (SH, I, J) else zN 38 [some (.ref 15), some (.int v1), some (.int t2), some (.int (-1))] [] (SH, I, J)) rfl (zR_pos (by decide) (zR_go ?_))
      refine zr_steps 2 (62, [some (.ref 15), some (.int v1), some (.int t2), some (.int (-1))], [.int 6, .int v1], (SH, I, J)) rfl ?_
      refine zr_one (if (6 : Int32) ≤ v1 then zN 83 [some (.ref 15), some (.int v1), some (.int t2), some (.int (-1))] [] (SH, I, J) else zN 65 [some (.ref 15), some (.int v1), some (.int t2), some (.int (-1))] [] (SH, I, J)) rfl (zR_if (fun hc35 => zR_go ?_) (fun hc35 => zR_go ?_))
      · rw [if_pos hc35] at h
        refine zr_steps 1 (84, [some (.ref 15), some (.int v1), some (.int t2), some (.int (-1))], [.int 0], (SH, I, J)) rfl ?_
        have he := Option.some.inj h
        subst he
        exact zr_one (if ((0 : Int32) = 0 ∨ (0 : Int32) = 1) then some (.inr (.inr (some (.int 0)))) else none) rfl (zR_pos (by decide) (zR_ret rfl rfl))
      · rw [if_neg hc35] at h
        refine zr_steps 2 (68, [some (.ref 15), some (.int v1), some (.int t2), some (.int (-1))], [.int 40, .int t2], (SH, I, J)) rfl ?_
        refine zr_one (if t2 = 40 then zN 85 [some (.ref 15), some (.int v1), some (.int t2), some (.int (-1))] [] (SH, I, J) else zN 71 [some (.ref 15), some (.int v1), some (.int t2), some (.int (-1))] [] (SH, I, J)) rfl (zR_if (fun hc34 => zR_go ?_) (fun hc34 => zR_go ?_))
        · rw [if_pos hc34] at h
          refine zr_steps 11 (100, [some (.ref 15), some (.int v1), some (.int t2), some (.int (-1))], [.int (v1 + 1), .int t2, .ref 15], (SH, (zu I 15 4 ((I 15 4) + 1)), J)) rfl ?_
          obtain ⟨t24, hc23, h⟩ := zbind h
          refine zr_one (some (.inr (.inl (25, [.ref 15, .int t2, .int (v1 + 1)], [], 103)))) rfl (zR_call (by omega) rfl (ih.2.2 (by omega) t2 (v1 + 1) (zu I 15 4 ((I 15 4) + 1)) J _ hc23) ?_)
          obtain ⟨hc25, h⟩ := zifo h
          have he := Option.some.inj h
          subst he
          exact zr_one (if ((t24.1 : Int32) = 0 ∨ (t24.1 : Int32) = 1) then some (.inr (.inr (some (.int t24.1)))) else none) rfl (zR_pos hc25 (zR_ret rfl rfl))
        · rw [if_neg hc34] at h
          refine zr_steps 2 (74, [some (.ref 15), some (.int v1), some (.int t2), some (.int (-1))], [.int 33, .int t2], (SH, I, J)) rfl ?_
          refine zr_one (if t2 = 33 then zN 85 [some (.ref 15), some (.int v1), some (.int t2), some (.int (-1))] [] (SH, I, J) else zN 77 [some (.ref 15), some (.int v1), some (.int t2), some (.int (-1))] [] (SH, I, J)) rfl (zR_if (fun hc33 => zR_go ?_) (fun hc33 => zR_go ?_))
          · rw [if_pos hc33] at h
            refine zr_steps 11 (100, [some (.ref 15), some (.int v1), some (.int t2), some (.int (-1))], [.int (v1 + 1), .int t2, .ref 15], (SH, (zu I 15 4 ((I 15 4) + 1)), J)) rfl ?_
            obtain ⟨t27, hc26, h⟩ := zbind h
            refine zr_one (some (.inr (.inl (25, [.ref 15, .int t2, .int (v1 + 1)], [], 103)))) rfl (zR_call (by omega) rfl (ih.2.2 (by omega) t2 (v1 + 1) (zu I 15 4 ((I 15 4) + 1)) J _ hc26) ?_)
            obtain ⟨hc28, h⟩ := zifo h
            have he := Option.some.inj h
            subst he
            exact zr_one (if ((t27.1 : Int32) = 0 ∨ (t27.1 : Int32) = 1) then some (.inr (.inr (some (.int t27.1)))) else none) rfl (zR_pos hc28 (zR_ret rfl rfl))
          · rw [if_neg hc33] at h
            refine zr_steps 2 (80, [some (.ref 15), some (.int v1), some (.int t2), some (.int (-1))], [.int 45, .int t2], (SH, I, J)) rfl ?_
            refine zr_one (if t2 = 45 then zN 85 [some (.ref 15), some (.int v1), some (.int t2), some (.int (-1))] [] (SH, I, J) else zN 83 [some (.ref 15), some (.int v1), some (.int t2), some (.int (-1))] [] (SH, I, J)) rfl (zR_if (fun hc32 => zR_go ?_) (fun hc32 => zR_go ?_))
            · rw [if_pos hc32] at h
              refine zr_steps 11 (100, [some (.ref 15), some (.int v1), some (.int t2), some (.int (-1))], [.int (v1 + 1), .int t2, .ref 15], (SH, (zu I 15 4 ((I 15 4) + 1)), J)) rfl ?_
              obtain ⟨t30, hc29, h⟩ := zbind h
              refine zr_one (some (.inr (.inl (25, [.ref 15, .int t2, .int (v1 + 1)], [], 103)))) rfl (zR_call (by omega) rfl (ih.2.2 (by omega) t2 (v1 + 1) (zu I 15 4 ((I 15 4) + 1)) J _ hc29) ?_)
              obtain ⟨hc31, h⟩ := zifo h
              have he := Option.some.inj h
              subst he
              exact zr_one (if ((t30.1 : Int32) = 0 ∨ (t30.1 : Int32) = 1) then some (.inr (.inr (some (.int t30.1)))) else none) rfl (zR_pos hc31 (zR_ret rfl rfl))
            · rw [if_neg hc32] at h
              refine zr_steps 1 (84, [some (.ref 15), some (.int v1), some (.int t2), some (.int (-1))], [.int 0], (SH, I, J)) rfl ?_
              have he := Option.some.inj h
              subst he
              exact zr_one (if ((0 : Int32) = 0 ∨ (0 : Int32) = 1) then some (.inr (.inr (some (.int 0)))) else none) rfl (zR_pos (by decide) (zR_ret rfl rfl))
  · rw [if_neg hc39] at h
    refine zr_steps 1 (13, [some (.ref 15), some (.int v1), some (.int t2), none], [.ref 15], (SH, I, J)) rfl ?_
    obtain ⟨t38, hc37, h⟩ := zbind h
    refine zr_one (some (.inr (.inl (26, [.ref 15], [], 16)))) rfl (zR_call (by omega) rfl (ok_f26_readNumber (by omega)  _ hc37) ?_)
    refine zr_steps 1 (17, [some (.ref 15), some (.int v1), some (.int t2), none], [.int 1], (SH, t38, J)) rfl ?_
    have he := Option.some.inj h
    subst he
    exact zr_one (if ((1 : Int32) = 0 ∨ (1 : Int32) = 1) then some (.inr (.inr (some (.int 1)))) else none) rfl (zR_pos (by decide) (zR_ret rfl rfl))
set_option maxRecDepth 100000 in
set_option maxHeartbeats 4000000 in
theorem okb_f25_readOpened {n0 : Nat} (ih : ((∀ {X : zX} {d : Nat} (hd : n0 + 4 ≤ d) (v1 : Int32) (v2 : Int32) (I : (Nat → Nat → Int32)) (J : (Nat → Nat → Int64)) (t : (Int32 × (Nat → Nat → Int32))), (F22 n0).1 v1 v2 I = some t → zRun X d 22 0 (zent 22 [.ref 15, .int v1, .int v2]) [] (SH, I, J) (some (.int t.1)) (SH, t.2, J)) ∧ (∀ {X : zX} {d : Nat} (hd : n0 + 4 ≤ d) (v1 : Int32) (I : (Nat → Nat → Int32)) (J : (Nat → Nat → Int64)) (t : (Int32 × (Nat → Nat → Int32))), (F22 n0).2.1 v1 I = some t → zRun X d 24 0 (zent 24 [.ref 15, .int v1]) [] (SH, I, J) (some (.int t.1)) (SH, t.2, J)) ∧ (∀ {X : zX} {d : Nat} (hd : n0 + 4 ≤ d) (v1 : Int32) (v2 : Int32) (I : (Nat → Nat → Int32)) (J : (Nat → Nat → Int64)) (t : (Int32 × (Nat → Nat → Int32))), (F22 n0).2.2 v1 v2 I = some t → zRun X d 25 0 (zent 25 [.ref 15, .int v1, .int v2]) [] (SH, I, J) (some (.int t.1)) (SH, t.2, J)))) {X : zX} {d : Nat} (hd : n0 + 1 + 4 ≤ d) (v1 : Int32) (v2 : Int32) (I : (Nat → Nat → Int32)) (J : (Nat → Nat → Int64)) (t : (Int32 × (Nat → Nat → Int32))) (h : bf25_readOpened (F22 n0) v1 v2 I = some t) : zRun X d 25 0 (zent 25 [.ref 15, .int v1, .int v2]) [] (SH, I, J) (some (.int t.1)) (SH, t.2, J) := by
  unfold bf25_readOpened at h
  refine zr_steps 2 (3, [some (.ref 15), some (.int v1), some (.int v2)], [.int 40, .int v1], (SH, I, J)) rfl ?_
  refine zr_one (if v1 = 40 then zN 6 [some (.ref 15), some (.int v1), some (.int v2)] [] (SH, I, J) else zN 38 [some (.ref 15), some (.int v1), some (.int v2)] [] (SH, I, J)) rfl (zR_if (fun hc15 => zR_go ?_) (fun hc15 => zR_go ?_))
  · rw [if_pos hc15] at h
    refine zr_steps 3 (9, [some (.ref 15), some (.int v1), some (.int v2)], [.int v2, .int 0, .ref 15], (SH, I, J)) rfl ?_
    obtain ⟨t2, hc1, h⟩ := zbind h
    refine zr_one (some (.inr (.inl (22, [.ref 15, .int 0, .int v2], [], 12)))) rfl (zR_call (by omega) rfl (ih.1 (by omega) 0 v2 I J _ hc1) ?_)
    refine zr_one (if t2.1 = 0 then zN 24 [some (.ref 15), some (.int v1), some (.int v2)] [] (SH, t2.2, J) else zN 15 [some (.ref 15), some (.int v1), some (.int v2)] [] (SH, t2.2, J)) rfl (zR_if (fun hc6 => zR_go ?_) (fun hc6 => zR_go ?_))
    · rw [if_pos hc6] at h
      refine zr_steps 1 (25, [some (.ref 15), some (.int v1), some (.int v2)], [.int 0], (SH, t2.2, J)) rfl ?_
      have he := Option.some.inj h
      subst he
      exact zr_one (if ((0 : Int32) = 0 ∨ (0 : Int32) = 1) then some (.inr (.inr (some (.int 0)))) else none) rfl (zR_pos (by decide) (zR_ret rfl rfl))
    · rw [if_neg hc6] at h
      refine zr_steps 1 (16, [some (.ref 15), some (.int v1), some (.int v2)], [.ref 15], (SH, t2.2, J)) rfl ?_
      obtain ⟨t4, hc3, h⟩ := zbind h
      refine zr_one (some (.inr (.inl (28, [.ref 15], [], 19)))) rfl (zR_call (by omega) rfl (ok_f28_next (by omega)  _ hc3) ?_)
      refine zr_steps 1 (21, [some (.ref 15), some (.int v1), some (.int v2)], [.int 41, .int t4], (SH, t2.2, J)) rfl ?_
      refine zr_one (if t4 = 41 then zN 26 [some (.ref 15), some (.int v1), some (.int v2)] [] (SH, t2.2, J) else zN 24 [some (.ref 15), some (.int v1), some (.int v2)] [] (SH, t2.2, J)) rfl (zR_if (fun hc5 => zR_go ?_) (fun hc5 => zR_go ?_))
      · rw [if_pos hc5] at h
        refine zr_steps 7 (37, [some (.ref 15), some (.int v1), some (.int v2)], [.int 1], (SH, (zu t2.2 15 4 ((t2.2 15 4) + 1)), J)) rfl ?_
        have he := Option.some.inj h
        subst he
        exact zr_one (if ((1 : Int32) = 0 ∨ (1 : Int32) = 1) then some (.inr (.inr (some (.int 1)))) else none) rfl (zR_pos (by decide) (zR_ret rfl rfl))
      · rw [if_neg hc5] at h
        refine zr_steps 1 (25, [some (.ref 15), some (.int v1), some (.int v2)], [.int 0], (SH, t2.2, J)) rfl ?_
        have he := Option.some.inj h
        subst he
        exact zr_one (if ((0 : Int32) = 0 ∨ (0 : Int32) = 1) then some (.inr (.inr (some (.int 0)))) else none) rfl (zR_pos (by decide) (zR_ret rfl rfl))
  · rw [if_neg hc15] at h
    refine zr_steps 2 (40, [some (.ref 15), some (.int v1), some (.int v2)], [.int v2, .ref 15], (SH, I, J)) rfl ?_
    obtain ⟨t8, hc7, h⟩ := zbind h
    refine zr_one (some (.inr (.inl (24, [.ref 15, .int v2], [], 43)))) rfl (zR_call (by omega) rfl (ih.2.1 (by omega) v2 I J _ hc7) ?_)
    refine zr_one (if t8.1 = 0 then zN 46 [some (.ref 15), some (.int v1), some (.int v2)] [] (SH, t8.2, J) else zN 48 [some (.ref 15), some (.int v1), some (.int v2)] [] (SH, t8.2, J)) rfl (zR_if (fun hc14 => zR_go ?_) (fun hc14 => zR_go ?_))
    · rw [if_pos hc14] at h
      refine zr_steps 1 (47, [some (.ref 15), some (.int v1), some (.int v2)], [.int 0], (SH, t8.2, J)) rfl ?_
      have he := Option.some.inj h
      subst he
      exact zr_one (if ((0 : Int32) = 0 ∨ (0 : Int32) = 1) then some (.inr (.inr (some (.int 0)))) else none) rfl (zR_pos (by decide) (zR_ret rfl rfl))
    · rw [if_neg hc14] at h
      refine zr_steps 3 (52, [some (.ref 15), some (.int v1), some (.int v2)], [.int 33, .int v1, .ref 15], (SH, t8.2, J)) rfl ?_
      refine zr_one (if v1 = 33 then zN 55 [some (.ref 15), some (.int v1), some (.int v2)] [.ref 15] (SH, t8.2, J) else zN 61 [some (.ref 15), some (.int v1), some (.int v2)] [.ref 15] (SH, t8.2, J)) rfl (zR_if (fun hc13 => zR_go ?_) (fun hc13 => zR_go ?_))
      · rw [if_pos hc13] at h
        refine zr_steps 2 (64, [some (.ref 15), some (.int v1), some (.int v2)], [.int 20033, .ref 15], (SH, t8.2, J)) rfl ?_
        obtain ⟨t10, hc9, h⟩ := zbind h
        refine zr_one (some (.inr (.inl (29, [.ref 15, .int 20033], [], 67)))) rfl (zR_call (by omega) rfl (ok_f29_write (by omega) 20033 _ hc9) ?_)
        refine zr_steps 1 (68, [some (.ref 15), some (.int v1), some (.int v2)], [.int 1], (SH, t10, J)) rfl ?_
        have he := Option.some.inj h
        subst he
        exact zr_one (if ((1 : Int32) = 0 ∨ (1 : Int32) = 1) then some (.inr (.inr (some (.int 1)))) else none) rfl (zR_pos (by decide) (zR_ret rfl rfl))
      · rw [if_neg hc13] at h
        refine zr_steps 1 (64, [some (.ref 15), some (.int v1), some (.int v2)], [.int 20126, .ref 15], (SH, t8.2, J)) rfl ?_
        obtain ⟨t12, hc11, h⟩ := zbind h
        refine zr_one (some (.inr (.inl (29, [.ref 15, .int 20126], [], 67)))) rfl (zR_call (by omega) rfl (ok_f29_write (by omega) 20126 _ hc11) ?_)
        refine zr_steps 1 (68, [some (.ref 15), some (.int v1), some (.int v2)], [.int 1], (SH, t12, J)) rfl ?_
        have he := Option.some.inj h
        subst he
        exact zr_one (if ((1 : Int32) = 0 ∨ (1 : Int32) = 1) then some (.inr (.inr (some (.int 1)))) else none) rfl (zR_pos (by decide) (zR_ret rfl rfl))
theorem okr_F22 : ∀ n : Nat, ((∀ {X : zX} {d : Nat} (hd : n + 4 ≤ d) (v1 : Int32) (v2 : Int32) (I : (Nat → Nat → Int32)) (J : (Nat → Nat → Int64)) (t : (Int32 × (Nat → Nat → Int32))), (F22 n).1 v1 v2 I = some t → zRun X d 22 0 (zent 22 [.ref 15, .int v1, .int v2]) [] (SH, I, J) (some (.int t.1)) (SH, t.2, J)) ∧ (∀ {X : zX} {d : Nat} (hd : n + 4 ≤ d) (v1 : Int32) (I : (Nat → Nat → Int32)) (J : (Nat → Nat → Int64)) (t : (Int32 × (Nat → Nat → Int32))), (F22 n).2.1 v1 I = some t → zRun X d 24 0 (zent 24 [.ref 15, .int v1]) [] (SH, I, J) (some (.int t.1)) (SH, t.2, J)) ∧ (∀ {X : zX} {d : Nat} (hd : n + 4 ≤ d) (v1 : Int32) (v2 : Int32) (I : (Nat → Nat → Int32)) (J : (Nat → Nat → Int64)) (t : (Int32 × (Nat → Nat → Int32))), (F22 n).2.2 v1 v2 I = some t → zRun X d 25 0 (zent 25 [.ref 15, .int v1, .int v2]) [] (SH, I, J) (some (.int t.1)) (SH, t.2, J))) := by
  intro n
  induction n with
  | zero => exact ⟨fun {_ _} _ _ _ _ _ _ h => (by cases h), fun {_ _} _ _ _ _ _ h => (by cases h), fun {_ _} _ _ _ _ _ _ h => (by cases h)⟩
  | succ n ih => exact ⟨fun {_ _} hd v1 v2 I J t h => okb_f22_readPart ih (by omega) v1 v2 I J t h, fun {_ _} hd v1 I J t h => okb_f24_readOperand ih (by omega) v1 I J t h, fun {_ _} hd v1 v2 I J t h => okb_f25_readOpened ih (by omega) v1 v2 I J t h⟩
theorem ok_f22_readPart {X : zX} {d n : Nat} (hd : n + 4 ≤ d) (v1 : Int32) (v2 : Int32) {I : (Nat → Nat → Int32)} {J : (Nat → Nat → Int64)} (t : (Int32 × (Nat → Nat → Int32))) (h : f22_readPart n v1 v2 I = some t) : zRun X d 22 0 (zent 22 [.ref 15, .int v1, .int v2]) [] (SH, I, J) (some (.int t.1)) (SH, t.2, J) := (okr_F22 n).1 hd v1 v2 I J t h
theorem ok_f24_readOperand {X : zX} {d n : Nat} (hd : n + 4 ≤ d) (v1 : Int32) {I : (Nat → Nat → Int32)} {J : (Nat → Nat → Int64)} (t : (Int32 × (Nat → Nat → Int32))) (h : f24_readOperand n v1 I = some t) : zRun X d 24 0 (zent 24 [.ref 15, .int v1]) [] (SH, I, J) (some (.int t.1)) (SH, t.2, J) := (okr_F22 n).2.1 hd v1 I J t h
theorem ok_f25_readOpened {X : zX} {d n : Nat} (hd : n + 4 ≤ d) (v1 : Int32) (v2 : Int32) {I : (Nat → Nat → Int32)} {J : (Nat → Nat → Int64)} (t : (Int32 × (Nat → Nat → Int32))) (h : f25_readOpened n v1 v2 I = some t) : zRun X d 25 0 (zent 25 [.ref 15, .int v1, .int v2]) [] (SH, I, J) (some (.int t.1)) (SH, t.2, J) := (okr_F22 n).2.2 hd v1 v2 I J t h
set_option maxRecDepth 100000 in
set_option maxHeartbeats 4000000 in
theorem ok_f21_readLine {X : zX} {d : Nat} (hd : 205 ≤ d) {I : (Nat → Nat → Int32)} {J : (Nat → Nat → Int64)} (t : (Int32 × (Nat → Nat → Int32))) (h : f21_readLine I = some t) : zRun X d 21 0 (zent 21 [.ref 15]) [] (SH, I, J) (some (.int t.1)) (SH, t.2, J) := by
  unfold f21_readLine at h
  refine zr_steps 3 (3, [some (.ref 15)], [.int 0, .int 0, .ref 15], (SH, I, J)) rfl ?_
  obtain ⟨t2, hc1, h⟩ := zbind h
  refine zr_one (some (.inr (.inl (22, [.ref 15, .int 0, .int 0], [], 6)))) rfl (zR_call (by omega) rfl (ok_f22_readPart (by omega) 0 0 _ hc1) ?_)
  refine zr_one (if t2.1 = 0 then zN 9 [some (.ref 15)] [] (SH, t2.2, J) else zN 11 [some (.ref 15)] [] (SH, t2.2, J)) rfl (zR_if (fun hc15 => zR_go ?_) (fun hc15 => zR_go ?_))
  · rw [if_pos hc15] at h
    refine zr_steps 1 (10, [some (.ref 15)], [.int 0], (SH, t2.2, J)) rfl ?_
    have he := Option.some.inj h
    subst he
    exact zr_one (if ((0 : Int32) = 0 ∨ (0 : Int32) = 1) then some (.inr (.inr (some (.int 0)))) else none) rfl (zR_pos (by decide) (zR_ret rfl rfl))
  · rw [if_neg hc15] at h
    refine zr_steps 1 (12, [some (.ref 15)], [.ref 15], (SH, t2.2, J)) rfl ?_
    obtain ⟨t4, hc3, h⟩ := zbind h
    refine zr_one (some (.inr (.inl (28, [.ref 15], [], 15)))) rfl (zR_call (by omega) rfl (ok_f28_next (by omega)  _ hc3) ?_)
    refine zr_steps 1 (17, [some (.ref 15)], [.int 63, .int t4], (SH, t2.2, J)) rfl ?_
    refine zr_one (if t4 = 63 then zN 20 [some (.ref 15)] [] (SH, t2.2, J) else zN 48 [some (.ref 15)] [] (SH, t2.2, J)) rfl (zR_if (fun hc14 => zR_go ?_) (fun hc14 => zR_go ?_))
    · rw [if_pos hc14] at h
      refine zr_steps 8 (34, [some (.ref 15)], [.int 20063, .ref 15], (SH, (zu t2.2 15 4 ((t2.2 15 4) + 1)), J)) rfl ?_
      obtain ⟨t6, hc5, h⟩ := zbind h
      refine zr_one (some (.inr (.inl (29, [.ref 15, .int 20063], [], 37)))) rfl (zR_call (by omega) rfl (ok_f29_write (by omega) 20063 _ hc5) ?_)
      refine zr_steps 3 (40, [some (.ref 15)], [.int 0, .int 0, .ref 15], (SH, t6, J)) rfl ?_
      obtain ⟨t8, hc7, h⟩ := zbind h
      refine zr_one (some (.inr (.inl (22, [.ref 15, .int 0, .int 0], [], 43)))) rfl (zR_call (by omega) rfl (ok_f22_readPart (by omega) 0 0 _ hc7) ?_)
      refine zr_one (if t8.1 = 0 then zN 46 [some (.ref 15)] [] (SH, t8.2, J) else zN 48 [some (.ref 15)] [] (SH, t8.2, J)) rfl (zR_if (fun hc11 => zR_go ?_) (fun hc11 => zR_go ?_))
      · rw [if_pos hc11] at h
        refine zr_steps 1 (47, [some (.ref 15)], [.int 0], (SH, t8.2, J)) rfl ?_
        have he := Option.some.inj h
        subst he
        exact zr_one (if ((0 : Int32) = 0 ∨ (0 : Int32) = 1) then some (.inr (.inr (some (.int 0)))) else none) rfl (zR_pos (by decide) (zR_ret rfl rfl))
      · rw [if_neg hc11] at h
        refine zr_steps 2 (52, [some (.ref 15)], [.int 20059, .ref 15], (SH, t8.2, J)) rfl ?_
        obtain ⟨t10, hc9, h⟩ := zbind h
        refine zr_one (some (.inr (.inl (29, [.ref 15, .int 20059], [], 55)))) rfl (zR_call (by omega) rfl (ok_f29_write (by omega) 20059 _ hc9) ?_)
        refine zr_steps 1 (56, [some (.ref 15)], [.int 1], (SH, t10, J)) rfl ?_
        have he := Option.some.inj h
        subst he
        exact zr_one (if ((1 : Int32) = 0 ∨ (1 : Int32) = 1) then some (.inr (.inr (some (.int 1)))) else none) rfl (zR_pos (by decide) (zR_ret rfl rfl))
    · rw [if_neg hc14] at h
      refine zr_steps 2 (52, [some (.ref 15)], [.int 20059, .ref 15], (SH, t2.2, J)) rfl ?_
      obtain ⟨t13, hc12, h⟩ := zbind h
      refine zr_one (some (.inr (.inl (29, [.ref 15, .int 20059], [], 55)))) rfl (zR_call (by omega) rfl (ok_f29_write (by omega) 20059 _ hc12) ?_)
      refine zr_steps 1 (56, [some (.ref 15)], [.int 1], (SH, t13, J)) rfl ?_
      have he := Option.some.inj h
      subst he
      exact zr_one (if ((1 : Int32) = 0 ∨ (1 : Int32) = 1) then some (.inr (.inr (some (.int 1)))) else none) rfl (zR_pos (by decide) (zR_ret rfl rfl))
set_option maxRecDepth 100000 in
set_option maxHeartbeats 4000000 in
theorem ok_f20_readLines_L2 {X : zX} {d : Nat} {r : Option Value} {M' : zM} (hd : 206 ≤ d) {J : (Nat → Nat → Int64)} : ∀ (n : Nat) (s : (Int32 × (Nat → Nat → Int32))) (t : (Int32 × (Nat → Nat → Int32)) ⊕ (Int32 × (Nat → Nat → Int32))), zloopR f20_readLines_L2 n s = some t → zSumE (fun (x : (Int32 × (Nat → Nat → Int32))) => r = (some (.int x.1)) ∧ M' = (SH, x.2, J)) (fun (x : (Int32 × (Nat → Nat → Int32))) => zRun X d 20 57 [none, none] [] (SH, x.2, J) r M') t → (fun (s : (Int32 × (Nat → Nat → Int32))) => zRun X d 20 2 [some (.ref 15), some (.int s.1)] [] (SH, s.2, J) r M') s := zloopR_ok (B := f20_readLines_L2) (Wh := fun (s : (Int32 × (Nat → Nat → Int32))) => zRun X d 20 2 [some (.ref 15), some (.int s.1)] [] (SH, s.2, J) r M') (Wx := fun (x : (Int32 × (Nat → Nat → Int32))) => zRun X d 20 57 [none, none] [] (SH, x.2, J) r M') (Wr := fun (x : (Int32 × (Nat → Nat → Int32))) => r = (some (.int x.1)) ∧ M' = (SH, x.2, J)) (fun s y h w => by
  unfold f20_readLines_L2 at h
  refine zr_steps 2 (5, [some (.ref 15), some (.int s.1)], [.int 120, .int s.1], (SH, s.2, J)) rfl ?_
  refine zr_one (if (120 : Int32) < s.1 then zN 57 [some (.ref 15), some (.int s.1)] [] (SH, s.2, J) else zN 8 [some (.ref 15), some (.int s.1)] [] (SH, s.2, J)) rfl (zR_if (fun hc8 => zR_go ?_) (fun hc8 => zR_go ?_))
  · rw [if_pos hc8] at h
    have he := Option.some.inj h
    subst he
    exact zr_hdr (ls2 := [none, none]) rfl rfl (show zRun X d 20 57 [none, none] [] (SH, s.2, J) r M' from w)
  · rw [if_neg hc8] at h
    refine zr_steps 1 (9, [some (.ref 15), some (.int s.1)], [.ref 15], (SH, s.2, J)) rfl ?_
    obtain ⟨t2, hc1, h⟩ := zbind h
    refine zr_one (some (.inr (.inl (21, [.ref 15], [], 12)))) rfl (zR_call (by omega) rfl (ok_f21_readLine (by omega)  _ hc1) ?_)
    refine zr_one (if t2.1 = 0 then zN 15 [some (.ref 15), some (.int s.1)] [] (SH, t2.2, J) else zN 17 [some (.ref 15), some (.int s.1)] [] (SH, t2.2, J)) rfl (zR_if (fun hc7 => zR_go ?_) (fun hc7 => zR_go ?_))
    · rw [if_pos hc7] at h
      refine zr_steps 1 (16, [some (.ref 15), some (.int s.1)], [.int 0], (SH, t2.2, J)) rfl ?_
      have he := Option.some.inj h
      subst he
      obtain ⟨e1, e2⟩ := (show r = (some (.int 0)) ∧ M' = (SH, t2.2, J) from w)
      exact zr_one (if ((0 : Int32) = 0 ∨ (0 : Int32) = 1) then some (.inr (.inr (some (.int 0)))) else none) rfl (zR_pos (by decide) (zR_ret e1.symm e2.symm))
    · rw [if_neg hc7] at h
      refine zr_steps 4 (25, [some (.ref 15), some (.int s.1)], [.int (t2.2 15 6), .int (t2.2 15 4)], (SH, t2.2, J)) rfl ?_
      refine zr_one (if (t2.2 15 4) = (t2.2 15 6) then zN 28 [some (.ref 15), some (.int s.1)] [] (SH, t2.2, J) else zN 30 [some (.ref 15), some (.int s.1)] [] (SH, t2.2, J)) rfl (zR_if (fun hc6 => zR_go ?_) (fun hc6 => zR_go ?_))
      · rw [if_pos hc6] at h
        refine zr_steps 1 (29, [some (.ref 15), some (.int s.1)], [.int 1], (SH, t2.2, J)) rfl ?_
        have he := Option.some.inj h
        subst he
        obtain ⟨e1, e2⟩ := (show r = (some (.int 1)) ∧ M' = (SH, t2.2, J) from w)
        exact zr_one (if ((1 : Int32) = 0 ∨ (1 : Int32) = 1) then some (.inr (.inr (some (.int 1)))) else none) rfl (zR_pos (by decide) (zR_ret e1.symm e2.symm))
      · rw [if_neg hc6] at h
        refine zr_steps 1 (31, [some (.ref 15), some (.int s.1)], [.ref 15], (SH, t2.2, J)) rfl ?_
        obtain ⟨t4, hc3, h⟩ := zbind h
        refine zr_one (some (.inr (.inl (28, [.ref 15], [], 34)))) rfl (zR_call (by omega) rfl (ok_f28_next (by omega)  _ hc3) ?_)
        refine zr_steps 1 (36, [some (.ref 15), some (.int s.1)], [.int 59, .int t4], (SH, t2.2, J)) rfl ?_
        refine zr_one (if t4 = 59 then zN 41 [some (.ref 15), some (.int s.1)] [] (SH, t2.2, J) else zN 39 [some (.ref 15), some (.int s.1)] [] (SH, t2.2, J)) rfl (zR_if (fun hc5 => zR_go ?_) (fun hc5 => zR_go ?_))
        · rw [if_pos hc5] at h
          refine zr_steps 8 (2, [some (.ref 15), some (.int (s.1 + 1))], [], (SH, (zu t2.2 15 4 ((t2.2 15 4) + 1)), J)) rfl ?_
          have he := Option.some.inj h
          subst he
          exact zr_hdr (ls2 := [some (.ref 15), some (.int (s.1 + 1))]) rfl rfl (show zRun X d 20 2 [some (.ref 15), some (.int (s.1 + 1))] [] (SH, (zu t2.2 15 4 ((t2.2 15 4) + 1)), J) r M' from w)
        · rw [if_neg hc5] at h
          refine zr_steps 1 (40, [some (.ref 15), some (.int s.1)], [.int 0], (SH, t2.2, J)) rfl ?_
          have he := Option.some.inj h
          subst he
          obtain ⟨e1, e2⟩ := (show r = (some (.int 0)) ∧ M' = (SH, t2.2, J) from w)
          exact zr_one (if ((0 : Int32) = 0 ∨ (0 : Int32) = 1) then some (.inr (.inr (some (.int 0)))) else none) rfl (zR_pos (by decide) (zR_ret e1.symm e2.symm)))
set_option maxRecDepth 100000 in
set_option maxHeartbeats 4000000 in
theorem ok_f20_readLines {X : zX} {d : Nat} (hd : 206 ≤ d) {I : (Nat → Nat → Int32)} {J : (Nat → Nat → Int64)} (t : (Int32 × (Nat → Nat → Int32))) (h : f20_readLines I = some t) : zRun X d 20 0 (zent 20 [.ref 15]) [] (SH, I, J) (some (.int t.1)) (SH, t.2, J) := by
  unfold f20_readLines at h
  refine zr_steps 2 (2, [some (.ref 15), some (.int 0)], [], (SH, I, J)) rfl ?_
  obtain ⟨y11, ho10, hy⟩ := zbRe h
  refine zr_hdr (ls2 := [some (.ref 15), some (.int 0)]) rfl rfl ?_
  refine ok_f20_readLines_L2 (by omega) 5000 ((0 : Int32), I) y11 ho10 ?_
  rcases hy with ⟨rr, rfl, h⟩ | ⟨s9, rfl, h⟩
  · have he := Option.some.inj h
    subst he
    exact ⟨rfl, rfl⟩
  · show zRun X d 20 57 [none, none] [] (SH, s9.2, J) _ _
    refine zr_steps 1 (58, [none, none], [.int 0], (SH, s9.2, J)) rfl ?_
    have he := Option.some.inj h
    subst he
    exact zr_one (if ((0 : Int32) = 0 ∨ (0 : Int32) = 1) then some (.inr (.inr (some (.int 0)))) else none) rfl (zR_pos (by decide) (zR_ret rfl rfl))
set_option maxRecDepth 100000 in
set_option maxHeartbeats 4000000 in
theorem ok_f19_becomes {X : zX} {d : Nat} (hd : 207 ≤ d) {I : (Nat → Nat → Int32)} {J : (Nat → Nat → Int64)} (t : (Int32 × (Nat → Nat → Int32))) (h : f19_becomes I = some t) : zRun X d 19 0 (zent 19 [.ref 15]) [] (SH, I, J) (some (.int t.1)) (SH, t.2, J) := by
  unfold f19_becomes at h
  refine zr_steps 3 (5, [some (.ref 15), none], [.int 4, .int (I 15 7)], (SH, I, J)) rfl ?_
  refine zr_one (if (I 15 7) = 4 then zN 8 [some (.ref 15), none] [] (SH, I, J) else zN 11 [some (.ref 15), none] [] (SH, I, J)) rfl (zR_if (fun hc5 => zR_go ?_) (fun hc5 => zR_go ?_))
  · rw [if_pos hc5] at h
    refine zr_steps 1 (10, [some (.ref 15), none], [.int (-3)], (SH, I, J)) rfl ?_
    have he := Option.some.inj h
    subst he
    exact zr_one (some (.inr (.inr (some (.int (-3)))))) rfl (zR_ret rfl rfl)
  · rw [if_neg hc5] at h
    refine zr_steps 8 (25, [some (.ref 15), none], [.int 0, .int (I 15 7), .ref 22], (SH, (zu I 15 4 0), J)) rfl ?_
    obtain ⟨hc1, h⟩ := zbifo h
    refine zr_one (bif zin (I 15 7) 4 then zN 26 [some (.ref 15), none] [] (SH, (zu (zu I 15 4 0) 22 (I 15 7).toNatClampNeg 0), J) else none) rfl (zR_bif hc1 (zR_go ?_))
    refine zr_steps 1 (27, [some (.ref 15), none], [.ref 15], (SH, (zu (zu I 15 4 0) 22 (I 15 7).toNatClampNeg 0), J)) rfl ?_
    obtain ⟨t3, hc2, h⟩ := zbind h
    refine zr_one (some (.inr (.inl (20, [.ref 15], [], 30)))) rfl (zR_call (by omega) rfl (ok_f20_readLines (by omega)  _ hc2) ?_)
    refine zr_steps 5 (37, [some (.ref 15), some (.int t3.1)], [.int t3.1], (SH, (zu t3.2 15 6 0), J)) rfl ?_
    refine zr_one (if t3.1 = 0 then zN 40 [some (.ref 15), some (.int t3.1)] [] (SH, (zu t3.2 15 6 0), J) else zN 48 [some (.ref 15), some (.int t3.1)] [] (SH, (zu t3.2 15 6 0), J)) rfl (zR_if (fun hc4 => zR_go ?_) (fun hc4 => zR_go ?_))
    · rw [if_pos hc4] at h
      refine zr_steps 4 (47, [some (.ref 15), some (.int t3.1)], [.int ((-100) - (t3.2 15 4))], (SH, (zu t3.2 15 6 0), J)) rfl ?_
      have he := Option.some.inj h
      subst he
      exact zr_one (some (.inr (.inr (some (.int ((-100) - (t3.2 15 4))))))) rfl (zR_ret rfl rfl)
    · rw [if_neg hc4] at h
      refine zr_steps 10 (64, [some (.ref 15), some (.int t3.1)], [.int (((t3.2 15 7) + 1) - 1)], (SH, (zu (zu t3.2 15 6 0) 15 7 ((t3.2 15 7) + 1)), J)) rfl ?_
      have he := Option.some.inj h
      subst he
      exact zr_one (some (.inr (.inr (some (.int (((t3.2 15 7) + 1) - 1)))))) rfl (zR_ret rfl rfl)
set_option maxRecDepth 100000 in
set_option maxHeartbeats 4000000 in
theorem ok_f92_law {X : zX} {d : Nat} (hd : 208 ≤ d) {I : (Nat → Nat → Int32)} {J : (Nat → Nat → Int64)} (t : (Int32 × (Nat → Nat → Int32))) (h : f92_law I = some t) : zRun X d 92 0 (zent 92 [.ref 0]) [] (SH, I, J) (some (.int t.1)) (SH, t.2, J) := by
  unfold f92_law at h
  refine zr_steps 2 (4, [some (.ref 0)], [.ref 15], (SH, I, J)) rfl ?_
  obtain ⟨t2, hc1, h⟩ := zbind h
  refine zr_one (some (.inr (.inl (19, [.ref 15], [], 7)))) rfl (zR_call (by omega) rfl (ok_f19_becomes (by omega)  _ hc1) ?_)
  have he := Option.some.inj h
  subst he
  exact zr_one (some (.inr (.inr (some (.int t2.1))))) rfl (zR_ret rfl rfl)
set_option maxRecDepth 100000 in
set_option maxHeartbeats 4000000 in
theorem ok_f139_look {X : zX} {d : Nat} (hd : 0 ≤ d) {I : (Nat → Nat → Int32)} {J : (Nat → Nat → Int64)} (t : Int32) (h : f139_look I = some t) : zRun X d 139 0 (zent 139 [.ref 73]) [] (SH, I, J) (some (.int t)) (SH, I, J) := by
  unfold f139_look at h
  refine zr_steps 4 (8, [some (.ref 73)], [.int (I 73 19), .int (I 73 20)], (SH, I, J)) rfl ?_
  refine zr_one (if (I 73 19) ≤ (I 73 20) then zN 23 [some (.ref 73)] [] (SH, I, J) else zN 11 [some (.ref 73)] [] (SH, I, J)) rfl (zR_if (fun hc2 => zR_go ?_) (fun hc2 => zR_go ?_))
  · rw [if_pos hc2] at h
    refine zr_steps 1 (24, [some (.ref 73)], [.int (-1)], (SH, I, J)) rfl ?_
    have he := Option.some.inj h
    subst he
    exact zr_one (some (.inr (.inr (some (.int (-1)))))) rfl (zR_ret rfl rfl)
  · rw [if_neg hc2] at h
    refine zr_steps 4 (19, [some (.ref 73)], [.int (I 73 20), .ref 85], (SH, I, J)) rfl ?_
    obtain ⟨hc1, h⟩ := zbifo h
    refine zr_one (bif zin (I 73 20) 120 then zN 20 [some (.ref 73)] [.int (I 85 (I 73 20).toNatClampNeg)] (SH, I, J) else none) rfl (zR_bif hc1 (zR_go ?_))
    refine zr_steps 1 (24, [some (.ref 73)], [.int (I 85 (I 73 20).toNatClampNeg)], (SH, I, J)) rfl ?_
    have he := Option.some.inj h
    subst he
    exact zr_one (some (.inr (.inr (some (.int (I 85 (I 73 20).toNatClampNeg)))))) rfl (zR_ret rfl rfl)
set_option maxRecDepth 100000 in
set_option maxHeartbeats 4000000 in
theorem ok_f142_nameOf {X : zX} {d : Nat} (hd : 0 ≤ d) (v0 : Int32) {I : (Nat → Nat → Int32)} {J : (Nat → Nat → Int64)} (t : Int32) (h : f142_nameOf v0 = some t) : zRun X d 142 0 (zent 142 [.int v0]) [] (SH, I, J) (some (.int t)) (SH, I, J) := by
  unfold f142_nameOf at h
  refine zr_steps 1 (1, [some (.int v0)], [.int v0], (SH, I, J)) rfl ?_
  refine zr_one (if v0.toInt = 102 then zN 98 [some (.int v0)] [] (SH, I, J) else (if v0.toInt = 103 then zN 106 [some (.int v0)] [] (SH, I, J) else (if v0.toInt = 104 then zN 103 [some (.int v0)] [] (SH, I, J) else (if v0.toInt = 105 then zN 106 [some (.int v0)] [] (SH, I, J) else (if v0.toInt = 106 then zN 106 [some (.int v0)] [] (SH, I, J) else (if v0.toInt = 107 then zN 90 [some (.int v0)] [] (SH, I, J) else (if v0.toInt = 108 then zN 106 [some (.int v0)] [] (SH, I, J) else (if v0.toInt = 109 then zN 88 [some (.int v0)] [] (SH, I, J) else (if v0.toInt = 110 then zN 96 [some (.int v0)] [] (SH, I, J) else (if v0.toInt = 111 then zN 100 [some (.int v0)] [] (SH, I, J) else (if v0.toInt = 112 then zN 106 [some (.int v0)] [] (SH, I, J) else (if v0.toInt = 113 then zN 94 [some (.int v0)] [] (SH, I, J) else (if v0.toInt = 114 then zN 106 [some (.int v0)] [] (SH, I, J) else (if v0.toInt = 115 then zN 106 [some (.int v0)] [] (SH, I, J) else (if v0.toInt = 116 then zN 106 [some (.int v0)] [] (SH, I, J) else (if v0.toInt = 117 then zN 106 [some (.int v0)] [] (SH, I, J) else (if v0.toInt = 118 then zN 106 [some (.int v0)] [] (SH, I, J) else (if v0.toInt = 119 then zN 92 [some (.int v0)] [] (SH, I, J) else zN 106 [some (.int v0)] [] (SH, I, J))))))))))))))))))) rfl ?_
  refine zR_if (fun hc18 => zR_go ?_) (fun hc18 => ?_)
  · rw [if_pos hc18] at h
    refine zr_steps 1 (99, [some (.int v0)], [.int 5], (SH, I, J)) rfl ?_
    have he := Option.some.inj h
    subst he
    exact zr_one (some (.inr (.inr (some (.int 5))))) rfl (zR_ret rfl rfl)
  rw [if_neg hc18] at h
  refine zR_if (fun hc17 => zR_go ?_) (fun hc17 => ?_)
  · rw [if_pos hc17] at h
    refine zr_steps 1 (107, [some (.int v0)], [.int (-1)], (SH, I, J)) rfl ?_
    have he := Option.some.inj h
    subst he
    exact zr_one (some (.inr (.inr (some (.int (-1)))))) rfl (zR_ret rfl rfl)
  rw [if_neg hc17] at h
  refine zR_if (fun hc16 => zR_go ?_) (fun hc16 => ?_)
  · rw [if_pos hc16] at h
    refine zr_steps 1 (105, [some (.int v0)], [.int 7], (SH, I, J)) rfl ?_
    have he := Option.some.inj h
    subst he
    exact zr_one (some (.inr (.inr (some (.int 7))))) rfl (zR_ret rfl rfl)
  rw [if_neg hc16] at h
  refine zR_if (fun hc15 => zR_go ?_) (fun hc15 => ?_)
  · rw [if_pos hc15] at h
    refine zr_steps 1 (107, [some (.int v0)], [.int (-1)], (SH, I, J)) rfl ?_
    have he := Option.some.inj h
    subst he
    exact zr_one (some (.inr (.inr (some (.int (-1)))))) rfl (zR_ret rfl rfl)
  rw [if_neg hc15] at h
  refine zR_if (fun hc14 => zR_go ?_) (fun hc14 => ?_)
  · rw [if_pos hc14] at h
    refine zr_steps 1 (107, [some (.int v0)], [.int (-1)], (SH, I, J)) rfl ?_
    have he := Option.some.inj h
    subst he
    exact zr_one (some (.inr (.inr (some (.int (-1)))))) rfl (zR_ret rfl rfl)
  rw [if_neg hc14] at h
  refine zR_if (fun hc13 => zR_go ?_) (fun hc13 => ?_)
  · rw [if_pos hc13] at h
    refine zr_steps 1 (91, [some (.int v0)], [.int 1], (SH, I, J)) rfl ?_
    have he := Option.some.inj h
    subst he
    exact zr_one (some (.inr (.inr (some (.int 1))))) rfl (zR_ret rfl rfl)
  rw [if_neg hc13] at h
  refine zR_if (fun hc12 => zR_go ?_) (fun hc12 => ?_)
  · rw [if_pos hc12] at h
    refine zr_steps 1 (107, [some (.int v0)], [.int (-1)], (SH, I, J)) rfl ?_
    have he := Option.some.inj h
    subst he
    exact zr_one (some (.inr (.inr (some (.int (-1)))))) rfl (zR_ret rfl rfl)
  rw [if_neg hc12] at h
  refine zR_if (fun hc11 => zR_go ?_) (fun hc11 => ?_)
  · rw [if_pos hc11] at h
    refine zr_steps 1 (89, [some (.int v0)], [.int 0], (SH, I, J)) rfl ?_
    have he := Option.some.inj h
    subst he
    exact zr_one (some (.inr (.inr (some (.int 0))))) rfl (zR_ret rfl rfl)
  rw [if_neg hc11] at h
  refine zR_if (fun hc10 => zR_go ?_) (fun hc10 => ?_)
  · rw [if_pos hc10] at h
    refine zr_steps 1 (97, [some (.int v0)], [.int 4], (SH, I, J)) rfl ?_
    have he := Option.some.inj h
    subst he
    exact zr_one (some (.inr (.inr (some (.int 4))))) rfl (zR_ret rfl rfl)
  rw [if_neg hc10] at h
  refine zR_if (fun hc9 => zR_go ?_) (fun hc9 => ?_)
  · rw [if_pos hc9] at h
    refine zr_steps 1 (102, [some (.int v0)], [.int 6], (SH, I, J)) rfl ?_
    have he := Option.some.inj h
    subst he
    exact zr_one (some (.inr (.inr (some (.int 6))))) rfl (zR_ret rfl rfl)
  rw [if_neg hc9] at h
  refine zR_if (fun hc8 => zR_go ?_) (fun hc8 => ?_)
  · rw [if_pos hc8] at h
    refine zr_steps 1 (107, [some (.int v0)], [.int (-1)], (SH, I, J)) rfl ?_
    have he := Option.some.inj h
    subst he
    exact zr_one (some (.inr (.inr (some (.int (-1)))))) rfl (zR_ret rfl rfl)
  rw [if_neg hc8] at h
  refine zR_if (fun hc7 => zR_go ?_) (fun hc7 => ?_)
  · rw [if_pos hc7] at h
    refine zr_steps 1 (95, [some (.int v0)], [.int 3], (SH, I, J)) rfl ?_
    have he := Option.some.inj h
    subst he
    exact zr_one (some (.inr (.inr (some (.int 3))))) rfl (zR_ret rfl rfl)
  rw [if_neg hc7] at h
  refine zR_if (fun hc6 => zR_go ?_) (fun hc6 => ?_)
  · rw [if_pos hc6] at h
    refine zr_steps 1 (107, [some (.int v0)], [.int (-1)], (SH, I, J)) rfl ?_
    have he := Option.some.inj h
    subst he
    exact zr_one (some (.inr (.inr (some (.int (-1)))))) rfl (zR_ret rfl rfl)
  rw [if_neg hc6] at h
  refine zR_if (fun hc5 => zR_go ?_) (fun hc5 => ?_)
  · rw [if_pos hc5] at h
    refine zr_steps 1 (107, [some (.int v0)], [.int (-1)], (SH, I, J)) rfl ?_
    have he := Option.some.inj h
    subst he
    exact zr_one (some (.inr (.inr (some (.int (-1)))))) rfl (zR_ret rfl rfl)
  rw [if_neg hc5] at h
  refine zR_if (fun hc4 => zR_go ?_) (fun hc4 => ?_)
  · rw [if_pos hc4] at h
    refine zr_steps 1 (107, [some (.int v0)], [.int (-1)], (SH, I, J)) rfl ?_
    have he := Option.some.inj h
    subst he
    exact zr_one (some (.inr (.inr (some (.int (-1)))))) rfl (zR_ret rfl rfl)
  rw [if_neg hc4] at h
  refine zR_if (fun hc3 => zR_go ?_) (fun hc3 => ?_)
  · rw [if_pos hc3] at h
    refine zr_steps 1 (107, [some (.int v0)], [.int (-1)], (SH, I, J)) rfl ?_
    have he := Option.some.inj h
    subst he
    exact zr_one (some (.inr (.inr (some (.int (-1)))))) rfl (zR_ret rfl rfl)
  rw [if_neg hc3] at h
  refine zR_if (fun hc2 => zR_go ?_) (fun hc2 => ?_)
  · rw [if_pos hc2] at h
    refine zr_steps 1 (107, [some (.int v0)], [.int (-1)], (SH, I, J)) rfl ?_
    have he := Option.some.inj h
    subst he
    exact zr_one (some (.inr (.inr (some (.int (-1)))))) rfl (zR_ret rfl rfl)
  rw [if_neg hc2] at h
  refine zR_if (fun hc1 => zR_go ?_) (fun hc1 => ?_)
  · rw [if_pos hc1] at h
    refine zr_steps 1 (93, [some (.int v0)], [.int 2], (SH, I, J)) rfl ?_
    have he := Option.some.inj h
    subst he
    exact zr_one (some (.inr (.inr (some (.int 2))))) rfl (zR_ret rfl rfl)
  rw [if_neg hc1] at h
  refine zR_go ?_
  refine zr_steps 1 (107, [some (.int v0)], [.int (-1)], (SH, I, J)) rfl ?_
  have he := Option.some.inj h
  subst he
  exact zr_one (some (.inr (.inr (some (.int (-1)))))) rfl (zR_ret rfl rfl)
set_option maxRecDepth 100000 in
set_option maxHeartbeats 4000000 in
theorem ok_f140_wrong {X : zX} {d : Nat} (hd : 0 ≤ d) {I : (Nat → Nat → Int32)} {J : (Nat → Nat → Int64)} (t : (Nat → Nat → Int32)) (h : f140_wrong I = some t) : zRun X d 140 0 (zent 140 [.ref 73]) [] (SH, I, J) none (SH, t, J) := by
  unfold f140_wrong at h
  refine zr_steps 2 (4, [some (.ref 73)], [.int (I 73 21)], (SH, I, J)) rfl ?_
  refine zr_one (if (0 : Int32) ≤ (I 73 21) then zN 15 [some (.ref 73)] [] (SH, I, J) else zN 7 [some (.ref 73)] [] (SH, I, J)) rfl (zR_if (fun hc1 => zR_go ?_) (fun hc1 => zR_go ?_))
  · rw [if_pos hc1] at h
    have he := Option.some.inj h
    subst he
    exact zr_one (some (.inr (.inr none))) rfl (zR_ret rfl rfl)
  · rw [if_neg hc1] at h
    refine zr_steps 4 (15, [some (.ref 73)], [], (SH, (zu I 73 21 (I 73 20)), J)) rfl ?_
    have he := Option.some.inj h
    subst he
    exact zr_one (some (.inr (.inr none))) rfl (zR_ret rfl rfl)
set_option maxRecDepth 100000 in
set_option maxHeartbeats 4000000 in
theorem ok_f143_opens {X : zX} {d : Nat} (hd : 1 ≤ d) {I : (Nat → Nat → Int32)} {J : (Nat → Nat → Int64)} (t : (Int32 × (Nat → Nat → Int32))) (h : f143_opens I = some t) : zRun X d 143 0 (zent 143 [.ref 73]) [] (SH, I, J) (some (.int t.1)) (SH, t.2, J) := by
  unfold f143_opens at h
  refine zr_steps 3 (6, [some (.ref 73)], [.int 6, .int (I 73 22)], (SH, I, J)) rfl ?_
  refine zr_one (if (I 73 22) = 6 then zN 9 [some (.ref 73)] [] (SH, I, J) else zN 15 [some (.ref 73)] [] (SH, I, J)) rfl (zR_if (fun hc3 => zR_go ?_) (fun hc3 => zR_go ?_))
  · rw [if_pos hc3] at h
    refine zr_steps 1 (10, [some (.ref 73)], [.ref 73], (SH, I, J)) rfl ?_
    obtain ⟨t2, hc1, h⟩ := zbind h
    refine zr_one (some (.inr (.inl (140, [.ref 73], [], 13)))) rfl (zR_call (by omega) rfl (ok_f140_wrong (by omega)  _ hc1) ?_)
    refine zr_steps 1 (14, [some (.ref 73)], [.int 0], (SH, t2, J)) rfl ?_
    have he := Option.some.inj h
    subst he
    exact zr_one (if ((0 : Int32) = 0 ∨ (0 : Int32) = 1) then some (.inr (.inr (some (.int 0)))) else none) rfl (zR_pos (by decide) (zR_ret rfl rfl))
  · rw [if_neg hc3] at h
    refine zr_steps 13 (36, [some (.ref 73)], [.int 1], (SH, (zu (zu I 73 22 ((I 73 22) + 1)) 73 20 ((I 73 20) + 1)), J)) rfl ?_
    have he := Option.some.inj h
    subst he
    exact zr_one (if ((1 : Int32) = 0 ∨ (1 : Int32) = 1) then some (.inr (.inr (some (.int 1)))) else none) rfl (zR_pos (by decide) (zR_ret rfl rfl))
set_option maxRecDepth 100000 in
set_option maxHeartbeats 4000000 in
theorem ok_f141_addStep {X : zX} {d : Nat} (hd : 0 ≤ d) (v1 : Int32) (v2 : Int32) {I : (Nat → Nat → Int32)} {J : (Nat → Nat → Int64)} (t : (Nat → Nat → Int32)) (h : f141_addStep v1 v2 I = some t) : zRun X d 141 0 (zent 141 [.ref 73, .int v1, .int v2]) [] (SH, I, J) none (SH, t, J) := by
  unfold f141_addStep at h
  refine zr_steps 8 (14, [some (.ref 73), some (.int v1), some (.int v2)], [.int v1.toInt8.toInt32, .int (520 + (I 73 23)), .ref 86], (SH, I, J)) rfl ?_
  obtain ⟨hc1, h⟩ := zbifo h
  refine zr_one (bif zin (520 + (I 73 23)) 650 then zN 15 [some (.ref 73), some (.int v1), some (.int v2)] [] (SH, (zu I 86 (520 + (I 73 23)).toNatClampNeg v1.toInt8.toInt32.toInt8.toInt32), J) else none) rfl (zR_bif hc1 (zR_go ?_))
  refine zr_steps 7 (28, [some (.ref 73), some (.int v1), some (.int v2)], [.int v2, .int (520 + (I 73 23)), .ref 87], (SH, (zu I 86 (520 + (I 73 23)).toNatClampNeg v1.toInt8.toInt32.toInt8.toInt32), J)) rfl ?_
  obtain ⟨hc2, h⟩ := zbifo h
  refine zr_one (bif zin (520 + (I 73 23)) 650 then zN 29 [some (.ref 73), some (.int v1), some (.int v2)] [] (SH, (zu (zu I 86 (520 + (I 73 23)).toNatClampNeg v1.toInt8.toInt32.toInt8.toInt32) 87 (520 + (I 73 23)).toNatClampNeg v2), J) else none) rfl (zR_bif hc2 (zR_go ?_))
  refine zr_steps 6 (39, [some (.ref 73), some (.int v1), some (.int v2)], [], (SH, (zu (zu (zu I 86 (520 + (I 73 23)).toNatClampNeg v1.toInt8.toInt32.toInt8.toInt32) 87 (520 + (I 73 23)).toNatClampNeg v2) 73 23 ((I 73 23) + 1)), J)) rfl ?_
  have he := Option.some.inj h
  subst he
  exact zr_one (some (.inr (.inr none))) rfl (zR_ret rfl rfl)
set_option maxRecDepth 100000 in
set_option maxHeartbeats 4000000 in
theorem ok_f144_figure_L4 {X : zX} {d : Nat} {r : Option Value} {M' : zM} (hd : 1 ≤ d) {J : (Nat → Nat → Int64)} : ∀ (n : Nat) (s x : (Int32 × Int32 × (Nat → Nat → Int32))), zloop f144_figure_L4 n s = some x → (fun (x : (Int32 × Int32 × (Nat → Nat → Int32))) => zRun X d 144 52 [some (.ref 73), some (.int x.1), some (.int x.2.1)] [] (SH, x.2.2, J) r M') x → (fun (s : (Int32 × Int32 × (Nat → Nat → Int32))) => zRun X d 144 4 [some (.ref 73), some (.int s.1), some (.int s.2.1)] [] (SH, s.2.2, J) r M') s := zloop_ok (B := f144_figure_L4) (Wh := fun (s : (Int32 × Int32 × (Nat → Nat → Int32))) => zRun X d 144 4 [some (.ref 73), some (.int s.1), some (.int s.2.1)] [] (SH, s.2.2, J) r M') (Wx := fun (x : (Int32 × Int32 × (Nat → Nat → Int32))) => zRun X d 144 52 [some (.ref 73), some (.int x.1), some (.int x.2.1)] [] (SH, x.2.2, J) r M') (fun s y h w => by
  unfold f144_figure_L4 at h
  refine zr_steps 2 (6, [some (.ref 73), some (.int s.1), some (.int s.2.1)], [.int 4, .int s.2.1], (SH, s.2.2, J)) rfl ?_
  refine zr_one (if (4 : Int32) ≤ s.2.1 then zN 52 [some (.ref 73), some (.int s.1), some (.int s.2.1)] [] (SH, s.2.2, J) else zN 9 [some (.ref 73), some (.int s.1), some (.int s.2.1)] [] (SH, s.2.2, J)) rfl (zR_if (fun hc8 => zR_go ?_) (fun hc8 => zR_go ?_))
  · rw [if_pos hc8] at h
    have he := Option.some.inj h
    subst he
    exact zr_hdr (ls2 := [some (.ref 73), some (.int s.1), some (.int s.2.1)]) rfl rfl (show zRun X d 144 52 [some (.ref 73), some (.int s.1), some (.int s.2.1)] [] (SH, s.2.2, J) r M' from w)
  · rw [if_neg hc8] at h
    refine zr_steps 1 (10, [some (.ref 73), some (.int s.1), some (.int s.2.1)], [.ref 73], (SH, s.2.2, J)) rfl ?_
    obtain ⟨t2, hc1, h⟩ := zbind h
    refine zr_one (some (.inr (.inl (139, [.ref 73], [], 13)))) rfl (zR_call (by omega) rfl (ok_f139_look (by omega)  _ hc1) ?_)
    refine zr_steps 2 (17, [some (.ref 73), some (.int s.1), some (.int s.2.1)], [.int 57, .int 48, .int t2], (SH, s.2.2, J)) rfl ?_
    obtain ⟨t4, hc3, h⟩ := zbind h
    refine zr_one (some (.inr (.inl (129, [.int t2, .int 48, .int 57], [], 20)))) rfl (zR_call (by omega) rfl (ok_f129_in (by omega) t2 48 57 _ hc3) ?_)
    refine zr_one (if t4 = 0 then zN 52 [some (.ref 73), some (.int s.1), some (.int s.2.1)] [] (SH, s.2.2, J) else zN 23 [some (.ref 73), some (.int s.1), some (.int s.2.1)] [] (SH, s.2.2, J)) rfl (zR_if (fun hc7 => zR_go ?_) (fun hc7 => zR_go ?_))
    · rw [if_pos hc7] at h
      have he := Option.some.inj h
      subst he
      exact zr_hdr (ls2 := [some (.ref 73), some (.int s.1), some (.int s.2.1)]) rfl rfl (show zRun X d 144 52 [some (.ref 73), some (.int s.1), some (.int s.2.1)] [] (SH, s.2.2, J) r M' from w)
    · rw [if_neg hc7] at h
      refine zr_steps 4 (28, [some (.ref 73), some (.int s.1), some (.int s.2.1)], [.ref 73, .int (10 * s.1)], (SH, s.2.2, J)) rfl ?_
      obtain ⟨t6, hc5, h⟩ := zbind h
      refine zr_one (some (.inr (.inl (139, [.ref 73], [.int (10 * s.1)], 31)))) rfl (zR_call (by omega) rfl (ok_f139_look (by omega)  _ hc5) ?_)
      refine zr_steps 12 (4, [some (.ref 73), some (.int (((10 * s.1) + t6) - 48)), some (.int (s.2.1 + 1))], [], (SH, (zu s.2.2 73 20 ((s.2.2 73 20) + 1)), J)) rfl ?_
      have he := Option.some.inj h
      subst he
      exact zr_hdr (ls2 := [some (.ref 73), some (.int (((10 * s.1) + t6) - 48)), some (.int (s.2.1 + 1))]) rfl rfl (show zRun X d 144 4 [some (.ref 73), some (.int (((10 * s.1) + t6) - 48)), some (.int (s.2.1 + 1))] [] (SH, (zu s.2.2 73 20 ((s.2.2 73 20) + 1)), J) r M' from w))
set_option maxRecDepth 100000 in
set_option maxHeartbeats 4000000 in
theorem ok_f144_figure {X : zX} {d : Nat} (hd : 1 ≤ d) {I : (Nat → Nat → Int32)} {J : (Nat → Nat → Int64)} (t : (Nat → Nat → Int32)) (h : f144_figure I = some t) : zRun X d 144 0 (zent 144 [.ref 73]) [] (SH, I, J) none (SH, t, J) := by
  unfold f144_figure at h
  refine zr_steps 4 (4, [some (.ref 73), some (.int 0), some (.int 0)], [], (SH, I, J)) rfl ?_
  obtain ⟨s9, ho10, h⟩ := zbind h
  refine zr_hdr (ls2 := [some (.ref 73), some (.int 0), some (.int 0)]) rfl rfl ?_
  refine ok_f144_figure_L4 (by omega) 5000 ((0 : Int32), (0 : Int32), I) s9 ho10 ?_
  show zRun X d 144 52 [some (.ref 73), some (.int s9.1), some (.int s9.2.1)] [] (SH, s9.2.2, J) _ _
  refine zr_steps 1 (53, [some (.ref 73), some (.int s9.1), some (.int s9.2.1)], [.int s9.2.1], (SH, s9.2.2, J)) rfl ?_
  refine zr_one (if s9.2.1 = 0 then zN 70 [some (.ref 73), some (.int s9.1), some (.int s9.2.1)] [] (SH, s9.2.2, J) else zN 56 [some (.ref 73), some (.int s9.1), some (.int s9.2.1)] [] (SH, s9.2.2, J)) rfl (zR_if (fun hc26 => zR_go ?_) (fun hc26 => zR_go ?_))
  · rw [if_pos hc26] at h
    refine zr_steps 1 (71, [some (.ref 73), some (.int s9.1), some (.int s9.2.1)], [.ref 73], (SH, s9.2.2, J)) rfl ?_
    obtain ⟨t12, hc11, h⟩ := zbind h
    refine zr_one (some (.inr (.inl (140, [.ref 73], [], 74)))) rfl (zR_call (by omega) rfl (ok_f140_wrong (by omega)  _ hc11) ?_)
    refine zr_steps 3 (77, [some (.ref 73), some (.int s9.1), some (.int s9.2.1)], [.int s9.1, .int 1, .ref 73], (SH, t12, J)) rfl ?_
    obtain ⟨t14, hc13, h⟩ := zbind h
    refine zr_one (some (.inr (.inl (141, [.ref 73, .int 1, .int s9.1], [], 80)))) rfl (zR_call (by omega) rfl (ok_f141_addStep (by omega) 1 s9.1 _ hc13) ?_)
    have he := Option.some.inj h
    subst he
    exact zr_one (some (.inr (.inr none))) rfl (zR_ret rfl rfl)
  · rw [if_neg hc26] at h
    refine zr_steps 1 (57, [some (.ref 73), some (.int s9.1), some (.int s9.2.1)], [.ref 73], (SH, s9.2.2, J)) rfl ?_
    obtain ⟨t16, hc15, h⟩ := zbind h
    refine zr_one (some (.inr (.inl (139, [.ref 73], [], 60)))) rfl (zR_call (by omega) rfl (ok_f139_look (by omega)  _ hc15) ?_)
    refine zr_steps 2 (64, [some (.ref 73), some (.int s9.1), some (.int s9.2.1)], [.int 57, .int 48, .int t16], (SH, s9.2.2, J)) rfl ?_
    obtain ⟨t18, hc17, h⟩ := zbind h
    refine zr_one (some (.inr (.inl (129, [.int t16, .int 48, .int 57], [], 67)))) rfl (zR_call (by omega) rfl (ok_f129_in (by omega) t16 48 57 _ hc17) ?_)
    refine zr_one (if t18 = 0 then zN 74 [some (.ref 73), some (.int s9.1), some (.int s9.2.1)] [] (SH, s9.2.2, J) else zN 70 [some (.ref 73), some (.int s9.1), some (.int s9.2.1)] [] (SH, s9.2.2, J)) rfl (zR_if (fun hc25 => zR_go ?_) (fun hc25 => zR_go ?_))
    · rw [if_pos hc25] at h
      refine zr_steps 3 (77, [some (.ref 73), some (.int s9.1), some (.int s9.2.1)], [.int s9.1, .int 1, .ref 73], (SH, s9.2.2, J)) rfl ?_
      obtain ⟨t20, hc19, h⟩ := zbind h
      refine zr_one (some (.inr (.inl (141, [.ref 73, .int 1, .int s9.1], [], 80)))) rfl (zR_call (by omega) rfl (ok_f141_addStep (by omega) 1 s9.1 _ hc19) ?_)
      have he := Option.some.inj h
      subst he
      exact zr_one (some (.inr (.inr none))) rfl (zR_ret rfl rfl)
    · rw [if_neg hc25] at h
      refine zr_steps 1 (71, [some (.ref 73), some (.int s9.1), some (.int s9.2.1)], [.ref 73], (SH, s9.2.2, J)) rfl ?_
      obtain ⟨t22, hc21, h⟩ := zbind h
      refine zr_one (some (.inr (.inl (140, [.ref 73], [], 74)))) rfl (zR_call (by omega) rfl (ok_f140_wrong (by omega)  _ hc21) ?_)
      refine zr_steps 3 (77, [some (.ref 73), some (.int s9.1), some (.int s9.2.1)], [.int s9.1, .int 1, .ref 73], (SH, t22, J)) rfl ?_
      obtain ⟨t24, hc23, h⟩ := zbind h
      refine zr_one (some (.inr (.inl (141, [.ref 73, .int 1, .int s9.1], [], 80)))) rfl (zR_call (by omega) rfl (ok_f141_addStep (by omega) 1 s9.1 _ hc23) ?_)
      have he := Option.some.inj h
      subst he
      exact zr_one (some (.inr (.inr none))) rfl (zR_ret rfl rfl)
