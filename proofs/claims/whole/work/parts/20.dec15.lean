set_option maxRecDepth 100000 in
set_option maxHeartbeats 4000000 in
theorem ok_f188_paid_L20 {X : zX} {d : Nat} {r : Option Value} {M' : zM} (hd : 6 ≤ d) (v1 : Int32) {J : (Nat → Nat → Int64)} : ∀ (n : Nat) (s x : (Int32 × Int32 × (Nat → Nat → Int32))), zloop (f188_paid_L20 v1) n s = some x → (fun (x : (Int32 × Int32 × (Nat → Nat → Int32))) => zRun X d 188 61 [some (.ref 73), none, some (.int x.1), none] [] (SH, x.2.2, J) r M') x → (fun (s : (Int32 × Int32 × (Nat → Nat → Int32))) => zRun X d 188 20 [some (.ref 73), some (.int v1), some (.int s.1), some (.int s.2.1)] [] (SH, s.2.2, J) r M') s := zloop_ok (B := (f188_paid_L20 v1)) (Wh := fun (s : (Int32 × Int32 × (Nat → Nat → Int32))) => zRun X d 188 20 [some (.ref 73), some (.int v1), some (.int s.1), some (.int s.2.1)] [] (SH, s.2.2, J) r M') (Wx := fun (x : (Int32 × Int32 × (Nat → Nat → Int32))) => zRun X d 188 61 [some (.ref 73), none, some (.int x.1), none] [] (SH, x.2.2, J) r M') (fun s y h w => by
  unfold f188_paid_L20 at h
  refine zr_steps 2 (24, [some (.ref 73), some (.int v1), some (.int s.1), some (.int s.2.1)], [.int 200, .int s.2.1], (SH, s.2.2, J)) rfl ?_
  refine zr_one (if (200 : Int32) < s.2.1 then zN 61 [some (.ref 73), some (.int v1), some (.int s.1), some (.int s.2.1)] [] (SH, s.2.2, J) else zN 27 [some (.ref 73), some (.int v1), some (.int s.1), some (.int s.2.1)] [] (SH, s.2.2, J)) rfl (zR_if (fun hc8 => zR_go ?_) (fun hc8 => zR_go ?_))
  · rw [if_pos hc8] at h
    have he := Option.some.inj h
    subst he
    exact zr_hdr (ls2 := [some (.ref 73), none, some (.int s.1), none]) rfl rfl (show zRun X d 188 61 [some (.ref 73), none, some (.int s.1), none] [] (SH, s.2.2, J) r M' from w)
  · rw [if_neg hc8] at h
    refine zr_steps 1 (28, [some (.ref 73), some (.int v1), some (.int s.1), some (.int s.2.1)], [.int s.1], (SH, s.2.2, J)) rfl ?_
    refine zr_one (if (0 : Int32) ≤ s.1 then zN 61 [some (.ref 73), some (.int v1), some (.int s.1), some (.int s.2.1)] [] (SH, s.2.2, J) else zN 31 [some (.ref 73), some (.int v1), some (.int s.1), some (.int s.2.1)] [] (SH, s.2.2, J)) rfl (zR_if (fun hc7 => zR_go ?_) (fun hc7 => zR_go ?_))
    · rw [if_pos hc7] at h
      have he := Option.some.inj h
      subst he
      exact zr_hdr (ls2 := [some (.ref 73), none, some (.int s.1), none]) rfl rfl (show zRun X d 188 61 [some (.ref 73), none, some (.int s.1), none] [] (SH, s.2.2, J) r M' from w)
    · rw [if_neg hc7] at h
      refine zr_steps 6 (41, [some (.ref 73), some (.int v1), some (.int s.1), some (.int s.2.1)], [.int (s.2.2 73 15), .ref 73], (SH, (zu s.2.2 73 45 s.2.1), J)) rfl ?_
      obtain ⟨t4, hc3, h⟩ := zbind h
      refine zr_one (some (.inr (.inl (171, [.ref 73, .int (s.2.2 73 15)], [], 44)))) rfl (zR_call (by omega) rfl (ok_f171_goTo (by omega) (s.2.2 73 15) _ hc3) ?_)
      refine zr_steps 3 (49, [some (.ref 73), some (.int v1), some (.int s.1), some (.int s.2.1)], [.int v1, .ref 75, .int t4.1], (SH, t4.2, J)) rfl ?_
      obtain ⟨hc5, h⟩ := zbifo h
      refine zr_one (bif zin v1 4 then zN 50 [some (.ref 73), some (.int v1), some (.int s.1), some (.int s.2.1)] [.int (t4.2 75 v1.toNatClampNeg), .int t4.1] (SH, t4.2, J) else none) rfl (zR_bif hc5 (zR_go ?_))
      refine zr_one (if t4.1 = (t4.2 75 v1.toNatClampNeg) then zN 53 [some (.ref 73), some (.int v1), some (.int s.1), some (.int s.2.1)] [] (SH, t4.2, J) else zN 55 [some (.ref 73), some (.int v1), some (.int s.1), some (.int s.2.1)] [] (SH, t4.2, J)) rfl (zR_if (fun hc6 => zR_go ?_) (fun hc6 => zR_go ?_))
      · rw [if_pos hc6] at h
        refine zr_steps 4 (20, [some (.ref 73), some (.int v1), some (.int s.2.1), some (.int (s.2.1 + 1))], [], (SH, t4.2, J)) rfl ?_
        have he := Option.some.inj h
        subst he
        exact zr_hdr (ls2 := [some (.ref 73), some (.int v1), some (.int s.2.1), some (.int (s.2.1 + 1))]) rfl rfl (show zRun X d 188 20 [some (.ref 73), some (.int v1), some (.int s.2.1), some (.int (s.2.1 + 1))] [] (SH, t4.2, J) r M' from w)
      · rw [if_neg hc6] at h
        refine zr_steps 2 (20, [some (.ref 73), some (.int v1), some (.int s.1), some (.int (s.2.1 + 1))], [], (SH, t4.2, J)) rfl ?_
        have he := Option.some.inj h
        subst he
        exact zr_hdr (ls2 := [some (.ref 73), some (.int v1), some (.int s.1), some (.int (s.2.1 + 1))]) rfl rfl (show zRun X d 188 20 [some (.ref 73), some (.int v1), some (.int s.1), some (.int (s.2.1 + 1))] [] (SH, t4.2, J) r M' from w))
set_option maxRecDepth 100000 in
set_option maxHeartbeats 4000000 in
theorem ok_f188_paid {X : zX} {d : Nat} (hd : 6 ≤ d) (v1 : Int32) {I : (Nat → Nat → Int32)} {J : (Nat → Nat → Int64)} (t : (Int32 × (Nat → Nat → Int32))) (h : f188_paid v1 I = some t) : zRun X d 188 0 (zent 188 [.ref 73, .int v1]) [] (SH, I, J) (some (.int t.1)) (SH, t.2, J) := by
  unfold f188_paid at h
  refine zr_steps 2 (2, [some (.ref 73), some (.int v1), none, none], [.int v1, .ref 73], (SH, I, J)) rfl ?_
  obtain ⟨t2, hc1, h⟩ := zbind h
  refine zr_one (some (.inr (.inl (130, [.ref 73, .int v1], [], 5)))) rfl (zR_call (by omega) rfl (ok_f130_isSquare (by omega) v1 _ hc1) ?_)
  refine zr_one (if t2 = 0 then zN 8 [some (.ref 73), some (.int v1), none, none] [] (SH, I, J) else zN 10 [some (.ref 73), some (.int v1), none, none] [] (SH, I, J)) rfl (zR_if (fun hc11 => zR_go ?_) (fun hc11 => zR_go ?_))
  · rw [if_pos hc11] at h
    refine zr_steps 1 (9, [some (.ref 73), some (.int v1), none, none], [.int (-1)], (SH, I, J)) rfl ?_
    have he := Option.some.inj h
    subst he
    exact zr_one (some (.inr (.inr (some (.int (-1)))))) rfl (zR_ret rfl rfl)
  · rw [if_neg hc11] at h
    refine zr_steps 7 (20, [some (.ref 73), some (.int v1), some (.int (-2)), some (.int 0)], [], (SH, (zu I 73 46 v1), J)) rfl ?_
    obtain ⟨s9, ho10, h⟩ := zbind h
    refine zr_hdr (ls2 := [some (.ref 73), some (.int v1), some (.int (-2)), some (.int 0)]) rfl rfl ?_
    refine ok_f188_paid_L20 (by omega) v1 5000 (((-2) : Int32), (0 : Int32), (zu I 73 46 v1)) s9 ho10 ?_
    show zRun X d 188 61 [some (.ref 73), none, some (.int s9.1), none] [] (SH, s9.2.2, J) _ _
    refine zr_steps 4 (67, [some (.ref 73), none, some (.int s9.1), none], [.int s9.1], (SH, (zu s9.2.2 73 45 0), J)) rfl ?_
    have he := Option.some.inj h
    subst he
    exact zr_one (some (.inr (.inr (some (.int s9.1))))) rfl (zR_ret rfl rfl)
set_option maxRecDepth 100000 in
set_option maxHeartbeats 4000000 in
theorem ok_f83_follow_39 {X : zX} {d : Nat} (hd : 0 ≤ d) (v1 : Int32) (v2 : Int32) (v3 : Int32) {I : (Nat → Nat → Int32)} {J : (Nat → Nat → Int64)} (t : (Nat → Nat → Int32)) (h : f83_follow_39 v1 v2 v3 I = some t) : zRun X d 83 0 (zent 83 [.ref 39, .int v1, .int v2, .int v3]) [] (SH, I, J) none (SH, t, J) := by
  unfold f83_follow_39 at h
  refine zr_steps 9 (15, [some (.ref 39), some (.int v1), some (.int v2), some (.int v3)], [], (SH, (zu (zu (zu I 39 4 v1) 39 5 v2) 39 6 v3), J)) rfl ?_
  have he := Option.some.inj h
  subst he
  exact zr_one (some (.inr (.inr none))) rfl (zR_ret rfl rfl)
set_option maxRecDepth 100000 in
set_option maxHeartbeats 4000000 in
theorem ok_f109_lead_L49 {X : zX} {d : Nat} {r : Option Value} {M' : zM} (hd : 7 ≤ d) (v2 : Int32) (v3 : Int32) {J : (Nat → Nat → Int64)} : ∀ (n : Nat) (s : (Int32 × (Nat → Nat → Int32))) (t : (Int32 × (Nat → Nat → Int32)) ⊕ (Int32 × (Nat → Nat → Int32))), zloopR (f109_lead_L49 v2 v3) n s = some t → zSumE (fun (x : (Int32 × (Nat → Nat → Int32))) => r = (some (.int x.1)) ∧ M' = (SH, x.2, J)) (fun (x : (Int32 × (Nat → Nat → Int32))) => zRun X d 109 117 [none, none, none, none, none] [] (SH, x.2, J) r M') t → (fun (s : (Int32 × (Nat → Nat → Int32))) => zRun X d 109 49 [some (.ref 0), none, some (.int v2), some (.int v3), some (.int s.1)] [] (SH, s.2, J) r M') s := zloopR_ok (B := (f109_lead_L49 v2 v3)) (Wh := fun (s : (Int32 × (Nat → Nat → Int32))) => zRun X d 109 49 [some (.ref 0), none, some (.int v2), some (.int v3), some (.int s.1)] [] (SH, s.2, J) r M') (Wx := fun (x : (Int32 × (Nat → Nat → Int32))) => zRun X d 109 117 [none, none, none, none, none] [] (SH, x.2, J) r M') (Wr := fun (x : (Int32 × (Nat → Nat → Int32))) => r = (some (.int x.1)) ∧ M' = (SH, x.2, J)) (fun s y h w => by
  unfold f109_lead_L49 at h
  refine zr_steps 1 (51, [some (.ref 0), none, some (.int v2), some (.int v3), some (.int s.1)], [.int s.1], (SH, s.2, J)) rfl ?_
  refine zr_one (if s.1 < 0 then zN 117 [some (.ref 0), none, some (.int v2), some (.int v3), some (.int s.1)] [] (SH, s.2, J) else zN 54 [some (.ref 0), none, some (.int v2), some (.int v3), some (.int s.1)] [] (SH, s.2, J)) rfl (zR_if (fun hc13 => zR_go ?_) (fun hc13 => zR_go ?_))
  · rw [if_pos hc13] at h
    have he := Option.some.inj h
    subst he
    exact zr_hdr (ls2 := [none, none, none, none, none]) rfl rfl (show zRun X d 109 117 [none, none, none, none, none] [] (SH, s.2, J) r M' from w)
  · rw [if_neg hc13] at h
    refine zr_steps 5 (65, [some (.ref 0), none, some (.int v2), some (.int v3), some (.int s.1)], [.ref 1, .ref 39], (SH, s.2, J)) rfl ?_
    obtain ⟨t6, hc5, h⟩ := zbind h
    refine zr_one (some (.inr (.inl (81, [.ref 39, .ref 1], [], 68)))) rfl (zR_call (by omega) rfl (ok_f81_asIn_39 (by omega)  _ hc5) ?_)
    refine zr_steps 6 (79, [some (.ref 0), none, some (.int v2), some (.int v3), some (.int s.1)], [.int s.1, .int v3, .int v2, .ref 39], (SH, t6, J)) rfl ?_
    obtain ⟨t8, hc7, h⟩ := zbind h
    refine zr_one (some (.inr (.inl (83, [.ref 39, .int v2, .int v3, .int s.1], [], 82)))) rfl (zR_call (by omega) rfl (ok_f83_follow_39 (by omega) v2 v3 s.1 _ hc7) ?_)
    refine zr_steps 2 (86, [some (.ref 0), none, some (.int v2), some (.int v3), some (.int s.1)], [.ref 38], (SH, t8, J)) rfl ?_
    obtain ⟨t10, hc9, h⟩ := zbind h
    refine zr_one (some (.inr (.inl (40, [.ref 38], [], 89)))) rfl (zR_call (by omega) rfl (ok_f40_pass_38 (by omega)  _ hc9) ?_)
    refine zr_steps 7 (104, [some (.ref 0), none, some (.int v2), some (.int v3), some (.int s.1)], [.int v2, .ref 9, .int (t10 38 17)], (SH, t10, J)) rfl ?_
    obtain ⟨hc11, h⟩ := zbifo h
    refine zr_one (bif zin v2 8 then zN 105 [some (.ref 0), none, some (.int v2), some (.int v3), some (.int s.1)] [.int (t10 9 v2.toNatClampNeg), .int (t10 38 17)] (SH, t10, J) else none) rfl (zR_bif hc11 (zR_go ?_))
    refine zr_one (if (t10 38 17) = (t10 9 v2.toNatClampNeg) then zN 108 [some (.ref 0), none, some (.int v2), some (.int v3), some (.int s.1)] [] (SH, t10, J) else zN 111 [some (.ref 0), none, some (.int v2), some (.int v3), some (.int s.1)] [] (SH, t10, J)) rfl (zR_if (fun hc12 => zR_go ?_) (fun hc12 => zR_go ?_))
    · rw [if_pos hc12] at h
      refine zr_steps 1 (110, [some (.ref 0), none, some (.int v2), some (.int v3), some (.int s.1)], [.int s.1], (SH, t10, J)) rfl ?_
      have he := Option.some.inj h
      subst he
      obtain ⟨e1, e2⟩ := (show r = (some (.int s.1)) ∧ M' = (SH, t10, J) from w)
      exact zr_one (some (.inr (.inr (some (.int s.1))))) rfl (zR_ret e1.symm e2.symm)
    · rw [if_neg hc12] at h
      refine zr_steps 2 (49, [some (.ref 0), none, some (.int v2), some (.int v3), some (.int (s.1 - 1))], [], (SH, t10, J)) rfl ?_
      have he := Option.some.inj h
      subst he
      exact zr_hdr (ls2 := [some (.ref 0), none, some (.int v2), some (.int v3), some (.int (s.1 - 1))]) rfl rfl (show zRun X d 109 49 [some (.ref 0), none, some (.int v2), some (.int v3), some (.int (s.1 - 1))] [] (SH, t10, J) r M' from w))
set_option maxRecDepth 100000 in
set_option maxHeartbeats 4000000 in
theorem ok_f109_lead {X : zX} {d : Nat} (hd : 7 ≤ d) (v1 : Int32) {I : (Nat → Nat → Int32)} {J : (Nat → Nat → Int64)} (t : (Int32 × (Nat → Nat → Int32))) (h : f109_lead v1 I = some t) : zRun X d 109 0 (zent 109 [.ref 0, .int v1]) [] (SH, I, J) (some (.int t.1)) (SH, t.2, J) := by
  unfold f109_lead at h
  refine zr_steps 2 (3, [some (.ref 0), some (.int v1), none, none, none], [.int 10, .int v1], (SH, I, J)) rfl ?_
  refine zr_one (if (10 : Int32) = 0 then none else zN 4 [some (.ref 0), some (.int v1), none, none, none] [.int (v1 / 10)] (SH, I, J)) rfl (zR_div (by decide) (zR_go ?_))
  refine zr_steps 3 (8, [some (.ref 0), some (.int v1), some (.int (v1 / 10)), none, none], [.int 10, .int v1], (SH, I, J)) rfl ?_
  refine zr_one (if (10 : Int32) = 0 then none else zN 9 [some (.ref 0), some (.int v1), some (.int (v1 / 10)), none, none] [.int (v1 - v1 / 10 * 10)] (SH, I, J)) rfl (zR_div (by decide) (zR_go ?_))
  refine zr_steps 2 (11, [some (.ref 0), some (.int v1), some (.int (v1 / 10)), some (.int (v1 - v1 / 10 * 10)), none], [.int v1], (SH, I, J)) rfl ?_
  refine zr_one (if v1 < 0 then zN 36 [some (.ref 0), some (.int v1), some (.int (v1 / 10)), some (.int (v1 - v1 / 10 * 10)), none] [] (SH, I, J) else zN 14 [some (.ref 0), some (.int v1), some (.int (v1 / 10)), some (.int (v1 - v1 / 10 * 10)), none] [] (SH, I, J)) rfl (zR_if (fun hc19 => zR_go ?_) (fun hc19 => zR_go ?_))
  · rw [if_pos hc19] at h
    refine zr_steps 1 (37, [some (.ref 0), some (.int v1), some (.int (v1 / 10)), some (.int (v1 - v1 / 10 * 10)), none], [.int (-1)], (SH, I, J)) rfl ?_
    have he := Option.some.inj h
    subst he
    exact zr_one (some (.inr (.inr (some (.int (-1)))))) rfl (zR_ret rfl rfl)
  · rw [if_neg hc19] at h
    refine zr_steps 3 (19, [some (.ref 0), some (.int v1), some (.int (v1 / 10)), some (.int (v1 - v1 / 10 * 10)), none], [.int (v1 / 10), .ref 1], (SH, I, J)) rfl ?_
    obtain ⟨t2, hc1, h⟩ := zbind h
    refine zr_one (some (.inr (.inl (62, [.ref 1, .int (v1 / 10)], [], 22)))) rfl (zR_call (by omega) rfl (ok_f62_isSort (by omega) (v1 / 10) _ hc1) ?_)
    refine zr_one (if t2 = 0 then zN 36 [some (.ref 0), some (.int v1), some (.int (v1 / 10)), some (.int (v1 - v1 / 10 * 10)), none] [] (SH, I, J) else zN 25 [some (.ref 0), some (.int v1), some (.int (v1 / 10)), some (.int (v1 - v1 / 10 * 10)), none] [] (SH, I, J)) rfl (zR_if (fun hc18 => zR_go ?_) (fun hc18 => zR_go ?_))
    · rw [if_pos hc18] at h
      refine zr_steps 1 (37, [some (.ref 0), some (.int v1), some (.int (v1 / 10)), some (.int (v1 - v1 / 10 * 10)), none], [.int (-1)], (SH, I, J)) rfl ?_
      have he := Option.some.inj h
      subst he
      exact zr_one (some (.inr (.inr (some (.int (-1)))))) rfl (zR_ret rfl rfl)
    · rw [if_neg hc18] at h
      refine zr_steps 3 (30, [some (.ref 0), some (.int v1), some (.int (v1 / 10)), some (.int (v1 - v1 / 10 * 10)), none], [.int (v1 - v1 / 10 * 10), .ref 1], (SH, I, J)) rfl ?_
      obtain ⟨t4, hc3, h⟩ := zbind h
      refine zr_one (some (.inr (.inl (61, [.ref 1, .int (v1 - v1 / 10 * 10)], [], 33)))) rfl (zR_call (by omega) rfl (ok_f61_isSquare (by omega) (v1 - v1 / 10 * 10) _ hc3) ?_)
      refine zr_one (if t4 = 0 then zN 36 [some (.ref 0), some (.int v1), some (.int (v1 / 10)), some (.int (v1 - v1 / 10 * 10)), none] [] (SH, I, J) else zN 38 [some (.ref 0), some (.int v1), some (.int (v1 / 10)), some (.int (v1 - v1 / 10 * 10)), none] [] (SH, I, J)) rfl (zR_if (fun hc17 => zR_go ?_) (fun hc17 => zR_go ?_))
      · rw [if_pos hc17] at h
        refine zr_steps 1 (37, [some (.ref 0), some (.int v1), some (.int (v1 / 10)), some (.int (v1 - v1 / 10 * 10)), none], [.int (-1)], (SH, I, J)) rfl ?_
        have he := Option.some.inj h
        subst he
        exact zr_one (some (.inr (.inr (some (.int (-1)))))) rfl (zR_ret rfl rfl)
      · rw [if_neg hc17] at h
        refine zr_steps 6 (49, [some (.ref 0), some (.int v1), some (.int (v1 / 10)), some (.int (v1 - v1 / 10 * 10)), some (.int ((I 1 3) - 1))], [], (SH, I, J)) rfl ?_
        obtain ⟨y16, ho15, hy⟩ := zbRe h
        refine zr_hdr (ls2 := [some (.ref 0), none, some (.int (v1 / 10)), some (.int (v1 - v1 / 10 * 10)), some (.int ((I 1 3) - 1))]) rfl rfl ?_
        refine ok_f109_lead_L49 (by omega) (v1 / 10) (v1 - v1 / 10 * 10) 5000 (((I 1 3) - 1), I) y16 ho15 ?_
        rcases hy with ⟨rr, rfl, h⟩ | ⟨s14, rfl, h⟩
        · have he := Option.some.inj h
          subst he
          exact ⟨rfl, rfl⟩
        · show zRun X d 109 117 [none, none, none, none, none] [] (SH, s14.2, J) _ _
          refine zr_steps 1 (119, [none, none, none, none, none], [.int (-2)], (SH, s14.2, J)) rfl ?_
          have he := Option.some.inj h
          subst he
          exact zr_one (some (.inr (.inr (some (.int (-2)))))) rfl (zR_ret rfl rfl)
set_option maxRecDepth 100000 in
set_option maxHeartbeats 4000000 in
theorem ok_f189_lead_L54 {X : zX} {d : Nat} {r : Option Value} {M' : zM} (hd : 6 ≤ d) (v1 : Int32) {J : (Nat → Nat → Int64)} : ∀ (n : Nat) (s x : (Int32 × Int32 × (Nat → Nat → Int32))), zloop (f189_lead_L54 v1) n s = some x → (fun (x : (Int32 × Int32 × (Nat → Nat → Int32))) => zRun X d 189 95 [some (.ref 73), none, some (.int x.1), none] [] (SH, x.2.2, J) r M') x → (fun (s : (Int32 × Int32 × (Nat → Nat → Int32))) => zRun X d 189 54 [some (.ref 73), some (.int v1), some (.int s.1), some (.int s.2.1)] [] (SH, s.2.2, J) r M') s := zloop_ok (B := (f189_lead_L54 v1)) (Wh := fun (s : (Int32 × Int32 × (Nat → Nat → Int32))) => zRun X d 189 54 [some (.ref 73), some (.int v1), some (.int s.1), some (.int s.2.1)] [] (SH, s.2.2, J) r M') (Wx := fun (x : (Int32 × Int32 × (Nat → Nat → Int32))) => zRun X d 189 95 [some (.ref 73), none, some (.int x.1), none] [] (SH, x.2.2, J) r M') (fun s y h w => by
  unfold f189_lead_L54 at h
  refine zr_steps 1 (55, [some (.ref 73), some (.int v1), some (.int s.1), some (.int s.2.1)], [.int s.2.1], (SH, s.2.2, J)) rfl ?_
  refine zr_one (if s.2.1 < 0 then zN 95 [some (.ref 73), some (.int v1), some (.int s.1), some (.int s.2.1)] [] (SH, s.2.2, J) else zN 58 [some (.ref 73), some (.int v1), some (.int s.1), some (.int s.2.1)] [] (SH, s.2.2, J)) rfl (zR_if (fun hc10 => zR_go ?_) (fun hc10 => zR_go ?_))
  · rw [if_pos hc10] at h
    have he := Option.some.inj h
    subst he
    exact zr_hdr (ls2 := [some (.ref 73), none, some (.int s.1), none]) rfl rfl (show zRun X d 189 95 [some (.ref 73), none, some (.int s.1), none] [] (SH, s.2.2, J) r M' from w)
  · rw [if_neg hc10] at h
    refine zr_steps 1 (59, [some (.ref 73), some (.int v1), some (.int s.1), some (.int s.2.1)], [.int s.1], (SH, s.2.2, J)) rfl ?_
    refine zr_one (if (0 : Int32) ≤ s.1 then zN 95 [some (.ref 73), some (.int v1), some (.int s.1), some (.int s.2.1)] [] (SH, s.2.2, J) else zN 62 [some (.ref 73), some (.int v1), some (.int s.1), some (.int s.2.1)] [] (SH, s.2.2, J)) rfl (zR_if (fun hc9 => zR_go ?_) (fun hc9 => zR_go ?_))
    · rw [if_pos hc9] at h
      have he := Option.some.inj h
      subst he
      exact zr_hdr (ls2 := [some (.ref 73), none, some (.int s.1), none]) rfl rfl (show zRun X d 189 95 [some (.ref 73), none, some (.int s.1), none] [] (SH, s.2.2, J) r M' from w)
    · rw [if_neg hc9] at h
      refine zr_steps 6 (72, [some (.ref 73), some (.int v1), some (.int s.1), some (.int s.2.1)], [.int (s.2.2 73 15), .ref 73], (SH, (zu s.2.2 73 48 s.2.1), J)) rfl ?_
      obtain ⟨t6, hc5, h⟩ := zbind h
      refine zr_one (some (.inr (.inl (171, [.ref 73, .int (s.2.2 73 15)], [], 75)))) rfl (zR_call (by omega) rfl (ok_f171_goTo (by omega) (s.2.2 73 15) _ hc5) ?_)
      refine zr_steps 4 (82, [some (.ref 73), some (.int v1), some (.int s.1), some (.int s.2.1)], [.int 10, .int v1, .ref 81, .int t6.1], (SH, t6.2, J)) rfl ?_
      refine zr_one (if (10 : Int32) = 0 then none else zN 83 [some (.ref 73), some (.int v1), some (.int s.1), some (.int s.2.1)] [.int (v1 / 10), .ref 81, .int t6.1] (SH, t6.2, J)) rfl (zR_div (by decide) (zR_go ?_))
      obtain ⟨hc7, h⟩ := zbifo h
      refine zr_one (bif zin (v1 / 10) 8 then zN 84 [some (.ref 73), some (.int v1), some (.int s.1), some (.int s.2.1)] [.int (t6.2 81 (v1 / 10).toNatClampNeg), .int t6.1] (SH, t6.2, J) else none) rfl (zR_bif hc7 (zR_go ?_))
      refine zr_one (if t6.1 = (t6.2 81 (v1 / 10).toNatClampNeg) then zN 87 [some (.ref 73), some (.int v1), some (.int s.1), some (.int s.2.1)] [] (SH, t6.2, J) else zN 89 [some (.ref 73), some (.int v1), some (.int s.1), some (.int s.2.1)] [] (SH, t6.2, J)) rfl (zR_if (fun hc8 => zR_go ?_) (fun hc8 => zR_go ?_))
      · rw [if_pos hc8] at h
        refine zr_steps 4 (54, [some (.ref 73), some (.int v1), some (.int s.2.1), some (.int (s.2.1 - 1))], [], (SH, t6.2, J)) rfl ?_
        have he := Option.some.inj h
        subst he
        exact zr_hdr (ls2 := [some (.ref 73), some (.int v1), some (.int s.2.1), some (.int (s.2.1 - 1))]) rfl rfl (show zRun X d 189 54 [some (.ref 73), some (.int v1), some (.int s.2.1), some (.int (s.2.1 - 1))] [] (SH, t6.2, J) r M' from w)
      · rw [if_neg hc8] at h
        refine zr_steps 2 (54, [some (.ref 73), some (.int v1), some (.int s.1), some (.int (s.2.1 - 1))], [], (SH, t6.2, J)) rfl ?_
        have he := Option.some.inj h
        subst he
        exact zr_hdr (ls2 := [some (.ref 73), some (.int v1), some (.int s.1), some (.int (s.2.1 - 1))]) rfl rfl (show zRun X d 189 54 [some (.ref 73), some (.int v1), some (.int s.1), some (.int (s.2.1 - 1))] [] (SH, t6.2, J) r M' from w))
set_option maxRecDepth 100000 in
set_option maxHeartbeats 4000000 in
theorem ok_f189_lead {X : zX} {d : Nat} (hd : 6 ≤ d) (v1 : Int32) {I : (Nat → Nat → Int32)} {J : (Nat → Nat → Int64)} (t : (Int32 × (Nat → Nat → Int32))) (h : f189_lead v1 I = some t) : zRun X d 189 0 (zent 189 [.ref 73, .int v1]) [] (SH, I, J) (some (.int t.1)) (SH, t.2, J) := by
  unfold f189_lead at h
  refine zr_steps 1 (1, [some (.ref 73), some (.int v1), none, none], [.int v1], (SH, I, J)) rfl ?_
  refine zr_one (if v1 < 0 then zN 26 [some (.ref 73), some (.int v1), none, none] [] (SH, I, J) else zN 4 [some (.ref 73), some (.int v1), none, none] [] (SH, I, J)) rfl (zR_if (fun hc15 => zR_go ?_) (fun hc15 => zR_go ?_))
  · rw [if_pos hc15] at h
    refine zr_steps 1 (27, [some (.ref 73), some (.int v1), none, none], [.int (-1)], (SH, I, J)) rfl ?_
    have he := Option.some.inj h
    subst he
    exact zr_one (some (.inr (.inr (some (.int (-1)))))) rfl (zR_ret rfl rfl)
  · rw [if_neg hc15] at h
    refine zr_steps 3 (8, [some (.ref 73), some (.int v1), none, none], [.int 10, .int v1, .ref 73], (SH, I, J)) rfl ?_
    refine zr_one (if (10 : Int32) = 0 then none else zN 9 [some (.ref 73), some (.int v1), none, none] [.int (v1 / 10), .ref 73] (SH, I, J)) rfl (zR_div (by decide) (zR_go ?_))
    obtain ⟨t2, hc1, h⟩ := zbind h
    refine zr_one (some (.inr (.inl (131, [.ref 73, .int (v1 / 10)], [], 12)))) rfl (zR_call (by omega) rfl (ok_f131_isSort (by omega) (v1 / 10) _ hc1) ?_)
    refine zr_one (if t2 = 0 then zN 26 [some (.ref 73), some (.int v1), none, none] [] (SH, I, J) else zN 15 [some (.ref 73), some (.int v1), none, none] [] (SH, I, J)) rfl (zR_if (fun hc14 => zR_go ?_) (fun hc14 => zR_go ?_))
    · rw [if_pos hc14] at h
      refine zr_steps 1 (27, [some (.ref 73), some (.int v1), none, none], [.int (-1)], (SH, I, J)) rfl ?_
      have he := Option.some.inj h
      subst he
      exact zr_one (some (.inr (.inr (some (.int (-1)))))) rfl (zR_ret rfl rfl)
    · rw [if_neg hc14] at h
      refine zr_steps 3 (19, [some (.ref 73), some (.int v1), none, none], [.int 10, .int v1, .ref 73], (SH, I, J)) rfl ?_
      refine zr_one (if (10 : Int32) = 0 then none else zN 20 [some (.ref 73), some (.int v1), none, none] [.int (v1 - v1 / 10 * 10), .ref 73] (SH, I, J)) rfl (zR_div (by decide) (zR_go ?_))
      obtain ⟨t4, hc3, h⟩ := zbind h
      refine zr_one (some (.inr (.inl (130, [.ref 73, .int (v1 - v1 / 10 * 10)], [], 23)))) rfl (zR_call (by omega) rfl (ok_f130_isSquare (by omega) (v1 - v1 / 10 * 10) _ hc3) ?_)
      refine zr_one (if t4 = 0 then zN 26 [some (.ref 73), some (.int v1), none, none] [] (SH, I, J) else zN 28 [some (.ref 73), some (.int v1), none, none] [] (SH, I, J)) rfl (zR_if (fun hc13 => zR_go ?_) (fun hc13 => zR_go ?_))
      · rw [if_pos hc13] at h
        refine zr_steps 1 (27, [some (.ref 73), some (.int v1), none, none], [.int (-1)], (SH, I, J)) rfl ?_
        have he := Option.some.inj h
        subst he
        exact zr_one (some (.inr (.inr (some (.int (-1)))))) rfl (zR_ret rfl rfl)
      · rw [if_neg hc13] at h
        refine zr_steps 5 (35, [some (.ref 73), some (.int v1), some (.int (-2)), none], [.int 10, .int v1, .ref 73], (SH, I, J)) rfl ?_
        refine zr_one (if (10 : Int32) = 0 then none else zN 36 [some (.ref 73), some (.int v1), some (.int (-2)), none] [.int (v1 / 10), .ref 73] (SH, I, J)) rfl (zR_div (by decide) (zR_go ?_))
        refine zr_steps 4 (43, [some (.ref 73), some (.int v1), some (.int (-2)), none], [.int 10, .int v1, .ref 73], (SH, (zu I 73 47 (v1 / 10)), J)) rfl ?_
        refine zr_one (if (10 : Int32) = 0 then none else zN 44 [some (.ref 73), some (.int v1), some (.int (-2)), none] [.int (v1 - v1 / 10 * 10), .ref 73] (SH, (zu I 73 47 (v1 / 10)), J)) rfl (zR_div (by decide) (zR_go ?_))
        refine zr_steps 6 (54, [some (.ref 73), some (.int v1), some (.int (-2)), some (.int ((I 73 15) - 1))], [], (SH, (zu (zu I 73 47 (v1 / 10)) 73 49 (v1 - v1 / 10 * 10)), J)) rfl ?_
        obtain ⟨s11, ho12, h⟩ := zbind h
        refine zr_hdr (ls2 := [some (.ref 73), some (.int v1), some (.int (-2)), some (.int ((I 73 15) - 1))]) rfl rfl ?_
        refine ok_f189_lead_L54 (by omega) v1 5000 (((-2) : Int32), ((I 73 15) - 1), (zu (zu I 73 47 (v1 / 10)) 73 49 (v1 - v1 / 10 * 10))) s11 ho12 ?_
        show zRun X d 189 95 [some (.ref 73), none, some (.int s11.1), none] [] (SH, s11.2.2, J) _ _
        refine zr_steps 4 (101, [some (.ref 73), none, some (.int s11.1), none], [.int s11.1], (SH, (zu s11.2.2 73 47 (-1)), J)) rfl ?_
        have he := Option.some.inj h
        subst he
        exact zr_one (some (.inr (.inr (some (.int s11.1))))) rfl (zR_ret rfl rfl)
set_option maxRecDepth 100000 in
set_option maxHeartbeats 4000000 in
theorem ok_f110_serves_L39 {X : zX} {d : Nat} {r : Option Value} {M' : zM} (hd : 7 ≤ d) (v1 : Int32) {J : (Nat → Nat → Int64)} : ∀ (n : Nat) (s x : (Int32 × Int32 × Int32 × Int32 × Int32 × (Nat → Nat → Int32))), zloop (f110_serves_L39 v1) n s = some x → (fun (x : (Int32 × Int32 × Int32 × Int32 × Int32 × (Nat → Nat → Int32))) => zRun X d 110 179 [none, none, some (.int x.1), none, some (.int x.2.2.1), none, none, none] [] (SH, x.2.2.2.2.2, J) r M') x → (fun (s : (Int32 × Int32 × Int32 × Int32 × Int32 × (Nat → Nat → Int32))) => zRun X d 110 39 [some (.ref 0), some (.int v1), some (.int s.1), some (.int s.2.1), some (.int s.2.2.1), some (.int s.2.2.2.1), some (.int s.2.2.2.2.1), none] [] (SH, s.2.2.2.2.2, J) r M') s := zloop_ok (B := (f110_serves_L39 v1)) (Wh := fun (s : (Int32 × Int32 × Int32 × Int32 × Int32 × (Nat → Nat → Int32))) => zRun X d 110 39 [some (.ref 0), some (.int v1), some (.int s.1), some (.int s.2.1), some (.int s.2.2.1), some (.int s.2.2.2.1), some (.int s.2.2.2.2.1), none] [] (SH, s.2.2.2.2.2, J) r M') (Wx := fun (x : (Int32 × Int32 × Int32 × Int32 × Int32 × (Nat → Nat → Int32))) => zRun X d 110 179 [none, none, some (.int x.1), none, some (.int x.2.2.1), none, none, none] [] (SH, x.2.2.2.2.2, J) r M') (fun s y h w => by
  unfold f110_serves_L39 at h
  refine zr_steps 4 (48, [some (.ref 0), some (.int v1), some (.int s.1), some (.int s.2.1), some (.int s.2.2.1), some (.int s.2.2.2.1), some (.int s.2.2.2.2.1), none], [.int (s.2.2.2.2.2 15 7), .int s.2.2.2.2.1], (SH, s.2.2.2.2.2, J)) rfl ?_
  refine zr_one (if (s.2.2.2.2.2 15 7) ≤ s.2.2.2.2.1 then zN 179 [some (.ref 0), some (.int v1), some (.int s.1), some (.int s.2.1), some (.int s.2.2.1), some (.int s.2.2.2.1), some (.int s.2.2.2.2.1), none] [] (SH, s.2.2.2.2.2, J) else zN 51 [some (.ref 0), some (.int v1), some (.int s.1), some (.int s.2.1), some (.int s.2.2.1), some (.int s.2.2.2.1), some (.int s.2.2.2.2.1), none] [] (SH, s.2.2.2.2.2, J)) rfl (zR_if (fun hc20 => zR_go ?_) (fun hc20 => zR_go ?_))
  · rw [if_pos hc20] at h
    have he := Option.some.inj h
    subst he
    exact zr_hdr (ls2 := [none, none, some (.int s.1), none, some (.int s.2.2.1), none, none, none]) rfl rfl (show zRun X d 110 179 [none, none, some (.int s.1), none, some (.int s.2.2.1), none, none, none] [] (SH, s.2.2.2.2.2, J) r M' from w)
  · rw [if_neg hc20] at h
    refine zr_steps 5 (62, [some (.ref 0), some (.int v1), some (.int s.1), some (.int s.2.1), some (.int s.2.2.1), some (.int s.2.2.2.1), some (.int s.2.2.2.2.1), none], [.ref 1, .ref 39], (SH, s.2.2.2.2.2, J)) rfl ?_
    obtain ⟨t4, hc3, h⟩ := zbind h
    refine zr_one (some (.inr (.inl (81, [.ref 39, .ref 1], [], 65)))) rfl (zR_call (by omega) rfl (ok_f81_asIn_39 (by omega)  _ hc3) ?_)
    refine zr_steps 6 (78, [some (.ref 0), some (.int v1), some (.int s.1), some (.int s.2.1), some (.int s.2.2.1), some (.int s.2.2.2.1), some (.int s.2.2.2.2.1), none], [.int s.2.2.2.2.1, .int v1, .ref 41], (SH, t4, J)) rfl ?_
    obtain ⟨hc5, h⟩ := zbifo h
    refine zr_one (bif zin v1 8 then zN 79 [some (.ref 0), some (.int v1), some (.int s.1), some (.int s.2.1), some (.int s.2.2.1), some (.int s.2.2.2.1), some (.int s.2.2.2.2.1), none] [] (SH, (zu t4 41 v1.toNatClampNeg s.2.2.2.2.1), J) else none) rfl (zR_bif hc5 (zR_go ?_))
    refine zr_steps 2 (83, [some (.ref 0), some (.int v1), some (.int s.1), some (.int s.2.1), some (.int s.2.2.1), some (.int s.2.2.2.1), some (.int s.2.2.2.2.1), none], [.ref 38], (SH, (zu t4 41 v1.toNatClampNeg s.2.2.2.2.1), J)) rfl ?_
    obtain ⟨t7, hc6, h⟩ := zbind h
    refine zr_one (some (.inr (.inl (40, [.ref 38], [], 86)))) rfl (zR_call (by omega) rfl (ok_f40_pass_38 (by omega)  _ hc6) ?_)
    refine zr_steps 7 (101, [some (.ref 0), some (.int v1), some (.int s.1), some (.int s.2.1), some (.int s.2.2.1), some (.int s.2.2.2.1), some (.int s.2.2.2.2.1), none], [.int v1, .ref 9, .int (t7 38 17)], (SH, t7, J)) rfl ?_
    obtain ⟨hc8, h⟩ := zbifo h
    refine zr_one (bif zin v1 8 then zN 102 [some (.ref 0), some (.int v1), some (.int s.1), some (.int s.2.1), some (.int s.2.2.1), some (.int s.2.2.2.1), some (.int s.2.2.2.2.1), none] [.int (t7 9 v1.toNatClampNeg), .int (t7 38 17)] (SH, t7, J) else none) rfl (zR_bif hc8 (zR_go ?_))
    refine zr_one (if (t7 38 17) = (t7 9 v1.toNatClampNeg) then zN 105 [some (.ref 0), some (.int v1), some (.int s.1), some (.int s.2.1), some (.int s.2.2.1), some (.int s.2.2.2.1), some (.int s.2.2.2.2.1), none] [] (SH, t7, J) else zN 109 [some (.ref 0), some (.int v1), some (.int s.1), some (.int s.2.1), some (.int s.2.2.1), some (.int s.2.2.2.1), some (.int s.2.2.2.2.1), none] [] (SH, t7, J)) rfl (zR_if (fun hc19 => zR_go ?_) (fun hc19 => zR_go ?_))
    · rw [if_pos hc19] at h
      refine zr_steps 4 (114, [some (.ref 0), some (.int v1), some (.int s.1), some (.int s.2.1), some (.int s.2.2.1), some (.int s.2.2.2.1), some (.int s.2.2.2.2.1), some (.int 1)], [.int 1], (SH, t7, J)) rfl ?_
      refine zr_one (if (1 : Int32) = 0 then zN 143 [some (.ref 0), some (.int v1), some (.int s.1), some (.int s.2.1), some (.int s.2.2.1), some (.int s.2.2.2.1), some (.int s.2.2.2.2.1), some (.int 1)] [] (SH, t7, J) else zN 117 [some (.ref 0), some (.int v1), some (.int s.1), some (.int s.2.1), some (.int s.2.2.1), some (.int s.2.2.2.1), some (.int s.2.2.2.2.1), some (.int 1)] [] (SH, t7, J)) rfl (zR_div (by decide) (zR_go ?_))
      refine zr_steps 1 (118, [some (.ref 0), some (.int v1), some (.int s.1), some (.int s.2.1), some (.int s.2.2.1), some (.int s.2.2.2.1), some (.int s.2.2.2.2.1), some (.int 1)], [.int s.1], (SH, t7, J)) rfl ?_
      refine zr_one (if s.1 < 0 then zN 132 [some (.ref 0), some (.int v1), some (.int s.1), some (.int s.2.1), some (.int s.2.2.1), some (.int s.2.2.2.1), some (.int s.2.2.2.2.1), some (.int 1)] [] (SH, t7, J) else zN 121 [some (.ref 0), some (.int v1), some (.int s.1), some (.int s.2.1), some (.int s.2.2.1), some (.int s.2.2.2.1), some (.int s.2.2.2.2.1), some (.int 1)] [] (SH, t7, J)) rfl (zR_if (fun hc16 => zR_go ?_) (fun hc16 => zR_go ?_))
      · rw [if_pos hc16] at h
        refine zr_steps 7 (145, [some (.ref 0), some (.int v1), some (.int s.2.2.2.2.1), some (.int (t7 38 18)), some (.int s.2.2.1), some (.int s.2.2.2.1), some (.int s.2.2.2.2.1), some (.int 1)], [.int s.2.2.1], (SH, t7, J)) rfl ?_
        refine zr_one (if s.2.2.1 < 0 then zN 160 [some (.ref 0), some (.int v1), some (.int s.2.2.2.2.1), some (.int (t7 38 18)), some (.int s.2.2.1), some (.int s.2.2.2.1), some (.int s.2.2.2.2.1), some (.int 1)] [] (SH, t7, J) else zN 148 [some (.ref 0), some (.int v1), some (.int s.2.2.2.2.1), some (.int (t7 38 18)), some (.int s.2.2.1), some (.int s.2.2.2.1), some (.int s.2.2.2.2.1), some (.int 1)] [] (SH, t7, J)) rfl (zR_if (fun hc10 => zR_go ?_) (fun hc10 => zR_go ?_))
        · rw [if_pos hc10] at h
          refine zr_steps 8 (39, [some (.ref 0), some (.int v1), some (.int s.2.2.2.2.1), some (.int (t7 38 18)), some (.int s.2.2.2.2.1), some (.int (t7 38 18)), some (.int (s.2.2.2.2.1 + 1)), some (.int 1)], [], (SH, t7, J)) rfl ?_
          have he := Option.some.inj h
          subst he
          exact zr_hdr (ls2 := [some (.ref 0), some (.int v1), some (.int s.2.2.2.2.1), some (.int (t7 38 18)), some (.int s.2.2.2.2.1), some (.int (t7 38 18)), some (.int (s.2.2.2.2.1 + 1)), none]) rfl rfl (show zRun X d 110 39 [some (.ref 0), some (.int v1), some (.int s.2.2.2.2.1), some (.int (t7 38 18)), some (.int s.2.2.2.2.1), some (.int (t7 38 18)), some (.int (s.2.2.2.2.1 + 1)), none] [] (SH, t7, J) r M' from w)
        · rw [if_neg hc10] at h
          refine zr_steps 4 (157, [some (.ref 0), some (.int v1), some (.int s.2.2.2.2.1), some (.int (t7 38 18)), some (.int s.2.2.1), some (.int s.2.2.2.1), some (.int s.2.2.2.2.1), some (.int 1)], [.int s.2.2.2.1, .int (t7 38 18)], (SH, t7, J)) rfl ?_
          refine zr_one (if s.2.2.2.1 ≤ (t7 38 18) then zN 173 [some (.ref 0), some (.int v1), some (.int s.2.2.2.2.1), some (.int (t7 38 18)), some (.int s.2.2.1), some (.int s.2.2.2.1), some (.int s.2.2.2.2.1), some (.int 1)] [] (SH, t7, J) else zN 160 [some (.ref 0), some (.int v1), some (.int s.2.2.2.2.1), some (.int (t7 38 18)), some (.int s.2.2.1), some (.int s.2.2.2.1), some (.int s.2.2.2.2.1), some (.int 1)] [] (SH, t7, J)) rfl (zR_if (fun hc9 => zR_go ?_) (fun hc9 => zR_go ?_))
          · rw [if_pos hc9] at h
            refine zr_steps 2 (39, [some (.ref 0), some (.int v1), some (.int s.2.2.2.2.1), some (.int (t7 38 18)), some (.int s.2.2.1), some (.int s.2.2.2.1), some (.int (s.2.2.2.2.1 + 1)), some (.int 1)], [], (SH, t7, J)) rfl ?_
            have he := Option.some.inj h
            subst he
            exact zr_hdr (ls2 := [some (.ref 0), some (.int v1), some (.int s.2.2.2.2.1), some (.int (t7 38 18)), some (.int s.2.2.1), some (.int s.2.2.2.1), some (.int (s.2.2.2.2.1 + 1)), none]) rfl rfl (show zRun X d 110 39 [some (.ref 0), some (.int v1), some (.int s.2.2.2.2.1), some (.int (t7 38 18)), some (.int s.2.2.1), some (.int s.2.2.2.1), some (.int (s.2.2.2.2.1 + 1)), none] [] (SH, t7, J) r M' from w)
          · rw [if_neg hc9] at h
            refine zr_steps 8 (39, [some (.ref 0), some (.int v1), some (.int s.2.2.2.2.1), some (.int (t7 38 18)), some (.int s.2.2.2.2.1), some (.int (t7 38 18)), some (.int (s.2.2.2.2.1 + 1)), some (.int 1)], [], (SH, t7, J)) rfl ?_
            have he := Option.some.inj h
            subst he
            exact zr_hdr (ls2 := [some (.ref 0), some (.int v1), some (.int s.2.2.2.2.1), some (.int (t7 38 18)), some (.int s.2.2.2.2.1), some (.int (t7 38 18)), some (.int (s.2.2.2.2.1 + 1)), none]) rfl rfl (show zRun X d 110 39 [some (.ref 0), some (.int v1), some (.int s.2.2.2.2.1), some (.int (t7 38 18)), some (.int s.2.2.2.2.1), some (.int (t7 38 18)), some (.int (s.2.2.2.2.1 + 1)), none] [] (SH, t7, J) r M' from w)
      · rw [if_neg hc16] at h
        refine zr_steps 4 (129, [some (.ref 0), some (.int v1), some (.int s.1), some (.int s.2.1), some (.int s.2.2.1), some (.int s.2.2.2.1), some (.int s.2.2.2.2.1), some (.int 1)], [.int s.2.1, .int (t7 38 18)], (SH, t7, J)) rfl ?_
        refine zr_one (if (t7 38 18) ≤ s.2.1 then zN 143 [some (.ref 0), some (.int v1), some (.int s.1), some (.int s.2.1), some (.int s.2.2.1), some (.int s.2.2.2.1), some (.int s.2.2.2.2.1), some (.int 1)] [] (SH, t7, J) else zN 132 [some (.ref 0), some (.int v1), some (.int s.1), some (.int s.2.1), some (.int s.2.2.1), some (.int s.2.2.2.1), some (.int s.2.2.2.2.1), some (.int 1)] [] (SH, t7, J)) rfl (zR_if (fun hc15 => zR_go ?_) (fun hc15 => zR_go ?_))
        · rw [if_pos hc15] at h
          refine zr_steps 1 (145, [some (.ref 0), some (.int v1), some (.int s.1), some (.int s.2.1), some (.int s.2.2.1), some (.int s.2.2.2.1), some (.int s.2.2.2.2.1), some (.int 1)], [.int s.2.2.1], (SH, t7, J)) rfl ?_
          refine zr_one (if s.2.2.1 < 0 then zN 160 [some (.ref 0), some (.int v1), some (.int s.1), some (.int s.2.1), some (.int s.2.2.1), some (.int s.2.2.2.1), some (.int s.2.2.2.2.1), some (.int 1)] [] (SH, t7, J) else zN 148 [some (.ref 0), some (.int v1), some (.int s.1), some (.int s.2.1), some (.int s.2.2.1), some (.int s.2.2.2.1), some (.int s.2.2.2.2.1), some (.int 1)] [] (SH, t7, J)) rfl (zR_if (fun hc12 => zR_go ?_) (fun hc12 => zR_go ?_))
          · rw [if_pos hc12] at h
            refine zr_steps 8 (39, [some (.ref 0), some (.int v1), some (.int s.1), some (.int s.2.1), some (.int s.2.2.2.2.1), some (.int (t7 38 18)), some (.int (s.2.2.2.2.1 + 1)), some (.int 1)], [], (SH, t7, J)) rfl ?_
            have he := Option.some.inj h
            subst he
            exact zr_hdr (ls2 := [some (.ref 0), some (.int v1), some (.int s.1), some (.int s.2.1), some (.int s.2.2.2.2.1), some (.int (t7 38 18)), some (.int (s.2.2.2.2.1 + 1)), none]) rfl rfl (show zRun X d 110 39 [some (.ref 0), some (.int v1), some (.int s.1), some (.int s.2.1), some (.int s.2.2.2.2.1), some (.int (t7 38 18)), some (.int (s.2.2.2.2.1 + 1)), none] [] (SH, t7, J) r M' from w)
          · rw [if_neg hc12] at h
            refine zr_steps 4 (157, [some (.ref 0), some (.int v1), some (.int s.1), some (.int s.2.1), some (.int s.2.2.1), some (.int s.2.2.2.1), some (.int s.2.2.2.2.1), some (.int 1)], [.int s.2.2.2.1, .int (t7 38 18)], (SH, t7, J)) rfl ?_
            refine zr_one (if s.2.2.2.1 ≤ (t7 38 18) then zN 173 [some (.ref 0), some (.int v1), some (.int s.1), some (.int s.2.1), some (.int s.2.2.1), some (.int s.2.2.2.1), some (.int s.2.2.2.2.1), some (.int 1)] [] (SH, t7, J) else zN 160 [some (.ref 0), some (.int v1), some (.int s.1), some (.int s.2.1), some (.int s.2.2.1), some (.int s.2.2.2.1), some (.int s.2.2.2.2.1), some (.int 1)] [] (SH, t7, J)) rfl (zR_if (fun hc11 => zR_go ?_) (fun hc11 => zR_go ?_))
            · rw [if_pos hc11] at h
              refine zr_steps 2 (39, [some (.ref 0), some (.int v1), some (.int s.1), some (.int s.2.1), some (.int s.2.2.1), some (.int s.2.2.2.1), some (.int (s.2.2.2.2.1 + 1)), some (.int 1)], [], (SH, t7, J)) rfl ?_
              have he := Option.some.inj h
              subst he
              exact zr_hdr (ls2 := [some (.ref 0), some (.int v1), some (.int s.1), some (.int s.2.1), some (.int s.2.2.1), some (.int s.2.2.2.1), some (.int (s.2.2.2.2.1 + 1)), none]) rfl rfl (show zRun X d 110 39 [some (.ref 0), some (.int v1), some (.int s.1), some (.int s.2.1), some (.int s.2.2.1), some (.int s.2.2.2.1), some (.int (s.2.2.2.2.1 + 1)), none] [] (SH, t7, J) r M' from w)
            · rw [if_neg hc11] at h
              refine zr_steps 8 (39, [some (.ref 0), some (.int v1), some (.int s.1), some (.int s.2.1), some (.int s.2.2.2.2.1), some (.int (t7 38 18)), some (.int (s.2.2.2.2.1 + 1)), some (.int 1)], [], (SH, t7, J)) rfl ?_
              have he := Option.some.inj h
              subst he
              exact zr_hdr (ls2 := [some (.ref 0), some (.int v1), some (.int s.1), some (.int s.2.1), some (.int s.2.2.2.2.1), some (.int (t7 38 18)), some (.int (s.2.2.2.2.1 + 1)), none]) rfl rfl (show zRun X d 110 39 [some (.ref 0), some (.int v1), some (.int s.1), some (.int s.2.1), some (.int s.2.2.2.2.1), some (.int (t7 38 18)), some (.int (s.2.2.2.2.1 + 1)), none] [] (SH, t7, J) r M' from w)
        · rw [if_neg hc15] at h
          refine zr_steps 7 (145, [some (.ref 0), some (.int v1), some (.int s.2.2.2.2.1), some (.int (t7 38 18)), some (.int s.2.2.1), some (.int s.2.2.2.1), some (.int s.2.2.2.2.1), some (.int 1)], [.int s.2.2.1], (SH, t7, J)) rfl ?_
          refine zr_one (if s.2.2.1 < 0 then zN 160 [some (.ref 0), some (.int v1), some (.int s.2.2.2.2.1), some (.int (t7 38 18)), some (.int s.2.2.1), some (.int s.2.2.2.1), some (.int s.2.2.2.2.1), some (.int 1)] [] (SH, t7, J) else zN 148 [some (.ref 0), some (.int v1), some (.int s.2.2.2.2.1), some (.int (t7 38 18)), some (.int s.2.2.1), some (.int s.2.2.2.1), some (.int s.2.2.2.2.1), some (.int 1)] [] (SH, t7, J)) rfl (zR_if (fun hc14 => zR_go ?_) (fun hc14 => zR_go ?_))
          · rw [if_pos hc14] at h
            refine zr_steps 8 (39, [some (.ref 0), some (.int v1), some (.int s.2.2.2.2.1), some (.int (t7 38 18)), some (.int s.2.2.2.2.1), some (.int (t7 38 18)), some (.int (s.2.2.2.2.1 + 1)), some (.int 1)], [], (SH, t7, J)) rfl ?_
            have he := Option.some.inj h
            subst he
            exact zr_hdr (ls2 := [some (.ref 0), some (.int v1), some (.int s.2.2.2.2.1), some (.int (t7 38 18)), some (.int s.2.2.2.2.1), some (.int (t7 38 18)), some (.int (s.2.2.2.2.1 + 1)), none]) rfl rfl (show zRun X d 110 39 [some (.ref 0), some (.int v1), some (.int s.2.2.2.2.1), some (.int (t7 38 18)), some (.int s.2.2.2.2.1), some (.int (t7 38 18)), some (.int (s.2.2.2.2.1 + 1)), none] [] (SH, t7, J) r M' from w)
          · rw [if_neg hc14] at h
            refine zr_steps 4 (157, [some (.ref 0), some (.int v1), some (.int s.2.2.2.2.1), some (.int (t7 38 18)), some (.int s.2.2.1), some (.int s.2.2.2.1), some (.int s.2.2.2.2.1), some (.int 1)], [.int s.2.2.2.1, .int (t7 38 18)], (SH, t7, J)) rfl ?_
            refine zr_one (if s.2.2.2.1 ≤ (t7 38 18) then zN 173 [some (.ref 0), some (.int v1), some (.int s.2.2.2.2.1), some (.int (t7 38 18)), some (.int s.2.2.1), some (.int s.2.2.2.1), some (.int s.2.2.2.2.1), some (.int 1)] [] (SH, t7, J) else zN 160 [some (.ref 0), some (.int v1), some (.int s.2.2.2.2.1), some (.int (t7 38 18)), some (.int s.2.2.1), some (.int s.2.2.2.1), some (.int s.2.2.2.2.1), some (.int 1)] [] (SH, t7, J)) rfl (zR_if (fun hc13 => zR_go ?_) (fun hc13 => zR_go ?_))
            · rw [if_pos hc13] at h
              refine zr_steps 2 (39, [some (.ref 0), some (.int v1), some (.int s.2.2.2.2.1), some (.int (t7 38 18)), some (.int s.2.2.1), some (.int s.2.2.2.1), some (.int (s.2.2.2.2.1 + 1)), some (.int 1)], [], (SH, t7, J)) rfl ?_
              have he := Option.some.inj h
              subst he
              exact zr_hdr (ls2 := [some (.ref 0), some (.int v1), some (.int s.2.2.2.2.1), some (.int (t7 38 18)), some (.int s.2.2.1), some (.int s.2.2.2.1), some (.int (s.2.2.2.2.1 + 1)), none]) rfl rfl (show zRun X d 110 39 [some (.ref 0), some (.int v1), some (.int s.2.2.2.2.1), some (.int (t7 38 18)), some (.int s.2.2.1), some (.int s.2.2.2.1), some (.int (s.2.2.2.2.1 + 1)), none] [] (SH, t7, J) r M' from w)
            · rw [if_neg hc13] at h
              refine zr_steps 8 (39, [some (.ref 0), some (.int v1), some (.int s.2.2.2.2.1), some (.int (t7 38 18)), some (.int s.2.2.2.2.1), some (.int (t7 38 18)), some (.int (s.2.2.2.2.1 + 1)), some (.int 1)], [], (SH, t7, J)) rfl ?_
              have he := Option.some.inj h
              subst he
              exact zr_hdr (ls2 := [some (.ref 0), some (.int v1), some (.int s.2.2.2.2.1), some (.int (t7 38 18)), some (.int s.2.2.2.2.1), some (.int (t7 38 18)), some (.int (s.2.2.2.2.1 + 1)), none]) rfl rfl (show zRun X d 110 39 [some (.ref 0), some (.int v1), some (.int s.2.2.2.2.1), some (.int (t7 38 18)), some (.int s.2.2.2.2.1), some (.int (t7 38 18)), some (.int (s.2.2.2.2.1 + 1)), none] [] (SH, t7, J) r M' from w)
    · rw [if_neg hc19] at h
      refine zr_steps 3 (114, [some (.ref 0), some (.int v1), some (.int s.1), some (.int s.2.1), some (.int s.2.2.1), some (.int s.2.2.2.1), some (.int s.2.2.2.2.1), some (.int 0)], [.int 0], (SH, t7, J)) rfl ?_
      refine zr_one (if (0 : Int32) = 0 then zN 143 [some (.ref 0), some (.int v1), some (.int s.1), some (.int s.2.1), some (.int s.2.2.1), some (.int s.2.2.2.1), some (.int s.2.2.2.2.1), some (.int 0)] [] (SH, t7, J) else zN 117 [some (.ref 0), some (.int v1), some (.int s.1), some (.int s.2.1), some (.int s.2.2.1), some (.int s.2.2.2.1), some (.int s.2.2.2.2.1), some (.int 0)] [] (SH, t7, J)) rfl (zR_pos (by decide) (zR_go ?_))
      refine zr_steps 1 (145, [some (.ref 0), some (.int v1), some (.int s.1), some (.int s.2.1), some (.int s.2.2.1), some (.int s.2.2.2.1), some (.int s.2.2.2.2.1), some (.int 0)], [.int s.2.2.1], (SH, t7, J)) rfl ?_
      refine zr_one (if s.2.2.1 < 0 then zN 160 [some (.ref 0), some (.int v1), some (.int s.1), some (.int s.2.1), some (.int s.2.2.1), some (.int s.2.2.2.1), some (.int s.2.2.2.2.1), some (.int 0)] [] (SH, t7, J) else zN 148 [some (.ref 0), some (.int v1), some (.int s.1), some (.int s.2.1), some (.int s.2.2.1), some (.int s.2.2.2.1), some (.int s.2.2.2.2.1), some (.int 0)] [] (SH, t7, J)) rfl (zR_if (fun hc18 => zR_go ?_) (fun hc18 => zR_go ?_))
      · rw [if_pos hc18] at h
        refine zr_steps 8 (39, [some (.ref 0), some (.int v1), some (.int s.1), some (.int s.2.1), some (.int s.2.2.2.2.1), some (.int (t7 38 18)), some (.int (s.2.2.2.2.1 + 1)), some (.int 0)], [], (SH, t7, J)) rfl ?_
        have he := Option.some.inj h
        subst he
        exact zr_hdr (ls2 := [some (.ref 0), some (.int v1), some (.int s.1), some (.int s.2.1), some (.int s.2.2.2.2.1), some (.int (t7 38 18)), some (.int (s.2.2.2.2.1 + 1)), none]) rfl rfl (show zRun X d 110 39 [some (.ref 0), some (.int v1), some (.int s.1), some (.int s.2.1), some (.int s.2.2.2.2.1), some (.int (t7 38 18)), some (.int (s.2.2.2.2.1 + 1)), none] [] (SH, t7, J) r M' from w)
      · rw [if_neg hc18] at h
        refine zr_steps 4 (157, [some (.ref 0), some (.int v1), some (.int s.1), some (.int s.2.1), some (.int s.2.2.1), some (.int s.2.2.2.1), some (.int s.2.2.2.2.1), some (.int 0)], [.int s.2.2.2.1, .int (t7 38 18)], (SH, t7, J)) rfl ?_
        refine zr_one (if s.2.2.2.1 ≤ (t7 38 18) then zN 173 [some (.ref 0), some (.int v1), some (.int s.1), some (.int s.2.1), some (.int s.2.2.1), some (.int s.2.2.2.1), some (.int s.2.2.2.2.1), some (.int 0)] [] (SH, t7, J) else zN 160 [some (.ref 0), some (.int v1), some (.int s.1), some (.int s.2.1), some (.int s.2.2.1), some (.int s.2.2.2.1), some (.int s.2.2.2.2.1), some (.int 0)] [] (SH, t7, J)) rfl (zR_if (fun hc17 => zR_go ?_) (fun hc17 => zR_go ?_))
        · rw [if_pos hc17] at h
          refine zr_steps 2 (39, [some (.ref 0), some (.int v1), some (.int s.1), some (.int s.2.1), some (.int s.2.2.1), some (.int s.2.2.2.1), some (.int (s.2.2.2.2.1 + 1)), some (.int 0)], [], (SH, t7, J)) rfl ?_
          have he := Option.some.inj h
          subst he
          exact zr_hdr (ls2 := [some (.ref 0), some (.int v1), some (.int s.1), some (.int s.2.1), some (.int s.2.2.1), some (.int s.2.2.2.1), some (.int (s.2.2.2.2.1 + 1)), none]) rfl rfl (show zRun X d 110 39 [some (.ref 0), some (.int v1), some (.int s.1), some (.int s.2.1), some (.int s.2.2.1), some (.int s.2.2.2.1), some (.int (s.2.2.2.2.1 + 1)), none] [] (SH, t7, J) r M' from w)
        · rw [if_neg hc17] at h
          refine zr_steps 8 (39, [some (.ref 0), some (.int v1), some (.int s.1), some (.int s.2.1), some (.int s.2.2.2.2.1), some (.int (t7 38 18)), some (.int (s.2.2.2.2.1 + 1)), some (.int 0)], [], (SH, t7, J)) rfl ?_
          have he := Option.some.inj h
          subst he
          exact zr_hdr (ls2 := [some (.ref 0), some (.int v1), some (.int s.1), some (.int s.2.1), some (.int s.2.2.2.2.1), some (.int (t7 38 18)), some (.int (s.2.2.2.2.1 + 1)), none]) rfl rfl (show zRun X d 110 39 [some (.ref 0), some (.int v1), some (.int s.1), some (.int s.2.1), some (.int s.2.2.2.2.1), some (.int (t7 38 18)), some (.int (s.2.2.2.2.1 + 1)), none] [] (SH, t7, J) r M' from w))
set_option maxRecDepth 100000 in
set_option maxHeartbeats 4000000 in
theorem ok_f110_serves {X : zX} {d : Nat} (hd : 7 ≤ d) (v1 : Int32) {I : (Nat → Nat → Int32)} {J : (Nat → Nat → Int64)} (t : (Int32 × (Nat → Nat → Int32))) (h : f110_serves v1 I = some t) : zRun X d 110 0 (zent 110 [.ref 0, .int v1]) [] (SH, I, J) (some (.int t.1)) (SH, t.2, J) := by
  unfold f110_serves at h
  refine zr_steps 3 (5, [some (.ref 0), some (.int v1), none, none, none, none, none, none], [.int v1, .ref 1], (SH, I, J)) rfl ?_
  obtain ⟨t2, hc1, h⟩ := zbind h
  refine zr_one (some (.inr (.inl (62, [.ref 1, .int v1], [], 8)))) rfl (zR_call (by omega) rfl (ok_f62_isSort (by omega) v1 _ hc1) ?_)
  refine zr_one (if t2 = 0 then zN 11 [some (.ref 0), some (.int v1), none, none, none, none, none, none] [] (SH, I, J) else zN 13 [some (.ref 0), some (.int v1), none, none, none, none, none, none] [] (SH, I, J)) rfl (zR_if (fun hc25 => zR_go ?_) (fun hc25 => zR_go ?_))
  · rw [if_pos hc25] at h
    refine zr_steps 1 (12, [some (.ref 0), some (.int v1), none, none, none, none, none, none], [.int (-1)], (SH, I, J)) rfl ?_
    have he := Option.some.inj h
    subst he
    exact zr_one (some (.inr (.inr (some (.int (-1)))))) rfl (zR_ret rfl rfl)
  · rw [if_neg hc25] at h
    refine zr_steps 3 (20, [some (.ref 0), some (.int v1), none, none, none, none, none, none], [.int (I 15 7)], (SH, I, J)) rfl ?_
    refine zr_one (if (I 15 7) = 0 then zN 23 [some (.ref 0), some (.int v1), none, none, none, none, none, none] [] (SH, I, J) else zN 26 [some (.ref 0), some (.int v1), none, none, none, none, none, none] [] (SH, I, J)) rfl (zR_if (fun hc24 => zR_go ?_) (fun hc24 => zR_go ?_))
    · rw [if_pos hc24] at h
      refine zr_steps 1 (25, [some (.ref 0), some (.int v1), none, none, none, none, none, none], [.int (-5)], (SH, I, J)) rfl ?_
      have he := Option.some.inj h
      subst he
      exact zr_one (some (.inr (.inr (some (.int (-5)))))) rfl (zR_ret rfl rfl)
    · rw [if_neg hc24] at h
      refine zr_steps 10 (39, [some (.ref 0), some (.int v1), some (.int (-1)), some (.int 0), some (.int (-1)), some (.int 0), some (.int 0), none], [], (SH, I, J)) rfl ?_
      obtain ⟨s21, ho22, h⟩ := zbind h
      refine zr_hdr (ls2 := [some (.ref 0), some (.int v1), some (.int (-1)), some (.int 0), some (.int (-1)), some (.int 0), some (.int 0), none]) rfl rfl ?_
      refine ok_f110_serves_L39 (by omega) v1 5000 (((-1) : Int32), (0 : Int32), ((-1) : Int32), (0 : Int32), (0 : Int32), I) s21 ho22 ?_
      show zRun X d 110 179 [none, none, some (.int s21.1), none, some (.int s21.2.2.1), none, none, none] [] (SH, s21.2.2.2.2.2, J) _ _
      refine zr_steps 1 (180, [none, none, some (.int s21.1), none, some (.int s21.2.2.1), none, none, none], [.int s21.1], (SH, s21.2.2.2.2.2, J)) rfl ?_
      refine zr_one (if s21.1 < 0 then zN 187 [none, none, some (.int s21.1), none, some (.int s21.2.2.1), none, none, none] [] (SH, s21.2.2.2.2.2, J) else zN 183 [none, none, some (.int s21.1), none, some (.int s21.2.2.1), none, none, none] [] (SH, s21.2.2.2.2.2, J)) rfl (zR_if (fun hc23 => zR_go ?_) (fun hc23 => zR_go ?_))
      · rw [if_pos hc23] at h
        refine zr_steps 1 (189, [none, none, some (.int s21.1), none, some (.int s21.2.2.1), none, none, none], [.int s21.2.2.1], (SH, s21.2.2.2.2.2, J)) rfl ?_
        have he := Option.some.inj h
        subst he
        exact zr_one (some (.inr (.inr (some (.int s21.2.2.1))))) rfl (zR_ret rfl rfl)
      · rw [if_neg hc23] at h
        refine zr_steps 2 (189, [none, none, some (.int s21.1), none, some (.int s21.2.2.1), none, none, none], [.int s21.1], (SH, s21.2.2.2.2.2, J)) rfl ?_
        have he := Option.some.inj h
        subst he
        exact zr_one (some (.inr (.inr (some (.int s21.1))))) rfl (zR_ret rfl rfl)
set_option maxRecDepth 100000 in
set_option maxHeartbeats 4000000 in
theorem ok_f190_serves_L35 {X : zX} {d : Nat} {r : Option Value} {M' : zM} (hd : 6 ≤ d) (v1 : Int32) {J : (Nat → Nat → Int64)} : ∀ (n : Nat) (s x : (Int32 × Int32 × Int32 × Int32 × (Nat → Nat → Int32))), zloop (f190_serves_L35 v1) n s = some x → (fun (x : (Int32 × Int32 × Int32 × Int32 × (Nat → Nat → Int32))) => zRun X d 190 152 [some (.ref 73), none, some (.int x.1), none, none, none, none, none] [] (SH, x.2.2.2.2, J) r M') x → (fun (s : (Int32 × Int32 × Int32 × Int32 × (Nat → Nat → Int32))) => zRun X d 190 35 [some (.ref 73), some (.int v1), some (.int s.1), some (.int s.2.1), some (.int s.2.2.1), some (.int s.2.2.2.1), none, none] [] (SH, s.2.2.2.2, J) r M') s := zloop_ok (B := (f190_serves_L35 v1)) (Wh := fun (s : (Int32 × Int32 × Int32 × Int32 × (Nat → Nat → Int32))) => zRun X d 190 35 [some (.ref 73), some (.int v1), some (.int s.1), some (.int s.2.1), some (.int s.2.2.1), some (.int s.2.2.2.1), none, none] [] (SH, s.2.2.2.2, J) r M') (Wx := fun (x : (Int32 × Int32 × Int32 × Int32 × (Nat → Nat → Int32))) => zRun X d 190 152 [some (.ref 73), none, some (.int x.1), none, none, none, none, none] [] (SH, x.2.2.2.2, J) r M') (fun s y h w => by
  unfold f190_serves_L35 at h
  refine zr_steps 3 (41, [some (.ref 73), some (.int v1), some (.int s.1), some (.int s.2.1), some (.int s.2.2.1), some (.int s.2.2.2.1), none, none], [.int (s.2.2.2.2 73 31), .int s.2.2.2.1], (SH, s.2.2.2.2, J)) rfl ?_
  refine zr_one (if (s.2.2.2.2 73 31) ≤ s.2.2.2.1 then zN 152 [some (.ref 73), some (.int v1), some (.int s.1), some (.int s.2.1), some (.int s.2.2.1), some (.int s.2.2.2.1), none, none] [] (SH, s.2.2.2.2, J) else zN 44 [some (.ref 73), some (.int v1), some (.int s.1), some (.int s.2.1), some (.int s.2.2.1), some (.int s.2.2.2.1), none, none] [] (SH, s.2.2.2.2, J)) rfl (zR_if (fun hc14 => zR_go ?_) (fun hc14 => zR_go ?_))
  · rw [if_pos hc14] at h
    have he := Option.some.inj h
    subst he
    exact zr_hdr (ls2 := [some (.ref 73), none, some (.int s.1), none, none, none, none, none]) rfl rfl (show zRun X d 190 152 [some (.ref 73), none, some (.int s.1), none, none, none, none, none] [] (SH, s.2.2.2.2, J) r M' from w)
  · rw [if_neg hc14] at h
    refine zr_steps 6 (55, [some (.ref 73), some (.int v1), some (.int s.1), some (.int s.2.1), some (.int s.2.2.1), some (.int s.2.2.2.1), none, none], [.int (s.2.2.2.2 73 15), .ref 73], (SH, (zu s.2.2.2.2 73 51 s.2.2.2.1), J)) rfl ?_
    obtain ⟨t4, hc3, h⟩ := zbind h
    refine zr_one (some (.inr (.inl (171, [.ref 73, .int (s.2.2.2.2 73 15)], [], 58)))) rfl (zR_call (by omega) rfl (ok_f171_goTo (by omega) (s.2.2.2.2 73 15) _ hc3) ?_)
    refine zr_steps 3 (63, [some (.ref 73), some (.int v1), some (.int s.1), some (.int s.2.1), some (.int s.2.2.1), some (.int s.2.2.2.1), none, none], [.int v1, .ref 81, .int t4.1], (SH, t4.2, J)) rfl ?_
    obtain ⟨hc5, h⟩ := zbifo h
    refine zr_one (bif zin v1 8 then zN 64 [some (.ref 73), some (.int v1), some (.int s.1), some (.int s.2.1), some (.int s.2.2.1), some (.int s.2.2.2.1), none, none] [.int (t4.2 81 v1.toNatClampNeg), .int t4.1] (SH, t4.2, J) else none) rfl (zR_bif hc5 (zR_go ?_))
    refine zr_one (if t4.1 = (t4.2 81 v1.toNatClampNeg) then zN 67 [some (.ref 73), some (.int v1), some (.int s.1), some (.int s.2.1), some (.int s.2.2.1), some (.int s.2.2.2.1), none, none] [] (SH, t4.2, J) else zN 71 [some (.ref 73), some (.int v1), some (.int s.1), some (.int s.2.1), some (.int s.2.2.1), some (.int s.2.2.2.1), none, none] [] (SH, t4.2, J)) rfl (zR_if (fun hc13 => zR_go ?_) (fun hc13 => zR_go ?_))
    · rw [if_pos hc13] at h
      refine zr_steps 4 (75, [some (.ref 73), some (.int v1), some (.int s.1), some (.int s.2.1), some (.int s.2.2.1), some (.int s.2.2.2.1), some (.int 1), none], [.int s.1], (SH, t4.2, J)) rfl ?_
      refine zr_one (if s.1 < 0 then zN 119 [some (.ref 73), some (.int v1), some (.int s.1), some (.int s.2.1), some (.int s.2.2.1), some (.int s.2.2.2.1), some (.int 1), none] [] (SH, t4.2, J) else zN 78 [some (.ref 73), some (.int v1), some (.int s.1), some (.int s.2.1), some (.int s.2.2.1), some (.int s.2.2.2.1), some (.int 1), none] [] (SH, t4.2, J)) rfl (zR_if (fun hc9 => zR_go ?_) (fun hc9 => zR_go ?_))
      · rw [if_pos hc9] at h
        refine zr_steps 4 (128, [some (.ref 73), some (.int v1), some (.int s.1), some (.int s.2.1), some (.int s.2.2.1), some (.int s.2.2.2.1), some (.int 1), some (.int 1)], [.int 1], (SH, t4.2, J)) rfl ?_
        refine zr_one (if (1 : Int32) = 0 then zN 131 [some (.ref 73), some (.int v1), some (.int s.1), some (.int s.2.1), some (.int s.2.2.1), some (.int s.2.2.2.1), some (.int 1), some (.int 1)] [] (SH, t4.2, J) else zN 134 [some (.ref 73), some (.int v1), some (.int s.1), some (.int s.2.1), some (.int s.2.2.1), some (.int s.2.2.2.1), some (.int 1), some (.int 1)] [] (SH, t4.2, J)) rfl (zR_div (by decide) (zR_go ?_))
        refine zr_steps 9 (35, [some (.ref 73), some (.int v1), some (.int s.2.2.2.1), some (.int 1), some (.int (t4.2 73 54)), some (.int (s.2.2.2.1 + 1)), some (.int 1), some (.int 1)], [], (SH, t4.2, J)) rfl ?_
        have he := Option.some.inj h
        subst he
        exact zr_hdr (ls2 := [some (.ref 73), some (.int v1), some (.int s.2.2.2.1), some (.int 1), some (.int (t4.2 73 54)), some (.int (s.2.2.2.1 + 1)), none, none]) rfl rfl (show zRun X d 190 35 [some (.ref 73), some (.int v1), some (.int s.2.2.2.1), some (.int 1), some (.int (t4.2 73 54)), some (.int (s.2.2.2.1 + 1)), none, none] [] (SH, t4.2, J) r M' from w)
      · rw [if_neg hc9] at h
        refine zr_steps 1 (80, [some (.ref 73), some (.int v1), some (.int s.1), some (.int s.2.1), some (.int s.2.2.1), some (.int s.2.2.2.1), some (.int 1), none], [.int 1], (SH, t4.2, J)) rfl ?_
        refine zr_one (if (1 : Int32) = 0 then zN 87 [some (.ref 73), some (.int v1), some (.int s.1), some (.int s.2.1), some (.int s.2.2.1), some (.int s.2.2.2.1), some (.int 1), none] [] (SH, t4.2, J) else zN 83 [some (.ref 73), some (.int v1), some (.int s.1), some (.int s.2.1), some (.int s.2.2.1), some (.int s.2.2.2.1), some (.int 1), none] [] (SH, t4.2, J)) rfl (zR_div (by decide) (zR_go ?_))
        refine zr_steps 1 (84, [some (.ref 73), some (.int v1), some (.int s.1), some (.int s.2.1), some (.int s.2.2.1), some (.int s.2.2.2.1), some (.int 1), none], [.int s.2.1], (SH, t4.2, J)) rfl ?_
        refine zr_one (if s.2.1 = 0 then zN 119 [some (.ref 73), some (.int v1), some (.int s.1), some (.int s.2.1), some (.int s.2.2.1), some (.int s.2.2.2.1), some (.int 1), none] [] (SH, t4.2, J) else zN 87 [some (.ref 73), some (.int v1), some (.int s.1), some (.int s.2.1), some (.int s.2.2.1), some (.int s.2.2.2.1), some (.int 1), none] [] (SH, t4.2, J)) rfl (zR_if (fun hc8 => zR_go ?_) (fun hc8 => zR_go ?_))
        · rw [if_pos hc8] at h
          refine zr_steps 4 (128, [some (.ref 73), some (.int v1), some (.int s.1), some (.int s.2.1), some (.int s.2.2.1), some (.int s.2.2.2.1), some (.int 1), some (.int 1)], [.int 1], (SH, t4.2, J)) rfl ?_
          refine zr_one (if (1 : Int32) = 0 then zN 131 [some (.ref 73), some (.int v1), some (.int s.1), some (.int s.2.1), some (.int s.2.2.1), some (.int s.2.2.2.1), some (.int 1), some (.int 1)] [] (SH, t4.2, J) else zN 134 [some (.ref 73), some (.int v1), some (.int s.1), some (.int s.2.1), some (.int s.2.2.1), some (.int s.2.2.2.1), some (.int 1), some (.int 1)] [] (SH, t4.2, J)) rfl (zR_div (by decide) (zR_go ?_))
          refine zr_steps 9 (35, [some (.ref 73), some (.int v1), some (.int s.2.2.2.1), some (.int 1), some (.int (t4.2 73 54)), some (.int (s.2.2.2.1 + 1)), some (.int 1), some (.int 1)], [], (SH, t4.2, J)) rfl ?_
          have he := Option.some.inj h
          subst he
          exact zr_hdr (ls2 := [some (.ref 73), some (.int v1), some (.int s.2.2.2.1), some (.int 1), some (.int (t4.2 73 54)), some (.int (s.2.2.2.1 + 1)), none, none]) rfl rfl (show zRun X d 190 35 [some (.ref 73), some (.int v1), some (.int s.2.2.2.1), some (.int 1), some (.int (t4.2 73 54)), some (.int (s.2.2.2.1 + 1)), none, none] [] (SH, t4.2, J) r M' from w)
        · rw [if_neg hc8] at h
          refine zr_steps 2 (90, [some (.ref 73), some (.int v1), some (.int s.1), some (.int s.2.1), some (.int s.2.2.1), some (.int s.2.2.2.1), some (.int 1), none], [.int s.2.1, .int 1], (SH, t4.2, J)) rfl ?_
          refine zr_one (if (1 : Int32) = s.2.1 then zN 93 [some (.ref 73), some (.int v1), some (.int s.1), some (.int s.2.1), some (.int s.2.2.1), some (.int s.2.2.2.1), some (.int 1), none] [] (SH, t4.2, J) else zN 123 [some (.ref 73), some (.int v1), some (.int s.1), some (.int s.2.1), some (.int s.2.2.1), some (.int s.2.2.2.1), some (.int 1), none] [] (SH, t4.2, J)) rfl (zR_if (fun hc7 => zR_go ?_) (fun hc7 => zR_go ?_))
          · rw [if_pos hc7] at h
            refine zr_steps 1 (95, [some (.ref 73), some (.int v1), some (.int s.1), some (.int s.2.1), some (.int s.2.2.1), some (.int s.2.2.2.1), some (.int 1), none], [.int 1], (SH, t4.2, J)) rfl ?_
            refine zr_one (if (1 : Int32) = 0 then zN 110 [some (.ref 73), some (.int v1), some (.int s.1), some (.int s.2.1), some (.int s.2.2.1), some (.int s.2.2.2.1), some (.int 1), none] [] (SH, t4.2, J) else zN 98 [some (.ref 73), some (.int v1), some (.int s.1), some (.int s.2.1), some (.int s.2.2.1), some (.int s.2.2.2.1), some (.int 1), none] [] (SH, t4.2, J)) rfl (zR_div (by decide) (zR_go ?_))
            refine zr_steps 3 (104, [some (.ref 73), some (.int v1), some (.int s.1), some (.int s.2.1), some (.int s.2.2.1), some (.int s.2.2.2.1), some (.int 1), none], [.int s.2.2.1, .int (t4.2 73 54)], (SH, t4.2, J)) rfl ?_
            refine zr_one (if (t4.2 73 54) ≤ s.2.2.1 then zN 123 [some (.ref 73), some (.int v1), some (.int s.1), some (.int s.2.1), some (.int s.2.2.1), some (.int s.2.2.2.1), some (.int 1), none] [] (SH, t4.2, J) else zN 107 [some (.ref 73), some (.int v1), some (.int s.1), some (.int s.2.1), some (.int s.2.2.1), some (.int s.2.2.2.1), some (.int 1), none] [] (SH, t4.2, J)) rfl (zR_if (fun hc6 => zR_go ?_) (fun hc6 => zR_go ?_))
            · rw [if_pos hc6] at h
              refine zr_steps 3 (128, [some (.ref 73), some (.int v1), some (.int s.1), some (.int s.2.1), some (.int s.2.2.1), some (.int s.2.2.2.1), some (.int 1), some (.int 0)], [.int 0], (SH, t4.2, J)) rfl ?_
              refine zr_one (if (0 : Int32) = 0 then zN 131 [some (.ref 73), some (.int v1), some (.int s.1), some (.int s.2.1), some (.int s.2.2.1), some (.int s.2.2.2.1), some (.int 1), some (.int 0)] [] (SH, t4.2, J) else zN 134 [some (.ref 73), some (.int v1), some (.int s.1), some (.int s.2.1), some (.int s.2.2.1), some (.int s.2.2.2.1), some (.int 1), some (.int 0)] [] (SH, t4.2, J)) rfl (zR_pos (by decide) (zR_go ?_))
              refine zr_steps 3 (35, [some (.ref 73), some (.int v1), some (.int s.1), some (.int s.2.1), some (.int s.2.2.1), some (.int (s.2.2.2.1 + 1)), some (.int 1), some (.int 0)], [], (SH, t4.2, J)) rfl ?_
              have he := Option.some.inj h
              subst he
              exact zr_hdr (ls2 := [some (.ref 73), some (.int v1), some (.int s.1), some (.int s.2.1), some (.int s.2.2.1), some (.int (s.2.2.2.1 + 1)), none, none]) rfl rfl (show zRun X d 190 35 [some (.ref 73), some (.int v1), some (.int s.1), some (.int s.2.1), some (.int s.2.2.1), some (.int (s.2.2.2.1 + 1)), none, none] [] (SH, t4.2, J) r M' from w)
            · rw [if_neg hc6] at h
              refine zr_steps 5 (128, [some (.ref 73), some (.int v1), some (.int s.1), some (.int s.2.1), some (.int s.2.2.1), some (.int s.2.2.2.1), some (.int 1), some (.int 1)], [.int 1], (SH, t4.2, J)) rfl ?_
              refine zr_one (if (1 : Int32) = 0 then zN 131 [some (.ref 73), some (.int v1), some (.int s.1), some (.int s.2.1), some (.int s.2.2.1), some (.int s.2.2.2.1), some (.int 1), some (.int 1)] [] (SH, t4.2, J) else zN 134 [some (.ref 73), some (.int v1), some (.int s.1), some (.int s.2.1), some (.int s.2.2.1), some (.int s.2.2.2.1), some (.int 1), some (.int 1)] [] (SH, t4.2, J)) rfl (zR_div (by decide) (zR_go ?_))
              refine zr_steps 9 (35, [some (.ref 73), some (.int v1), some (.int s.2.2.2.1), some (.int 1), some (.int (t4.2 73 54)), some (.int (s.2.2.2.1 + 1)), some (.int 1), some (.int 1)], [], (SH, t4.2, J)) rfl ?_
              have he := Option.some.inj h
              subst he
              exact zr_hdr (ls2 := [some (.ref 73), some (.int v1), some (.int s.2.2.2.1), some (.int 1), some (.int (t4.2 73 54)), some (.int (s.2.2.2.1 + 1)), none, none]) rfl rfl (show zRun X d 190 35 [some (.ref 73), some (.int v1), some (.int s.2.2.2.1), some (.int 1), some (.int (t4.2 73 54)), some (.int (s.2.2.2.1 + 1)), none, none] [] (SH, t4.2, J) r M' from w)
          · rw [if_neg hc7] at h
            refine zr_steps 3 (128, [some (.ref 73), some (.int v1), some (.int s.1), some (.int s.2.1), some (.int s.2.2.1), some (.int s.2.2.2.1), some (.int 1), some (.int 0)], [.int 0], (SH, t4.2, J)) rfl ?_
            refine zr_one (if (0 : Int32) = 0 then zN 131 [some (.ref 73), some (.int v1), some (.int s.1), some (.int s.2.1), some (.int s.2.2.1), some (.int s.2.2.2.1), some (.int 1), some (.int 0)] [] (SH, t4.2, J) else zN 134 [some (.ref 73), some (.int v1), some (.int s.1), some (.int s.2.1), some (.int s.2.2.1), some (.int s.2.2.2.1), some (.int 1), some (.int 0)] [] (SH, t4.2, J)) rfl (zR_pos (by decide) (zR_go ?_))
            refine zr_steps 3 (35, [some (.ref 73), some (.int v1), some (.int s.1), some (.int s.2.1), some (.int s.2.2.1), some (.int (s.2.2.2.1 + 1)), some (.int 1), some (.int 0)], [], (SH, t4.2, J)) rfl ?_
            have he := Option.some.inj h
            subst he
            exact zr_hdr (ls2 := [some (.ref 73), some (.int v1), some (.int s.1), some (.int s.2.1), some (.int s.2.2.1), some (.int (s.2.2.2.1 + 1)), none, none]) rfl rfl (show zRun X d 190 35 [some (.ref 73), some (.int v1), some (.int s.1), some (.int s.2.1), some (.int s.2.2.1), some (.int (s.2.2.2.1 + 1)), none, none] [] (SH, t4.2, J) r M' from w)
    · rw [if_neg hc13] at h
      refine zr_steps 3 (75, [some (.ref 73), some (.int v1), some (.int s.1), some (.int s.2.1), some (.int s.2.2.1), some (.int s.2.2.2.1), some (.int 0), none], [.int s.1], (SH, t4.2, J)) rfl ?_
      refine zr_one (if s.1 < 0 then zN 119 [some (.ref 73), some (.int v1), some (.int s.1), some (.int s.2.1), some (.int s.2.2.1), some (.int s.2.2.2.1), some (.int 0), none] [] (SH, t4.2, J) else zN 78 [some (.ref 73), some (.int v1), some (.int s.1), some (.int s.2.1), some (.int s.2.2.1), some (.int s.2.2.2.1), some (.int 0), none] [] (SH, t4.2, J)) rfl (zR_if (fun hc12 => zR_go ?_) (fun hc12 => zR_go ?_))
      · rw [if_pos hc12] at h
        refine zr_steps 4 (128, [some (.ref 73), some (.int v1), some (.int s.1), some (.int s.2.1), some (.int s.2.2.1), some (.int s.2.2.2.1), some (.int 0), some (.int 1)], [.int 1], (SH, t4.2, J)) rfl ?_
        refine zr_one (if (1 : Int32) = 0 then zN 131 [some (.ref 73), some (.int v1), some (.int s.1), some (.int s.2.1), some (.int s.2.2.1), some (.int s.2.2.2.1), some (.int 0), some (.int 1)] [] (SH, t4.2, J) else zN 134 [some (.ref 73), some (.int v1), some (.int s.1), some (.int s.2.1), some (.int s.2.2.1), some (.int s.2.2.2.1), some (.int 0), some (.int 1)] [] (SH, t4.2, J)) rfl (zR_div (by decide) (zR_go ?_))
        refine zr_steps 9 (35, [some (.ref 73), some (.int v1), some (.int s.2.2.2.1), some (.int 0), some (.int (t4.2 73 54)), some (.int (s.2.2.2.1 + 1)), some (.int 0), some (.int 1)], [], (SH, t4.2, J)) rfl ?_
        have he := Option.some.inj h
        subst he
        exact zr_hdr (ls2 := [some (.ref 73), some (.int v1), some (.int s.2.2.2.1), some (.int 0), some (.int (t4.2 73 54)), some (.int (s.2.2.2.1 + 1)), none, none]) rfl rfl (show zRun X d 190 35 [some (.ref 73), some (.int v1), some (.int s.2.2.2.1), some (.int 0), some (.int (t4.2 73 54)), some (.int (s.2.2.2.1 + 1)), none, none] [] (SH, t4.2, J) r M' from w)
      · rw [if_neg hc12] at h
        refine zr_steps 1 (80, [some (.ref 73), some (.int v1), some (.int s.1), some (.int s.2.1), some (.int s.2.2.1), some (.int s.2.2.2.1), some (.int 0), none], [.int 0], (SH, t4.2, J)) rfl ?_
        refine zr_one (if (0 : Int32) = 0 then zN 87 [some (.ref 73), some (.int v1), some (.int s.1), some (.int s.2.1), some (.int s.2.2.1), some (.int s.2.2.2.1), some (.int 0), none] [] (SH, t4.2, J) else zN 83 [some (.ref 73), some (.int v1), some (.int s.1), some (.int s.2.1), some (.int s.2.2.1), some (.int s.2.2.2.1), some (.int 0), none] [] (SH, t4.2, J)) rfl (zR_pos (by decide) (zR_go ?_))
        refine zr_steps 2 (90, [some (.ref 73), some (.int v1), some (.int s.1), some (.int s.2.1), some (.int s.2.2.1), some (.int s.2.2.2.1), some (.int 0), none], [.int s.2.1, .int 0], (SH, t4.2, J)) rfl ?_
        refine zr_one (if (0 : Int32) = s.2.1 then zN 93 [some (.ref 73), some (.int v1), some (.int s.1), some (.int s.2.1), some (.int s.2.2.1), some (.int s.2.2.2.1), some (.int 0), none] [] (SH, t4.2, J) else zN 123 [some (.ref 73), some (.int v1), some (.int s.1), some (.int s.2.1), some (.int s.2.2.1), some (.int s.2.2.2.1), some (.int 0), none] [] (SH, t4.2, J)) rfl (zR_if (fun hc11 => zR_go ?_) (fun hc11 => zR_go ?_))
        · rw [if_pos hc11] at h
          refine zr_steps 1 (95, [some (.ref 73), some (.int v1), some (.int s.1), some (.int s.2.1), some (.int s.2.2.1), some (.int s.2.2.2.1), some (.int 0), none], [.int 0], (SH, t4.2, J)) rfl ?_
          refine zr_one (if (0 : Int32) = 0 then zN 110 [some (.ref 73), some (.int v1), some (.int s.1), some (.int s.2.1), some (.int s.2.2.1), some (.int s.2.2.2.1), some (.int 0), none] [] (SH, t4.2, J) else zN 98 [some (.ref 73), some (.int v1), some (.int s.1), some (.int s.2.1), some (.int s.2.2.1), some (.int s.2.2.2.1), some (.int 0), none] [] (SH, t4.2, J)) rfl (zR_pos (by decide) (zR_go ?_))
          refine zr_steps 3 (116, [some (.ref 73), some (.int v1), some (.int s.1), some (.int s.2.1), some (.int s.2.2.1), some (.int s.2.2.2.1), some (.int 0), none], [.int s.2.2.1, .int (t4.2 73 54)], (SH, t4.2, J)) rfl ?_
          refine zr_one (if s.2.2.1 ≤ (t4.2 73 54) then zN 123 [some (.ref 73), some (.int v1), some (.int s.1), some (.int s.2.1), some (.int s.2.2.1), some (.int s.2.2.2.1), some (.int 0), none] [] (SH, t4.2, J) else zN 119 [some (.ref 73), some (.int v1), some (.int s.1), some (.int s.2.1), some (.int s.2.2.1), some (.int s.2.2.2.1), some (.int 0), none] [] (SH, t4.2, J)) rfl (zR_if (fun hc10 => zR_go ?_) (fun hc10 => zR_go ?_))
          · rw [if_pos hc10] at h
            refine zr_steps 3 (128, [some (.ref 73), some (.int v1), some (.int s.1), some (.int s.2.1), some (.int s.2.2.1), some (.int s.2.2.2.1), some (.int 0), some (.int 0)], [.int 0], (SH, t4.2, J)) rfl ?_
            refine zr_one (if (0 : Int32) = 0 then zN 131 [some (.ref 73), some (.int v1), some (.int s.1), some (.int s.2.1), some (.int s.2.2.1), some (.int s.2.2.2.1), some (.int 0), some (.int 0)] [] (SH, t4.2, J) else zN 134 [some (.ref 73), some (.int v1), some (.int s.1), some (.int s.2.1), some (.int s.2.2.1), some (.int s.2.2.2.1), some (.int 0), some (.int 0)] [] (SH, t4.2, J)) rfl (zR_pos (by decide) (zR_go ?_))
            refine zr_steps 3 (35, [some (.ref 73), some (.int v1), some (.int s.1), some (.int s.2.1), some (.int s.2.2.1), some (.int (s.2.2.2.1 + 1)), some (.int 0), some (.int 0)], [], (SH, t4.2, J)) rfl ?_
            have he := Option.some.inj h
            subst he
            exact zr_hdr (ls2 := [some (.ref 73), some (.int v1), some (.int s.1), some (.int s.2.1), some (.int s.2.2.1), some (.int (s.2.2.2.1 + 1)), none, none]) rfl rfl (show zRun X d 190 35 [some (.ref 73), some (.int v1), some (.int s.1), some (.int s.2.1), some (.int s.2.2.1), some (.int (s.2.2.2.1 + 1)), none, none] [] (SH, t4.2, J) r M' from w)
          · rw [if_neg hc10] at h
            refine zr_steps 4 (128, [some (.ref 73), some (.int v1), some (.int s.1), some (.int s.2.1), some (.int s.2.2.1), some (.int s.2.2.2.1), some (.int 0), some (.int 1)], [.int 1], (SH, t4.2, J)) rfl ?_
            refine zr_one (if (1 : Int32) = 0 then zN 131 [some (.ref 73), some (.int v1), some (.int s.1), some (.int s.2.1), some (.int s.2.2.1), some (.int s.2.2.2.1), some (.int 0), some (.int 1)] [] (SH, t4.2, J) else zN 134 [some (.ref 73), some (.int v1), some (.int s.1), some (.int s.2.1), some (.int s.2.2.1), some (.int s.2.2.2.1), some (.int 0), some (.int 1)] [] (SH, t4.2, J)) rfl (zR_div (by decide) (zR_go ?_))
            refine zr_steps 9 (35, [some (.ref 73), some (.int v1), some (.int s.2.2.2.1), some (.int 0), some (.int (t4.2 73 54)), some (.int (s.2.2.2.1 + 1)), some (.int 0), some (.int 1)], [], (SH, t4.2, J)) rfl ?_
            have he := Option.some.inj h
            subst he
            exact zr_hdr (ls2 := [some (.ref 73), some (.int v1), some (.int s.2.2.2.1), some (.int 0), some (.int (t4.2 73 54)), some (.int (s.2.2.2.1 + 1)), none, none]) rfl rfl (show zRun X d 190 35 [some (.ref 73), some (.int v1), some (.int s.2.2.2.1), some (.int 0), some (.int (t4.2 73 54)), some (.int (s.2.2.2.1 + 1)), none, none] [] (SH, t4.2, J) r M' from w)
        · rw [if_neg hc11] at h
          refine zr_steps 3 (128, [some (.ref 73), some (.int v1), some (.int s.1), some (.int s.2.1), some (.int s.2.2.1), some (.int s.2.2.2.1), some (.int 0), some (.int 0)], [.int 0], (SH, t4.2, J)) rfl ?_
          refine zr_one (if (0 : Int32) = 0 then zN 131 [some (.ref 73), some (.int v1), some (.int s.1), some (.int s.2.1), some (.int s.2.2.1), some (.int s.2.2.2.1), some (.int 0), some (.int 0)] [] (SH, t4.2, J) else zN 134 [some (.ref 73), some (.int v1), some (.int s.1), some (.int s.2.1), some (.int s.2.2.1), some (.int s.2.2.2.1), some (.int 0), some (.int 0)] [] (SH, t4.2, J)) rfl (zR_pos (by decide) (zR_go ?_))
          refine zr_steps 3 (35, [some (.ref 73), some (.int v1), some (.int s.1), some (.int s.2.1), some (.int s.2.2.1), some (.int (s.2.2.2.1 + 1)), some (.int 0), some (.int 0)], [], (SH, t4.2, J)) rfl ?_
          have he := Option.some.inj h
          subst he
          exact zr_hdr (ls2 := [some (.ref 73), some (.int v1), some (.int s.1), some (.int s.2.1), some (.int s.2.2.1), some (.int (s.2.2.2.1 + 1)), none, none]) rfl rfl (show zRun X d 190 35 [some (.ref 73), some (.int v1), some (.int s.1), some (.int s.2.1), some (.int s.2.2.1), some (.int (s.2.2.2.1 + 1)), none, none] [] (SH, t4.2, J) r M' from w))
set_option maxRecDepth 100000 in
set_option maxHeartbeats 4000000 in
theorem ok_f190_serves {X : zX} {d : Nat} (hd : 6 ≤ d) (v1 : Int32) {I : (Nat → Nat → Int32)} {J : (Nat → Nat → Int64)} (t : (Int32 × (Nat → Nat → Int32))) (h : f190_serves v1 I = some t) : zRun X d 190 0 (zent 190 [.ref 73, .int v1]) [] (SH, I, J) (some (.int t.1)) (SH, t.2, J) := by
  unfold f190_serves at h
  refine zr_steps 2 (2, [some (.ref 73), some (.int v1), none, none, none, none, none, none], [.int v1, .ref 73], (SH, I, J)) rfl ?_
  obtain ⟨t2, hc1, h⟩ := zbind h
  refine zr_one (some (.inr (.inl (131, [.ref 73, .int v1], [], 5)))) rfl (zR_call (by omega) rfl (ok_f131_isSort (by omega) v1 _ hc1) ?_)
  refine zr_one (if t2 = 0 then zN 8 [some (.ref 73), some (.int v1), none, none, none, none, none, none] [] (SH, I, J) else zN 10 [some (.ref 73), some (.int v1), none, none, none, none, none, none] [] (SH, I, J)) rfl (zR_if (fun hc18 => zR_go ?_) (fun hc18 => zR_go ?_))
  · rw [if_pos hc18] at h
    refine zr_steps 1 (9, [some (.ref 73), some (.int v1), none, none, none, none, none, none], [.int (-1)], (SH, I, J)) rfl ?_
    have he := Option.some.inj h
    subst he
    exact zr_one (some (.inr (.inr (some (.int (-1)))))) rfl (zR_ret rfl rfl)
  · rw [if_neg hc18] at h
    refine zr_steps 2 (14, [some (.ref 73), some (.int v1), none, none, none, none, none, none], [.int (I 73 31)], (SH, I, J)) rfl ?_
    refine zr_one (if (I 73 31) = 0 then zN 17 [some (.ref 73), some (.int v1), none, none, none, none, none, none] [] (SH, I, J) else zN 20 [some (.ref 73), some (.int v1), none, none, none, none, none, none] [] (SH, I, J)) rfl (zR_if (fun hc17 => zR_go ?_) (fun hc17 => zR_go ?_))
    · rw [if_pos hc17] at h
      refine zr_steps 1 (19, [some (.ref 73), some (.int v1), none, none, none, none, none, none], [.int (-5)], (SH, I, J)) rfl ?_
      have he := Option.some.inj h
      subst he
      exact zr_one (some (.inr (.inr (some (.int (-5)))))) rfl (zR_ret rfl rfl)
    · rw [if_neg hc17] at h
      refine zr_steps 11 (35, [some (.ref 73), some (.int v1), some (.int (-1)), some (.int 0), some (.int 0), some (.int 0), none, none], [], (SH, (zu I 73 50 v1), J)) rfl ?_
      obtain ⟨s15, ho16, h⟩ := zbind h
      refine zr_hdr (ls2 := [some (.ref 73), some (.int v1), some (.int (-1)), some (.int 0), some (.int 0), some (.int 0), none, none]) rfl rfl ?_
      refine ok_f190_serves_L35 (by omega) v1 5000 (((-1) : Int32), (0 : Int32), (0 : Int32), (0 : Int32), (zu I 73 50 v1)) s15 ho16 ?_
      show zRun X d 190 152 [some (.ref 73), none, some (.int s15.1), none, none, none, none, none] [] (SH, s15.2.2.2.2, J) _ _
      refine zr_steps 4 (158, [some (.ref 73), none, some (.int s15.1), none, none, none, none, none], [.int s15.1], (SH, (zu s15.2.2.2.2 73 50 (-1)), J)) rfl ?_
      have he := Option.some.inj h
      subst he
      exact zr_one (some (.inr (.inr (some (.int s15.1))))) rfl (zR_ret rfl rfl)
set_option maxRecDepth 100000 in
set_option maxHeartbeats 4000000 in
theorem ok_f79_couldCome_L4 {X : zX} {d : Nat} {r : Option Value} {M' : zM} (hd : 1 ≤ d) (v1 : Int32) {I : (Nat → Nat → Int32)} {J : (Nat → Nat → Int64)} : ∀ (n : Nat) (s x : (Int32 × Int32)), zloop (f79_couldCome_L4 v1 I) n s = some x → (fun (x : (Int32 × Int32)) => zRun X d 79 54 [none, none, some (.int x.1), none] [] (SH, I, J) r M') x → (fun (s : (Int32 × Int32)) => zRun X d 79 4 [some (.ref 1), some (.int v1), some (.int s.1), some (.int s.2)] [] (SH, I, J) r M') s := zloop_ok (B := (f79_couldCome_L4 v1 I)) (Wh := fun (s : (Int32 × Int32)) => zRun X d 79 4 [some (.ref 1), some (.int v1), some (.int s.1), some (.int s.2)] [] (SH, I, J) r M') (Wx := fun (x : (Int32 × Int32)) => zRun X d 79 54 [none, none, some (.int x.1), none] [] (SH, I, J) r M') (fun s y h w => by
  unfold f79_couldCome_L4 at h
  refine zr_steps 3 (9, [some (.ref 1), some (.int v1), some (.int s.1), some (.int s.2)], [.int (I 1 2), .int s.2], (SH, I, J)) rfl ?_
  refine zr_one (if (I 1 2) ≤ s.2 then zN 54 [some (.ref 1), some (.int v1), some (.int s.1), some (.int s.2)] [] (SH, I, J) else zN 12 [some (.ref 1), some (.int v1), some (.int s.1), some (.int s.2)] [] (SH, I, J)) rfl (zR_if (fun hc9 => zR_go ?_) (fun hc9 => zR_go ?_))
  · rw [if_pos hc9] at h
    have he := Option.some.inj h
    subst he
    exact zr_hdr (ls2 := [none, none, some (.int s.1), none]) rfl rfl (show zRun X d 79 54 [none, none, some (.int s.1), none] [] (SH, I, J) r M' from w)
  · rw [if_neg hc9] at h
    refine zr_steps 3 (17, [some (.ref 1), some (.int v1), some (.int s.1), some (.int s.2)], [.int s.2, .ref 10], (SH, I, J)) rfl ?_
    obtain ⟨hc1, h⟩ := zbifo h
    refine zr_one (bif zin s.2 8 then zN 18 [some (.ref 1), some (.int v1), some (.int s.1), some (.int s.2)] [.int (I 10 s.2.toNatClampNeg)] (SH, I, J) else none) rfl (zR_bif hc1 (zR_go ?_))
    refine zr_steps 1 (19, [some (.ref 1), some (.int v1), some (.int s.1), some (.int s.2)], [.int v1, .int (I 10 s.2.toNatClampNeg)], (SH, I, J)) rfl ?_
    refine zr_one (if (I 10 s.2.toNatClampNeg) = v1 then zN 39 [some (.ref 1), some (.int v1), some (.int s.1), some (.int s.2)] [] (SH, I, J) else zN 22 [some (.ref 1), some (.int v1), some (.int s.1), some (.int s.2)] [] (SH, I, J)) rfl (zR_if (fun hc8 => zR_go ?_) (fun hc8 => zR_go ?_))
    · rw [if_pos hc8] at h
      refine zr_steps 4 (45, [some (.ref 1), some (.int v1), some (.int s.1), some (.int s.2)], [.int s.2, .ref 8, .int s.1], (SH, I, J)) rfl ?_
      obtain ⟨hc2, h⟩ := zbifo h
      refine zr_one (bif zin s.2 8 then zN 46 [some (.ref 1), some (.int v1), some (.int s.1), some (.int s.2)] [.int (I 8 s.2.toNatClampNeg), .int s.1] (SH, I, J) else none) rfl (zR_bif hc2 (zR_go ?_))
      refine zr_steps 4 (4, [some (.ref 1), some (.int v1), some (.int (s.1 + (I 8 s.2.toNatClampNeg))), some (.int (s.2 + 1))], [], (SH, I, J)) rfl ?_
      have he := Option.some.inj h
      subst he
      exact zr_hdr (ls2 := [some (.ref 1), some (.int v1), some (.int (s.1 + (I 8 s.2.toNatClampNeg))), some (.int (s.2 + 1))]) rfl rfl (show zRun X d 79 4 [some (.ref 1), some (.int v1), some (.int (s.1 + (I 8 s.2.toNatClampNeg))), some (.int (s.2 + 1))] [] (SH, I, J) r M' from w)
    · rw [if_neg hc8] at h
      refine zr_steps 5 (29, [some (.ref 1), some (.int v1), some (.int s.1), some (.int s.2)], [.int s.2, .ref 10, .int s.2, .ref 1], (SH, I, J)) rfl ?_
      obtain ⟨hc3, h⟩ := zbifo h
      refine zr_one (bif zin s.2 8 then zN 30 [some (.ref 1), some (.int v1), some (.int s.1), some (.int s.2)] [.int (I 10 s.2.toNatClampNeg), .int s.2, .ref 1] (SH, I, J) else none) rfl (zR_bif hc3 (zR_go ?_))
      refine zr_steps 1 (31, [some (.ref 1), some (.int v1), some (.int s.1), some (.int s.2)], [.int v1, .int (I 10 s.2.toNatClampNeg), .int s.2, .ref 1], (SH, I, J)) rfl ?_
      obtain ⟨t5, hc4, h⟩ := zbind h
      refine zr_one (some (.inr (.inl (77, [.ref 1, .int s.2, .int (I 10 s.2.toNatClampNeg), .int v1], [], 34)))) rfl (zR_call (by omega) rfl (ok_f77_lastMinute (by omega) s.2 (I 10 s.2.toNatClampNeg) v1 _ hc4) ?_)
      refine zr_steps 1 (36, [some (.ref 1), some (.int v1), some (.int s.1), some (.int s.2)], [.int (-2), .int t5], (SH, I, J)) rfl ?_
      refine zr_one (if t5 = (-2) then zN 48 [some (.ref 1), some (.int v1), some (.int s.1), some (.int s.2)] [] (SH, I, J) else zN 39 [some (.ref 1), some (.int v1), some (.int s.1), some (.int s.2)] [] (SH, I, J)) rfl (zR_if (fun hc7 => zR_go ?_) (fun hc7 => zR_go ?_))
      · rw [if_pos hc7] at h
        refine zr_steps 2 (4, [some (.ref 1), some (.int v1), some (.int s.1), some (.int (s.2 + 1))], [], (SH, I, J)) rfl ?_
        have he := Option.some.inj h
        subst he
        exact zr_hdr (ls2 := [some (.ref 1), some (.int v1), some (.int s.1), some (.int (s.2 + 1))]) rfl rfl (show zRun X d 79 4 [some (.ref 1), some (.int v1), some (.int s.1), some (.int (s.2 + 1))] [] (SH, I, J) r M' from w)
      · rw [if_neg hc7] at h
        refine zr_steps 4 (45, [some (.ref 1), some (.int v1), some (.int s.1), some (.int s.2)], [.int s.2, .ref 8, .int s.1], (SH, I, J)) rfl ?_
        obtain ⟨hc6, h⟩ := zbifo h
        refine zr_one (bif zin s.2 8 then zN 46 [some (.ref 1), some (.int v1), some (.int s.1), some (.int s.2)] [.int (I 8 s.2.toNatClampNeg), .int s.1] (SH, I, J) else none) rfl (zR_bif hc6 (zR_go ?_))
        refine zr_steps 4 (4, [some (.ref 1), some (.int v1), some (.int (s.1 + (I 8 s.2.toNatClampNeg))), some (.int (s.2 + 1))], [], (SH, I, J)) rfl ?_
        have he := Option.some.inj h
        subst he
        exact zr_hdr (ls2 := [some (.ref 1), some (.int v1), some (.int (s.1 + (I 8 s.2.toNatClampNeg))), some (.int (s.2 + 1))]) rfl rfl (show zRun X d 79 4 [some (.ref 1), some (.int v1), some (.int (s.1 + (I 8 s.2.toNatClampNeg))), some (.int (s.2 + 1))] [] (SH, I, J) r M' from w))
set_option maxRecDepth 100000 in
set_option maxHeartbeats 4000000 in
theorem ok_f79_couldCome {X : zX} {d : Nat} (hd : 1 ≤ d) (v1 : Int32) {I : (Nat → Nat → Int32)} {J : (Nat → Nat → Int64)} (t : Int32) (h : f79_couldCome v1 I = some t) : zRun X d 79 0 (zent 79 [.ref 1, .int v1]) [] (SH, I, J) (some (.int t)) (SH, I, J) := by
  unfold f79_couldCome at h
  refine zr_steps 4 (4, [some (.ref 1), some (.int v1), some (.int 0), some (.int 0)], [], (SH, I, J)) rfl ?_
  obtain ⟨s10, ho11, h⟩ := zbind h
  refine zr_hdr (ls2 := [some (.ref 1), some (.int v1), some (.int 0), some (.int 0)]) rfl rfl ?_
  refine ok_f79_couldCome_L4 (by omega) v1 5000 ((0 : Int32), (0 : Int32)) s10 ho11 ?_
  show zRun X d 79 54 [none, none, some (.int s10.1), none] [] (SH, I, J) _ _
  refine zr_steps 1 (55, [none, none, some (.int s10.1), none], [.int s10.1], (SH, I, J)) rfl ?_
  have he := Option.some.inj h
  subst he
  exact zr_one (some (.inr (.inr (some (.int s10.1))))) rfl (zR_ret rfl rfl)
set_option maxRecDepth 100000 in
set_option maxHeartbeats 4000000 in
theorem ok_f112_judged_L5 {X : zX} {d : Nat} {r : Option Value} {M' : zM} (hd : 2 ≤ d) (v1 : Nat) (hs1 : zIsShelf v1) {I : (Nat → Nat → Int32)} {J : (Nat → Nat → Int64)} : ∀ (n : Nat) (s : (Int64 × Int32)) (t : Int32 ⊕ (Int64 × Int32)), zloopR (f112_judged_L5 v1 I J) n s = some t → zSumE (fun (x : Int32) => r = (some (.int x)) ∧ M' = (SH, I, J)) (fun (x : (Int64 × Int32)) => zRun X d 112 72 [some (.ref 0), none, some (.long x.1), none, none, none, none] [] (SH, I, J) r M') t → (fun (s : (Int64 × Int32)) => zRun X d 112 5 [some (.ref 0), some (.ref v1), some (.long s.1), none, some (.int s.2), none, none] [] (SH, I, J) r M') s := zloopR_ok (B := (f112_judged_L5 v1 I J)) (Wh := fun (s : (Int64 × Int32)) => zRun X d 112 5 [some (.ref 0), some (.ref v1), some (.long s.1), none, some (.int s.2), none, none] [] (SH, I, J) r M') (Wx := fun (x : (Int64 × Int32)) => zRun X d 112 72 [some (.ref 0), none, some (.long x.1), none, none, none, none] [] (SH, I, J) r M') (Wr := fun (x : Int32) => r = (some (.int x)) ∧ M' = (SH, I, J)) (fun s y h w => by
  unfold f112_judged_L5 at h
  refine zr_steps 4 (14, [some (.ref 0), some (.ref v1), some (.long s.1), none, some (.int s.2), none, none], [.int (I 1 0), .int s.2], (SH, I, J)) rfl ?_
  refine zr_one (if (I 1 0) ≤ s.2 then zN 72 [some (.ref 0), some (.ref v1), some (.long s.1), none, some (.int s.2), none, none] [] (SH, I, J) else zN 17 [some (.ref 0), some (.ref v1), some (.long s.1), none, some (.int s.2), none, none] [] (SH, I, J)) rfl (zR_if (fun hc8 => zR_go ?_) (fun hc8 => zR_go ?_))
  · rw [if_pos hc8] at h
    have he := Option.some.inj h
    subst he
    exact zr_hdr (ls2 := [some (.ref 0), none, some (.long s.1), none, none, none, none]) rfl rfl (show zRun X d 112 72 [some (.ref 0), none, some (.long s.1), none, none, none, none] [] (SH, I, J) r M' from w)
  · rw [if_neg hc8] at h
    refine zr_steps 2 (20, [some (.ref 0), some (.ref v1), some (.long s.1), none, some (.int s.2), none, none], [.int s.2, .ref v1], (SH, I, J)) rfl ?_
    obtain ⟨t2, hc1, h⟩ := zbind h
    refine zr_one (bif zrcv (SH, I, J) 57 [.ref v1, .int s.2] then some (.inr (.inl (57, [.ref v1, .int s.2], [], 23))) else none) rfl (zR_bif (sh_rcv hs1 rfl rfl) (zR_call (by omega) rfl (ok_f57_at (by omega) v1 s.2 hs1 _ hc1) ?_))
    refine zr_steps 6 (36, [some (.ref 0), some (.ref v1), some (.long s.1), none, some (.int s.2), some (.long t2), none], [.int s.2, .ref 2, .long t2], (SH, I, J)) rfl ?_
    obtain ⟨hc3, h⟩ := zbifo h
    refine zr_one (bif zin s.2 4 then zN 37 [some (.ref 0), some (.ref v1), some (.long s.1), none, some (.int s.2), some (.long t2), none] [.int (I 2 s.2.toNatClampNeg), .long t2] (SH, I, J) else none) rfl (zR_bif hc3 (zR_go ?_))
    refine zr_steps 2 (39, [some (.ref 0), some (.ref v1), some (.long s.1), none, some (.int s.2), some (.long t2), none], [.int (lg_cmp t2 (I 2 s.2.toNatClampNeg).toInt64)], (SH, I, J)) rfl ?_
    refine zr_one (if (0 : Int32) < (lg_cmp t2 (I 2 s.2.toNatClampNeg).toInt64) then zN 58 [some (.ref 0), some (.ref v1), some (.long s.1), none, some (.int s.2), some (.long t2), none] [] (SH, I, J) else zN 42 [some (.ref 0), some (.ref v1), some (.long s.1), none, some (.int s.2), some (.long t2), none] [] (SH, I, J)) rfl (zR_if (fun hc7 => zR_go ?_) (fun hc7 => zR_go ?_))
    · rw [if_pos hc7] at h
      refine zr_steps 1 (60, [some (.ref 0), some (.ref v1), some (.long s.1), none, some (.int s.2), some (.long t2), none], [.int s.2], (SH, I, J)) rfl ?_
      have he := Option.some.inj h
      subst he
      obtain ⟨e1, e2⟩ := (show r = (some (.int s.2)) ∧ M' = (SH, I, J) from w)
      exact zr_one (some (.inr (.inr (some (.int s.2))))) rfl (zR_ret e1.symm e2.symm)
    · rw [if_neg hc7] at h
      refine zr_steps 4 (50, [some (.ref 0), some (.ref v1), some (.long s.1), none, some (.int s.2), some (.long t2), none], [.int s.2, .ref 1, .long t2], (SH, I, J)) rfl ?_
      obtain ⟨t5, hc4, h⟩ := zbind h
      refine zr_one (some (.inr (.inl (79, [.ref 1, .int s.2], [.long t2], 53)))) rfl (zR_call (by omega) rfl (ok_f79_couldCome (by omega) s.2 _ hc4) ?_)
      refine zr_steps 2 (55, [some (.ref 0), some (.ref v1), some (.long s.1), none, some (.int s.2), some (.long t2), none], [.int (lg_cmp t2 t5.toInt64)], (SH, I, J)) rfl ?_
      refine zr_one (if (lg_cmp t2 t5.toInt64) ≤ 0 then zN 61 [some (.ref 0), some (.ref v1), some (.long s.1), none, some (.int s.2), some (.long t2), none] [] (SH, I, J) else zN 58 [some (.ref 0), some (.ref v1), some (.long s.1), none, some (.int s.2), some (.long t2), none] [] (SH, I, J)) rfl (zR_if (fun hc6 => zR_go ?_) (fun hc6 => zR_go ?_))
      · rw [if_pos hc6] at h
        refine zr_steps 6 (5, [some (.ref 0), some (.ref v1), some (.long (s.1 + t2)), none, some (.int (s.2 + 1)), some (.long t2), none], [], (SH, I, J)) rfl ?_
        have he := Option.some.inj h
        subst he
        exact zr_hdr (ls2 := [some (.ref 0), some (.ref v1), some (.long (s.1 + t2)), none, some (.int (s.2 + 1)), none, none]) rfl rfl (show zRun X d 112 5 [some (.ref 0), some (.ref v1), some (.long (s.1 + t2)), none, some (.int (s.2 + 1)), none, none] [] (SH, I, J) r M' from w)
      · rw [if_neg hc6] at h
        refine zr_steps 1 (60, [some (.ref 0), some (.ref v1), some (.long s.1), none, some (.int s.2), some (.long t2), none], [.int s.2], (SH, I, J)) rfl ?_
        have he := Option.some.inj h
        subst he
        obtain ⟨e1, e2⟩ := (show r = (some (.int s.2)) ∧ M' = (SH, I, J) from w)
        exact zr_one (some (.inr (.inr (some (.int s.2))))) rfl (zR_ret e1.symm e2.symm))
set_option maxRecDepth 100000 in
set_option maxHeartbeats 4000000 in
theorem ok_f112_judged {X : zX} {d : Nat} (hd : 2 ≤ d) (v1 : Nat) (hs1 : zIsShelf v1) {I : (Nat → Nat → Int32)} {J : (Nat → Nat → Int64)} (t : Int32) (h : f112_judged v1 I J = some t) : zRun X d 112 0 (zent 112 [.ref 0, .ref v1]) [] (SH, I, J) (some (.int t)) (SH, I, J) := by
  unfold f112_judged at h
  refine zr_steps 4 (5, [some (.ref 0), some (.ref v1), some (.long 0), none, some (.int 0), none, none], [], (SH, I, J)) rfl ?_
  obtain ⟨y14, ho10, hy⟩ := zbRe h
  refine zr_hdr (ls2 := [some (.ref 0), some (.ref v1), some (.long 0), none, some (.int 0), none, none]) rfl rfl ?_
  refine ok_f112_judged_L5 (by omega) v1 hs1 5000 ((0 : Int64), (0 : Int32)) y14 ho10 ?_
  rcases hy with ⟨rr, rfl, h⟩ | ⟨s9, rfl, h⟩
  · have he := Option.some.inj h
    subst he
    exact ⟨rfl, rfl⟩
  · show zRun X d 112 72 [some (.ref 0), none, some (.long s9.1), none, none, none, none] [] (SH, I, J) _ _
    refine zr_steps 3 (77, [some (.ref 0), none, some (.long s9.1), none, none, none, none], [.ref 1, .long s9.1], (SH, I, J)) rfl ?_
    obtain ⟨t12, hc11, h⟩ := zbind h
    refine zr_one (some (.inr (.inl (73, [.ref 1], [.long s9.1], 80)))) rfl (zR_call (by omega) rfl (ok_f73_people (by omega)  _ hc11) ?_)
    refine zr_steps 2 (82, [some (.ref 0), none, some (.long s9.1), none, none, none, none], [.int (lg_cmp s9.1 t12.toInt64)], (SH, I, J)) rfl ?_
    refine zr_one (if (lg_cmp s9.1 t12.toInt64) ≤ 0 then zN 90 [some (.ref 0), none, some (.long s9.1), none, none, none, none] [] (SH, I, J) else zN 85 [some (.ref 0), none, some (.long s9.1), none, none, none, none] [] (SH, I, J)) rfl (zR_if (fun hc13 => zR_go ?_) (fun hc13 => zR_go ?_))
    · rw [if_pos hc13] at h
      refine zr_steps 1 (92, [some (.ref 0), none, some (.long s9.1), none, none, none, none], [.int (-2)], (SH, I, J)) rfl ?_
      have he := Option.some.inj h
      subst he
      exact zr_one (some (.inr (.inr (some (.int (-2)))))) rfl (zR_ret rfl rfl)
    · rw [if_neg hc13] at h
      refine zr_steps 2 (92, [some (.ref 0), none, some (.long s9.1), none, none, none, none], [.int 9], (SH, I, J)) rfl ?_
      have he := Option.some.inj h
      subst he
      exact zr_one (some (.inr (.inr (some (.int 9))))) rfl (zR_ret rfl rfl)
set_option maxRecDepth 100000 in
set_option maxHeartbeats 4000000 in
theorem ok_f111_judge {X : zX} {d : Nat} (hd : 3 ≤ d) (v1 : Int32) {I : (Nat → Nat → Int32)} {J : (Nat → Nat → Int64)} (t : Int32) (h : f111_judge v1 I J = some t) : zRun X d 111 0 (zent 111 [.ref 0, .int v1]) [] (SH, I, J) (some (.int t)) (SH, I, J) := by
  unfold f111_judge at h
  refine zr_steps 1 (1, [some (.ref 0), some (.int v1), none, none], [.int v1], (SH, I, J)) rfl ?_
  obtain ⟨t2, hc1, h⟩ := zbind h
  refine zr_one (some (.inr (.inl (127, [.int v1], [], 4)))) rfl (zR_call (by omega) rfl (ok_f127_isShelf (by omega) v1 _ hc1) ?_)
  refine zr_one (if t2 = 0 then zN 7 [some (.ref 0), some (.int v1), none, none] [] (SH, I, J) else zN 9 [some (.ref 0), some (.int v1), none, none] [] (SH, I, J)) rfl (zR_if (fun hc10 => zR_go ?_) (fun hc10 => zR_go ?_))
  · rw [if_pos hc10] at h
    refine zr_steps 1 (8, [some (.ref 0), some (.int v1), none, none], [.int (-1)], (SH, I, J)) rfl ?_
    have he := Option.some.inj h
    subst he
    exact zr_one (some (.inr (.inr (some (.int (-1)))))) rfl (zR_ret rfl rfl)
  · rw [if_neg hc10] at h
    refine zr_steps 3 (14, [some (.ref 0), some (.int v1), none, none], [.int v1, .ref 60], (SH, I, J)) rfl ?_
    obtain ⟨hc3, h⟩ := zbifo h
    refine zr_one (bif zin v1 6 then zrefr 15 [some (.ref 0), some (.int v1), none, none] [] (SH, I, J) (zri (SH, I, J) 60 v1.toNatClampNeg) else none) rfl (zR_bif hc3 (zR_ref (sh_at hc3) ?_))
    refine zr_steps 3 (18, [some (.ref 0), some (.int v1), some (.ref (zshelf v1)), none], [.int 1, .ref (zshelf v1)], (SH, I, J)) rfl ?_
    obtain ⟨t5, hc4, h⟩ := zbind h
    refine zr_one (bif zrcv (SH, I, J) 55 [.ref (zshelf v1), .int 1] then some (.inr (.inl (55, [.ref (zshelf v1), .int 1], [], 21))) else none) rfl (zR_bif (sh_rcv (sh_is hc3) rfl rfl) (zR_call (by omega) rfl (ok_f55_refusal (by omega) (zshelf v1) 1 (sh_is hc3) _ hc4) ?_))
    refine zr_steps 2 (23, [some (.ref 0), some (.int v1), some (.ref (zshelf v1)), some (.int t5)], [.int t5], (SH, I, J)) rfl ?_
    refine zr_one (if t5 = 0 then zN 28 [some (.ref 0), some (.int v1), some (.ref (zshelf v1)), some (.int t5)] [] (SH, I, J) else zN 26 [some (.ref 0), some (.int v1), some (.ref (zshelf v1)), some (.int t5)] [] (SH, I, J)) rfl (zR_if (fun hc9 => zR_go ?_) (fun hc9 => zR_go ?_))
    · rw [if_pos hc9] at h
      refine zr_steps 1 (29, [some (.ref 0), some (.int v1), some (.ref (zshelf v1)), some (.int t5)], [.ref (zshelf v1)], (SH, I, J)) rfl ?_
      refine zr_one (zfget 29 4 2 [some (.ref 0), some (.int v1), some (.ref (zshelf v1)), some (.int t5)] [.ref (zshelf v1)] (SH, I, J)) rfl (sR_get (sh_is hc3) (by decide) ?_)
      refine zr_steps 3 (39, [some (.ref 0), some (.int v1), some (.ref (zshelf v1)), some (.int t5)], [.int (I 1 0), .int (I (zshelf v1) 2)], (SH, I, J)) rfl ?_
      refine zr_one (if (I 1 0) ≤ (I (zshelf v1) 2) then zN 47 [some (.ref 0), some (.int v1), some (.ref (zshelf v1)), some (.int t5)] [] (SH, I, J) else zN 42 [some (.ref 0), some (.int v1), some (.ref (zshelf v1)), some (.int t5)] [] (SH, I, J)) rfl (zR_if (fun hc8 => zR_go ?_) (fun hc8 => zR_go ?_))
      · rw [if_pos hc8] at h
        refine zr_steps 2 (49, [some (.ref 0), some (.int v1), some (.ref (zshelf v1)), some (.int t5)], [.ref (zshelf v1), .ref 0], (SH, I, J)) rfl ?_
        obtain ⟨t7, hc6, h⟩ := zbind h
        refine zr_one (some (.inr (.inl (112, [.ref 0, .ref (zshelf v1)], [], 52)))) rfl (zR_call (by omega) rfl (ok_f112_judged (by omega) (zshelf v1) (sh_is hc3) _ hc6) ?_)
        have he := Option.some.inj h
        subst he
        exact zr_one (some (.inr (.inr (some (.int t7))))) rfl (zR_ret rfl rfl)
      · rw [if_neg hc8] at h
        refine zr_steps 2 (52, [some (.ref 0), some (.int v1), some (.ref (zshelf v1)), some (.int t5)], [.int (-13)], (SH, I, J)) rfl ?_
        have he := Option.some.inj h
        subst he
        exact zr_one (some (.inr (.inr (some (.int (-13)))))) rfl (zR_ret rfl rfl)
    · rw [if_neg hc9] at h
      refine zr_steps 1 (27, [some (.ref 0), some (.int v1), some (.ref (zshelf v1)), some (.int t5)], [.int t5], (SH, I, J)) rfl ?_
      have he := Option.some.inj h
      subst he
      exact zr_one (some (.inr (.inr (some (.int t5))))) rfl (zR_ret rfl rfl)
