set_option maxRecDepth 100000 in
set_option maxHeartbeats 4000000 in
theorem ok_f193_ran {X : zX} {d : Nat} (hd : 0 ≤ d) (v1 : Int32) {I : (Nat → Nat → Int32)} {J : (Nat → Nat → Int64)} (t : (Nat → Nat → Int32)) (h : f193_ran v1 I = some t) : zRun X d 193 0 (zent 193 [.ref 73, .int v1]) [] (SH, I, J) none (SH, t, J) := by
  unfold f193_ran at h
  refine zr_steps 3 (6, [some (.ref 73), some (.int v1)], [.int 24, .int (I 73 68)], (SH, I, J)) rfl ?_
  refine zr_one (if (24 : Int32) ≤ (I 73 68) then zN 19 [some (.ref 73), some (.int v1)] [] (SH, I, J) else zN 9 [some (.ref 73), some (.int v1)] [] (SH, I, J)) rfl (zR_if (fun hc2 => zR_go ?_) (fun hc2 => zR_go ?_))
  · rw [if_pos hc2] at h
    refine zr_steps 6 (29, [some (.ref 73), some (.int v1)], [], (SH, (zu I 73 68 ((I 73 68) + 1)), J)) rfl ?_
    have he := Option.some.inj h
    subst he
    exact zr_one (some (.inr (.inr none))) rfl (zR_ret rfl rfl)
  · rw [if_neg hc2] at h
    refine zr_steps 5 (18, [some (.ref 73), some (.int v1)], [.int v1, .int (I 73 68), .ref 109], (SH, I, J)) rfl ?_
    obtain ⟨hc1, h⟩ := zbifo h
    refine zr_one (bif zin (I 73 68) 24 then zN 19 [some (.ref 73), some (.int v1)] [] (SH, (zu I 109 (I 73 68).toNatClampNeg v1), J) else none) rfl (zR_bif hc1 (zR_go ?_))
    refine zr_steps 6 (29, [some (.ref 73), some (.int v1)], [], (SH, (zu (zu I 109 (I 73 68).toNatClampNeg v1) 73 68 ((I 73 68) + 1)), J)) rfl ?_
    have he := Option.some.inj h
    subst he
    exact zr_one (some (.inr (.inr none))) rfl (zR_ret rfl rfl)
set_option maxRecDepth 100000 in
set_option maxHeartbeats 4000000 in
theorem ok_f197_plainGoes {X : zX} {d : Nat} (hd : 1 ≤ d) (v1 : Int32) (v2 : Int32) {I : (Nat → Nat → Int32)} {J : (Nat → Nat → Int64)} (t : (Int32 × (Nat → Nat → Int32))) (h : f197_plainGoes v1 v2 I = some t) : zRun X d 197 0 (zent 197 [.ref 73, .int v1, .int v2]) [] (SH, I, J) (some (.int t.1)) (SH, t.2, J) := by
  unfold f197_plainGoes at h
  refine zr_steps 2 (2, [some (.ref 73), some (.int v1), some (.int v2)], [.int 1, .ref 73], (SH, I, J)) rfl ?_
  obtain ⟨t2, hc1, h⟩ := zbind h
  refine zr_one (some (.inr (.inl (193, [.ref 73, .int 1], [], 5)))) rfl (zR_call (by omega) rfl (ok_f193_ran (by omega) 1 _ hc1) ?_)
  refine zr_steps 3 (8, [some (.ref 73), some (.int v1), some (.int v2)], [.int (v2 + v1)], (SH, t2, J)) rfl ?_
  have he := Option.some.inj h
  subst he
  exact zr_one (some (.inr (.inr (some (.int (v2 + v1)))))) rfl (zR_ret rfl rfl)
set_option maxRecDepth 100000 in
set_option maxHeartbeats 4000000 in
theorem ok_f198_bestGoes {X : zX} {d : Nat} (hd : 2 ≤ d) (v1 : Int32) (v2 : Int32) {I : (Nat → Nat → Int32)} {J : (Nat → Nat → Int64)} (t : (Int32 × (Nat → Nat → Int32))) (h : f198_bestGoes v1 v2 I = some t) : zRun X d 198 0 (zent 198 [.ref 73, .int v1, .int v2]) [] (SH, I, J) (some (.int t.1)) (SH, t.2, J) := by
  unfold f198_bestGoes at h
  refine zr_steps 2 (3, [some (.ref 73), some (.int v1), some (.int v2)], [.int 70, .ref 73], (SH, I, J)) rfl ?_
  obtain ⟨t2, hc1, h⟩ := zbind h
  refine zr_one (some (.inr (.inl (193, [.ref 73, .int 70], [], 6)))) rfl (zR_call (by omega) rfl (ok_f193_ran (by omega) 70 _ hc1) ?_)
  refine zr_steps 3 (9, [some (.ref 73), some (.int v1), some (.int v2)], [.int v2, .int v1, .ref 73], (SH, t2, J)) rfl ?_
  obtain ⟨t4, hc3, h⟩ := zbind h
  refine zr_one (some (.inr (.inl (197, [.ref 73, .int v1, .int v2], [], 12)))) rfl (zR_call (by omega) rfl (ok_f197_plainGoes (by omega) v1 v2 _ hc3) ?_)
  refine zr_steps 2 (14, [some (.ref 73), some (.int v1), some (.int v2)], [.int (t4.1 * 2)], (SH, t4.2, J)) rfl ?_
  have he := Option.some.inj h
  subst he
  exact zr_one (some (.inr (.inr (some (.int (t4.1 * 2)))))) rfl (zR_ret rfl rfl)
set_option maxRecDepth 100000 in
set_option maxHeartbeats 4000000 in
theorem ok_f199_goes {X : zX} {d : Nat} (hd : 3 ≤ d) (v1 : Int32) (v2 : Int32) {I : (Nat → Nat → Int32)} {J : (Nat → Nat → Int64)} (t : (Int32 × (Nat → Nat → Int32))) (h : f199_goes v1 v2 I = some t) : zRun X d 199 0 (zent 199 [.ref 73, .int v1, .int v2]) [] (SH, I, J) (some (.int t.1)) (SH, t.2, J) := by
  unfold f199_goes at h
  refine zr_steps 3 (5, [some (.ref 73), some (.int v1), some (.int v2)], [.int v1, .ref 108], (SH, I, J)) rfl ?_
  obtain ⟨hc1, h⟩ := zbifo h
  refine zr_one (bif zin v1 50 then zN 6 [some (.ref 73), some (.int v1), some (.int v2)] [.int (I 108 v1.toNatClampNeg)] (SH, I, J) else none) rfl (zR_bif hc1 (zR_go ?_))
  refine zr_steps 1 (7, [some (.ref 73), some (.int v1), some (.int v2)], [.int 1, .int (I 108 v1.toNatClampNeg)], (SH, I, J)) rfl ?_
  obtain ⟨t3, hc2, h⟩ := zbind h
  refine zr_one (some (.inr (.inl (196, [.int (I 108 v1.toNatClampNeg), .int 1], [], 10)))) rfl (zR_call (by omega) rfl (ok_f196_isUnder (by omega) (I 108 v1.toNatClampNeg) 1 _ hc2) ?_)
  refine zr_one (if t3 = 0 then zN 28 [some (.ref 73), some (.int v1), some (.int v2)] [] (SH, I, J) else zN 13 [some (.ref 73), some (.int v1), some (.int v2)] [] (SH, I, J)) rfl (zR_if (fun hc20 => zR_go ?_) (fun hc20 => zR_go ?_))
  · rw [if_pos hc20] at h
    refine zr_steps 3 (33, [some (.ref 73), some (.int v1), some (.int v2)], [.int v1, .ref 108], (SH, I, J)) rfl ?_
    obtain ⟨hc4, h⟩ := zbifo h
    refine zr_one (bif zin v1 50 then zN 34 [some (.ref 73), some (.int v1), some (.int v2)] [.int (I 108 v1.toNatClampNeg)] (SH, I, J) else none) rfl (zR_bif hc4 (zR_go ?_))
    refine zr_steps 1 (36, [some (.ref 73), some (.int v1), some (.int v2)], [.int 7, .int (I 108 v1.toNatClampNeg)], (SH, I, J)) rfl ?_
    refine zr_one (if (I 108 v1.toNatClampNeg) = 7 then zN 39 [some (.ref 73), some (.int v1), some (.int v2)] [] (SH, I, J) else zN 54 [some (.ref 73), some (.int v1), some (.int v2)] [] (SH, I, J)) rfl (zR_if (fun hc15 => zR_go ?_) (fun hc15 => zR_go ?_))
    · rw [if_pos hc15] at h
      refine zr_steps 2 (42, [some (.ref 73), some (.int v1), some (.int v2)], [.int 81, .ref 73], (SH, I, J)) rfl ?_
      obtain ⟨t6, hc5, h⟩ := zbind h
      refine zr_one (some (.inr (.inl (193, [.ref 73, .int 81], [], 45)))) rfl (zR_call (by omega) rfl (ok_f193_ran (by omega) 81 _ hc5) ?_)
      refine zr_steps 3 (48, [some (.ref 73), some (.int v1), some (.int v2)], [.int v2, .int v1, .ref 73], (SH, t6, J)) rfl ?_
      obtain ⟨t8, hc7, h⟩ := zbind h
      refine zr_one (some (.inr (.inl (198, [.ref 73, .int v1, .int v2], [], 51)))) rfl (zR_call (by omega) rfl (ok_f198_bestGoes (by omega) v1 v2 _ hc7) ?_)
      refine zr_steps 2 (53, [some (.ref 73), some (.int v1), some (.int v2)], [.int (t8.1 - 1)], (SH, t8.2, J)) rfl ?_
      have he := Option.some.inj h
      subst he
      exact zr_one (some (.inr (.inr (some (.int (t8.1 - 1)))))) rfl (zR_ret rfl rfl)
    · rw [if_neg hc15] at h
      refine zr_steps 3 (59, [some (.ref 73), some (.int v1), some (.int v2)], [.int v1, .ref 108], (SH, I, J)) rfl ?_
      obtain ⟨hc9, h⟩ := zbifo h
      refine zr_one (bif zin v1 50 then zN 60 [some (.ref 73), some (.int v1), some (.int v2)] [.int (I 108 v1.toNatClampNeg)] (SH, I, J) else none) rfl (zR_bif hc9 (zR_go ?_))
      refine zr_steps 1 (62, [some (.ref 73), some (.int v1), some (.int v2)], [.int 6, .int (I 108 v1.toNatClampNeg)], (SH, I, J)) rfl ?_
      refine zr_one (if (I 108 v1.toNatClampNeg) = 6 then zN 65 [some (.ref 73), some (.int v1), some (.int v2)] [] (SH, I, J) else zN 74 [some (.ref 73), some (.int v1), some (.int v2)] [] (SH, I, J)) rfl (zR_if (fun hc14 => zR_go ?_) (fun hc14 => zR_go ?_))
      · rw [if_pos hc14] at h
        refine zr_steps 3 (68, [some (.ref 73), some (.int v1), some (.int v2)], [.int v2, .int v1, .ref 73], (SH, I, J)) rfl ?_
        obtain ⟨t11, hc10, h⟩ := zbind h
        refine zr_one (some (.inr (.inl (198, [.ref 73, .int v1, .int v2], [], 71)))) rfl (zR_call (by omega) rfl (ok_f198_bestGoes (by omega) v1 v2 _ hc10) ?_)
        refine zr_steps 1 (80, [some (.ref 73), some (.int v1), some (.int v2)], [.int t11.1], (SH, t11.2, J)) rfl ?_
        have he := Option.some.inj h
        subst he
        exact zr_one (some (.inr (.inr (some (.int t11.1))))) rfl (zR_ret rfl rfl)
      · rw [if_neg hc14] at h
        refine zr_steps 3 (77, [some (.ref 73), some (.int v1), some (.int v2)], [.int v2, .int v1, .ref 73], (SH, I, J)) rfl ?_
        obtain ⟨t13, hc12, h⟩ := zbind h
        refine zr_one (some (.inr (.inl (197, [.ref 73, .int v1, .int v2], [], 80)))) rfl (zR_call (by omega) rfl (ok_f197_plainGoes (by omega) v1 v2 _ hc12) ?_)
        have he := Option.some.inj h
        subst he
        exact zr_one (some (.inr (.inr (some (.int t13.1))))) rfl (zR_ret rfl rfl)
  · rw [if_neg hc20] at h
    refine zr_steps 2 (16, [some (.ref 73), some (.int v1), some (.int v2)], [.int 20, .ref 73], (SH, I, J)) rfl ?_
    obtain ⟨t17, hc16, h⟩ := zbind h
    refine zr_one (some (.inr (.inl (193, [.ref 73, .int 20], [], 19)))) rfl (zR_call (by omega) rfl (ok_f193_ran (by omega) 20 _ hc16) ?_)
    refine zr_steps 3 (22, [some (.ref 73), some (.int v1), some (.int v2)], [.int v2, .int v1, .ref 73], (SH, t17, J)) rfl ?_
    obtain ⟨t19, hc18, h⟩ := zbind h
    refine zr_one (some (.inr (.inl (197, [.ref 73, .int v1, .int v2], [], 25)))) rfl (zR_call (by omega) rfl (ok_f197_plainGoes (by omega) v1 v2 _ hc18) ?_)
    refine zr_steps 2 (27, [some (.ref 73), some (.int v1), some (.int v2)], [.int (t19.1 + 3)], (SH, t19.2, J)) rfl ?_
    have he := Option.some.inj h
    subst he
    exact zr_one (some (.inr (.inr (some (.int (t19.1 + 3)))))) rfl (zR_ret rfl rfl)
set_option maxRecDepth 100000 in
set_option maxHeartbeats 4000000 in
theorem ok_f200_plainSees {X : zX} {d : Nat} (hd : 4 ≤ d) (v1 : Int32) (v2 : Int32) {I : (Nat → Nat → Int32)} {J : (Nat → Nat → Int64)} (t : (Int32 × (Nat → Nat → Int32))) (h : f200_plainSees v1 v2 I = some t) : zRun X d 200 0 (zent 200 [.ref 73, .int v1, .int v2]) [] (SH, I, J) (some (.int t.1)) (SH, t.2, J) := by
  unfold f200_plainSees at h
  refine zr_steps 2 (3, [some (.ref 73), some (.int v1), some (.int v2)], [.int 10, .ref 73], (SH, I, J)) rfl ?_
  obtain ⟨t2, hc1, h⟩ := zbind h
  refine zr_one (some (.inr (.inl (193, [.ref 73, .int 10], [], 6)))) rfl (zR_call (by omega) rfl (ok_f193_ran (by omega) 10 _ hc1) ?_)
  refine zr_steps 3 (9, [some (.ref 73), some (.int v1), some (.int v2)], [.int v2, .int v1, .ref 73], (SH, t2, J)) rfl ?_
  obtain ⟨t4, hc3, h⟩ := zbind h
  refine zr_one (some (.inr (.inl (199, [.ref 73, .int v1, .int v2], [], 12)))) rfl (zR_call (by omega) rfl (ok_f199_goes (by omega) v1 v2 _ hc3) ?_)
  refine zr_steps 2 (14, [some (.ref 73), some (.int v1), some (.int v2)], [.int (t4.1 * 2)], (SH, t4.2, J)) rfl ?_
  have he := Option.some.inj h
  subst he
  exact zr_one (some (.inr (.inr (some (.int (t4.1 * 2)))))) rfl (zR_ret rfl rfl)
set_option maxRecDepth 100000 in
set_option maxHeartbeats 4000000 in
theorem ok_f201_followSees {X : zX} {d : Nat} (hd : 5 ≤ d) (v1 : Int32) (v2 : Int32) {I : (Nat → Nat → Int32)} {J : (Nat → Nat → Int64)} (t : (Int32 × (Nat → Nat → Int32))) (h : f201_followSees v1 v2 I = some t) : zRun X d 201 0 (zent 201 [.ref 73, .int v1, .int v2]) [] (SH, I, J) (some (.int t.1)) (SH, t.2, J) := by
  unfold f201_followSees at h
  refine zr_steps 2 (3, [some (.ref 73), some (.int v1), some (.int v2)], [.int 30, .ref 73], (SH, I, J)) rfl ?_
  obtain ⟨t2, hc1, h⟩ := zbind h
  refine zr_one (some (.inr (.inl (193, [.ref 73, .int 30], [], 6)))) rfl (zR_call (by omega) rfl (ok_f193_ran (by omega) 30 _ hc1) ?_)
  refine zr_steps 3 (9, [some (.ref 73), some (.int v1), some (.int v2)], [.int v2, .int v1, .ref 73], (SH, t2, J)) rfl ?_
  obtain ⟨t4, hc3, h⟩ := zbind h
  refine zr_one (some (.inr (.inl (200, [.ref 73, .int v1, .int v2], [], 12)))) rfl (zR_call (by omega) rfl (ok_f200_plainSees (by omega) v1 v2 _ hc3) ?_)
  refine zr_steps 1 (13, [some (.ref 73), some (.int v1), some (.int v2)], [.int (-t4.1)], (SH, t4.2, J)) rfl ?_
  have he := Option.some.inj h
  subst he
  exact zr_one (some (.inr (.inr (some (.int (-t4.1)))))) rfl (zR_ret rfl rfl)
set_option maxRecDepth 100000 in
set_option maxHeartbeats 4000000 in
theorem ok_f203_plainWaits {X : zX} {d : Nat} (hd : 1 ≤ d) (v1 : Int32) (v2 : Int32) {I : (Nat → Nat → Int32)} {J : (Nat → Nat → Int64)} (t : (Int32 × (Nat → Nat → Int32))) (h : f203_plainWaits v1 v2 I = some t) : zRun X d 203 0 (zent 203 [.ref 73, .int v1, .int v2]) [] (SH, I, J) (some (.int t.1)) (SH, t.2, J) := by
  unfold f203_plainWaits at h
  refine zr_steps 2 (3, [some (.ref 73), some (.int v1), some (.int v2)], [.int 11, .ref 73], (SH, I, J)) rfl ?_
  obtain ⟨t2, hc1, h⟩ := zbind h
  refine zr_one (some (.inr (.inl (193, [.ref 73, .int 11], [], 6)))) rfl (zR_call (by omega) rfl (ok_f193_ran (by omega) 11 _ hc1) ?_)
  refine zr_steps 3 (9, [some (.ref 73), some (.int v1), some (.int v2)], [.int (v2 ^^^ v1)], (SH, t2, J)) rfl ?_
  have he := Option.some.inj h
  subst he
  exact zr_one (some (.inr (.inr (some (.int (v2 ^^^ v1)))))) rfl (zR_ret rfl rfl)
set_option maxRecDepth 100000 in
set_option maxHeartbeats 4000000 in
theorem ok_f204_waits {X : zX} {d : Nat} (hd : 4 ≤ d) (v1 : Int32) (v2 : Int32) {I : (Nat → Nat → Int32)} {J : (Nat → Nat → Int64)} (t : (Int32 × (Nat → Nat → Int32))) (h : f204_waits v1 v2 I = some t) : zRun X d 204 0 (zent 204 [.ref 73, .int v1, .int v2]) [] (SH, I, J) (some (.int t.1)) (SH, t.2, J) := by
  unfold f204_waits at h
  refine zr_steps 3 (5, [some (.ref 73), some (.int v1), some (.int v2), none], [.int v1, .ref 108], (SH, I, J)) rfl ?_
  obtain ⟨hc1, h⟩ := zbifo h
  refine zr_one (bif zin v1 50 then zN 6 [some (.ref 73), some (.int v1), some (.int v2), none] [.int (I 108 v1.toNatClampNeg)] (SH, I, J) else none) rfl (zR_bif hc1 (zR_go ?_))
  refine zr_steps 1 (7, [some (.ref 73), some (.int v1), some (.int v2), none], [.int 3, .int (I 108 v1.toNatClampNeg)], (SH, I, J)) rfl ?_
  refine zr_one (if (I 108 v1.toNatClampNeg) = 3 then zN 10 [some (.ref 73), some (.int v1), some (.int v2), none] [] (SH, I, J) else zN 25 [some (.ref 73), some (.int v1), some (.int v2), none] [] (SH, I, J)) rfl (zR_if (fun hc16 => zR_go ?_) (fun hc16 => zR_go ?_))
  · rw [if_pos hc16] at h
    refine zr_steps 2 (13, [some (.ref 73), some (.int v1), some (.int v2), none], [.int 40, .ref 73], (SH, I, J)) rfl ?_
    obtain ⟨t3, hc2, h⟩ := zbind h
    refine zr_one (some (.inr (.inl (193, [.ref 73, .int 40], [], 16)))) rfl (zR_call (by omega) rfl (ok_f193_ran (by omega) 40 _ hc2) ?_)
    refine zr_steps 3 (19, [some (.ref 73), some (.int v1), some (.int v2), none], [.int v2, .int v1, .ref 73], (SH, t3, J)) rfl ?_
    obtain ⟨t5, hc4, h⟩ := zbind h
    refine zr_one (some (.inr (.inl (203, [.ref 73, .int v1, .int v2], [], 22)))) rfl (zR_call (by omega) rfl (ok_f203_plainWaits (by omega) v1 v2 _ hc4) ?_)
    refine zr_steps 2 (24, [some (.ref 73), some (.int v1), some (.int v2), none], [.int (t5.1 * 3)], (SH, t5.2, J)) rfl ?_
    have he := Option.some.inj h
    subst he
    exact zr_one (some (.inr (.inr (some (.int (t5.1 * 3)))))) rfl (zR_ret rfl rfl)
  · rw [if_neg hc16] at h
    refine zr_steps 3 (30, [some (.ref 73), some (.int v1), some (.int v2), none], [.int v1, .ref 108], (SH, I, J)) rfl ?_
    obtain ⟨hc6, h⟩ := zbifo h
    refine zr_one (bif zin v1 50 then zN 31 [some (.ref 73), some (.int v1), some (.int v2), none] [.int (I 108 v1.toNatClampNeg)] (SH, I, J) else none) rfl (zR_bif hc6 (zR_go ?_))
    refine zr_steps 1 (32, [some (.ref 73), some (.int v1), some (.int v2), none], [.int 5, .int (I 108 v1.toNatClampNeg)], (SH, I, J)) rfl ?_
    refine zr_one (if (I 108 v1.toNatClampNeg) = 5 then zN 35 [some (.ref 73), some (.int v1), some (.int v2), none] [] (SH, I, J) else zN 57 [some (.ref 73), some (.int v1), some (.int v2), none] [] (SH, I, J)) rfl (zR_if (fun hc15 => zR_go ?_) (fun hc15 => zR_go ?_))
    · rw [if_pos hc15] at h
      refine zr_steps 2 (38, [some (.ref 73), some (.int v1), some (.int v2), none], [.int 60, .ref 73], (SH, I, J)) rfl ?_
      obtain ⟨t8, hc7, h⟩ := zbind h
      refine zr_one (some (.inr (.inl (193, [.ref 73, .int 60], [], 41)))) rfl (zR_call (by omega) rfl (ok_f193_ran (by omega) 60 _ hc7) ?_)
      refine zr_steps 3 (44, [some (.ref 73), some (.int v1), some (.int v2), none], [.int v2, .int v1, .ref 73], (SH, t8, J)) rfl ?_
      obtain ⟨t10, hc9, h⟩ := zbind h
      refine zr_one (some (.inr (.inl (203, [.ref 73, .int v1, .int v2], [], 47)))) rfl (zR_call (by omega) rfl (ok_f203_plainWaits (by omega) v1 v2 _ hc9) ?_)
      refine zr_steps 5 (52, [some (.ref 73), some (.int v1), some (.int v2), some (.int t10.1)], [.int 2, .int v1, .ref 73, .int t10.1], (SH, t10.2, J)) rfl ?_
      obtain ⟨t12, hc11, h⟩ := zbind h
      refine zr_one (some (.inr (.inl (199, [.ref 73, .int v1, .int 2], [.int t10.1], 55)))) rfl (zR_call (by omega) rfl (ok_f199_goes (by omega) v1 2 _ hc11) ?_)
      refine zr_steps 1 (56, [some (.ref 73), some (.int v1), some (.int v2), some (.int t10.1)], [.int (t10.1 - t12.1)], (SH, t12.2, J)) rfl ?_
      have he := Option.some.inj h
      subst he
      exact zr_one (some (.inr (.inr (some (.int (t10.1 - t12.1)))))) rfl (zR_ret rfl rfl)
    · rw [if_neg hc15] at h
      refine zr_steps 3 (60, [some (.ref 73), some (.int v1), some (.int v2), none], [.int v2, .int v1, .ref 73], (SH, I, J)) rfl ?_
      obtain ⟨t14, hc13, h⟩ := zbind h
      refine zr_one (some (.inr (.inl (203, [.ref 73, .int v1, .int v2], [], 63)))) rfl (zR_call (by omega) rfl (ok_f203_plainWaits (by omega) v1 v2 _ hc13) ?_)
      have he := Option.some.inj h
      subst he
      exact zr_one (some (.inr (.inr (some (.int t14.1))))) rfl (zR_ret rfl rfl)
set_option maxRecDepth 100000 in
set_option maxHeartbeats 4000000 in
theorem ok_f202_sees {X : zX} {d : Nat} (hd : 6 ≤ d) (v1 : Int32) (v2 : Int32) {I : (Nat → Nat → Int32)} {J : (Nat → Nat → Int64)} (t : (Int32 × (Nat → Nat → Int32))) (h : f202_sees v1 v2 I = some t) : zRun X d 202 0 (zent 202 [.ref 73, .int v1, .int v2]) [] (SH, I, J) (some (.int t.1)) (SH, t.2, J) := by
  unfold f202_sees at h
  refine zr_steps 3 (5, [some (.ref 73), some (.int v1), some (.int v2), none], [.int v1, .ref 108], (SH, I, J)) rfl ?_
  obtain ⟨hc1, h⟩ := zbifo h
  refine zr_one (bif zin v1 50 then zN 6 [some (.ref 73), some (.int v1), some (.int v2), none] [.int (I 108 v1.toNatClampNeg)] (SH, I, J) else none) rfl (zR_bif hc1 (zR_go ?_))
  refine zr_steps 1 (7, [some (.ref 73), some (.int v1), some (.int v2), none], [.int 3, .int (I 108 v1.toNatClampNeg)], (SH, I, J)) rfl ?_
  refine zr_one (if (I 108 v1.toNatClampNeg) = 3 then zN 10 [some (.ref 73), some (.int v1), some (.int v2), none] [] (SH, I, J) else zN 25 [some (.ref 73), some (.int v1), some (.int v2), none] [] (SH, I, J)) rfl (zR_if (fun hc20 => zR_go ?_) (fun hc20 => zR_go ?_))
  · rw [if_pos hc20] at h
    refine zr_steps 2 (13, [some (.ref 73), some (.int v1), some (.int v2), none], [.int 41, .ref 73], (SH, I, J)) rfl ?_
    obtain ⟨t3, hc2, h⟩ := zbind h
    refine zr_one (some (.inr (.inl (193, [.ref 73, .int 41], [], 16)))) rfl (zR_call (by omega) rfl (ok_f193_ran (by omega) 41 _ hc2) ?_)
    refine zr_steps 5 (21, [some (.ref 73), some (.int v1), some (.int v2), none], [.int (v2 + 1), .int v1, .ref 73], (SH, t3, J)) rfl ?_
    obtain ⟨t5, hc4, h⟩ := zbind h
    refine zr_one (some (.inr (.inl (201, [.ref 73, .int v1, .int (v2 + 1)], [], 24)))) rfl (zR_call (by omega) rfl (ok_f201_followSees (by omega) v1 (v2 + 1) _ hc4) ?_)
    have he := Option.some.inj h
    subst he
    exact zr_one (some (.inr (.inr (some (.int t5.1))))) rfl (zR_ret rfl rfl)
  · rw [if_neg hc20] at h
    refine zr_steps 3 (30, [some (.ref 73), some (.int v1), some (.int v2), none], [.int v1, .ref 108], (SH, I, J)) rfl ?_
    obtain ⟨hc6, h⟩ := zbifo h
    refine zr_one (bif zin v1 50 then zN 31 [some (.ref 73), some (.int v1), some (.int v2), none] [.int (I 108 v1.toNatClampNeg)] (SH, I, J) else none) rfl (zR_bif hc6 (zR_go ?_))
    refine zr_steps 1 (33, [some (.ref 73), some (.int v1), some (.int v2), none], [.int 7, .int (I 108 v1.toNatClampNeg)], (SH, I, J)) rfl ?_
    refine zr_one (if (I 108 v1.toNatClampNeg) = 7 then zN 36 [some (.ref 73), some (.int v1), some (.int v2), none] [] (SH, I, J) else zN 58 [some (.ref 73), some (.int v1), some (.int v2), none] [] (SH, I, J)) rfl (zR_if (fun hc19 => zR_go ?_) (fun hc19 => zR_go ?_))
    · rw [if_pos hc19] at h
      refine zr_steps 2 (39, [some (.ref 73), some (.int v1), some (.int v2), none], [.int 80, .ref 73], (SH, I, J)) rfl ?_
      obtain ⟨t8, hc7, h⟩ := zbind h
      refine zr_one (some (.inr (.inl (193, [.ref 73, .int 80], [], 42)))) rfl (zR_call (by omega) rfl (ok_f193_ran (by omega) 80 _ hc7) ?_)
      refine zr_steps 3 (45, [some (.ref 73), some (.int v1), some (.int v2), none], [.int v2, .int v1, .ref 73], (SH, t8, J)) rfl ?_
      obtain ⟨t10, hc9, h⟩ := zbind h
      refine zr_one (some (.inr (.inl (200, [.ref 73, .int v1, .int v2], [], 48)))) rfl (zR_call (by omega) rfl (ok_f200_plainSees (by omega) v1 v2 _ hc9) ?_)
      refine zr_steps 5 (53, [some (.ref 73), some (.int v1), some (.int v2), some (.int t10.1)], [.int 2, .int v1, .ref 73, .int t10.1], (SH, t10.2, J)) rfl ?_
      obtain ⟨t12, hc11, h⟩ := zbind h
      refine zr_one (some (.inr (.inl (204, [.ref 73, .int v1, .int 2], [.int t10.1], 56)))) rfl (zR_call (by omega) rfl (ok_f204_waits (by omega) v1 2 _ hc11) ?_)
      refine zr_steps 1 (57, [some (.ref 73), some (.int v1), some (.int v2), some (.int t10.1)], [.int (t10.1 + t12.1)], (SH, t12.2, J)) rfl ?_
      have he := Option.some.inj h
      subst he
      exact zr_one (some (.inr (.inr (some (.int (t10.1 + t12.1)))))) rfl (zR_ret rfl rfl)
    · rw [if_neg hc19] at h
      refine zr_steps 3 (63, [some (.ref 73), some (.int v1), some (.int v2), none], [.int v1, .ref 108], (SH, I, J)) rfl ?_
      obtain ⟨hc13, h⟩ := zbifo h
      refine zr_one (bif zin v1 50 then zN 64 [some (.ref 73), some (.int v1), some (.int v2), none] [.int (I 108 v1.toNatClampNeg)] (SH, I, J) else none) rfl (zR_bif hc13 (zR_go ?_))
      refine zr_steps 1 (65, [some (.ref 73), some (.int v1), some (.int v2), none], [.int 2, .int (I 108 v1.toNatClampNeg)], (SH, I, J)) rfl ?_
      refine zr_one (if (I 108 v1.toNatClampNeg) = 2 then zN 68 [some (.ref 73), some (.int v1), some (.int v2), none] [] (SH, I, J) else zN 77 [some (.ref 73), some (.int v1), some (.int v2), none] [] (SH, I, J)) rfl (zR_if (fun hc18 => zR_go ?_) (fun hc18 => zR_go ?_))
      · rw [if_pos hc18] at h
        refine zr_steps 3 (71, [some (.ref 73), some (.int v1), some (.int v2), none], [.int v2, .int v1, .ref 73], (SH, I, J)) rfl ?_
        obtain ⟨t15, hc14, h⟩ := zbind h
        refine zr_one (some (.inr (.inl (201, [.ref 73, .int v1, .int v2], [], 74)))) rfl (zR_call (by omega) rfl (ok_f201_followSees (by omega) v1 v2 _ hc14) ?_)
        refine zr_steps 1 (83, [some (.ref 73), some (.int v1), some (.int v2), none], [.int t15.1], (SH, t15.2, J)) rfl ?_
        have he := Option.some.inj h
        subst he
        exact zr_one (some (.inr (.inr (some (.int t15.1))))) rfl (zR_ret rfl rfl)
      · rw [if_neg hc18] at h
        refine zr_steps 3 (80, [some (.ref 73), some (.int v1), some (.int v2), none], [.int v2, .int v1, .ref 73], (SH, I, J)) rfl ?_
        obtain ⟨t17, hc16, h⟩ := zbind h
        refine zr_one (some (.inr (.inl (200, [.ref 73, .int v1, .int v2], [], 83)))) rfl (zR_call (by omega) rfl (ok_f200_plainSees (by omega) v1 v2 _ hc16) ?_)
        have he := Option.some.inj h
        subst he
        exact zr_one (some (.inr (.inr (some (.int t17.1))))) rfl (zR_ret rfl rfl)
set_option maxRecDepth 100000 in
set_option maxHeartbeats 4000000 in
theorem ok_f205_plainTells {X : zX} {d : Nat} (hd : 7 ≤ d) (v1 : Int32) (v2 : Int32) {I : (Nat → Nat → Int32)} {J : (Nat → Nat → Int64)} (t : (Int32 × (Nat → Nat → Int32))) (h : f205_plainTells v1 v2 I = some t) : zRun X d 205 0 (zent 205 [.ref 73, .int v1, .int v2]) [] (SH, I, J) (some (.int t.1)) (SH, t.2, J) := by
  unfold f205_plainTells at h
  refine zr_steps 2 (2, [some (.ref 73), some (.int v1), some (.int v2), none], [.int 2, .ref 73], (SH, I, J)) rfl ?_
  obtain ⟨t2, hc1, h⟩ := zbind h
  refine zr_one (some (.inr (.inl (193, [.ref 73, .int 2], [], 5)))) rfl (zR_call (by omega) rfl (ok_f193_ran (by omega) 2 _ hc1) ?_)
  refine zr_steps 3 (8, [some (.ref 73), some (.int v1), some (.int v2), none], [.int v2, .int v1, .ref 73], (SH, t2, J)) rfl ?_
  obtain ⟨t4, hc3, h⟩ := zbind h
  refine zr_one (some (.inr (.inl (202, [.ref 73, .int v1, .int v2], [], 11)))) rfl (zR_call (by omega) rfl (ok_f202_sees (by omega) v1 v2 _ hc3) ?_)
  refine zr_steps 5 (16, [some (.ref 73), some (.int v1), some (.int v2), some (.int t4.1)], [.int 1, .int v1, .ref 73, .int t4.1], (SH, t4.2, J)) rfl ?_
  obtain ⟨t6, hc5, h⟩ := zbind h
  refine zr_one (some (.inr (.inl (204, [.ref 73, .int v1, .int 1], [.int t4.1], 19)))) rfl (zR_call (by omega) rfl (ok_f204_waits (by omega) v1 1 _ hc5) ?_)
  refine zr_steps 1 (20, [some (.ref 73), some (.int v1), some (.int v2), some (.int t4.1)], [.int (t4.1 - t6.1)], (SH, t6.2, J)) rfl ?_
  have he := Option.some.inj h
  subst he
  exact zr_one (some (.inr (.inr (some (.int (t4.1 - t6.1)))))) rfl (zR_ret rfl rfl)
set_option maxRecDepth 100000 in
set_option maxHeartbeats 4000000 in
theorem ok_f206_leadTells {X : zX} {d : Nat} (hd : 8 ≤ d) (v1 : Int32) (v2 : Int32) {I : (Nat → Nat → Int32)} {J : (Nat → Nat → Int64)} (t : (Int32 × (Nat → Nat → Int32))) (h : f206_leadTells v1 v2 I = some t) : zRun X d 206 0 (zent 206 [.ref 73, .int v1, .int v2]) [] (SH, I, J) (some (.int t.1)) (SH, t.2, J) := by
  unfold f206_leadTells at h
  refine zr_steps 2 (3, [some (.ref 73), some (.int v1), some (.int v2)], [.int 50, .ref 73], (SH, I, J)) rfl ?_
  obtain ⟨t2, hc1, h⟩ := zbind h
  refine zr_one (some (.inr (.inl (193, [.ref 73, .int 50], [], 6)))) rfl (zR_call (by omega) rfl (ok_f193_ran (by omega) 50 _ hc1) ?_)
  refine zr_steps 3 (9, [some (.ref 73), some (.int v1), some (.int v2)], [.int v2, .int v1, .ref 73], (SH, t2, J)) rfl ?_
  obtain ⟨t4, hc3, h⟩ := zbind h
  refine zr_one (some (.inr (.inl (205, [.ref 73, .int v1, .int v2], [], 12)))) rfl (zR_call (by omega) rfl (ok_f205_plainTells (by omega) v1 v2 _ hc3) ?_)
  refine zr_steps 2 (14, [some (.ref 73), some (.int v1), some (.int v2)], [.int (t4.1 ^^^ 5)], (SH, t4.2, J)) rfl ?_
  have he := Option.some.inj h
  subst he
  exact zr_one (some (.inr (.inr (some (.int (t4.1 ^^^ 5)))))) rfl (zR_ret rfl rfl)
set_option maxRecDepth 100000 in
set_option maxHeartbeats 4000000 in
theorem ok_f207_telling {X : zX} {d : Nat} (hd : 9 ≤ d) (v1 : Int32) (v2 : Int32) {I : (Nat → Nat → Int32)} {J : (Nat → Nat → Int64)} (t : (Int32 × (Nat → Nat → Int32))) (h : f207_telling v1 v2 I = some t) : zRun X d 207 0 (zent 207 [.ref 73, .int v1, .int v2]) [] (SH, I, J) (some (.int t.1)) (SH, t.2, J) := by
  unfold f207_telling at h
  refine zr_steps 3 (5, [some (.ref 73), some (.int v1), some (.int v2)], [.int v1, .ref 108], (SH, I, J)) rfl ?_
  obtain ⟨hc1, h⟩ := zbifo h
  refine zr_one (bif zin v1 50 then zN 6 [some (.ref 73), some (.int v1), some (.int v2)] [.int (I 108 v1.toNatClampNeg)] (SH, I, J) else none) rfl (zR_bif hc1 (zR_go ?_))
  refine zr_steps 1 (7, [some (.ref 73), some (.int v1), some (.int v2)], [.int 5, .int (I 108 v1.toNatClampNeg)], (SH, I, J)) rfl ?_
  refine zr_one (if (I 108 v1.toNatClampNeg) = 5 then zN 10 [some (.ref 73), some (.int v1), some (.int v2)] [] (SH, I, J) else zN 25 [some (.ref 73), some (.int v1), some (.int v2)] [] (SH, I, J)) rfl (zR_if (fun hc12 => zR_go ?_) (fun hc12 => zR_go ?_))
  · rw [if_pos hc12] at h
    refine zr_steps 2 (13, [some (.ref 73), some (.int v1), some (.int v2)], [.int 61, .ref 73], (SH, I, J)) rfl ?_
    obtain ⟨t3, hc2, h⟩ := zbind h
    refine zr_one (some (.inr (.inl (193, [.ref 73, .int 61], [], 16)))) rfl (zR_call (by omega) rfl (ok_f193_ran (by omega) 61 _ hc2) ?_)
    refine zr_steps 3 (19, [some (.ref 73), some (.int v1), some (.int v2)], [.int v2, .int v1, .ref 73], (SH, t3, J)) rfl ?_
    obtain ⟨t5, hc4, h⟩ := zbind h
    refine zr_one (some (.inr (.inl (206, [.ref 73, .int v1, .int v2], [], 22)))) rfl (zR_call (by omega) rfl (ok_f206_leadTells (by omega) v1 v2 _ hc4) ?_)
    refine zr_steps 2 (24, [some (.ref 73), some (.int v1), some (.int v2)], [.int (t5.1 + 1)], (SH, t5.2, J)) rfl ?_
    have he := Option.some.inj h
    subst he
    exact zr_one (some (.inr (.inr (some (.int (t5.1 + 1)))))) rfl (zR_ret rfl rfl)
  · rw [if_neg hc12] at h
    refine zr_steps 3 (30, [some (.ref 73), some (.int v1), some (.int v2)], [.int v1, .ref 108], (SH, I, J)) rfl ?_
    obtain ⟨hc6, h⟩ := zbifo h
    refine zr_one (bif zin v1 50 then zN 31 [some (.ref 73), some (.int v1), some (.int v2)] [.int (I 108 v1.toNatClampNeg)] (SH, I, J) else none) rfl (zR_bif hc6 (zR_go ?_))
    refine zr_steps 1 (32, [some (.ref 73), some (.int v1), some (.int v2)], [.int 4, .int (I 108 v1.toNatClampNeg)], (SH, I, J)) rfl ?_
    refine zr_one (if (I 108 v1.toNatClampNeg) = 4 then zN 35 [some (.ref 73), some (.int v1), some (.int v2)] [] (SH, I, J) else zN 44 [some (.ref 73), some (.int v1), some (.int v2)] [] (SH, I, J)) rfl (zR_if (fun hc11 => zR_go ?_) (fun hc11 => zR_go ?_))
    · rw [if_pos hc11] at h
      refine zr_steps 3 (38, [some (.ref 73), some (.int v1), some (.int v2)], [.int v2, .int v1, .ref 73], (SH, I, J)) rfl ?_
      obtain ⟨t8, hc7, h⟩ := zbind h
      refine zr_one (some (.inr (.inl (206, [.ref 73, .int v1, .int v2], [], 41)))) rfl (zR_call (by omega) rfl (ok_f206_leadTells (by omega) v1 v2 _ hc7) ?_)
      refine zr_steps 1 (50, [some (.ref 73), some (.int v1), some (.int v2)], [.int t8.1], (SH, t8.2, J)) rfl ?_
      have he := Option.some.inj h
      subst he
      exact zr_one (some (.inr (.inr (some (.int t8.1))))) rfl (zR_ret rfl rfl)
    · rw [if_neg hc11] at h
      refine zr_steps 3 (47, [some (.ref 73), some (.int v1), some (.int v2)], [.int v2, .int v1, .ref 73], (SH, I, J)) rfl ?_
      obtain ⟨t10, hc9, h⟩ := zbind h
      refine zr_one (some (.inr (.inl (205, [.ref 73, .int v1, .int v2], [], 50)))) rfl (zR_call (by omega) rfl (ok_f205_plainTells (by omega) v1 v2 _ hc9) ?_)
      have he := Option.some.inj h
      subst he
      exact zr_one (some (.inr (.inr (some (.int t10.1))))) rfl (zR_ret rfl rfl)
set_option maxRecDepth 100000 in
set_option maxHeartbeats 4000000 in
theorem ok_f208_act {X : zX} {d : Nat} (hd : 10 ≤ d) (v1 : Int32) (v2 : Int32) (v3 : Int32) {I : (Nat → Nat → Int32)} {J : (Nat → Nat → Int64)} (t : (Int32 × (Nat → Nat → Int32))) (h : f208_act v1 v2 v3 I = some t) : zRun X d 208 0 (zent 208 [.ref 73, .int v1, .int v2, .int v3]) [] (SH, I, J) (some (.int t.1)) (SH, t.2, J) := by
  unfold f208_act at h
  refine zr_steps 5 (7, [some (.ref 73), some (.int v1), some (.int v2), some (.int v3)], [.int v1, .ref 73], (SH, (zu I 73 68 0), J)) rfl ?_
  obtain ⟨t2, hc1, h⟩ := zbind h
  refine zr_one (some (.inr (.inl (192, [.ref 73, .int v1], [], 10)))) rfl (zR_call (by omega) rfl (ok_f192_isBody (by omega) v1 _ hc1) ?_)
  refine zr_one (if t2 = 0 then zN 22 [some (.ref 73), some (.int v1), some (.int v2), some (.int v3)] [] (SH, (zu I 73 68 0), J) else zN 13 [some (.ref 73), some (.int v1), some (.int v2), some (.int v3)] [] (SH, (zu I 73 68 0), J)) rfl (zR_if (fun hc17 => zR_go ?_) (fun hc17 => zR_go ?_))
  · rw [if_pos hc17] at h
    refine zr_steps 1 (23, [some (.ref 73), some (.int v1), some (.int v2), some (.int v3)], [.int 0], (SH, (zu I 73 68 0), J)) rfl ?_
    have he := Option.some.inj h
    subst he
    exact zr_one (some (.inr (.inr (some (.int 0))))) rfl (zR_ret rfl rfl)
  · rw [if_neg hc17] at h
    refine zr_steps 3 (16, [some (.ref 73), some (.int v1), some (.int v2), some (.int v3)], [.int 3, .int 0, .int v2], (SH, (zu I 73 68 0), J)) rfl ?_
    obtain ⟨t4, hc3, h⟩ := zbind h
    refine zr_one (some (.inr (.inl (129, [.int v2, .int 0, .int 3], [], 19)))) rfl (zR_call (by omega) rfl (ok_f129_in (by omega) v2 0 3 _ hc3) ?_)
    refine zr_one (if t4 = 0 then zN 22 [some (.ref 73), some (.int v1), some (.int v2), some (.int v3)] [] (SH, (zu I 73 68 0), J) else zN 24 [some (.ref 73), some (.int v1), some (.int v2), some (.int v3)] [] (SH, (zu I 73 68 0), J)) rfl (zR_if (fun hc16 => zR_go ?_) (fun hc16 => zR_go ?_))
    · rw [if_pos hc16] at h
      refine zr_steps 1 (23, [some (.ref 73), some (.int v1), some (.int v2), some (.int v3)], [.int 0], (SH, (zu I 73 68 0), J)) rfl ?_
      have he := Option.some.inj h
      subst he
      exact zr_one (some (.inr (.inr (some (.int 0))))) rfl (zR_ret rfl rfl)
    · rw [if_neg hc16] at h
      refine zr_steps 1 (25, [some (.ref 73), some (.int v1), some (.int v2), some (.int v3)], [.int v2], (SH, (zu I 73 68 0), J)) rfl ?_
      refine zr_one (if v2 = 0 then zN 28 [some (.ref 73), some (.int v1), some (.int v2), some (.int v3)] [] (SH, (zu I 73 68 0), J) else zN 37 [some (.ref 73), some (.int v1), some (.int v2), some (.int v3)] [] (SH, (zu I 73 68 0), J)) rfl (zR_if (fun hc15 => zR_go ?_) (fun hc15 => zR_go ?_))
      · rw [if_pos hc15] at h
        refine zr_steps 3 (31, [some (.ref 73), some (.int v1), some (.int v2), some (.int v3)], [.int v3, .int v1, .ref 73], (SH, (zu I 73 68 0), J)) rfl ?_
        obtain ⟨t6, hc5, h⟩ := zbind h
        refine zr_one (some (.inr (.inl (199, [.ref 73, .int v1, .int v3], [], 34)))) rfl (zR_call (by omega) rfl (ok_f199_goes (by omega) v1 v3 _ hc5) ?_)
        refine zr_steps 1 (71, [some (.ref 73), some (.int v1), some (.int v2), some (.int v3)], [.int t6.1], (SH, t6.2, J)) rfl ?_
        have he := Option.some.inj h
        subst he
        exact zr_one (some (.inr (.inr (some (.int t6.1))))) rfl (zR_ret rfl rfl)
      · rw [if_neg hc15] at h
        refine zr_steps 2 (39, [some (.ref 73), some (.int v1), some (.int v2), some (.int v3)], [.int 1, .int v2], (SH, (zu I 73 68 0), J)) rfl ?_
        refine zr_one (if v2 = 1 then zN 42 [some (.ref 73), some (.int v1), some (.int v2), some (.int v3)] [] (SH, (zu I 73 68 0), J) else zN 51 [some (.ref 73), some (.int v1), some (.int v2), some (.int v3)] [] (SH, (zu I 73 68 0), J)) rfl (zR_if (fun hc14 => zR_go ?_) (fun hc14 => zR_go ?_))
        · rw [if_pos hc14] at h
          refine zr_steps 3 (45, [some (.ref 73), some (.int v1), some (.int v2), some (.int v3)], [.int v3, .int v1, .ref 73], (SH, (zu I 73 68 0), J)) rfl ?_
          obtain ⟨t8, hc7, h⟩ := zbind h
          refine zr_one (some (.inr (.inl (202, [.ref 73, .int v1, .int v3], [], 48)))) rfl (zR_call (by omega) rfl (ok_f202_sees (by omega) v1 v3 _ hc7) ?_)
          refine zr_steps 1 (71, [some (.ref 73), some (.int v1), some (.int v2), some (.int v3)], [.int t8.1], (SH, t8.2, J)) rfl ?_
          have he := Option.some.inj h
          subst he
          exact zr_one (some (.inr (.inr (some (.int t8.1))))) rfl (zR_ret rfl rfl)
        · rw [if_neg hc14] at h
          refine zr_steps 2 (53, [some (.ref 73), some (.int v1), some (.int v2), some (.int v3)], [.int 2, .int v2], (SH, (zu I 73 68 0), J)) rfl ?_
          refine zr_one (if v2 = 2 then zN 56 [some (.ref 73), some (.int v1), some (.int v2), some (.int v3)] [] (SH, (zu I 73 68 0), J) else zN 65 [some (.ref 73), some (.int v1), some (.int v2), some (.int v3)] [] (SH, (zu I 73 68 0), J)) rfl (zR_if (fun hc13 => zR_go ?_) (fun hc13 => zR_go ?_))
          · rw [if_pos hc13] at h
            refine zr_steps 3 (59, [some (.ref 73), some (.int v1), some (.int v2), some (.int v3)], [.int v3, .int v1, .ref 73], (SH, (zu I 73 68 0), J)) rfl ?_
            obtain ⟨t10, hc9, h⟩ := zbind h
            refine zr_one (some (.inr (.inl (204, [.ref 73, .int v1, .int v3], [], 62)))) rfl (zR_call (by omega) rfl (ok_f204_waits (by omega) v1 v3 _ hc9) ?_)
            refine zr_steps 1 (71, [some (.ref 73), some (.int v1), some (.int v2), some (.int v3)], [.int t10.1], (SH, t10.2, J)) rfl ?_
            have he := Option.some.inj h
            subst he
            exact zr_one (some (.inr (.inr (some (.int t10.1))))) rfl (zR_ret rfl rfl)
          · rw [if_neg hc13] at h
            refine zr_steps 3 (68, [some (.ref 73), some (.int v1), some (.int v2), some (.int v3)], [.int v3, .int v1, .ref 73], (SH, (zu I 73 68 0), J)) rfl ?_
            obtain ⟨t12, hc11, h⟩ := zbind h
            refine zr_one (some (.inr (.inl (207, [.ref 73, .int v1, .int v3], [], 71)))) rfl (zR_call (by omega) rfl (ok_f207_telling (by omega) v1 v3 _ hc11) ?_)
            have he := Option.some.inj h
            subst he
            exact zr_one (some (.inr (.inr (some (.int t12.1))))) rfl (zR_ret rfl rfl)
set_option maxRecDepth 100000 in
set_option maxHeartbeats 4000000 in
theorem ok_f117_trace {X : zX} {d : Nat} (hd : 1 ≤ d) (v1 : Int32) {I : (Nat → Nat → Int32)} {J : (Nat → Nat → Int64)} (t : Int32) (h : f117_trace v1 I = some t) : zRun X d 117 0 (zent 117 [.ref 0, .int v1]) [] (SH, I, J) (some (.int t)) (SH, I, J) := by
  unfold f117_trace at h
  refine zr_steps 9 (16, [some (.ref 0), some (.int v1)], [.int ((zmin (I 57 3) 24) - 1), .int 0, .int v1], (SH, I, J)) rfl ?_
  obtain ⟨t2, hc1, h⟩ := zbind h
  refine zr_one (some (.inr (.inl (126, [.int v1, .int 0, .int ((zmin (I 57 3) 24) - 1)], [], 19)))) rfl (zR_call (by omega) rfl (ok_f126_within (by omega) v1 0 ((zmin (I 57 3) 24) - 1) _ hc1) ?_)
  refine zr_one (if t2 = 0 then zN 34 [some (.ref 0), some (.int v1)] [] (SH, I, J) else zN 22 [some (.ref 0), some (.int v1)] [] (SH, I, J)) rfl (zR_if (fun hc4 => zR_go ?_) (fun hc4 => zR_go ?_))
  · rw [if_pos hc4] at h
    refine zr_steps 1 (35, [some (.ref 0), some (.int v1)], [.int (-1)], (SH, I, J)) rfl ?_
    have he := Option.some.inj h
    subst he
    exact zr_one (some (.inr (.inr (some (.int (-1)))))) rfl (zR_ret rfl rfl)
  · rw [if_neg hc4] at h
    refine zr_steps 4 (30, [some (.ref 0), some (.int v1)], [.int v1, .ref 59], (SH, I, J)) rfl ?_
    obtain ⟨hc3, h⟩ := zbifo h
    refine zr_one (bif zin v1 24 then zN 31 [some (.ref 0), some (.int v1)] [.int (I 59 v1.toNatClampNeg)] (SH, I, J) else none) rfl (zR_bif hc3 (zR_go ?_))
    refine zr_steps 1 (35, [some (.ref 0), some (.int v1)], [.int (I 59 v1.toNatClampNeg)], (SH, I, J)) rfl ?_
    have he := Option.some.inj h
    subst he
    exact zr_one (some (.inr (.inr (some (.int (I 59 v1.toNatClampNeg)))))) rfl (zR_ret rfl rfl)
set_option maxRecDepth 100000 in
set_option maxHeartbeats 4000000 in
theorem ok_f194_trace {X : zX} {d : Nat} (hd : 0 ≤ d) (v1 : Int32) {I : (Nat → Nat → Int32)} {J : (Nat → Nat → Int64)} (t : Int32) (h : f194_trace v1 I = some t) : zRun X d 194 0 (zent 194 [.ref 73, .int v1]) [] (SH, I, J) (some (.int t)) (SH, I, J) := by
  unfold f194_trace at h
  refine zr_steps 1 (1, [some (.ref 73), some (.int v1)], [.int v1], (SH, I, J)) rfl ?_
  refine zr_one (if v1 < 0 then zN 27 [some (.ref 73), some (.int v1)] [] (SH, I, J) else zN 4 [some (.ref 73), some (.int v1)] [] (SH, I, J)) rfl (zR_if (fun hc4 => zR_go ?_) (fun hc4 => zR_go ?_))
  · rw [if_pos hc4] at h
    refine zr_steps 1 (28, [some (.ref 73), some (.int v1)], [.int (-1)], (SH, I, J)) rfl ?_
    have he := Option.some.inj h
    subst he
    exact zr_one (some (.inr (.inr (some (.int (-1)))))) rfl (zR_ret rfl rfl)
  · rw [if_neg hc4] at h
    refine zr_steps 3 (9, [some (.ref 73), some (.int v1)], [.int (I 73 68), .int v1], (SH, I, J)) rfl ?_
    refine zr_one (if (I 73 68) ≤ v1 then zN 27 [some (.ref 73), some (.int v1)] [] (SH, I, J) else zN 12 [some (.ref 73), some (.int v1)] [] (SH, I, J)) rfl (zR_if (fun hc3 => zR_go ?_) (fun hc3 => zR_go ?_))
    · rw [if_pos hc3] at h
      refine zr_steps 1 (28, [some (.ref 73), some (.int v1)], [.int (-1)], (SH, I, J)) rfl ?_
      have he := Option.some.inj h
      subst he
      exact zr_one (some (.inr (.inr (some (.int (-1)))))) rfl (zR_ret rfl rfl)
    · rw [if_neg hc3] at h
      refine zr_steps 2 (15, [some (.ref 73), some (.int v1)], [.int 24, .int v1], (SH, I, J)) rfl ?_
      refine zr_one (if (24 : Int32) ≤ v1 then zN 27 [some (.ref 73), some (.int v1)] [] (SH, I, J) else zN 18 [some (.ref 73), some (.int v1)] [] (SH, I, J)) rfl (zR_if (fun hc2 => zR_go ?_) (fun hc2 => zR_go ?_))
      · rw [if_pos hc2] at h
        refine zr_steps 1 (28, [some (.ref 73), some (.int v1)], [.int (-1)], (SH, I, J)) rfl ?_
        have he := Option.some.inj h
        subst he
        exact zr_one (some (.inr (.inr (some (.int (-1)))))) rfl (zR_ret rfl rfl)
      · rw [if_neg hc2] at h
        refine zr_steps 3 (23, [some (.ref 73), some (.int v1)], [.int v1, .ref 109], (SH, I, J)) rfl ?_
        obtain ⟨hc1, h⟩ := zbifo h
        refine zr_one (bif zin v1 24 then zN 24 [some (.ref 73), some (.int v1)] [.int (I 109 v1.toNatClampNeg)] (SH, I, J) else none) rfl (zR_bif hc1 (zR_go ?_))
        refine zr_steps 1 (28, [some (.ref 73), some (.int v1)], [.int (I 109 v1.toNatClampNeg)], (SH, I, J)) rfl ?_
        have he := Option.some.inj h
        subst he
        exact zr_one (some (.inr (.inr (some (.int (I 109 v1.toNatClampNeg)))))) rfl (zR_ret rfl rfl)
set_option maxRecDepth 100000 in
set_option maxHeartbeats 4000000 in
theorem ok_f53_holdBody {X : zX} {d : Nat} (hd : 0 ≤ d) (v0 : Nat) (v1 : Int32) (hs0 : zIsShelf v0) {I : (Nat → Nat → Int32)} {J : (Nat → Nat → Int64)} (t : (Nat → Nat → Int32)) (h : f53_holdBody v0 v1 I = some t) : zRun X d 53 0 (zent 53 [.ref v0, .int v1]) [] (SH, I, J) none (SH, t, J) := by
  unfold f53_holdBody at h
  refine zr_steps 2 (2, [some (.ref v0), some (.int v1)], [.int v1, .ref v0], (SH, I, J)) rfl ?_
  refine zr_one (zfput 53 2 4 0 [some (.ref v0), some (.int v1)] [.int v1, .ref v0] (SH, I, J)) rfl (sR_put hs0 (by decide) ?_)
  refine zr_steps 2 (7, [some (.ref v0), some (.int v1)], [.int (-1), .ref v0], (SH, (zu I v0 0 v1), J)) rfl ?_
  refine zr_one (zfput 53 7 4 1 [some (.ref v0), some (.int v1)] [.int (-1), .ref v0] (SH, (zu I v0 0 v1), J)) rfl (sR_put hs0 (by decide) ?_)
  refine zr_steps 2 (12, [some (.ref v0), some (.int v1)], [.int 0, .ref v0], (SH, (zu (zu I v0 0 v1) v0 1 (-1)), J)) rfl ?_
  refine zr_one (zfput 53 12 4 2 [some (.ref v0), some (.int v1)] [.int 0, .ref v0] (SH, (zu (zu I v0 0 v1) v0 1 (-1)), J)) rfl (sR_put hs0 (by decide) ?_)
  have he := Option.some.inj h
  subst he
  exact zr_one (some (.inr (.inr none))) rfl (zR_ret rfl rfl)
set_option maxRecDepth 100000 in
set_option maxHeartbeats 4000000 in
theorem ok_f118_keep {X : zX} {d : Nat} (hd : 2 ≤ d) (v1 : Int32) (v2 : Int32) {I : (Nat → Nat → Int32)} {J : (Nat → Nat → Int64)} (t : (Int32 × (Nat → Nat → Int32))) (h : f118_keep v1 v2 I = some t) : zRun X d 118 0 (zent 118 [.ref 0, .int v1, .int v2]) [] (SH, I, J) (some (.int t.1)) (SH, t.2, J) := by
  unfold f118_keep at h
  refine zr_steps 1 (1, [some (.ref 0), some (.int v1), some (.int v2)], [.int v1], (SH, I, J)) rfl ?_
  obtain ⟨t2, hc1, h⟩ := zbind h
  refine zr_one (some (.inr (.inl (127, [.int v1], [], 4)))) rfl (zR_call (by omega) rfl (ok_f127_isShelf (by omega) v1 _ hc1) ?_)
  refine zr_one (if t2 = 0 then zN 23 [some (.ref 0), some (.int v1), some (.int v2)] [] (SH, I, J) else zN 7 [some (.ref 0), some (.int v1), some (.int v2)] [] (SH, I, J)) rfl (zR_if (fun hc13 => zR_go ?_) (fun hc13 => zR_go ?_))
  · rw [if_pos hc13] at h
    refine zr_steps 1 (24, [some (.ref 0), some (.int v1), some (.int v2)], [.int (-1)], (SH, I, J)) rfl ?_
    have he := Option.some.inj h
    subst he
    exact zr_one (some (.inr (.inr (some (.int (-1)))))) rfl (zR_ret rfl rfl)
  · rw [if_neg hc13] at h
    refine zr_steps 2 (9, [some (.ref 0), some (.int v1), some (.int v2)], [.int (-1), .int v2], (SH, I, J)) rfl ?_
    refine zr_one (if v2 = (-1) then zN 25 [some (.ref 0), some (.int v1), some (.int v2)] [] (SH, I, J) else zN 12 [some (.ref 0), some (.int v1), some (.int v2)] [] (SH, I, J)) rfl (zR_if (fun hc12 => zR_go ?_) (fun hc12 => zR_go ?_))
    · rw [if_pos hc12] at h
      refine zr_steps 3 (30, [some (.ref 0), some (.int v1), some (.int v2)], [.int v1, .ref 60], (SH, I, J)) rfl ?_
      obtain ⟨hc3, h⟩ := zbifo h
      refine zr_one (bif zin v1 6 then zrefr 31 [some (.ref 0), some (.int v1), some (.int v2)] [] (SH, I, J) (zri (SH, I, J) 60 v1.toNatClampNeg) else none) rfl (zR_bif hc3 (zR_ref (sh_at hc3) ?_))
      refine zr_steps 1 (32, [some (.ref 0), some (.int v1), some (.int v2)], [.int v2, .ref (zshelf v1)], (SH, I, J)) rfl ?_
      obtain ⟨t5, hc4, h⟩ := zbind h
      refine zr_one (bif zrcv (SH, I, J) 53 [.ref (zshelf v1), .int v2] then some (.inr (.inl (53, [.ref (zshelf v1), .int v2], [], 35))) else none) rfl (zR_bif (sh_rcv (sh_is hc3) rfl rfl) (zR_call (by omega) rfl (ok_f53_holdBody (by omega) (zshelf v1) v2 (sh_is hc3) _ hc4) ?_))
      refine zr_steps 1 (36, [some (.ref 0), some (.int v1), some (.int v2)], [.int 1], (SH, t5, J)) rfl ?_
      have he := Option.some.inj h
      subst he
      exact zr_one (some (.inr (.inr (some (.int 1))))) rfl (zR_ret rfl rfl)
    · rw [if_neg hc12] at h
      refine zr_steps 3 (17, [some (.ref 0), some (.int v1), some (.int v2)], [.int v2, .ref 57], (SH, I, J)) rfl ?_
      obtain ⟨t7, hc6, h⟩ := zbind h
      refine zr_one (some (.inr (.inl (4, [.ref 57, .int v2], [], 20)))) rfl (zR_call (by omega) rfl (ok_f4_isBody (by omega) v2 _ hc6) ?_)
      refine zr_one (if t7 = 0 then zN 23 [some (.ref 0), some (.int v1), some (.int v2)] [] (SH, I, J) else zN 25 [some (.ref 0), some (.int v1), some (.int v2)] [] (SH, I, J)) rfl (zR_if (fun hc11 => zR_go ?_) (fun hc11 => zR_go ?_))
      · rw [if_pos hc11] at h
        refine zr_steps 1 (24, [some (.ref 0), some (.int v1), some (.int v2)], [.int (-1)], (SH, I, J)) rfl ?_
        have he := Option.some.inj h
        subst he
        exact zr_one (some (.inr (.inr (some (.int (-1)))))) rfl (zR_ret rfl rfl)
      · rw [if_neg hc11] at h
        refine zr_steps 3 (30, [some (.ref 0), some (.int v1), some (.int v2)], [.int v1, .ref 60], (SH, I, J)) rfl ?_
        obtain ⟨hc8, h⟩ := zbifo h
        refine zr_one (bif zin v1 6 then zrefr 31 [some (.ref 0), some (.int v1), some (.int v2)] [] (SH, I, J) (zri (SH, I, J) 60 v1.toNatClampNeg) else none) rfl (zR_bif hc8 (zR_ref (sh_at hc8) ?_))
        refine zr_steps 1 (32, [some (.ref 0), some (.int v1), some (.int v2)], [.int v2, .ref (zshelf v1)], (SH, I, J)) rfl ?_
        obtain ⟨t10, hc9, h⟩ := zbind h
        refine zr_one (bif zrcv (SH, I, J) 53 [.ref (zshelf v1), .int v2] then some (.inr (.inl (53, [.ref (zshelf v1), .int v2], [], 35))) else none) rfl (zR_bif (sh_rcv (sh_is hc8) rfl rfl) (zR_call (by omega) rfl (ok_f53_holdBody (by omega) (zshelf v1) v2 (sh_is hc8) _ hc9) ?_))
        refine zr_steps 1 (36, [some (.ref 0), some (.int v1), some (.int v2)], [.int 1], (SH, t10, J)) rfl ?_
        have he := Option.some.inj h
        subst he
        exact zr_one (some (.inr (.inr (some (.int 1))))) rfl (zR_ret rfl rfl)
set_option maxRecDepth 100000 in
set_option maxHeartbeats 4000000 in
theorem ok_f211_keep {X : zX} {d : Nat} (hd : 2 ≤ d) (v1 : Int32) (v2 : Int32) {I : (Nat → Nat → Int32)} {J : (Nat → Nat → Int64)} (t : (Int32 × (Nat → Nat → Int32))) (h : f211_keep v1 v2 I = some t) : zRun X d 211 0 (zent 211 [.ref 73, .int v1, .int v2]) [] (SH, I, J) (some (.int t.1)) (SH, t.2, J) := by
  unfold f211_keep at h
  refine zr_steps 1 (1, [some (.ref 73), some (.int v1), some (.int v2)], [.int v1], (SH, I, J)) rfl ?_
  obtain ⟨t2, hc1, h⟩ := zbind h
  refine zr_one (some (.inr (.inl (210, [.int v1], [], 4)))) rfl (zR_call (by omega) rfl (ok_f210_isShelf (by omega) v1 _ hc1) ?_)
  refine zr_one (if t2 = 0 then zN 20 [some (.ref 73), some (.int v1), some (.int v2)] [] (SH, I, J) else zN 7 [some (.ref 73), some (.int v1), some (.int v2)] [] (SH, I, J)) rfl (zR_if (fun hc9 => zR_go ?_) (fun hc9 => zR_go ?_))
  · rw [if_pos hc9] at h
    refine zr_steps 1 (21, [some (.ref 73), some (.int v1), some (.int v2)], [.int (-1)], (SH, I, J)) rfl ?_
    have he := Option.some.inj h
    subst he
    exact zr_one (some (.inr (.inr (some (.int (-1)))))) rfl (zR_ret rfl rfl)
  · rw [if_neg hc9] at h
    refine zr_steps 2 (9, [some (.ref 73), some (.int v1), some (.int v2)], [.int (-1), .int v2], (SH, I, J)) rfl ?_
    refine zr_one (if v2 = (-1) then zN 22 [some (.ref 73), some (.int v1), some (.int v2)] [] (SH, I, J) else zN 12 [some (.ref 73), some (.int v1), some (.int v2)] [] (SH, I, J)) rfl (zR_if (fun hc8 => zR_go ?_) (fun hc8 => zR_go ?_))
    · rw [if_pos hc8] at h
      refine zr_steps 4 (28, [some (.ref 73), some (.int v1), some (.int v2)], [.int v2, .int v1, .ref 110], (SH, I, J)) rfl ?_
      obtain ⟨hc3, h⟩ := zbifo h
      refine zr_one (bif zin v1 6 then zN 29 [some (.ref 73), some (.int v1), some (.int v2)] [] (SH, (zu I 110 v1.toNatClampNeg v2), J) else none) rfl (zR_bif hc3 (zR_go ?_))
      refine zr_steps 1 (30, [some (.ref 73), some (.int v1), some (.int v2)], [.int 1], (SH, (zu I 110 v1.toNatClampNeg v2), J)) rfl ?_
      have he := Option.some.inj h
      subst he
      exact zr_one (some (.inr (.inr (some (.int 1))))) rfl (zR_ret rfl rfl)
    · rw [if_neg hc8] at h
      refine zr_steps 2 (14, [some (.ref 73), some (.int v1), some (.int v2)], [.int v2, .ref 73], (SH, I, J)) rfl ?_
      obtain ⟨t5, hc4, h⟩ := zbind h
      refine zr_one (some (.inr (.inl (192, [.ref 73, .int v2], [], 17)))) rfl (zR_call (by omega) rfl (ok_f192_isBody (by omega) v2 _ hc4) ?_)
      refine zr_one (if t5 = 0 then zN 20 [some (.ref 73), some (.int v1), some (.int v2)] [] (SH, I, J) else zN 22 [some (.ref 73), some (.int v1), some (.int v2)] [] (SH, I, J)) rfl (zR_if (fun hc7 => zR_go ?_) (fun hc7 => zR_go ?_))
      · rw [if_pos hc7] at h
        refine zr_steps 1 (21, [some (.ref 73), some (.int v1), some (.int v2)], [.int (-1)], (SH, I, J)) rfl ?_
        have he := Option.some.inj h
        subst he
        exact zr_one (some (.inr (.inr (some (.int (-1)))))) rfl (zR_ret rfl rfl)
      · rw [if_neg hc7] at h
        refine zr_steps 4 (28, [some (.ref 73), some (.int v1), some (.int v2)], [.int v2, .int v1, .ref 110], (SH, I, J)) rfl ?_
        obtain ⟨hc6, h⟩ := zbifo h
        refine zr_one (bif zin v1 6 then zN 29 [some (.ref 73), some (.int v1), some (.int v2)] [] (SH, (zu I 110 v1.toNatClampNeg v2), J) else none) rfl (zR_bif hc6 (zR_go ?_))
        refine zr_steps 1 (30, [some (.ref 73), some (.int v1), some (.int v2)], [.int 1], (SH, (zu I 110 v1.toNatClampNeg v2), J)) rfl ?_
        have he := Option.some.inj h
        subst he
        exact zr_one (some (.inr (.inr (some (.int 1))))) rfl (zR_ret rfl rfl)
set_option maxRecDepth 100000 in
set_option maxHeartbeats 4000000 in
theorem ok_f54_holdRow_L17 {X : zX} {d : Nat} {r : Option Value} {M' : zM} (hd : 0 ≤ d) (v0 : Nat) (hs0 : zIsShelf v0) {I : (Nat → Nat → Int32)} : ∀ (n : Nat) (s x : (Int32 × (Nat → Nat → Int64))), zloop (f54_holdRow_L17 v0 I) n s = some x → (fun (x : (Int32 × (Nat → Nat → Int64))) => zRun X d 54 36 [none, none, none, none] [] (SH, I, x.2) r M') x → (fun (s : (Int32 × (Nat → Nat → Int64))) => zRun X d 54 17 [some (.ref v0), none, none, some (.int s.1)] [] (SH, I, s.2) r M') s := zloop_ok (B := (f54_holdRow_L17 v0 I)) (Wh := fun (s : (Int32 × (Nat → Nat → Int64))) => zRun X d 54 17 [some (.ref v0), none, none, some (.int s.1)] [] (SH, I, s.2) r M') (Wx := fun (x : (Int32 × (Nat → Nat → Int64))) => zRun X d 54 36 [none, none, none, none] [] (SH, I, x.2) r M') (fun s y h w => by
  unfold f54_holdRow_L17 at h
  refine zr_steps 2 (20, [some (.ref v0), none, none, some (.int s.1)], [.int 60, .int s.1], (SH, I, s.2)) rfl ?_
  refine zr_one (if (60 : Int32) ≤ s.1 then zN 36 [some (.ref v0), none, none, some (.int s.1)] [] (SH, I, s.2) else zN 23 [some (.ref v0), none, none, some (.int s.1)] [] (SH, I, s.2)) rfl (zR_if (fun hc2 => zR_go ?_) (fun hc2 => zR_go ?_))
  · rw [if_pos hc2] at h
    have he := Option.some.inj h
    subst he
    exact zr_hdv (ls2 := [none, none, none, none]) rfl rfl (show zRun X d 54 36 [none, none, none, none] [] (SH, I, s.2) r M' from w)
  · rw [if_neg hc2] at h
    refine zr_steps 1 (24, [some (.ref v0), none, none, some (.int s.1)], [.ref v0], (SH, I, s.2)) rfl ?_
    refine zr_one (zfget 24 4 3 [some (.ref v0), none, none, some (.int s.1)] [.ref v0] (SH, I, s.2)) rfl (sR_gete hs0 ?_)
    refine zr_steps 2 (29, [some (.ref v0), none, none, some (.int s.1)], [.long 0, .int s.1, .ref (v0 + 1)], (SH, I, s.2)) rfl ?_
    obtain ⟨hc1, h⟩ := zbifo h
    refine zr_one (zlast 29 [some (.ref v0), none, none, some (.int s.1)] [.long 0, .int s.1, .ref (v0 + 1)] (SH, I, s.2)) rfl (sR_last hs0 hc1 ?_)
    refine zr_steps 2 (17, [some (.ref v0), none, none, some (.int (s.1 + 1))], [], (SH, I, (zuj s.2 (v0 + 1) s.1.toNatClampNeg 0))) rfl ?_
    have he := Option.some.inj h
    subst he
    exact zr_hdr (ls2 := [some (.ref v0), none, none, some (.int (s.1 + 1))]) rfl rfl (show zRun X d 54 17 [some (.ref v0), none, none, some (.int (s.1 + 1))] [] (SH, I, (zuj s.2 (v0 + 1) s.1.toNatClampNeg 0)) r M' from w))
set_option maxRecDepth 100000 in
set_option maxHeartbeats 4000000 in
theorem ok_f54_holdRow {X : zX} {d : Nat} (hd : 0 ≤ d) (v0 : Nat) (v1 : Int32) (v2 : Int32) (hs0 : zIsShelf v0) {I : (Nat → Nat → Int32)} {J : (Nat → Nat → Int64)} (t : ((Nat → Nat → Int32) × (Nat → Nat → Int64))) (h : f54_holdRow v0 v1 v2 I J = some t) : zRun X d 54 0 (zent 54 [.ref v0, .int v1, .int v2]) [] (SH, I, J) none (SH, t.1, t.2) := by
  unfold f54_holdRow at h
  refine zr_steps 2 (2, [some (.ref v0), some (.int v1), some (.int v2), none], [.int (-1), .ref v0], (SH, I, J)) rfl ?_
  refine zr_one (zfput 54 2 4 0 [some (.ref v0), some (.int v1), some (.int v2), none] [.int (-1), .ref v0] (SH, I, J)) rfl (sR_put hs0 (by decide) ?_)
  refine zr_steps 2 (7, [some (.ref v0), some (.int v1), some (.int v2), none], [.int v1, .ref v0], (SH, (zu I v0 0 (-1)), J)) rfl ?_
  refine zr_one (zfput 54 7 4 1 [some (.ref v0), some (.int v1), some (.int v2), none] [.int v1, .ref v0] (SH, (zu I v0 0 (-1)), J)) rfl (sR_put hs0 (by decide) ?_)
  refine zr_steps 2 (12, [some (.ref v0), some (.int v1), some (.int v2), none], [.int v2, .ref v0], (SH, (zu (zu I v0 0 (-1)) v0 1 v1), J)) rfl ?_
  refine zr_one (zfput 54 12 4 2 [some (.ref v0), some (.int v1), some (.int v2), none] [.int v2, .ref v0] (SH, (zu (zu I v0 0 (-1)) v0 1 v1), J)) rfl (sR_put hs0 (by decide) ?_)
  refine zr_steps 2 (17, [some (.ref v0), some (.int v1), some (.int v2), some (.int 0)], [], (SH, (zu (zu (zu I v0 0 (-1)) v0 1 v1) v0 2 v2), J)) rfl ?_
  obtain ⟨s3, ho4, h⟩ := zbind h
  refine zr_hdr (ls2 := [some (.ref v0), none, none, some (.int 0)]) rfl rfl ?_
  refine ok_f54_holdRow_L17 (by omega) v0 hs0 5000 ((0 : Int32), J) s3 ho4 ?_
  show zRun X d 54 36 [none, none, none, none] [] (SH, (zu (zu (zu I v0 0 (-1)) v0 1 v1) v0 2 v2), s3.2) _ _
  have he := Option.some.inj h
  subst he
  exact zr_one (some (.inr (.inr none))) rfl (zR_ret rfl rfl)
set_option maxRecDepth 100000 in
set_option maxHeartbeats 4000000 in
theorem ok_f119_row {X : zX} {d : Nat} (hd : 2 ≤ d) (v1 : Int32) (v2 : Int32) (v3 : Int32) {I : (Nat → Nat → Int32)} {J : (Nat → Nat → Int64)} (t : (Int32 × (Nat → Nat → Int32) × (Nat → Nat → Int64))) (h : f119_row v1 v2 v3 I J = some t) : zRun X d 119 0 (zent 119 [.ref 0, .int v1, .int v2, .int v3]) [] (SH, I, J) (some (.int t.1)) (SH, t.2.1, t.2.2) := by
  unfold f119_row at h
  refine zr_steps 1 (1, [some (.ref 0), some (.int v1), some (.int v2), some (.int v3)], [.int v1], (SH, I, J)) rfl ?_
  obtain ⟨t2, hc1, h⟩ := zbind h
  refine zr_one (some (.inr (.inl (127, [.int v1], [], 4)))) rfl (zR_call (by omega) rfl (ok_f127_isShelf (by omega) v1 _ hc1) ?_)
  refine zr_one (if t2 = 0 then zN 22 [some (.ref 0), some (.int v1), some (.int v2), some (.int v3)] [] (SH, I, J) else zN 7 [some (.ref 0), some (.int v1), some (.int v2), some (.int v3)] [] (SH, I, J)) rfl (zR_if (fun hc11 => zR_go ?_) (fun hc11 => zR_go ?_))
  · rw [if_pos hc11] at h
    refine zr_steps 1 (23, [some (.ref 0), some (.int v1), some (.int v2), some (.int v3)], [.int (-1)], (SH, I, J)) rfl ?_
    have he := Option.some.inj h
    subst he
    exact zr_one (some (.inr (.inr (some (.int (-1)))))) rfl (zR_ret rfl rfl)
  · rw [if_neg hc11] at h
    refine zr_steps 3 (10, [some (.ref 0), some (.int v1), some (.int v2), some (.int v3)], [.int 4, .int 0, .int v2], (SH, I, J)) rfl ?_
    obtain ⟨t4, hc3, h⟩ := zbind h
    refine zr_one (some (.inr (.inl (126, [.int v2, .int 0, .int 4], [], 13)))) rfl (zR_call (by omega) rfl (ok_f126_within (by omega) v2 0 4 _ hc3) ?_)
    refine zr_one (if t4 = 0 then zN 22 [some (.ref 0), some (.int v1), some (.int v2), some (.int v3)] [] (SH, I, J) else zN 16 [some (.ref 0), some (.int v1), some (.int v2), some (.int v3)] [] (SH, I, J)) rfl (zR_if (fun hc10 => zR_go ?_) (fun hc10 => zR_go ?_))
    · rw [if_pos hc10] at h
      refine zr_steps 1 (23, [some (.ref 0), some (.int v1), some (.int v2), some (.int v3)], [.int (-1)], (SH, I, J)) rfl ?_
      have he := Option.some.inj h
      subst he
      exact zr_one (some (.inr (.inr (some (.int (-1)))))) rfl (zR_ret rfl rfl)
    · rw [if_neg hc10] at h
      refine zr_steps 2 (19, [some (.ref 0), some (.int v1), some (.int v2), some (.int v3)], [.int 60, .int v3], (SH, I, J)) rfl ?_
      refine zr_one (if v3 ≤ 60 then zN 24 [some (.ref 0), some (.int v1), some (.int v2), some (.int v3)] [] (SH, I, J) else zN 22 [some (.ref 0), some (.int v1), some (.int v2), some (.int v3)] [] (SH, I, J)) rfl (zR_if (fun hc9 => zR_go ?_) (fun hc9 => zR_go ?_))
      · rw [if_pos hc9] at h
        refine zr_steps 1 (25, [some (.ref 0), some (.int v1), some (.int v2), some (.int v3)], [.int v3], (SH, I, J)) rfl ?_
        refine zr_one (if (0 : Int32) ≤ v3 then zN 31 [some (.ref 0), some (.int v1), some (.int v2), some (.int v3)] [] (SH, I, J) else zN 28 [some (.ref 0), some (.int v1), some (.int v2), some (.int v3)] [] (SH, I, J)) rfl (zR_if (fun hc8 => zR_go ?_) (fun hc8 => zR_go ?_))
        · rw [if_pos hc8] at h
          refine zr_steps 3 (36, [some (.ref 0), some (.int v1), some (.int v2), some (.int v3)], [.int v1, .ref 60], (SH, I, J)) rfl ?_
          obtain ⟨hc5, h⟩ := zbifo h
          refine zr_one (bif zin v1 6 then zrefr 37 [some (.ref 0), some (.int v1), some (.int v2), some (.int v3)] [] (SH, I, J) (zri (SH, I, J) 60 v1.toNatClampNeg) else none) rfl (zR_bif hc5 (zR_ref (sh_at hc5) ?_))
          refine zr_steps 2 (39, [some (.ref 0), some (.int v1), some (.int v2), some (.int v3)], [.int v3, .int v2, .ref (zshelf v1)], (SH, I, J)) rfl ?_
          obtain ⟨t7, hc6, h⟩ := zbind h
          refine zr_one (bif zrcv (SH, I, J) 54 [.ref (zshelf v1), .int v2, .int v3] then some (.inr (.inl (54, [.ref (zshelf v1), .int v2, .int v3], [], 42))) else none) rfl (zR_bif (sh_rcv (sh_is hc5) rfl rfl) (zR_call (by omega) rfl (ok_f54_holdRow (by omega) (zshelf v1) v2 v3 (sh_is hc5) _ hc6) ?_))
          refine zr_steps 1 (43, [some (.ref 0), some (.int v1), some (.int v2), some (.int v3)], [.int 1], (SH, t7.1, t7.2)) rfl ?_
          have he := Option.some.inj h
          subst he
          exact zr_one (some (.inr (.inr (some (.int 1))))) rfl (zR_ret rfl rfl)
        · rw [if_neg hc8] at h
          refine zr_steps 1 (30, [some (.ref 0), some (.int v1), some (.int v2), some (.int v3)], [.int (-14)], (SH, I, J)) rfl ?_
          have he := Option.some.inj h
          subst he
          exact zr_one (some (.inr (.inr (some (.int (-14)))))) rfl (zR_ret rfl rfl)
      · rw [if_neg hc9] at h
        refine zr_steps 1 (23, [some (.ref 0), some (.int v1), some (.int v2), some (.int v3)], [.int (-1)], (SH, I, J)) rfl ?_
        have he := Option.some.inj h
        subst he
        exact zr_one (some (.inr (.inr (some (.int (-1)))))) rfl (zR_ret rfl rfl)
set_option maxRecDepth 100000 in
set_option maxHeartbeats 4000000 in
theorem ok_f212_row_L54 {X : zX} {d : Nat} {r : Option Value} {M' : zM} (hd : 2 ≤ d) (v1 : Int32) {I : (Nat → Nat → Int32)} : ∀ (n : Nat) (s x : (Int32 × (Nat → Nat → Int64))), zloop (f212_row_L54 v1 I) n s = some x → (fun (x : (Int32 × (Nat → Nat → Int64))) => zRun X d 212 80 [none, none, none, none, none] [] (SH, I, x.2) r M') x → (fun (s : (Int32 × (Nat → Nat → Int64))) => zRun X d 212 54 [some (.ref 73), some (.int v1), none, none, some (.int s.1)] [] (SH, I, s.2) r M') s := zloop_ok (B := (f212_row_L54 v1 I)) (Wh := fun (s : (Int32 × (Nat → Nat → Int64))) => zRun X d 212 54 [some (.ref 73), some (.int v1), none, none, some (.int s.1)] [] (SH, I, s.2) r M') (Wx := fun (x : (Int32 × (Nat → Nat → Int64))) => zRun X d 212 80 [none, none, none, none, none] [] (SH, I, x.2) r M') (fun s y h w => by
  unfold f212_row_L54 at h
  refine zr_steps 6 (63, [some (.ref 73), some (.int v1), none, none, some (.int s.1)], [.int ((60 * v1) + 60), .int s.1], (SH, I, s.2)) rfl ?_
  refine zr_one (if ((60 * v1) + 60) ≤ s.1 then zN 80 [some (.ref 73), some (.int v1), none, none, some (.int s.1)] [] (SH, I, s.2) else zN 66 [some (.ref 73), some (.int v1), none, none, some (.int s.1)] [] (SH, I, s.2)) rfl (zR_if (fun hc8 => zR_go ?_) (fun hc8 => zR_go ?_))
  · rw [if_pos hc8] at h
    have he := Option.some.inj h
    subst he
    exact zr_hdr (ls2 := [none, none, none, none, none]) rfl rfl (show zRun X d 212 80 [none, none, none, none, none] [] (SH, I, s.2) r M' from w)
  · rw [if_neg hc8] at h
    refine zr_steps 4 (73, [some (.ref 73), some (.int v1), none, none, some (.int s.1)], [.long 0, .int s.1, .ref 112], (SH, I, s.2)) rfl ?_
    obtain ⟨hc7, h⟩ := zbifo h
    refine zr_one (bif zin s.1 360 then zN 74 [some (.ref 73), some (.int v1), none, none, some (.int s.1)] [] (SH, I, (zuj s.2 112 s.1.toNatClampNeg 0)) else none) rfl (zR_bif hc7 (zR_go ?_))
    refine zr_steps 2 (54, [some (.ref 73), some (.int v1), none, none, some (.int (s.1 + 1))], [], (SH, I, (zuj s.2 112 s.1.toNatClampNeg 0))) rfl ?_
    have he := Option.some.inj h
    subst he
    exact zr_hdr (ls2 := [some (.ref 73), some (.int v1), none, none, some (.int (s.1 + 1))]) rfl rfl (show zRun X d 212 54 [some (.ref 73), some (.int v1), none, none, some (.int (s.1 + 1))] [] (SH, I, (zuj s.2 112 s.1.toNatClampNeg 0)) r M' from w))
set_option maxRecDepth 100000 in
set_option maxHeartbeats 4000000 in
theorem ok_f212_row {X : zX} {d : Nat} (hd : 2 ≤ d) (v1 : Int32) (v2 : Int32) (v3 : Int32) {I : (Nat → Nat → Int32)} {J : (Nat → Nat → Int64)} (t : (Int32 × (Nat → Nat → Int32) × (Nat → Nat → Int64))) (h : f212_row v1 v2 v3 I J = some t) : zRun X d 212 0 (zent 212 [.ref 73, .int v1, .int v2, .int v3]) [] (SH, I, J) (some (.int t.1)) (SH, t.2.1, t.2.2) := by
  unfold f212_row at h
  refine zr_steps 1 (1, [some (.ref 73), some (.int v1), some (.int v2), some (.int v3), none], [.int v1], (SH, I, J)) rfl ?_
  obtain ⟨t2, hc1, h⟩ := zbind h
  refine zr_one (some (.inr (.inl (210, [.int v1], [], 4)))) rfl (zR_call (by omega) rfl (ok_f210_isShelf (by omega) v1 _ hc1) ?_)
  refine zr_one (if t2 = 0 then zN 22 [some (.ref 73), some (.int v1), some (.int v2), some (.int v3), none] [] (SH, I, J) else zN 7 [some (.ref 73), some (.int v1), some (.int v2), some (.int v3), none] [] (SH, I, J)) rfl (zR_if (fun hc14 => zR_go ?_) (fun hc14 => zR_go ?_))
  · rw [if_pos hc14] at h
    refine zr_steps 1 (23, [some (.ref 73), some (.int v1), some (.int v2), some (.int v3), none], [.int (-1)], (SH, I, J)) rfl ?_
    have he := Option.some.inj h
    subst he
    exact zr_one (some (.inr (.inr (some (.int (-1)))))) rfl (zR_ret rfl rfl)
  · rw [if_neg hc14] at h
    refine zr_steps 3 (10, [some (.ref 73), some (.int v1), some (.int v2), some (.int v3), none], [.int 4, .int 0, .int v2], (SH, I, J)) rfl ?_
    obtain ⟨t4, hc3, h⟩ := zbind h
    refine zr_one (some (.inr (.inl (129, [.int v2, .int 0, .int 4], [], 13)))) rfl (zR_call (by omega) rfl (ok_f129_in (by omega) v2 0 4 _ hc3) ?_)
    refine zr_one (if t4 = 0 then zN 22 [some (.ref 73), some (.int v1), some (.int v2), some (.int v3), none] [] (SH, I, J) else zN 16 [some (.ref 73), some (.int v1), some (.int v2), some (.int v3), none] [] (SH, I, J)) rfl (zR_if (fun hc13 => zR_go ?_) (fun hc13 => zR_go ?_))
    · rw [if_pos hc13] at h
      refine zr_steps 1 (23, [some (.ref 73), some (.int v1), some (.int v2), some (.int v3), none], [.int (-1)], (SH, I, J)) rfl ?_
      have he := Option.some.inj h
      subst he
      exact zr_one (some (.inr (.inr (some (.int (-1)))))) rfl (zR_ret rfl rfl)
    · rw [if_neg hc13] at h
      refine zr_steps 2 (19, [some (.ref 73), some (.int v1), some (.int v2), some (.int v3), none], [.int 60, .int v3], (SH, I, J)) rfl ?_
      refine zr_one (if v3 ≤ 60 then zN 24 [some (.ref 73), some (.int v1), some (.int v2), some (.int v3), none] [] (SH, I, J) else zN 22 [some (.ref 73), some (.int v1), some (.int v2), some (.int v3), none] [] (SH, I, J)) rfl (zR_if (fun hc12 => zR_go ?_) (fun hc12 => zR_go ?_))
      · rw [if_pos hc12] at h
        refine zr_steps 1 (25, [some (.ref 73), some (.int v1), some (.int v2), some (.int v3), none], [.int v3], (SH, I, J)) rfl ?_
        refine zr_one (if (0 : Int32) ≤ v3 then zN 31 [some (.ref 73), some (.int v1), some (.int v2), some (.int v3), none] [] (SH, I, J) else zN 28 [some (.ref 73), some (.int v1), some (.int v2), some (.int v3), none] [] (SH, I, J)) rfl (zR_if (fun hc11 => zR_go ?_) (fun hc11 => zR_go ?_))
        · rw [if_pos hc11] at h
          refine zr_steps 6 (40, [some (.ref 73), some (.int v1), some (.int v2), some (.int v3), none], [.int ((-2) - v2), .int v1, .ref 110], (SH, I, J)) rfl ?_
          obtain ⟨hc5, h⟩ := zbifo h
          refine zr_one (bif zin v1 6 then zN 41 [some (.ref 73), some (.int v1), some (.int v2), some (.int v3), none] [] (SH, (zu I 110 v1.toNatClampNeg ((-2) - v2)), J) else none) rfl (zR_bif hc5 (zR_go ?_))
          refine zr_steps 4 (47, [some (.ref 73), some (.int v1), some (.int v2), some (.int v3), none], [.int v3, .int v1, .ref 111], (SH, (zu I 110 v1.toNatClampNeg ((-2) - v2)), J)) rfl ?_
          obtain ⟨hc6, h⟩ := zbifo h
          refine zr_one (bif zin v1 6 then zN 48 [some (.ref 73), some (.int v1), some (.int v2), some (.int v3), none] [] (SH, (zu (zu I 110 v1.toNatClampNeg ((-2) - v2)) 111 v1.toNatClampNeg v3), J) else none) rfl (zR_bif hc6 (zR_go ?_))
          refine zr_steps 4 (54, [some (.ref 73), some (.int v1), some (.int v2), some (.int v3), some (.int (60 * v1))], [], (SH, (zu (zu I 110 v1.toNatClampNeg ((-2) - v2)) 111 v1.toNatClampNeg v3), J)) rfl ?_
          obtain ⟨s9, ho10, h⟩ := zbind h
          refine zr_hdr (ls2 := [some (.ref 73), some (.int v1), none, none, some (.int (60 * v1))]) rfl rfl ?_
          refine ok_f212_row_L54 (by omega) v1 5000 ((60 * v1), J) s9 ho10 ?_
          show zRun X d 212 80 [none, none, none, none, none] [] (SH, (zu (zu I 110 v1.toNatClampNeg ((-2) - v2)) 111 v1.toNatClampNeg v3), s9.2) _ _
          refine zr_steps 1 (81, [none, none, none, none, none], [.int 1], (SH, (zu (zu I 110 v1.toNatClampNeg ((-2) - v2)) 111 v1.toNatClampNeg v3), s9.2)) rfl ?_
          have he := Option.some.inj h
          subst he
          exact zr_one (some (.inr (.inr (some (.int 1))))) rfl (zR_ret rfl rfl)
        · rw [if_neg hc11] at h
          refine zr_steps 1 (30, [some (.ref 73), some (.int v1), some (.int v2), some (.int v3), none], [.int (-14)], (SH, I, J)) rfl ?_
          have he := Option.some.inj h
          subst he
          exact zr_one (some (.inr (.inr (some (.int (-14)))))) rfl (zR_ret rfl rfl)
      · rw [if_neg hc12] at h
        refine zr_steps 1 (23, [some (.ref 73), some (.int v1), some (.int v2), some (.int v3), none], [.int (-1)], (SH, I, J)) rfl ?_
        have he := Option.some.inj h
        subst he
        exact zr_one (some (.inr (.inr (some (.int (-1)))))) rfl (zR_ret rfl rfl)
set_option maxRecDepth 100000 in
set_option maxHeartbeats 4000000 in
theorem ok_f122_placeRefusal {X : zX} {d : Nat} (hd : 3 ≤ d) (v1 : Int32) (v2 : Int32) {I : (Nat → Nat → Int32)} {J : (Nat → Nat → Int64)} (t : Int32) (h : f122_placeRefusal v1 v2 I = some t) : zRun X d 122 0 (zent 122 [.ref 0, .int v1, .int v2]) [] (SH, I, J) (some (.int t)) (SH, I, J) := by
  unfold f122_placeRefusal at h
  refine zr_steps 1 (1, [some (.ref 0), some (.int v1), some (.int v2), none], [.int v1], (SH, I, J)) rfl ?_
  obtain ⟨t2, hc1, h⟩ := zbind h
  refine zr_one (some (.inr (.inl (127, [.int v1], [], 4)))) rfl (zR_call (by omega) rfl (ok_f127_isShelf (by omega) v1 _ hc1) ?_)
  refine zr_one (if t2 = 0 then zN 7 [some (.ref 0), some (.int v1), some (.int v2), none] [] (SH, I, J) else zN 9 [some (.ref 0), some (.int v1), some (.int v2), none] [] (SH, I, J)) rfl (zR_if (fun hc11 => zR_go ?_) (fun hc11 => zR_go ?_))
  · rw [if_pos hc11] at h
    refine zr_steps 1 (8, [some (.ref 0), some (.int v1), some (.int v2), none], [.int (-1)], (SH, I, J)) rfl ?_
    have he := Option.some.inj h
    subst he
    exact zr_one (some (.inr (.inr (some (.int (-1)))))) rfl (zR_ret rfl rfl)
  · rw [if_neg hc11] at h
    refine zr_steps 3 (14, [some (.ref 0), some (.int v1), some (.int v2), none], [.int v1, .ref 60], (SH, I, J)) rfl ?_
    obtain ⟨hc3, h⟩ := zbifo h
    refine zr_one (bif zin v1 6 then zrefr 15 [some (.ref 0), some (.int v1), some (.int v2), none] [] (SH, I, J) (zri (SH, I, J) 60 v1.toNatClampNeg) else none) rfl (zR_bif hc3 (zR_ref (sh_at hc3) ?_))
    refine zr_steps 1 (16, [some (.ref 0), some (.int v1), some (.int v2), none], [.int (-1), .ref (zshelf v1)], (SH, I, J)) rfl ?_
    obtain ⟨t5, hc4, h⟩ := zbind h
    refine zr_one (bif zrcv (SH, I, J) 55 [.ref (zshelf v1), .int (-1)] then some (.inr (.inl (55, [.ref (zshelf v1), .int (-1)], [], 19))) else none) rfl (zR_bif (sh_rcv (sh_is hc3) rfl rfl) (zR_call (by omega) rfl (ok_f55_refusal (by omega) (zshelf v1) (-1) (sh_is hc3) _ hc4) ?_))
    refine zr_steps 2 (21, [some (.ref 0), some (.int v1), some (.int v2), some (.int t5)], [.int t5], (SH, I, J)) rfl ?_
    refine zr_one (if t5 = 0 then zN 26 [some (.ref 0), some (.int v1), some (.int v2), some (.int t5)] [] (SH, I, J) else zN 24 [some (.ref 0), some (.int v1), some (.int v2), some (.int t5)] [] (SH, I, J)) rfl (zR_if (fun hc10 => zR_go ?_) (fun hc10 => zR_go ?_))
    · rw [if_pos hc10] at h
      refine zr_steps 3 (31, [some (.ref 0), some (.int v1), some (.int v2), some (.int t5)], [.int v1, .ref 60], (SH, I, J)) rfl ?_
      obtain ⟨hc6, h⟩ := zbifo h
      refine zr_one (bif zin v1 6 then zrefr 32 [some (.ref 0), some (.int v1), some (.int v2), some (.int t5)] [] (SH, I, J) (zri (SH, I, J) 60 v1.toNatClampNeg) else none) rfl (zR_bif hc6 (zR_ref (sh_at hc6) ?_))
      refine zr_steps 2 (34, [some (.ref 0), some (.int v1), some (.int v2), some (.int t5)], [.int 1, .int v2, .ref (zshelf v1)], (SH, I, J)) rfl ?_
      obtain ⟨t8, hc7, h⟩ := zbind h
      refine zr_one (bif zrcv (SH, I, J) 56 [.ref (zshelf v1), .int v2, .int 1] then some (.inr (.inl (56, [.ref (zshelf v1), .int v2, .int 1], [], 37))) else none) rfl (zR_bif (sh_rcv (sh_is hc6) rfl rfl) (zR_call (by omega) rfl (ok_f56_hasPlaces (by omega) (zshelf v1) v2 1 (sh_is hc6) _ hc7) ?_))
      refine zr_one (if t8 = 0 then zN 44 [some (.ref 0), some (.int v1), some (.int v2), some (.int t5)] [] (SH, I, J) else zN 40 [some (.ref 0), some (.int v1), some (.int v2), some (.int t5)] [] (SH, I, J)) rfl (zR_if (fun hc9 => zR_go ?_) (fun hc9 => zR_go ?_))
      · rw [if_pos hc9] at h
        refine zr_steps 1 (46, [some (.ref 0), some (.int v1), some (.int v2), some (.int t5)], [.int (-13)], (SH, I, J)) rfl ?_
        have he := Option.some.inj h
        subst he
        exact zr_one (some (.inr (.inr (some (.int (-13)))))) rfl (zR_ret rfl rfl)
      · rw [if_neg hc9] at h
        refine zr_steps 2 (46, [some (.ref 0), some (.int v1), some (.int v2), some (.int t5)], [.int 0], (SH, I, J)) rfl ?_
        have he := Option.some.inj h
        subst he
        exact zr_one (some (.inr (.inr (some (.int 0))))) rfl (zR_ret rfl rfl)
    · rw [if_neg hc10] at h
      refine zr_steps 1 (25, [some (.ref 0), some (.int v1), some (.int v2), some (.int t5)], [.int t5], (SH, I, J)) rfl ?_
      have he := Option.some.inj h
      subst he
      exact zr_one (some (.inr (.inr (some (.int t5))))) rfl (zR_ret rfl rfl)
set_option maxRecDepth 100000 in
set_option maxHeartbeats 4000000 in
theorem ok_f59_lowestBits {X : zX} {d : Nat} (hd : 0 ≤ d) (v0 : Nat) (v1 : Int64) (hs0 : zIsShelf v0) {I : (Nat → Nat → Int32)} {J : (Nat → Nat → Int64)} (t : Int64) (h : f59_lowestBits v0 v1 I = some t) : zRun X d 59 0 (zent 59 [.ref v0, .long v1]) [] (SH, I, J) (some (.long t)) (SH, I, J) := by
  unfold f59_lowestBits at h
  refine zr_steps 1 (1, [some (.ref v0), some (.long v1), none], [.ref v0], (SH, I, J)) rfl ?_
  refine zr_one (zfget 1 4 1 [some (.ref v0), some (.long v1), none] [.ref v0] (SH, I, J)) rfl (sR_get hs0 (by decide) ?_)
  refine zr_one (if (I v0 1).toInt = 0 then zN 40 [some (.ref v0), some (.long v1), none] [] (SH, I, J) else (if (I v0 1).toInt = 1 then zN 45 [some (.ref v0), some (.long v1), none] [] (SH, I, J) else (if (I v0 1).toInt = 2 then zN 50 [some (.ref v0), some (.long v1), none] [] (SH, I, J) else (if (I v0 1).toInt = 3 then zN 66 [some (.ref v0), some (.long v1), none] [] (SH, I, J) else (if (I v0 1).toInt = 4 then zN 54 [some (.ref v0), some (.long v1), none] [] (SH, I, J) else zN 66 [some (.ref v0), some (.long v1), none] [] (SH, I, J)))))) rfl ?_
  refine zR_if (fun hc6 => zR_go ?_) (fun hc6 => ?_)
  · rw [if_pos hc6] at h
    refine zr_steps 4 (44, [some (.ref v0), some (.long v1), none], [.long v1.toInt32.toInt8.toInt32.toInt64], (SH, I, J)) rfl ?_
    have he := Option.some.inj h
    subst he
    exact zr_one (some (.inr (.inr (some (.long v1.toInt32.toInt8.toInt32.toInt64))))) rfl (zR_ret rfl rfl)
  rw [if_neg hc6] at h
  refine zR_if (fun hc5 => zR_go ?_) (fun hc5 => ?_)
  · rw [if_pos hc5] at h
    refine zr_steps 4 (49, [some (.ref v0), some (.long v1), none], [.long v1.toInt32.toInt16.toInt32.toInt64], (SH, I, J)) rfl ?_
    have he := Option.some.inj h
    subst he
    exact zr_one (some (.inr (.inr (some (.long v1.toInt32.toInt16.toInt32.toInt64))))) rfl (zR_ret rfl rfl)
  rw [if_neg hc5] at h
  refine zR_if (fun hc4 => zR_go ?_) (fun hc4 => ?_)
  · rw [if_pos hc4] at h
    refine zr_steps 3 (53, [some (.ref v0), some (.long v1), none], [.long v1.toInt32.toInt64], (SH, I, J)) rfl ?_
    have he := Option.some.inj h
    subst he
    exact zr_one (some (.inr (.inr (some (.long v1.toInt32.toInt64))))) rfl (zR_ret rfl rfl)
  rw [if_neg hc4] at h
  refine zR_if (fun hc3 => zR_go ?_) (fun hc3 => ?_)
  · rw [if_pos hc3] at h
    refine zr_steps 1 (67, [some (.ref v0), some (.long v1), none], [.long v1], (SH, I, J)) rfl ?_
    have he := Option.some.inj h
    subst he
    exact zr_one (some (.inr (.inr (some (.long v1))))) rfl (zR_ret rfl rfl)
  rw [if_neg hc3] at h
  refine zR_if (fun hc2 => zR_go ?_) (fun hc2 => ?_)
  · rw [if_pos hc2] at h
    refine zr_steps 3 (57, [some (.ref v0), some (.long v1), none], [.int (lg_cmp v1 0)], (SH, I, J)) rfl ?_
    refine zr_one (if (lg_cmp v1 0) = 0 then zN 64 [some (.ref v0), some (.long v1), none] [] (SH, I, J) else zN 60 [some (.ref v0), some (.long v1), none] [] (SH, I, J)) rfl (zR_if (fun hc1 => zR_go ?_) (fun hc1 => zR_go ?_))
    · rw [if_pos hc1] at h
      refine zr_steps 1 (65, [some (.ref v0), some (.long v1), none], [.long 0], (SH, I, J)) rfl ?_
      have he := Option.some.inj h
      subst he
      exact zr_one (some (.inr (.inr (some (.long 0))))) rfl (zR_ret rfl rfl)
    · rw [if_neg hc1] at h
      refine zr_steps 2 (65, [some (.ref v0), some (.long v1), none], [.long 1], (SH, I, J)) rfl ?_
      have he := Option.some.inj h
      subst he
      exact zr_one (some (.inr (.inr (some (.long 1))))) rfl (zR_ret rfl rfl)
  rw [if_neg hc2] at h
  refine zR_go ?_
  refine zr_steps 1 (67, [some (.ref v0), some (.long v1), none], [.long v1], (SH, I, J)) rfl ?_
  have he := Option.some.inj h
  subst he
  exact zr_one (some (.inr (.inr (some (.long v1))))) rfl (zR_ret rfl rfl)
set_option maxRecDepth 100000 in
set_option maxHeartbeats 4000000 in
theorem ok_f58_become {X : zX} {d : Nat} (hd : 1 ≤ d) (v0 : Nat) (v1 : Int32) (v2 : Int64) (hs0 : zIsShelf v0) {I : (Nat → Nat → Int32)} {J : (Nat → Nat → Int64)} (t : (Nat → Nat → Int64)) (h : f58_become v0 v1 v2 I J = some t) : zRun X d 58 0 (zent 58 [.ref v0, .int v1, .long v2]) [] (SH, I, J) none (SH, I, t) := by
  unfold f58_become at h
  refine zr_steps 3 (3, [some (.ref v0), some (.int v1), some (.long v2), none], [.int 1, .int v1, .ref v0], (SH, I, J)) rfl ?_
  obtain ⟨t2, hc1, h⟩ := zbind h
  refine zr_one (bif zrcv (SH, I, J) 56 [.ref v0, .int v1, .int 1] then some (.inr (.inl (56, [.ref v0, .int v1, .int 1], [], 6))) else none) rfl (zR_bif (sh_rcv hs0 rfl rfl) (zR_call (by omega) rfl (ok_f56_hasPlaces (by omega) v0 v1 1 hs0 _ hc1) ?_))
  refine zr_one (if t2 = 0 then zN 20 [some (.ref v0), some (.int v1), some (.long v2), none] [] (SH, I, J) else zN 9 [some (.ref v0), some (.int v1), some (.long v2), none] [] (SH, I, J)) rfl (zR_if (fun hc6 => zR_go ?_) (fun hc6 => zR_go ?_))
  · rw [if_pos hc6] at h
    have he := Option.some.inj h
    subst he
    exact zr_one (some (.inr (.inr none))) rfl (zR_ret rfl rfl)
  · rw [if_neg hc6] at h
    refine zr_steps 1 (10, [some (.ref v0), some (.int v1), some (.long v2), none], [.ref v0], (SH, I, J)) rfl ?_
    refine zr_one (zfget 10 4 3 [some (.ref v0), some (.int v1), some (.long v2), none] [.ref v0] (SH, I, J)) rfl (sR_gete hs0 ?_)
    refine zr_steps 3 (16, [some (.ref v0), some (.int v1), some (.long v2), none], [.long v2, .ref v0, .int v1, .ref (v0 + 1)], (SH, I, J)) rfl ?_
    obtain ⟨t4, hc3, h⟩ := zbind h
    refine zr_one (bif zrcv (SH, I, J) 59 [.ref v0, .long v2] then some (.inr (.inl (59, [.ref v0, .long v2], [.int v1, .ref (v0 + 1)], 19))) else none) rfl (zR_bif (sh_rcv hs0 rfl rfl) (zR_call (by omega) rfl (ok_f59_lowestBits (by omega) v0 v2 hs0 _ hc3) ?_))
    obtain ⟨hc5, h⟩ := zbifo h
    refine zr_one (zlast 19 [some (.ref v0), some (.int v1), some (.long v2), none] [.long t4, .int v1, .ref (v0 + 1)] (SH, I, J)) rfl (sR_last hs0 hc5 ?_)
    have he := Option.some.inj h
    subst he
    exact zr_one (some (.inr (.inr none))) rfl (zR_ret rfl rfl)
set_option maxRecDepth 100000 in
set_option maxHeartbeats 4000000 in
theorem ok_f120_put {X : zX} {d : Nat} (hd : 4 ≤ d) (v1 : Int32) (v2 : Int32) (v3 : Int64) {I : (Nat → Nat → Int32)} {J : (Nat → Nat → Int64)} (t : (Int32 × (Nat → Nat → Int64))) (h : f120_put v1 v2 v3 I J = some t) : zRun X d 120 0 (zent 120 [.ref 0, .int v1, .int v2, .long v3]) [] (SH, I, J) (some (.int t.1)) (SH, I, t.2) := by
  unfold f120_put at h
  refine zr_steps 3 (3, [some (.ref 0), some (.int v1), some (.int v2), some (.long v3), none, none], [.int v2, .int v1, .ref 0], (SH, I, J)) rfl ?_
  obtain ⟨t2, hc1, h⟩ := zbind h
  refine zr_one (some (.inr (.inl (122, [.ref 0, .int v1, .int v2], [], 6)))) rfl (zR_call (by omega) rfl (ok_f122_placeRefusal (by omega) v1 v2 _ hc1) ?_)
  refine zr_steps 2 (10, [some (.ref 0), some (.int v1), some (.int v2), some (.long v3), none, some (.int t2)], [.int t2], (SH, I, J)) rfl ?_
  refine zr_one (if t2 = 0 then zN 16 [some (.ref 0), some (.int v1), some (.int v2), some (.long v3), none, some (.int t2)] [] (SH, I, J) else zN 13 [some (.ref 0), some (.int v1), some (.int v2), some (.long v3), none, some (.int t2)] [] (SH, I, J)) rfl (zR_if (fun hc6 => zR_go ?_) (fun hc6 => zR_go ?_))
  · rw [if_pos hc6] at h
    refine zr_steps 3 (21, [some (.ref 0), some (.int v1), some (.int v2), some (.long v3), none, some (.int t2)], [.int v1, .ref 60], (SH, I, J)) rfl ?_
    obtain ⟨hc3, h⟩ := zbifo h
    refine zr_one (bif zin v1 6 then zrefr 22 [some (.ref 0), some (.int v1), some (.int v2), some (.long v3), none, some (.int t2)] [] (SH, I, J) (zri (SH, I, J) 60 v1.toNatClampNeg) else none) rfl (zR_bif hc3 (zR_ref (sh_at hc3) ?_))
    refine zr_steps 2 (24, [some (.ref 0), some (.int v1), some (.int v2), some (.long v3), none, some (.int t2)], [.long v3, .int v2, .ref (zshelf v1)], (SH, I, J)) rfl ?_
    obtain ⟨t5, hc4, h⟩ := zbind h
    refine zr_one (bif zrcv (SH, I, J) 58 [.ref (zshelf v1), .int v2, .long v3] then some (.inr (.inl (58, [.ref (zshelf v1), .int v2, .long v3], [], 27))) else none) rfl (zR_bif (sh_rcv (sh_is hc3) rfl rfl) (zR_call (by omega) rfl (ok_f58_become (by omega) (zshelf v1) v2 v3 (sh_is hc3) _ hc4) ?_))
    refine zr_steps 1 (28, [some (.ref 0), some (.int v1), some (.int v2), some (.long v3), none, some (.int t2)], [.int 1], (SH, I, t5)) rfl ?_
    have he := Option.some.inj h
    subst he
    exact zr_one (some (.inr (.inr (some (.int 1))))) rfl (zR_ret rfl rfl)
  · rw [if_neg hc6] at h
    refine zr_steps 1 (15, [some (.ref 0), some (.int v1), some (.int v2), some (.long v3), none, some (.int t2)], [.int t2], (SH, I, J)) rfl ?_
    have he := Option.some.inj h
    subst he
    exact zr_one (some (.inr (.inr (some (.int t2))))) rfl (zR_ret rfl rfl)
set_option maxRecDepth 100000 in
set_option maxHeartbeats 4000000 in
theorem ok_f213_whyNoPlace {X : zX} {d : Nat} (hd : 2 ≤ d) (v1 : Int32) (v2 : Int32) {I : (Nat → Nat → Int32)} {J : (Nat → Nat → Int64)} (t : Int32) (h : f213_whyNoPlace v1 v2 I = some t) : zRun X d 213 0 (zent 213 [.ref 73, .int v1, .int v2]) [] (SH, I, J) (some (.int t)) (SH, I, J) := by
  unfold f213_whyNoPlace at h
  refine zr_steps 1 (1, [some (.ref 73), some (.int v1), some (.int v2)], [.int v1], (SH, I, J)) rfl ?_
  obtain ⟨t2, hc1, h⟩ := zbind h
  refine zr_one (some (.inr (.inl (210, [.int v1], [], 4)))) rfl (zR_call (by omega) rfl (ok_f210_isShelf (by omega) v1 _ hc1) ?_)
  refine zr_one (if t2 = 0 then zN 7 [some (.ref 73), some (.int v1), some (.int v2)] [] (SH, I, J) else zN 9 [some (.ref 73), some (.int v1), some (.int v2)] [] (SH, I, J)) rfl (zR_if (fun hc11 => zR_go ?_) (fun hc11 => zR_go ?_))
  · rw [if_pos hc11] at h
    refine zr_steps 1 (8, [some (.ref 73), some (.int v1), some (.int v2)], [.int (-1)], (SH, I, J)) rfl ?_
    have he := Option.some.inj h
    subst he
    exact zr_one (some (.inr (.inr (some (.int (-1)))))) rfl (zR_ret rfl rfl)
  · rw [if_neg hc11] at h
    refine zr_steps 3 (14, [some (.ref 73), some (.int v1), some (.int v2)], [.int v1, .ref 110], (SH, I, J)) rfl ?_
    obtain ⟨hc3, h⟩ := zbifo h
    refine zr_one (bif zin v1 6 then zN 15 [some (.ref 73), some (.int v1), some (.int v2)] [.int (I 110 v1.toNatClampNeg)] (SH, I, J) else none) rfl (zR_bif hc3 (zR_go ?_))
    refine zr_steps 1 (16, [some (.ref 73), some (.int v1), some (.int v2)], [.int (-1), .int (I 110 v1.toNatClampNeg)], (SH, I, J)) rfl ?_
    refine zr_one (if (I 110 v1.toNatClampNeg) = (-1) then zN 19 [some (.ref 73), some (.int v1), some (.int v2)] [] (SH, I, J) else zN 22 [some (.ref 73), some (.int v1), some (.int v2)] [] (SH, I, J)) rfl (zR_if (fun hc10 => zR_go ?_) (fun hc10 => zR_go ?_))
    · rw [if_pos hc10] at h
      refine zr_steps 1 (21, [some (.ref 73), some (.int v1), some (.int v2)], [.int (-11)], (SH, I, J)) rfl ?_
      have he := Option.some.inj h
      subst he
      exact zr_one (some (.inr (.inr (some (.int (-11)))))) rfl (zR_ret rfl rfl)
    · rw [if_neg hc10] at h
      refine zr_steps 3 (27, [some (.ref 73), some (.int v1), some (.int v2)], [.int v1, .ref 110], (SH, I, J)) rfl ?_
      obtain ⟨hc4, h⟩ := zbifo h
      refine zr_one (bif zin v1 6 then zN 28 [some (.ref 73), some (.int v1), some (.int v2)] [.int (I 110 v1.toNatClampNeg)] (SH, I, J) else none) rfl (zR_bif hc4 (zR_go ?_))
      refine zr_one (if (I 110 v1.toNatClampNeg) < 0 then zN 34 [some (.ref 73), some (.int v1), some (.int v2)] [] (SH, I, J) else zN 31 [some (.ref 73), some (.int v1), some (.int v2)] [] (SH, I, J)) rfl (zR_if (fun hc9 => zR_go ?_) (fun hc9 => zR_go ?_))
      · rw [if_pos hc9] at h
        refine zr_steps 5 (41, [some (.ref 73), some (.int v1), some (.int v2)], [.int v1, .ref 111, .int 0, .int v2], (SH, I, J)) rfl ?_
        obtain ⟨hc5, h⟩ := zbifo h
        refine zr_one (bif zin v1 6 then zN 42 [some (.ref 73), some (.int v1), some (.int v2)] [.int (I 111 v1.toNatClampNeg), .int 0, .int v2] (SH, I, J) else none) rfl (zR_bif hc5 (zR_go ?_))
        refine zr_steps 2 (44, [some (.ref 73), some (.int v1), some (.int v2)], [.int ((I 111 v1.toNatClampNeg) - 1), .int 0, .int v2], (SH, I, J)) rfl ?_
        obtain ⟨t7, hc6, h⟩ := zbind h
        refine zr_one (some (.inr (.inl (129, [.int v2, .int 0, .int ((I 111 v1.toNatClampNeg) - 1)], [], 47)))) rfl (zR_call (by omega) rfl (ok_f129_in (by omega) v2 0 ((I 111 v1.toNatClampNeg) - 1) _ hc6) ?_)
        refine zr_one (if t7 = 0 then zN 54 [some (.ref 73), some (.int v1), some (.int v2)] [] (SH, I, J) else zN 50 [some (.ref 73), some (.int v1), some (.int v2)] [] (SH, I, J)) rfl (zR_if (fun hc8 => zR_go ?_) (fun hc8 => zR_go ?_))
        · rw [if_pos hc8] at h
          refine zr_steps 1 (56, [some (.ref 73), some (.int v1), some (.int v2)], [.int (-13)], (SH, I, J)) rfl ?_
          have he := Option.some.inj h
          subst he
          exact zr_one (some (.inr (.inr (some (.int (-13)))))) rfl (zR_ret rfl rfl)
        · rw [if_neg hc8] at h
          refine zr_steps 2 (56, [some (.ref 73), some (.int v1), some (.int v2)], [.int 0], (SH, I, J)) rfl ?_
          have he := Option.some.inj h
          subst he
          exact zr_one (some (.inr (.inr (some (.int 0))))) rfl (zR_ret rfl rfl)
      · rw [if_neg hc9] at h
        refine zr_steps 1 (33, [some (.ref 73), some (.int v1), some (.int v2)], [.int (-12)], (SH, I, J)) rfl ?_
        have he := Option.some.inj h
        subst he
        exact zr_one (some (.inr (.inr (some (.int (-12)))))) rfl (zR_ret rfl rfl)
set_option maxRecDepth 100000 in
set_option maxHeartbeats 4000000 in
theorem ok_f214_put {X : zX} {d : Nat} (hd : 3 ≤ d) (v1 : Int32) (v2 : Int32) (v3 : Int64) {I : (Nat → Nat → Int32)} {J : (Nat → Nat → Int64)} (t : (Int32 × (Nat → Nat → Int64))) (h : f214_put v1 v2 v3 I J = some t) : zRun X d 214 0 (zent 214 [.ref 73, .int v1, .int v2, .long v3]) [] (SH, I, J) (some (.int t.1)) (SH, I, t.2) := by
  unfold f214_put at h
  refine zr_steps 3 (3, [some (.ref 73), some (.int v1), some (.int v2), some (.long v3), none, none, none], [.int v2, .int v1, .ref 73], (SH, I, J)) rfl ?_
  obtain ⟨t2, hc1, h⟩ := zbind h
  refine zr_one (some (.inr (.inl (213, [.ref 73, .int v1, .int v2], [], 6)))) rfl (zR_call (by omega) rfl (ok_f213_whyNoPlace (by omega) v1 v2 _ hc1) ?_)
  refine zr_steps 2 (10, [some (.ref 73), some (.int v1), some (.int v2), some (.long v3), none, some (.int t2), none], [.int t2], (SH, I, J)) rfl ?_
  refine zr_one (if (0 : Int32) ≤ t2 then zN 16 [some (.ref 73), some (.int v1), some (.int v2), some (.long v3), none, some (.int t2), none] [] (SH, I, J) else zN 13 [some (.ref 73), some (.int v1), some (.int v2), some (.long v3), none, some (.int t2), none] [] (SH, I, J)) rfl (zR_if (fun hc17 => zR_go ?_) (fun hc17 => zR_go ?_))
  · rw [if_pos hc17] at h
    refine zr_steps 4 (23, [some (.ref 73), some (.int v1), some (.int v2), some (.long v3), none, some (.int t2), none], [.int v1, .ref 110, .int (-2)], (SH, I, J)) rfl ?_
    obtain ⟨hc3, h⟩ := zbifo h
    refine zr_one (bif zin v1 6 then zN 24 [some (.ref 73), some (.int v1), some (.int v2), some (.long v3), none, some (.int t2), none] [.int (I 110 v1.toNatClampNeg), .int (-2)] (SH, I, J) else none) rfl (zR_bif hc3 (zR_go ?_))
    refine zr_steps 1 (25, [some (.ref 73), some (.int v1), some (.int v2), some (.long v3), none, some (.int t2), none], [.int ((-2) - (I 110 v1.toNatClampNeg))], (SH, I, J)) rfl ?_
    obtain ⟨t4, ht5, h⟩ := zbind h
    have ht5 := Option.some.inj ht5
    rw [ht5]
    refine zr_steps 9 (39, [some (.ref 73), some (.int v1), some (.int v2), some (.long v3), none, some (.int t2), some (.int t4)], [.int t4, .int ((60 * v1) + v2), .ref 112], (SH, I, J)) rfl ?_
    refine zr_one (if t4 = 0 then zN 42 [some (.ref 73), some (.int v1), some (.int v2), some (.long v3), none, some (.int t2), some (.int t4)] [.int ((60 * v1) + v2), .ref 112] (SH, I, J) else zN 49 [some (.ref 73), some (.int v1), some (.int v2), some (.long v3), none, some (.int t2), some (.int t4)] [.int ((60 * v1) + v2), .ref 112] (SH, I, J)) rfl (zR_if (fun hc16 => zR_go ?_) (fun hc16 => zR_go ?_))
    · rw [if_pos hc16] at h
      refine zr_steps 5 (95, [some (.ref 73), some (.int v1), some (.int v2), some (.long v3), none, some (.int t2), some (.int t4)], [.long v3.toInt32.toInt8.toInt32.toInt64, .int ((60 * v1) + v2), .ref 112], (SH, I, J)) rfl ?_
      obtain ⟨hc6, h⟩ := zbifo h
      refine zr_one (bif zin ((60 * v1) + v2) 360 then zN 96 [some (.ref 73), some (.int v1), some (.int v2), some (.long v3), none, some (.int t2), some (.int t4)] [] (SH, I, (zuj J 112 ((60 * v1) + v2).toNatClampNeg v3.toInt32.toInt8.toInt32.toInt64)) else none) rfl (zR_bif hc6 (zR_go ?_))
      refine zr_steps 1 (97, [some (.ref 73), some (.int v1), some (.int v2), some (.long v3), none, some (.int t2), some (.int t4)], [.int 1], (SH, I, (zuj J 112 ((60 * v1) + v2).toNatClampNeg v3.toInt32.toInt8.toInt32.toInt64))) rfl ?_
      have he := Option.some.inj h
      subst he
      exact zr_one (some (.inr (.inr (some (.int 1))))) rfl (zR_ret rfl rfl)
    · rw [if_neg hc16] at h
      refine zr_steps 2 (52, [some (.ref 73), some (.int v1), some (.int v2), some (.long v3), none, some (.int t2), some (.int t4)], [.int 1, .int t4, .int ((60 * v1) + v2), .ref 112], (SH, I, J)) rfl ?_
      refine zr_one (if t4 = 1 then zN 55 [some (.ref 73), some (.int v1), some (.int v2), some (.long v3), none, some (.int t2), some (.int t4)] [.int ((60 * v1) + v2), .ref 112] (SH, I, J) else zN 62 [some (.ref 73), some (.int v1), some (.int v2), some (.long v3), none, some (.int t2), some (.int t4)] [.int ((60 * v1) + v2), .ref 112] (SH, I, J)) rfl (zR_if (fun hc15 => zR_go ?_) (fun hc15 => zR_go ?_))
      · rw [if_pos hc15] at h
        refine zr_steps 5 (95, [some (.ref 73), some (.int v1), some (.int v2), some (.long v3), none, some (.int t2), some (.int t4)], [.long v3.toInt32.toInt16.toInt32.toInt64, .int ((60 * v1) + v2), .ref 112], (SH, I, J)) rfl ?_
        obtain ⟨hc7, h⟩ := zbifo h
        refine zr_one (bif zin ((60 * v1) + v2) 360 then zN 96 [some (.ref 73), some (.int v1), some (.int v2), some (.long v3), none, some (.int t2), some (.int t4)] [] (SH, I, (zuj J 112 ((60 * v1) + v2).toNatClampNeg v3.toInt32.toInt16.toInt32.toInt64)) else none) rfl (zR_bif hc7 (zR_go ?_))
        refine zr_steps 1 (97, [some (.ref 73), some (.int v1), some (.int v2), some (.long v3), none, some (.int t2), some (.int t4)], [.int 1], (SH, I, (zuj J 112 ((60 * v1) + v2).toNatClampNeg v3.toInt32.toInt16.toInt32.toInt64))) rfl ?_
        have he := Option.some.inj h
        subst he
        exact zr_one (some (.inr (.inr (some (.int 1))))) rfl (zR_ret rfl rfl)
      · rw [if_neg hc15] at h
        refine zr_steps 2 (65, [some (.ref 73), some (.int v1), some (.int v2), some (.long v3), none, some (.int t2), some (.int t4)], [.int 2, .int t4, .int ((60 * v1) + v2), .ref 112], (SH, I, J)) rfl ?_
        refine zr_one (if t4 = 2 then zN 68 [some (.ref 73), some (.int v1), some (.int v2), some (.long v3), none, some (.int t2), some (.int t4)] [.int ((60 * v1) + v2), .ref 112] (SH, I, J) else zN 74 [some (.ref 73), some (.int v1), some (.int v2), some (.long v3), none, some (.int t2), some (.int t4)] [.int ((60 * v1) + v2), .ref 112] (SH, I, J)) rfl (zR_if (fun hc14 => zR_go ?_) (fun hc14 => zR_go ?_))
        · rw [if_pos hc14] at h
          refine zr_steps 4 (95, [some (.ref 73), some (.int v1), some (.int v2), some (.long v3), none, some (.int t2), some (.int t4)], [.long v3.toInt32.toInt64, .int ((60 * v1) + v2), .ref 112], (SH, I, J)) rfl ?_
          obtain ⟨hc8, h⟩ := zbifo h
          refine zr_one (bif zin ((60 * v1) + v2) 360 then zN 96 [some (.ref 73), some (.int v1), some (.int v2), some (.long v3), none, some (.int t2), some (.int t4)] [] (SH, I, (zuj J 112 ((60 * v1) + v2).toNatClampNeg v3.toInt32.toInt64)) else none) rfl (zR_bif hc8 (zR_go ?_))
          refine zr_steps 1 (97, [some (.ref 73), some (.int v1), some (.int v2), some (.long v3), none, some (.int t2), some (.int t4)], [.int 1], (SH, I, (zuj J 112 ((60 * v1) + v2).toNatClampNeg v3.toInt32.toInt64))) rfl ?_
          have he := Option.some.inj h
          subst he
          exact zr_one (some (.inr (.inr (some (.int 1))))) rfl (zR_ret rfl rfl)
        · rw [if_neg hc14] at h
          refine zr_steps 2 (77, [some (.ref 73), some (.int v1), some (.int v2), some (.long v3), none, some (.int t2), some (.int t4)], [.int 3, .int t4, .int ((60 * v1) + v2), .ref 112], (SH, I, J)) rfl ?_
          refine zr_one (if t4 = 3 then zN 80 [some (.ref 73), some (.int v1), some (.int v2), some (.long v3), none, some (.int t2), some (.int t4)] [.int ((60 * v1) + v2), .ref 112] (SH, I, J) else zN 84 [some (.ref 73), some (.int v1), some (.int v2), some (.long v3), none, some (.int t2), some (.int t4)] [.int ((60 * v1) + v2), .ref 112] (SH, I, J)) rfl (zR_if (fun hc13 => zR_go ?_) (fun hc13 => zR_go ?_))
          · rw [if_pos hc13] at h
            refine zr_steps 2 (95, [some (.ref 73), some (.int v1), some (.int v2), some (.long v3), none, some (.int t2), some (.int t4)], [.long v3, .int ((60 * v1) + v2), .ref 112], (SH, I, J)) rfl ?_
            obtain ⟨hc9, h⟩ := zbifo h
            refine zr_one (bif zin ((60 * v1) + v2) 360 then zN 96 [some (.ref 73), some (.int v1), some (.int v2), some (.long v3), none, some (.int t2), some (.int t4)] [] (SH, I, (zuj J 112 ((60 * v1) + v2).toNatClampNeg v3)) else none) rfl (zR_bif hc9 (zR_go ?_))
            refine zr_steps 1 (97, [some (.ref 73), some (.int v1), some (.int v2), some (.long v3), none, some (.int t2), some (.int t4)], [.int 1], (SH, I, (zuj J 112 ((60 * v1) + v2).toNatClampNeg v3))) rfl ?_
            have he := Option.some.inj h
            subst he
            exact zr_one (some (.inr (.inr (some (.int 1))))) rfl (zR_ret rfl rfl)
          · rw [if_neg hc13] at h
            refine zr_steps 3 (87, [some (.ref 73), some (.int v1), some (.int v2), some (.long v3), none, some (.int t2), some (.int t4)], [.int (lg_cmp v3 0), .int ((60 * v1) + v2), .ref 112], (SH, I, J)) rfl ?_
            refine zr_one (if (lg_cmp v3 0) = 0 then zN 94 [some (.ref 73), some (.int v1), some (.int v2), some (.long v3), none, some (.int t2), some (.int t4)] [.int ((60 * v1) + v2), .ref 112] (SH, I, J) else zN 90 [some (.ref 73), some (.int v1), some (.int v2), some (.long v3), none, some (.int t2), some (.int t4)] [.int ((60 * v1) + v2), .ref 112] (SH, I, J)) rfl (zR_if (fun hc12 => zR_go ?_) (fun hc12 => zR_go ?_))
            · rw [if_pos hc12] at h
              refine zr_steps 1 (95, [some (.ref 73), some (.int v1), some (.int v2), some (.long v3), none, some (.int t2), some (.int t4)], [.long 0, .int ((60 * v1) + v2), .ref 112], (SH, I, J)) rfl ?_
              obtain ⟨hc10, h⟩ := zbifo h
              refine zr_one (bif zin ((60 * v1) + v2) 360 then zN 96 [some (.ref 73), some (.int v1), some (.int v2), some (.long v3), none, some (.int t2), some (.int t4)] [] (SH, I, (zuj J 112 ((60 * v1) + v2).toNatClampNeg 0)) else none) rfl (zR_bif hc10 (zR_go ?_))
              refine zr_steps 1 (97, [some (.ref 73), some (.int v1), some (.int v2), some (.long v3), none, some (.int t2), some (.int t4)], [.int 1], (SH, I, (zuj J 112 ((60 * v1) + v2).toNatClampNeg 0))) rfl ?_
              have he := Option.some.inj h
              subst he
              exact zr_one (some (.inr (.inr (some (.int 1))))) rfl (zR_ret rfl rfl)
            · rw [if_neg hc12] at h
              refine zr_steps 2 (95, [some (.ref 73), some (.int v1), some (.int v2), some (.long v3), none, some (.int t2), some (.int t4)], [.long 1, .int ((60 * v1) + v2), .ref 112], (SH, I, J)) rfl ?_
              obtain ⟨hc11, h⟩ := zbifo h
              refine zr_one (bif zin ((60 * v1) + v2) 360 then zN 96 [some (.ref 73), some (.int v1), some (.int v2), some (.long v3), none, some (.int t2), some (.int t4)] [] (SH, I, (zuj J 112 ((60 * v1) + v2).toNatClampNeg 1)) else none) rfl (zR_bif hc11 (zR_go ?_))
              refine zr_steps 1 (97, [some (.ref 73), some (.int v1), some (.int v2), some (.long v3), none, some (.int t2), some (.int t4)], [.int 1], (SH, I, (zuj J 112 ((60 * v1) + v2).toNatClampNeg 1))) rfl ?_
              have he := Option.some.inj h
              subst he
              exact zr_one (some (.inr (.inr (some (.int 1))))) rfl (zR_ret rfl rfl)
  · rw [if_neg hc17] at h
    refine zr_steps 1 (15, [some (.ref 73), some (.int v1), some (.int v2), some (.long v3), none, some (.int t2), none], [.int t2], (SH, I, J)) rfl ?_
    have he := Option.some.inj h
    subst he
    exact zr_one (some (.inr (.inr (some (.int t2))))) rfl (zR_ret rfl rfl)
set_option maxRecDepth 100000 in
set_option maxHeartbeats 4000000 in
theorem ok_f121_element {X : zX} {d : Nat} (hd : 4 ≤ d) (v1 : Int32) (v2 : Int32) {I : (Nat → Nat → Int32)} {J : (Nat → Nat → Int64)} (t : Int64) (h : f121_element v1 v2 I J = some t) : zRun X d 121 0 (zent 121 [.ref 0, .int v1, .int v2]) [] (SH, I, J) (some (.long t)) (SH, I, J) := by
  unfold f121_element at h
  refine zr_steps 3 (3, [some (.ref 0), some (.int v1), some (.int v2)], [.int v2, .int v1, .ref 0], (SH, I, J)) rfl ?_
  obtain ⟨t2, hc1, h⟩ := zbind h
  refine zr_one (some (.inr (.inl (122, [.ref 0, .int v1, .int v2], [], 6)))) rfl (zR_call (by omega) rfl (ok_f122_placeRefusal (by omega) v1 v2 _ hc1) ?_)
  refine zr_one (if t2 = 0 then zN 15 [some (.ref 0), some (.int v1), some (.int v2)] [] (SH, I, J) else zN 9 [some (.ref 0), some (.int v1), some (.int v2)] [] (SH, I, J)) rfl (zR_if (fun hc6 => zR_go ?_) (fun hc6 => zR_go ?_))
  · rw [if_pos hc6] at h
    refine zr_steps 3 (20, [some (.ref 0), some (.int v1), some (.int v2)], [.int v1, .ref 60], (SH, I, J)) rfl ?_
    obtain ⟨hc3, h⟩ := zbifo h
    refine zr_one (bif zin v1 6 then zrefr 21 [some (.ref 0), some (.int v1), some (.int v2)] [] (SH, I, J) (zri (SH, I, J) 60 v1.toNatClampNeg) else none) rfl (zR_bif hc3 (zR_ref (sh_at hc3) ?_))
    refine zr_steps 1 (22, [some (.ref 0), some (.int v1), some (.int v2)], [.int v2, .ref (zshelf v1)], (SH, I, J)) rfl ?_
    obtain ⟨t5, hc4, h⟩ := zbind h
    refine zr_one (bif zrcv (SH, I, J) 57 [.ref (zshelf v1), .int v2] then some (.inr (.inl (57, [.ref (zshelf v1), .int v2], [], 25))) else none) rfl (zR_bif (sh_rcv (sh_is hc3) rfl rfl) (zR_call (by omega) rfl (ok_f57_at (by omega) (zshelf v1) v2 (sh_is hc3) _ hc4) ?_))
    have he := Option.some.inj h
    subst he
    exact zr_one (some (.inr (.inr (some (.long t5))))) rfl (zR_ret rfl rfl)
  · rw [if_neg hc6] at h
    refine zr_steps 2 (25, [some (.ref 0), some (.int v1), some (.int v2)], [.long (-9223372036854775808)], (SH, I, J)) rfl ?_
    have he := Option.some.inj h
    subst he
    exact zr_one (some (.inr (.inr (some (.long (-9223372036854775808)))))) rfl (zR_ret rfl rfl)
set_option maxRecDepth 100000 in
set_option maxHeartbeats 4000000 in
theorem ok_f215_element {X : zX} {d : Nat} (hd : 3 ≤ d) (v1 : Int32) (v2 : Int32) {I : (Nat → Nat → Int32)} {J : (Nat → Nat → Int64)} (t : Int64) (h : f215_element v1 v2 I J = some t) : zRun X d 215 0 (zent 215 [.ref 73, .int v1, .int v2]) [] (SH, I, J) (some (.long t)) (SH, I, J) := by
  unfold f215_element at h
  refine zr_steps 3 (3, [some (.ref 73), some (.int v1), some (.int v2)], [.int v2, .int v1, .ref 73], (SH, I, J)) rfl ?_
  obtain ⟨t2, hc1, h⟩ := zbind h
  refine zr_one (some (.inr (.inl (213, [.ref 73, .int v1, .int v2], [], 6)))) rfl (zR_call (by omega) rfl (ok_f213_whyNoPlace (by omega) v1 v2 _ hc1) ?_)
  refine zr_one (if (0 : Int32) ≤ t2 then zN 15 [some (.ref 73), some (.int v1), some (.int v2)] [] (SH, I, J) else zN 9 [some (.ref 73), some (.int v1), some (.int v2)] [] (SH, I, J)) rfl (zR_if (fun hc4 => zR_go ?_) (fun hc4 => zR_go ?_))
  · rw [if_pos hc4] at h
    refine zr_steps 7 (25, [some (.ref 73), some (.int v1), some (.int v2)], [.int ((60 * v1) + v2), .ref 112], (SH, I, J)) rfl ?_
    obtain ⟨hc3, h⟩ := zbifo h
    refine zr_one (bif zin ((60 * v1) + v2) 360 then zN 26 [some (.ref 73), some (.int v1), some (.int v2)] [.long (J 112 ((60 * v1) + v2).toNatClampNeg)] (SH, I, J) else none) rfl (zR_bif hc3 (zR_go ?_))
    have he := Option.some.inj h
    subst he
    exact zr_one (some (.inr (.inr (some (.long (J 112 ((60 * v1) + v2).toNatClampNeg)))))) rfl (zR_ret rfl rfl)
  · rw [if_neg hc4] at h
    refine zr_steps 2 (26, [some (.ref 73), some (.int v1), some (.int v2)], [.long (-9223372036854775808)], (SH, I, J)) rfl ?_
    have he := Option.some.inj h
    subst he
    exact zr_one (some (.inr (.inr (some (.long (-9223372036854775808)))))) rfl (zR_ret rfl rfl)
