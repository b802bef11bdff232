set_option maxRecDepth 100000 in
set_option maxHeartbeats 4000000 in
theorem ok_f62_isSort {X : zX} {d : Nat} (hd : 0 ≤ d) (v1 : Int32) {I : (Nat → Nat → Int32)} {J : (Nat → Nat → Int64)} (t : Int32) (h : f62_isSort v1 I = some t) : zRun X d 62 0 (zent 62 [.ref 1, .int v1]) [] (SH, I, J) (some (.int t)) (SH, I, J) := by
  unfold f62_isSort at h
  refine zr_steps 1 (1, [some (.ref 1), some (.int v1)], [.int v1], (SH, I, J)) rfl ?_
  refine zr_one (if v1 < 0 then zN 16 [some (.ref 1), some (.int v1)] [] (SH, I, J) else zN 4 [some (.ref 1), some (.int v1)] [] (SH, I, J)) rfl (zR_if (fun hc2 => zR_go ?_) (fun hc2 => zR_go ?_))
  · rw [if_pos hc2] at h
    refine zr_steps 1 (17, [some (.ref 1), some (.int v1)], [.int 0], (SH, I, J)) rfl ?_
    have he := Option.some.inj h
    subst he
    exact zr_one (if ((0 : Int32) = 0 ∨ (0 : Int32) = 1) then some (.inr (.inr (some (.int 0)))) else none) rfl (zR_pos (by decide) (zR_ret rfl rfl))
  · rw [if_neg hc2] at h
    refine zr_steps 3 (9, [some (.ref 1), some (.int v1)], [.int (I 1 2), .int v1], (SH, I, J)) rfl ?_
    refine zr_one (if (I 1 2) ≤ v1 then zN 16 [some (.ref 1), some (.int v1)] [] (SH, I, J) else zN 12 [some (.ref 1), some (.int v1)] [] (SH, I, J)) rfl (zR_if (fun hc1 => zR_go ?_) (fun hc1 => zR_go ?_))
    · rw [if_pos hc1] at h
      refine zr_steps 1 (17, [some (.ref 1), some (.int v1)], [.int 0], (SH, I, J)) rfl ?_
      have he := Option.some.inj h
      subst he
      exact zr_one (if ((0 : Int32) = 0 ∨ (0 : Int32) = 1) then some (.inr (.inr (some (.int 0)))) else none) rfl (zR_pos (by decide) (zR_ret rfl rfl))
    · rw [if_neg hc1] at h
      refine zr_steps 2 (17, [some (.ref 1), some (.int v1)], [.int 1], (SH, I, J)) rfl ?_
      have he := Option.some.inj h
      subst he
      exact zr_one (if ((1 : Int32) = 0 ∨ (1 : Int32) = 1) then some (.inr (.inr (some (.int 1)))) else none) rfl (zR_pos (by decide) (zR_ret rfl rfl))
set_option maxRecDepth 100000 in
set_option maxHeartbeats 4000000 in
theorem ok_f69_mended {X : zX} {d : Nat} (hd : 0 ≤ d) (v1 : Int32) (v2 : Int32) (v3 : Int32) {I : (Nat → Nat → Int32)} {J : (Nat → Nat → Int64)} (t : (Int32 × (Nat → Nat → Int32))) (h : f69_mended v1 v2 v3 I = some t) : zRun X d 69 0 (zent 69 [.ref 1, .int v1, .int v2, .int v3]) [] (SH, I, J) (some (.int t.1)) (SH, t.2, J) := by
  unfold f69_mended at h
  refine zr_steps 1 (1, [some (.ref 1), some (.int v1), some (.int v2), some (.int v3), none, none], [.int v2], (SH, I, J)) rfl ?_
  refine zr_one (if v2 = 0 then zN 4 [some (.ref 1), some (.int v1), some (.int v2), some (.int v3), none, none] [] (SH, I, J) else zN 11 [some (.ref 1), some (.int v1), some (.int v2), some (.int v3), none, none] [] (SH, I, J)) rfl (zR_if (fun hc5 => zR_go ?_) (fun hc5 => zR_go ?_))
  · rw [if_pos hc5] at h
    refine zr_steps 6 (20, [some (.ref 1), some (.int v1), some (.int v2), some (.int v3), some (.ref 8), none], [.int v1, .ref 8], (SH, I, J)) rfl ?_
    obtain ⟨hc1, h⟩ := zbifo h
    refine zr_one (bif zin v1 8 then zN 21 [some (.ref 1), some (.int v1), some (.int v2), some (.int v3), some (.ref 8), none] [.int (I 8 v1.toNatClampNeg)] (SH, I, J) else none) rfl (zR_bif hc1 (zR_go ?_))
    refine zr_steps 4 (27, [some (.ref 1), some (.int v1), some (.int v2), some (.int v3), some (.ref 8), some (.int (I 8 v1.toNatClampNeg))], [.int v3, .int v1, .ref 8], (SH, I, J)) rfl ?_
    obtain ⟨hc2, h⟩ := zbifo h
    refine zr_one (bif zin v1 8 then zN 28 [some (.ref 1), some (.int v1), some (.int v2), some (.int v3), some (.ref 8), some (.int (I 8 v1.toNatClampNeg))] [] (SH, (zu I 8 v1.toNatClampNeg v3), J) else none) rfl (zR_bif hc2 (zR_go ?_))
    refine zr_steps 1 (30, [some (.ref 1), some (.int v1), some (.int v2), some (.int v3), some (.ref 8), some (.int (I 8 v1.toNatClampNeg))], [.int (I 8 v1.toNatClampNeg)], (SH, (zu I 8 v1.toNatClampNeg v3), J)) rfl ?_
    have he := Option.some.inj h
    subst he
    exact zr_one (some (.inr (.inr (some (.int (I 8 v1.toNatClampNeg)))))) rfl (zR_ret rfl rfl)
  · rw [if_neg hc5] at h
    refine zr_steps 5 (20, [some (.ref 1), some (.int v1), some (.int v2), some (.int v3), some (.ref 2), none], [.int v1, .ref 2], (SH, I, J)) rfl ?_
    obtain ⟨hc3, h⟩ := zbifo h
    refine zr_one (bif zin v1 4 then zN 21 [some (.ref 1), some (.int v1), some (.int v2), some (.int v3), some (.ref 2), none] [.int (I 2 v1.toNatClampNeg)] (SH, I, J) else none) rfl (zR_bif hc3 (zR_go ?_))
    refine zr_steps 4 (27, [some (.ref 1), some (.int v1), some (.int v2), some (.int v3), some (.ref 2), some (.int (I 2 v1.toNatClampNeg))], [.int v3, .int v1, .ref 2], (SH, I, J)) rfl ?_
    obtain ⟨hc4, h⟩ := zbifo h
    refine zr_one (bif zin v1 4 then zN 28 [some (.ref 1), some (.int v1), some (.int v2), some (.int v3), some (.ref 2), some (.int (I 2 v1.toNatClampNeg))] [] (SH, (zu I 2 v1.toNatClampNeg v3), J) else none) rfl (zR_bif hc4 (zR_go ?_))
    refine zr_steps 1 (30, [some (.ref 1), some (.int v1), some (.int v2), some (.int v3), some (.ref 2), some (.int (I 2 v1.toNatClampNeg))], [.int (I 2 v1.toNatClampNeg)], (SH, (zu I 2 v1.toNatClampNeg v3), J)) rfl ?_
    have he := Option.some.inj h
    subst he
    exact zr_one (some (.inr (.inr (some (.int (I 2 v1.toNatClampNeg)))))) rfl (zR_ret rfl rfl)
set_option maxRecDepth 100000 in
set_option maxHeartbeats 4000000 in
theorem ok_f14_forgetFirst {X : zX} {d : Nat} (hd : 0 ≤ d) {I : (Nat → Nat → Int32)} {J : (Nat → Nat → Int64)} (t : (Nat → Nat → Int32)) (h : f14_forgetFirst I = some t) : zRun X d 14 0 (zent 14 [.ref 52]) [] (SH, I, J) none (SH, t, J) := by
  unfold f14_forgetFirst at h
  refine zr_steps 7 (12, [some (.ref 52)], [.int 39, .int 0, .ref 53, .int 1, .ref 53], (SH, I, J)) rfl ?_
  obtain ⟨hc1, h⟩ := zbifo h
  refine zr_one (zcopy 12 [some (.ref 52)] [.int 39, .int 0, .ref 53, .int 1, .ref 53] (SH, I, J)) rfl (zR_copy (na := 40) (nb := 40) rfl rfl rfl rfl hc1 rfl ?_)
  refine zr_steps 7 (27, [some (.ref 52)], [.int 39, .int 0, .ref 54, .int 1, .ref 54], (SH, (zcp I 53 53 1 0 39), J)) rfl ?_
  obtain ⟨hc2, h⟩ := zbifo h
  refine zr_one (zcopy 27 [some (.ref 52)] [.int 39, .int 0, .ref 54, .int 1, .ref 54] (SH, (zcp I 53 53 1 0 39), J)) rfl (zR_copy (na := 40) (nb := 40) rfl rfl rfl rfl hc2 rfl ?_)
  refine zr_steps 7 (42, [some (.ref 52)], [.int 39, .int 0, .ref 55, .int 1, .ref 55], (SH, (zcp (zcp I 53 53 1 0 39) 54 54 1 0 39), J)) rfl ?_
  obtain ⟨hc3, h⟩ := zbifo h
  refine zr_one (zcopy 42 [some (.ref 52)] [.int 39, .int 0, .ref 55, .int 1, .ref 55] (SH, (zcp (zcp I 53 53 1 0 39) 54 54 1 0 39), J)) rfl (zR_copy (na := 40) (nb := 40) rfl rfl rfl rfl hc3 rfl ?_)
  refine zr_steps 7 (57, [some (.ref 52)], [.int 39, .int 0, .ref 56, .int 1, .ref 56], (SH, (zcp (zcp (zcp I 53 53 1 0 39) 54 54 1 0 39) 55 55 1 0 39), J)) rfl ?_
  obtain ⟨hc4, h⟩ := zbifo h
  refine zr_one (zcopy 57 [some (.ref 52)] [.int 39, .int 0, .ref 56, .int 1, .ref 56] (SH, (zcp (zcp (zcp I 53 53 1 0 39) 54 54 1 0 39) 55 55 1 0 39), J)) rfl (zR_copy (na := 40) (nb := 40) rfl rfl rfl rfl hc4 rfl ?_)
  refine zr_steps 6 (70, [some (.ref 52)], [], (SH, (zu (zcp (zcp (zcp (zcp I 53 53 1 0 39) 54 54 1 0 39) 55 55 1 0 39) 56 56 1 0 39) 52 5 ((I 52 5) - 1)), J)) rfl ?_
  have he := Option.some.inj h
  subst he
  exact zr_one (some (.inr (.inr none))) rfl (zR_ret rfl rfl)
set_option maxRecDepth 100000 in
set_option maxHeartbeats 4000000 in
theorem ok_f13_add {X : zX} {d : Nat} (hd : 1 ≤ d) (v1 : Int32) (v2 : Int32) (v3 : Int32) (v4 : Int32) {I : (Nat → Nat → Int32)} {J : (Nat → Nat → Int64)} (t : (Nat → Nat → Int32)) (h : f13_add v1 v2 v3 v4 I = some t) : zRun X d 13 0 (zent 13 [.ref 52, .int v1, .int v2, .int v3, .int v4]) [] (SH, I, J) none (SH, t, J) := by
  unfold f13_add at h
  refine zr_steps 3 (6, [some (.ref 52), some (.int v1), some (.int v2), some (.int v3), some (.int v4)], [.int 40, .int (I 52 5)], (SH, I, J)) rfl ?_
  refine zr_one (if (I 52 5) = 40 then zN 9 [some (.ref 52), some (.int v1), some (.int v2), some (.int v3), some (.int v4)] [] (SH, I, J) else zN 13 [some (.ref 52), some (.int v1), some (.int v2), some (.int v3), some (.int v4)] [] (SH, I, J)) rfl (zR_if (fun hc11 => zR_go ?_) (fun hc11 => zR_go ?_))
  · rw [if_pos hc11] at h
    refine zr_steps 1 (10, [some (.ref 52), some (.int v1), some (.int v2), some (.int v3), some (.int v4)], [.ref 52], (SH, I, J)) rfl ?_
    obtain ⟨t2, hc1, h⟩ := zbind h
    refine zr_one (some (.inr (.inl (14, [.ref 52], [], 13)))) rfl (zR_call (by omega) rfl (ok_f14_forgetFirst (by omega)  _ hc1) ?_)
    refine zr_steps 5 (22, [some (.ref 52), some (.int v1), some (.int v2), some (.int v3), some (.int v4)], [.int v1, .int (t2 52 5), .ref 53], (SH, t2, J)) rfl ?_
    obtain ⟨hc3, h⟩ := zbifo h
    refine zr_one (bif zin (t2 52 5) 40 then zN 23 [some (.ref 52), some (.int v1), some (.int v2), some (.int v3), some (.int v4)] [] (SH, (zu t2 53 (t2 52 5).toNatClampNeg v1), J) else none) rfl (zR_bif hc3 (zR_go ?_))
    refine zr_steps 5 (32, [some (.ref 52), some (.int v1), some (.int v2), some (.int v3), some (.int v4)], [.int v2, .int (t2 52 5), .ref 54], (SH, (zu t2 53 (t2 52 5).toNatClampNeg v1), J)) rfl ?_
    obtain ⟨hc4, h⟩ := zbifo h
    refine zr_one (bif zin (t2 52 5) 40 then zN 33 [some (.ref 52), some (.int v1), some (.int v2), some (.int v3), some (.int v4)] [] (SH, (zu (zu t2 53 (t2 52 5).toNatClampNeg v1) 54 (t2 52 5).toNatClampNeg v2), J) else none) rfl (zR_bif hc4 (zR_go ?_))
    refine zr_steps 5 (42, [some (.ref 52), some (.int v1), some (.int v2), some (.int v3), some (.int v4)], [.int v3, .int (t2 52 5), .ref 55], (SH, (zu (zu t2 53 (t2 52 5).toNatClampNeg v1) 54 (t2 52 5).toNatClampNeg v2), J)) rfl ?_
    obtain ⟨hc5, h⟩ := zbifo h
    refine zr_one (bif zin (t2 52 5) 40 then zN 43 [some (.ref 52), some (.int v1), some (.int v2), some (.int v3), some (.int v4)] [] (SH, (zu (zu (zu t2 53 (t2 52 5).toNatClampNeg v1) 54 (t2 52 5).toNatClampNeg v2) 55 (t2 52 5).toNatClampNeg v3), J) else none) rfl (zR_bif hc5 (zR_go ?_))
    refine zr_steps 5 (53, [some (.ref 52), some (.int v1), some (.int v2), some (.int v3), some (.int v4)], [.int v4, .int (t2 52 5), .ref 56], (SH, (zu (zu (zu t2 53 (t2 52 5).toNatClampNeg v1) 54 (t2 52 5).toNatClampNeg v2) 55 (t2 52 5).toNatClampNeg v3), J)) rfl ?_
    obtain ⟨hc6, h⟩ := zbifo h
    refine zr_one (bif zin (t2 52 5) 40 then zN 54 [some (.ref 52), some (.int v1), some (.int v2), some (.int v3), some (.int v4)] [] (SH, (zu (zu (zu (zu t2 53 (t2 52 5).toNatClampNeg v1) 54 (t2 52 5).toNatClampNeg v2) 55 (t2 52 5).toNatClampNeg v3) 56 (t2 52 5).toNatClampNeg v4), J) else none) rfl (zR_bif hc6 (zR_go ?_))
    refine zr_steps 10 (72, [some (.ref 52), some (.int v1), some (.int v2), some (.int v3), some (.int v4)], [], (SH, (zu (zu (zu (zu (zu (zu t2 53 (t2 52 5).toNatClampNeg v1) 54 (t2 52 5).toNatClampNeg v2) 55 (t2 52 5).toNatClampNeg v3) 56 (t2 52 5).toNatClampNeg v4) 52 5 ((t2 52 5) + 1)) 52 4 ((t2 52 5) + 1)), J)) rfl ?_
    have he := Option.some.inj h
    subst he
    exact zr_one (some (.inr (.inr none))) rfl (zR_ret rfl rfl)
  · rw [if_neg hc11] at h
    refine zr_steps 5 (22, [some (.ref 52), some (.int v1), some (.int v2), some (.int v3), some (.int v4)], [.int v1, .int (I 52 5), .ref 53], (SH, I, J)) rfl ?_
    obtain ⟨hc7, h⟩ := zbifo h
    refine zr_one (bif zin (I 52 5) 40 then zN 23 [some (.ref 52), some (.int v1), some (.int v2), some (.int v3), some (.int v4)] [] (SH, (zu I 53 (I 52 5).toNatClampNeg v1), J) else none) rfl (zR_bif hc7 (zR_go ?_))
    refine zr_steps 5 (32, [some (.ref 52), some (.int v1), some (.int v2), some (.int v3), some (.int v4)], [.int v2, .int (I 52 5), .ref 54], (SH, (zu I 53 (I 52 5).toNatClampNeg v1), J)) rfl ?_
    obtain ⟨hc8, h⟩ := zbifo h
    refine zr_one (bif zin (I 52 5) 40 then zN 33 [some (.ref 52), some (.int v1), some (.int v2), some (.int v3), some (.int v4)] [] (SH, (zu (zu I 53 (I 52 5).toNatClampNeg v1) 54 (I 52 5).toNatClampNeg v2), J) else none) rfl (zR_bif hc8 (zR_go ?_))
    refine zr_steps 5 (42, [some (.ref 52), some (.int v1), some (.int v2), some (.int v3), some (.int v4)], [.int v3, .int (I 52 5), .ref 55], (SH, (zu (zu I 53 (I 52 5).toNatClampNeg v1) 54 (I 52 5).toNatClampNeg v2), J)) rfl ?_
    obtain ⟨hc9, h⟩ := zbifo h
    refine zr_one (bif zin (I 52 5) 40 then zN 43 [some (.ref 52), some (.int v1), some (.int v2), some (.int v3), some (.int v4)] [] (SH, (zu (zu (zu I 53 (I 52 5).toNatClampNeg v1) 54 (I 52 5).toNatClampNeg v2) 55 (I 52 5).toNatClampNeg v3), J) else none) rfl (zR_bif hc9 (zR_go ?_))
    refine zr_steps 5 (53, [some (.ref 52), some (.int v1), some (.int v2), some (.int v3), some (.int v4)], [.int v4, .int (I 52 5), .ref 56], (SH, (zu (zu (zu I 53 (I 52 5).toNatClampNeg v1) 54 (I 52 5).toNatClampNeg v2) 55 (I 52 5).toNatClampNeg v3), J)) rfl ?_
    obtain ⟨hc10, h⟩ := zbifo h
    refine zr_one (bif zin (I 52 5) 40 then zN 54 [some (.ref 52), some (.int v1), some (.int v2), some (.int v3), some (.int v4)] [] (SH, (zu (zu (zu (zu I 53 (I 52 5).toNatClampNeg v1) 54 (I 52 5).toNatClampNeg v2) 55 (I 52 5).toNatClampNeg v3) 56 (I 52 5).toNatClampNeg v4), J) else none) rfl (zR_bif hc10 (zR_go ?_))
    refine zr_steps 10 (72, [some (.ref 52), some (.int v1), some (.int v2), some (.int v3), some (.int v4)], [], (SH, (zu (zu (zu (zu (zu (zu I 53 (I 52 5).toNatClampNeg v1) 54 (I 52 5).toNatClampNeg v2) 55 (I 52 5).toNatClampNeg v3) 56 (I 52 5).toNatClampNeg v4) 52 5 ((I 52 5) + 1)) 52 4 ((I 52 5) + 1)), J)) rfl ?_
    have he := Option.some.inj h
    subst he
    exact zr_one (some (.inr (.inr none))) rfl (zR_ret rfl rfl)
set_option maxRecDepth 100000 in
set_option maxHeartbeats 4000000 in
theorem ok_f94_mend {X : zX} {d : Nat} (hd : 2 ≤ d) (v1 : Int32) (v2 : Int32) (v3 : Int32) {I : (Nat → Nat → Int32)} {J : (Nat → Nat → Int64)} (t : (Int32 × (Nat → Nat → Int32))) (h : f94_mend v1 v2 v3 I = some t) : zRun X d 94 0 (zent 94 [.ref 0, .int v1, .int v2, .int v3]) [] (SH, I, J) (some (.int t.1)) (SH, t.2, J) := by
  unfold f94_mend at h
  refine zr_steps 1 (1, [some (.ref 0), some (.int v1), some (.int v2), some (.int v3), none, none, none], [.int v2], (SH, I, J)) rfl ?_
  refine zr_one (if v2 = 0 then zN 4 [some (.ref 0), some (.int v1), some (.int v2), some (.int v3), none, none, none] [] (SH, I, J) else zN 30 [some (.ref 0), some (.int v1), some (.int v2), some (.int v3), none, none, none] [] (SH, I, J)) rfl (zR_if (fun hc70 => zR_go ?_) (fun hc70 => zR_go ?_))
  · rw [if_pos hc70] at h
    refine zr_steps 3 (9, [some (.ref 0), some (.int v1), some (.int v2), some (.int v3), none, none, none], [.int v1, .ref 1], (SH, I, J)) rfl ?_
    obtain ⟨t2, hc1, h⟩ := zbind h
    refine zr_one (some (.inr (.inl (62, [.ref 1, .int v1], [], 12)))) rfl (zR_call (by omega) rfl (ok_f62_isSort (by omega) v1 _ hc1) ?_)
    refine zr_one (if t2 = 0 then zN 30 [some (.ref 0), some (.int v1), some (.int v2), some (.int v3), none, none, none] [] (SH, I, J) else zN 15 [some (.ref 0), some (.int v1), some (.int v2), some (.int v3), none, none, none] [] (SH, I, J)) rfl (zR_if (fun hc57 => zR_go ?_) (fun hc57 => zR_go ?_))
    · rw [if_pos hc57] at h
      refine zr_steps 4 (35, [some (.ref 0), some (.int v1), some (.int v2), some (.int v3), some (.int 0), none, none], [.int 1, .int v2], (SH, I, J)) rfl ?_
      refine zr_one (if v2 = 1 then zN 38 [some (.ref 0), some (.int v1), some (.int v2), some (.int v3), some (.int 0), none, none] [] (SH, I, J) else zN 64 [some (.ref 0), some (.int v1), some (.int v2), some (.int v3), some (.int 0), none, none] [] (SH, I, J)) rfl (zR_if (fun hc14 => zR_go ?_) (fun hc14 => zR_go ?_))
      · rw [if_pos hc14] at h
        refine zr_steps 3 (43, [some (.ref 0), some (.int v1), some (.int v2), some (.int v3), some (.int 0), none, none], [.int v1, .ref 1], (SH, I, J)) rfl ?_
        obtain ⟨t4, hc3, h⟩ := zbind h
        refine zr_one (some (.inr (.inl (61, [.ref 1, .int v1], [], 46)))) rfl (zR_call (by omega) rfl (ok_f61_isSquare (by omega) v1 _ hc3) ?_)
        refine zr_one (if t4 = 0 then zN 64 [some (.ref 0), some (.int v1), some (.int v2), some (.int v3), some (.int 0), none, none] [] (SH, I, J) else zN 49 [some (.ref 0), some (.int v1), some (.int v2), some (.int v3), some (.int 0), none, none] [] (SH, I, J)) rfl (zR_if (fun hc13 => zR_go ?_) (fun hc13 => zR_go ?_))
        · rw [if_pos hc13] at h
          refine zr_steps 3 (69, [some (.ref 0), some (.int v1), some (.int v2), some (.int v3), some (.int 0), some (.int 0), none], [.int 0], (SH, I, J)) rfl ?_
          refine zr_one (if (0 : Int32) = 0 then zN 72 [some (.ref 0), some (.int v1), some (.int v2), some (.int v3), some (.int 0), some (.int 0), none] [] (SH, I, J) else zN 79 [some (.ref 0), some (.int v1), some (.int v2), some (.int v3), some (.int 0), some (.int 0), none] [] (SH, I, J)) rfl (zR_pos (by decide) (zR_go ?_))
          refine zr_steps 1 (74, [some (.ref 0), some (.int v1), some (.int v2), some (.int v3), some (.int 0), some (.int 0), none], [.int 0], (SH, I, J)) rfl ?_
          refine zr_one (if (0 : Int32) = 0 then zN 77 [some (.ref 0), some (.int v1), some (.int v2), some (.int v3), some (.int 0), some (.int 0), none] [] (SH, I, J) else zN 79 [some (.ref 0), some (.int v1), some (.int v2), some (.int v3), some (.int 0), some (.int 0), none] [] (SH, I, J)) rfl (zR_pos (by decide) (zR_go ?_))
          refine zr_steps 1 (78, [some (.ref 0), some (.int v1), some (.int v2), some (.int v3), some (.int 0), some (.int 0), none], [.int (-1)], (SH, I, J)) rfl ?_
          have he := Option.some.inj h
          subst he
          exact zr_one (some (.inr (.inr (some (.int (-1)))))) rfl (zR_ret rfl rfl)
        · rw [if_neg hc13] at h
          refine zr_steps 3 (54, [some (.ref 0), some (.int v1), some (.int v2), some (.int v3), some (.int 0), none, none], [.int 999, .int 0, .int v3], (SH, I, J)) rfl ?_
          obtain ⟨t6, hc5, h⟩ := zbind h
          refine zr_one (some (.inr (.inl (126, [.int v3, .int 0, .int 999], [], 57)))) rfl (zR_call (by omega) rfl (ok_f126_within (by omega) v3 0 999 _ hc5) ?_)
          refine zr_one (if t6 = 0 then zN 64 [some (.ref 0), some (.int v1), some (.int v2), some (.int v3), some (.int 0), none, none] [] (SH, I, J) else zN 60 [some (.ref 0), some (.int v1), some (.int v2), some (.int v3), some (.int 0), none, none] [] (SH, I, J)) rfl (zR_if (fun hc12 => zR_go ?_) (fun hc12 => zR_go ?_))
          · rw [if_pos hc12] at h
            refine zr_steps 3 (69, [some (.ref 0), some (.int v1), some (.int v2), some (.int v3), some (.int 0), some (.int 0), none], [.int 0], (SH, I, J)) rfl ?_
            refine zr_one (if (0 : Int32) = 0 then zN 72 [some (.ref 0), some (.int v1), some (.int v2), some (.int v3), some (.int 0), some (.int 0), none] [] (SH, I, J) else zN 79 [some (.ref 0), some (.int v1), some (.int v2), some (.int v3), some (.int 0), some (.int 0), none] [] (SH, I, J)) rfl (zR_pos (by decide) (zR_go ?_))
            refine zr_steps 1 (74, [some (.ref 0), some (.int v1), some (.int v2), some (.int v3), some (.int 0), some (.int 0), none], [.int 0], (SH, I, J)) rfl ?_
            refine zr_one (if (0 : Int32) = 0 then zN 77 [some (.ref 0), some (.int v1), some (.int v2), some (.int v3), some (.int 0), some (.int 0), none] [] (SH, I, J) else zN 79 [some (.ref 0), some (.int v1), some (.int v2), some (.int v3), some (.int 0), some (.int 0), none] [] (SH, I, J)) rfl (zR_pos (by decide) (zR_go ?_))
            refine zr_steps 1 (78, [some (.ref 0), some (.int v1), some (.int v2), some (.int v3), some (.int 0), some (.int 0), none], [.int (-1)], (SH, I, J)) rfl ?_
            have he := Option.some.inj h
            subst he
            exact zr_one (some (.inr (.inr (some (.int (-1)))))) rfl (zR_ret rfl rfl)
          · rw [if_neg hc12] at h
            refine zr_steps 4 (69, [some (.ref 0), some (.int v1), some (.int v2), some (.int v3), some (.int 0), some (.int 1), none], [.int 0], (SH, I, J)) rfl ?_
            refine zr_one (if (0 : Int32) = 0 then zN 72 [some (.ref 0), some (.int v1), some (.int v2), some (.int v3), some (.int 0), some (.int 1), none] [] (SH, I, J) else zN 79 [some (.ref 0), some (.int v1), some (.int v2), some (.int v3), some (.int 0), some (.int 1), none] [] (SH, I, J)) rfl (zR_pos (by decide) (zR_go ?_))
            refine zr_steps 1 (74, [some (.ref 0), some (.int v1), some (.int v2), some (.int v3), some (.int 0), some (.int 1), none], [.int 1], (SH, I, J)) rfl ?_
            refine zr_one (if (1 : Int32) = 0 then zN 77 [some (.ref 0), some (.int v1), some (.int v2), some (.int v3), some (.int 0), some (.int 1), none] [] (SH, I, J) else zN 79 [some (.ref 0), some (.int v1), some (.int v2), some (.int v3), some (.int 0), some (.int 1), none] [] (SH, I, J)) rfl (zR_div (by decide) (zR_go ?_))
            refine zr_steps 5 (86, [some (.ref 0), some (.int v1), some (.int v2), some (.int v3), some (.int 0), some (.int 1), none], [.int v3, .int v2, .int v1, .ref 1], (SH, I, J)) rfl ?_
            obtain ⟨t8, hc7, h⟩ := zbind h
            refine zr_one (some (.inr (.inl (69, [.ref 1, .int v1, .int v2, .int v3], [], 89)))) rfl (zR_call (by omega) rfl (ok_f69_mended (by omega) v1 v2 v3 _ hc7) ?_)
            refine zr_steps 3 (94, [some (.ref 0), some (.int v1), some (.int v2), some (.int v3), some (.int 0), some (.int 1), some (.int t8.1)], [.int v3, .int t8.1], (SH, t8.2, J)) rfl ?_
            refine zr_one (if t8.1 = v3 then zN 109 [some (.ref 0), some (.int v1), some (.int v2), some (.int v3), some (.int 0), some (.int 1), some (.int t8.1)] [] (SH, t8.2, J) else zN 97 [some (.ref 0), some (.int v1), some (.int v2), some (.int v3), some (.int 0), some (.int 1), some (.int t8.1)] [] (SH, t8.2, J)) rfl (zR_if (fun hc11 => zR_go ?_) (fun hc11 => zR_go ?_))
            · rw [if_pos hc11] at h
              refine zr_steps 1 (111, [some (.ref 0), some (.int v1), some (.int v2), some (.int v3), some (.int 0), some (.int 1), some (.int t8.1)], [.int t8.1], (SH, t8.2, J)) rfl ?_
              have he := Option.some.inj h
              subst he
              exact zr_one (some (.inr (.inr (some (.int t8.1))))) rfl (zR_ret rfl rfl)
            · rw [if_neg hc11] at h
              refine zr_steps 6 (106, [some (.ref 0), some (.int v1), some (.int v2), some (.int v3), some (.int 0), some (.int 1), some (.int t8.1)], [.int v3, .int t8.1, .int v2, .int v1, .ref 52], (SH, t8.2, J)) rfl ?_
              obtain ⟨t10, hc9, h⟩ := zbind h
              refine zr_one (some (.inr (.inl (13, [.ref 52, .int v1, .int v2, .int t8.1, .int v3], [], 109)))) rfl (zR_call (by omega) rfl (ok_f13_add (by omega) v1 v2 t8.1 v3 _ hc9) ?_)
              refine zr_steps 1 (111, [some (.ref 0), some (.int v1), some (.int v2), some (.int v3), some (.int 0), some (.int 1), some (.int t8.1)], [.int t8.1], (SH, t10, J)) rfl ?_
              have he := Option.some.inj h
              subst he
              exact zr_one (some (.inr (.inr (some (.int t8.1))))) rfl (zR_ret rfl rfl)
      · rw [if_neg hc14] at h
        refine zr_steps 3 (69, [some (.ref 0), some (.int v1), some (.int v2), some (.int v3), some (.int 0), some (.int 0), none], [.int 0], (SH, I, J)) rfl ?_
        refine zr_one (if (0 : Int32) = 0 then zN 72 [some (.ref 0), some (.int v1), some (.int v2), some (.int v3), some (.int 0), some (.int 0), none] [] (SH, I, J) else zN 79 [some (.ref 0), some (.int v1), some (.int v2), some (.int v3), some (.int 0), some (.int 0), none] [] (SH, I, J)) rfl (zR_pos (by decide) (zR_go ?_))
        refine zr_steps 1 (74, [some (.ref 0), some (.int v1), some (.int v2), some (.int v3), some (.int 0), some (.int 0), none], [.int 0], (SH, I, J)) rfl ?_
        refine zr_one (if (0 : Int32) = 0 then zN 77 [some (.ref 0), some (.int v1), some (.int v2), some (.int v3), some (.int 0), some (.int 0), none] [] (SH, I, J) else zN 79 [some (.ref 0), some (.int v1), some (.int v2), some (.int v3), some (.int 0), some (.int 0), none] [] (SH, I, J)) rfl (zR_pos (by decide) (zR_go ?_))
        refine zr_steps 1 (78, [some (.ref 0), some (.int v1), some (.int v2), some (.int v3), some (.int 0), some (.int 0), none], [.int (-1)], (SH, I, J)) rfl ?_
        have he := Option.some.inj h
        subst he
        exact zr_one (some (.inr (.inr (some (.int (-1)))))) rfl (zR_ret rfl rfl)
    · rw [if_neg hc57] at h
      refine zr_steps 3 (20, [some (.ref 0), some (.int v1), some (.int v2), some (.int v3), none, none, none], [.int 200, .int 0, .int v3], (SH, I, J)) rfl ?_
      obtain ⟨t16, hc15, h⟩ := zbind h
      refine zr_one (some (.inr (.inl (126, [.int v3, .int 0, .int 200], [], 23)))) rfl (zR_call (by omega) rfl (ok_f126_within (by omega) v3 0 200 _ hc15) ?_)
      refine zr_one (if t16 = 0 then zN 30 [some (.ref 0), some (.int v1), some (.int v2), some (.int v3), none, none, none] [] (SH, I, J) else zN 26 [some (.ref 0), some (.int v1), some (.int v2), some (.int v3), none, none, none] [] (SH, I, J)) rfl (zR_if (fun hc56 => zR_go ?_) (fun hc56 => zR_go ?_))
      · rw [if_pos hc56] at h
        refine zr_steps 4 (35, [some (.ref 0), some (.int v1), some (.int v2), some (.int v3), some (.int 0), none, none], [.int 1, .int v2], (SH, I, J)) rfl ?_
        refine zr_one (if v2 = 1 then zN 38 [some (.ref 0), some (.int v1), some (.int v2), some (.int v3), some (.int 0), none, none] [] (SH, I, J) else zN 64 [some (.ref 0), some (.int v1), some (.int v2), some (.int v3), some (.int 0), none, none] [] (SH, I, J)) rfl (zR_if (fun hc28 => zR_go ?_) (fun hc28 => zR_go ?_))
        · rw [if_pos hc28] at h
          refine zr_steps 3 (43, [some (.ref 0), some (.int v1), some (.int v2), some (.int v3), some (.int 0), none, none], [.int v1, .ref 1], (SH, I, J)) rfl ?_
          obtain ⟨t18, hc17, h⟩ := zbind h
          refine zr_one (some (.inr (.inl (61, [.ref 1, .int v1], [], 46)))) rfl (zR_call (by omega) rfl (ok_f61_isSquare (by omega) v1 _ hc17) ?_)
          refine zr_one (if t18 = 0 then zN 64 [some (.ref 0), some (.int v1), some (.int v2), some (.int v3), some (.int 0), none, none] [] (SH, I, J) else zN 49 [some (.ref 0), some (.int v1), some (.int v2), some (.int v3), some (.int 0), none, none] [] (SH, I, J)) rfl (zR_if (fun hc27 => zR_go ?_) (fun hc27 => zR_go ?_))
          · rw [if_pos hc27] at h
            refine zr_steps 3 (69, [some (.ref 0), some (.int v1), some (.int v2), some (.int v3), some (.int 0), some (.int 0), none], [.int 0], (SH, I, J)) rfl ?_
            refine zr_one (if (0 : Int32) = 0 then zN 72 [some (.ref 0), some (.int v1), some (.int v2), some (.int v3), some (.int 0), some (.int 0), none] [] (SH, I, J) else zN 79 [some (.ref 0), some (.int v1), some (.int v2), some (.int v3), some (.int 0), some (.int 0), none] [] (SH, I, J)) rfl (zR_pos (by decide) (zR_go ?_))
            refine zr_steps 1 (74, [some (.ref 0), some (.int v1), some (.int v2), some (.int v3), some (.int 0), some (.int 0), none], [.int 0], (SH, I, J)) rfl ?_
            refine zr_one (if (0 : Int32) = 0 then zN 77 [some (.ref 0), some (.int v1), some (.int v2), some (.int v3), some (.int 0), some (.int 0), none] [] (SH, I, J) else zN 79 [some (.ref 0), some (.int v1), some (.int v2), some (.int v3), some (.int 0), some (.int 0), none] [] (SH, I, J)) rfl (zR_pos (by decide) (zR_go ?_))
            refine zr_steps 1 (78, [some (.ref 0), some (.int v1), some (.int v2), some (.int v3), some (.int 0), some (.int 0), none], [.int (-1)], (SH, I, J)) rfl ?_
            have he := Option.some.inj h
            subst he
            exact zr_one (some (.inr (.inr (some (.int (-1)))))) rfl (zR_ret rfl rfl)
          · rw [if_neg hc27] at h
            refine zr_steps 3 (54, [some (.ref 0), some (.int v1), some (.int v2), some (.int v3), some (.int 0), none, none], [.int 999, .int 0, .int v3], (SH, I, J)) rfl ?_
            obtain ⟨t20, hc19, h⟩ := zbind h
            refine zr_one (some (.inr (.inl (126, [.int v3, .int 0, .int 999], [], 57)))) rfl (zR_call (by omega) rfl (ok_f126_within (by omega) v3 0 999 _ hc19) ?_)
            refine zr_one (if t20 = 0 then zN 64 [some (.ref 0), some (.int v1), some (.int v2), some (.int v3), some (.int 0), none, none] [] (SH, I, J) else zN 60 [some (.ref 0), some (.int v1), some (.int v2), some (.int v3), some (.int 0), none, none] [] (SH, I, J)) rfl (zR_if (fun hc26 => zR_go ?_) (fun hc26 => zR_go ?_))
            · rw [if_pos hc26] at h
              refine zr_steps 3 (69, [some (.ref 0), some (.int v1), some (.int v2), some (.int v3), some (.int 0), some (.int 0), none], [.int 0], (SH, I, J)) rfl ?_
              refine zr_one (if (0 : Int32) = 0 then zN 72 [some (.ref 0), some (.int v1), some (.int v2), some (.int v3), some (.int 0), some (.int 0), none] [] (SH, I, J) else zN 79 [some (.ref 0), some (.int v1), some (.int v2), some (.int v3), some (.int 0), some (.int 0), none] [] (SH, I, J)) rfl (zR_pos (by decide) (zR_go ?_))
              refine zr_steps 1 (74, [some (.ref 0), some (.int v1), some (.int v2), some (.int v3), some (.int 0), some (.int 0), none], [.int 0], (SH, I, J)) rfl ?_
              refine zr_one (if (0 : Int32) = 0 then zN 77 [some (.ref 0), some (.int v1), some (.int v2), some (.int v3), some (.int 0), some (.int 0), none] [] (SH, I, J) else zN 79 [some (.ref 0), some (.int v1), some (.int v2), some (.int v3), some (.int 0), some (.int 0), none] [] (SH, I, J)) rfl (zR_pos (by decide) (zR_go ?_))
              refine zr_steps 1 (78, [some (.ref 0), some (.int v1), some (.int v2), some (.int v3), some (.int 0), some (.int 0), none], [.int (-1)], (SH, I, J)) rfl ?_
              have he := Option.some.inj h
              subst he
              exact zr_one (some (.inr (.inr (some (.int (-1)))))) rfl (zR_ret rfl rfl)
            · rw [if_neg hc26] at h
              refine zr_steps 4 (69, [some (.ref 0), some (.int v1), some (.int v2), some (.int v3), some (.int 0), some (.int 1), none], [.int 0], (SH, I, J)) rfl ?_
              refine zr_one (if (0 : Int32) = 0 then zN 72 [some (.ref 0), some (.int v1), some (.int v2), some (.int v3), some (.int 0), some (.int 1), none] [] (SH, I, J) else zN 79 [some (.ref 0), some (.int v1), some (.int v2), some (.int v3), some (.int 0), some (.int 1), none] [] (SH, I, J)) rfl (zR_pos (by decide) (zR_go ?_))
              refine zr_steps 1 (74, [some (.ref 0), some (.int v1), some (.int v2), some (.int v3), some (.int 0), some (.int 1), none], [.int 1], (SH, I, J)) rfl ?_
              refine zr_one (if (1 : Int32) = 0 then zN 77 [some (.ref 0), some (.int v1), some (.int v2), some (.int v3), some (.int 0), some (.int 1), none] [] (SH, I, J) else zN 79 [some (.ref 0), some (.int v1), some (.int v2), some (.int v3), some (.int 0), some (.int 1), none] [] (SH, I, J)) rfl (zR_div (by decide) (zR_go ?_))
              refine zr_steps 5 (86, [some (.ref 0), some (.int v1), some (.int v2), some (.int v3), some (.int 0), some (.int 1), none], [.int v3, .int v2, .int v1, .ref 1], (SH, I, J)) rfl ?_
              obtain ⟨t22, hc21, h⟩ := zbind h
              refine zr_one (some (.inr (.inl (69, [.ref 1, .int v1, .int v2, .int v3], [], 89)))) rfl (zR_call (by omega) rfl (ok_f69_mended (by omega) v1 v2 v3 _ hc21) ?_)
              refine zr_steps 3 (94, [some (.ref 0), some (.int v1), some (.int v2), some (.int v3), some (.int 0), some (.int 1), some (.int t22.1)], [.int v3, .int t22.1], (SH, t22.2, J)) rfl ?_
              refine zr_one (if t22.1 = v3 then zN 109 [some (.ref 0), some (.int v1), some (.int v2), some (.int v3), some (.int 0), some (.int 1), some (.int t22.1)] [] (SH, t22.2, J) else zN 97 [some (.ref 0), some (.int v1), some (.int v2), some (.int v3), some (.int 0), some (.int 1), some (.int t22.1)] [] (SH, t22.2, J)) rfl (zR_if (fun hc25 => zR_go ?_) (fun hc25 => zR_go ?_))
              · rw [if_pos hc25] at h
                refine zr_steps 1 (111, [some (.ref 0), some (.int v1), some (.int v2), some (.int v3), some (.int 0), some (.int 1), some (.int t22.1)], [.int t22.1], (SH, t22.2, J)) rfl ?_
                have he := Option.some.inj h
                subst he
                exact zr_one (some (.inr (.inr (some (.int t22.1))))) rfl (zR_ret rfl rfl)
              · rw [if_neg hc25] at h
                refine zr_steps 6 (106, [some (.ref 0), some (.int v1), some (.int v2), some (.int v3), some (.int 0), some (.int 1), some (.int t22.1)], [.int v3, .int t22.1, .int v2, .int v1, .ref 52], (SH, t22.2, J)) rfl ?_
                obtain ⟨t24, hc23, h⟩ := zbind h
                refine zr_one (some (.inr (.inl (13, [.ref 52, .int v1, .int v2, .int t22.1, .int v3], [], 109)))) rfl (zR_call (by omega) rfl (ok_f13_add (by omega) v1 v2 t22.1 v3 _ hc23) ?_)
                refine zr_steps 1 (111, [some (.ref 0), some (.int v1), some (.int v2), some (.int v3), some (.int 0), some (.int 1), some (.int t22.1)], [.int t22.1], (SH, t24, J)) rfl ?_
                have he := Option.some.inj h
                subst he
                exact zr_one (some (.inr (.inr (some (.int t22.1))))) rfl (zR_ret rfl rfl)
        · rw [if_neg hc28] at h
          refine zr_steps 3 (69, [some (.ref 0), some (.int v1), some (.int v2), some (.int v3), some (.int 0), some (.int 0), none], [.int 0], (SH, I, J)) rfl ?_
          refine zr_one (if (0 : Int32) = 0 then zN 72 [some (.ref 0), some (.int v1), some (.int v2), some (.int v3), some (.int 0), some (.int 0), none] [] (SH, I, J) else zN 79 [some (.ref 0), some (.int v1), some (.int v2), some (.int v3), some (.int 0), some (.int 0), none] [] (SH, I, J)) rfl (zR_pos (by decide) (zR_go ?_))
          refine zr_steps 1 (74, [some (.ref 0), some (.int v1), some (.int v2), some (.int v3), some (.int 0), some (.int 0), none], [.int 0], (SH, I, J)) rfl ?_
          refine zr_one (if (0 : Int32) = 0 then zN 77 [some (.ref 0), some (.int v1), some (.int v2), some (.int v3), some (.int 0), some (.int 0), none] [] (SH, I, J) else zN 79 [some (.ref 0), some (.int v1), some (.int v2), some (.int v3), some (.int 0), some (.int 0), none] [] (SH, I, J)) rfl (zR_pos (by decide) (zR_go ?_))
          refine zr_steps 1 (78, [some (.ref 0), some (.int v1), some (.int v2), some (.int v3), some (.int 0), some (.int 0), none], [.int (-1)], (SH, I, J)) rfl ?_
          have he := Option.some.inj h
          subst he
          exact zr_one (some (.inr (.inr (some (.int (-1)))))) rfl (zR_ret rfl rfl)
      · rw [if_neg hc56] at h
        refine zr_steps 5 (35, [some (.ref 0), some (.int v1), some (.int v2), some (.int v3), some (.int 1), none, none], [.int 1, .int v2], (SH, I, J)) rfl ?_
        refine zr_one (if v2 = 1 then zN 38 [some (.ref 0), some (.int v1), some (.int v2), some (.int v3), some (.int 1), none, none] [] (SH, I, J) else zN 64 [some (.ref 0), some (.int v1), some (.int v2), some (.int v3), some (.int 1), none, none] [] (SH, I, J)) rfl (zR_if (fun hc55 => zR_go ?_) (fun hc55 => zR_go ?_))
        · rw [if_pos hc55] at h
          refine zr_steps 3 (43, [some (.ref 0), some (.int v1), some (.int v2), some (.int v3), some (.int 1), none, none], [.int v1, .ref 1], (SH, I, J)) rfl ?_
          obtain ⟨t30, hc29, h⟩ := zbind h
          refine zr_one (some (.inr (.inl (61, [.ref 1, .int v1], [], 46)))) rfl (zR_call (by omega) rfl (ok_f61_isSquare (by omega) v1 _ hc29) ?_)
          refine zr_one (if t30 = 0 then zN 64 [some (.ref 0), some (.int v1), some (.int v2), some (.int v3), some (.int 1), none, none] [] (SH, I, J) else zN 49 [some (.ref 0), some (.int v1), some (.int v2), some (.int v3), some (.int 1), none, none] [] (SH, I, J)) rfl (zR_if (fun hc49 => zR_go ?_) (fun hc49 => zR_go ?_))
          · rw [if_pos hc49] at h
            refine zr_steps 3 (69, [some (.ref 0), some (.int v1), some (.int v2), some (.int v3), some (.int 1), some (.int 0), none], [.int 1], (SH, I, J)) rfl ?_
            refine zr_one (if (1 : Int32) = 0 then zN 72 [some (.ref 0), some (.int v1), some (.int v2), some (.int v3), some (.int 1), some (.int 0), none] [] (SH, I, J) else zN 79 [some (.ref 0), some (.int v1), some (.int v2), some (.int v3), some (.int 1), some (.int 0), none] [] (SH, I, J)) rfl (zR_div (by decide) (zR_go ?_))
            refine zr_steps 5 (86, [some (.ref 0), some (.int v1), some (.int v2), some (.int v3), some (.int 1), some (.int 0), none], [.int v3, .int v2, .int v1, .ref 1], (SH, I, J)) rfl ?_
            obtain ⟨t32, hc31, h⟩ := zbind h
            refine zr_one (some (.inr (.inl (69, [.ref 1, .int v1, .int v2, .int v3], [], 89)))) rfl (zR_call (by omega) rfl (ok_f69_mended (by omega) v1 v2 v3 _ hc31) ?_)
            refine zr_steps 3 (94, [some (.ref 0), some (.int v1), some (.int v2), some (.int v3), some (.int 1), some (.int 0), some (.int t32.1)], [.int v3, .int t32.1], (SH, t32.2, J)) rfl ?_
            refine zr_one (if t32.1 = v3 then zN 109 [some (.ref 0), some (.int v1), some (.int v2), some (.int v3), some (.int 1), some (.int 0), some (.int t32.1)] [] (SH, t32.2, J) else zN 97 [some (.ref 0), some (.int v1), some (.int v2), some (.int v3), some (.int 1), some (.int 0), some (.int t32.1)] [] (SH, t32.2, J)) rfl (zR_if (fun hc35 => zR_go ?_) (fun hc35 => zR_go ?_))
            · rw [if_pos hc35] at h
              refine zr_steps 1 (111, [some (.ref 0), some (.int v1), some (.int v2), some (.int v3), some (.int 1), some (.int 0), some (.int t32.1)], [.int t32.1], (SH, t32.2, J)) rfl ?_
              have he := Option.some.inj h
              subst he
              exact zr_one (some (.inr (.inr (some (.int t32.1))))) rfl (zR_ret rfl rfl)
            · rw [if_neg hc35] at h
              refine zr_steps 6 (106, [some (.ref 0), some (.int v1), some (.int v2), some (.int v3), some (.int 1), some (.int 0), some (.int t32.1)], [.int v3, .int t32.1, .int v2, .int v1, .ref 52], (SH, t32.2, J)) rfl ?_
              obtain ⟨t34, hc33, h⟩ := zbind h
              refine zr_one (some (.inr (.inl (13, [.ref 52, .int v1, .int v2, .int t32.1, .int v3], [], 109)))) rfl (zR_call (by omega) rfl (ok_f13_add (by omega) v1 v2 t32.1 v3 _ hc33) ?_)
              refine zr_steps 1 (111, [some (.ref 0), some (.int v1), some (.int v2), some (.int v3), some (.int 1), some (.int 0), some (.int t32.1)], [.int t32.1], (SH, t34, J)) rfl ?_
              have he := Option.some.inj h
              subst he
              exact zr_one (some (.inr (.inr (some (.int t32.1))))) rfl (zR_ret rfl rfl)
          · rw [if_neg hc49] at h
            refine zr_steps 3 (54, [some (.ref 0), some (.int v1), some (.int v2), some (.int v3), some (.int 1), none, none], [.int 999, .int 0, .int v3], (SH, I, J)) rfl ?_
            obtain ⟨t37, hc36, h⟩ := zbind h
            refine zr_one (some (.inr (.inl (126, [.int v3, .int 0, .int 999], [], 57)))) rfl (zR_call (by omega) rfl (ok_f126_within (by omega) v3 0 999 _ hc36) ?_)
            refine zr_one (if t37 = 0 then zN 64 [some (.ref 0), some (.int v1), some (.int v2), some (.int v3), some (.int 1), none, none] [] (SH, I, J) else zN 60 [some (.ref 0), some (.int v1), some (.int v2), some (.int v3), some (.int 1), none, none] [] (SH, I, J)) rfl (zR_if (fun hc48 => zR_go ?_) (fun hc48 => zR_go ?_))
            · rw [if_pos hc48] at h
              refine zr_steps 3 (69, [some (.ref 0), some (.int v1), some (.int v2), some (.int v3), some (.int 1), some (.int 0), none], [.int 1], (SH, I, J)) rfl ?_
              refine zr_one (if (1 : Int32) = 0 then zN 72 [some (.ref 0), some (.int v1), some (.int v2), some (.int v3), some (.int 1), some (.int 0), none] [] (SH, I, J) else zN 79 [some (.ref 0), some (.int v1), some (.int v2), some (.int v3), some (.int 1), some (.int 0), none] [] (SH, I, J)) rfl (zR_div (by decide) (zR_go ?_))
              refine zr_steps 5 (86, [some (.ref 0), some (.int v1), some (.int v2), some (.int v3), some (.int 1), some (.int 0), none], [.int v3, .int v2, .int v1, .ref 1], (SH, I, J)) rfl ?_
              obtain ⟨t39, hc38, h⟩ := zbind h
              refine zr_one (some (.inr (.inl (69, [.ref 1, .int v1, .int v2, .int v3], [], 89)))) rfl (zR_call (by omega) rfl (ok_f69_mended (by omega) v1 v2 v3 _ hc38) ?_)
              refine zr_steps 3 (94, [some (.ref 0), some (.int v1), some (.int v2), some (.int v3), some (.int 1), some (.int 0), some (.int t39.1)], [.int v3, .int t39.1], (SH, t39.2, J)) rfl ?_
              refine zr_one (if t39.1 = v3 then zN 109 [some (.ref 0), some (.int v1), some (.int v2), some (.int v3), some (.int 1), some (.int 0), some (.int t39.1)] [] (SH, t39.2, J) else zN 97 [some (.ref 0), some (.int v1), some (.int v2), some (.int v3), some (.int 1), some (.int 0), some (.int t39.1)] [] (SH, t39.2, J)) rfl (zR_if (fun hc42 => zR_go ?_) (fun hc42 => zR_go ?_))
              · rw [if_pos hc42] at h
                refine zr_steps 1 (111, [some (.ref 0), some (.int v1), some (.int v2), some (.int v3), some (.int 1), some (.int 0), some (.int t39.1)], [.int t39.1], (SH, t39.2, J)) rfl ?_
                have he := Option.some.inj h
                subst he
                exact zr_one (some (.inr (.inr (some (.int t39.1))))) rfl (zR_ret rfl rfl)
              · rw [if_neg hc42] at h
                refine zr_steps 6 (106, [some (.ref 0), some (.int v1), some (.int v2), some (.int v3), some (.int 1), some (.int 0), some (.int t39.1)], [.int v3, .int t39.1, .int v2, .int v1, .ref 52], (SH, t39.2, J)) rfl ?_
                obtain ⟨t41, hc40, h⟩ := zbind h
                refine zr_one (some (.inr (.inl (13, [.ref 52, .int v1, .int v2, .int t39.1, .int v3], [], 109)))) rfl (zR_call (by omega) rfl (ok_f13_add (by omega) v1 v2 t39.1 v3 _ hc40) ?_)
                refine zr_steps 1 (111, [some (.ref 0), some (.int v1), some (.int v2), some (.int v3), some (.int 1), some (.int 0), some (.int t39.1)], [.int t39.1], (SH, t41, J)) rfl ?_
                have he := Option.some.inj h
                subst he
                exact zr_one (some (.inr (.inr (some (.int t39.1))))) rfl (zR_ret rfl rfl)
            · rw [if_neg hc48] at h
              refine zr_steps 4 (69, [some (.ref 0), some (.int v1), some (.int v2), some (.int v3), some (.int 1), some (.int 1), none], [.int 1], (SH, I, J)) rfl ?_
              refine zr_one (if (1 : Int32) = 0 then zN 72 [some (.ref 0), some (.int v1), some (.int v2), some (.int v3), some (.int 1), some (.int 1), none] [] (SH, I, J) else zN 79 [some (.ref 0), some (.int v1), some (.int v2), some (.int v3), some (.int 1), some (.int 1), none] [] (SH, I, J)) rfl (zR_div (by decide) (zR_go ?_))
              refine zr_steps 5 (86, [some (.ref 0), some (.int v1), some (.int v2), some (.int v3), some (.int 1), some (.int 1), none], [.int v3, .int v2, .int v1, .ref 1], (SH, I, J)) rfl ?_
              obtain ⟨t44, hc43, h⟩ := zbind h
              refine zr_one (some (.inr (.inl (69, [.ref 1, .int v1, .int v2, .int v3], [], 89)))) rfl (zR_call (by omega) rfl (ok_f69_mended (by omega) v1 v2 v3 _ hc43) ?_)
              refine zr_steps 3 (94, [some (.ref 0), some (.int v1), some (.int v2), some (.int v3), some (.int 1), some (.int 1), some (.int t44.1)], [.int v3, .int t44.1], (SH, t44.2, J)) rfl ?_
              refine zr_one (if t44.1 = v3 then zN 109 [some (.ref 0), some (.int v1), some (.int v2), some (.int v3), some (.int 1), some (.int 1), some (.int t44.1)] [] (SH, t44.2, J) else zN 97 [some (.ref 0), some (.int v1), some (.int v2), some (.int v3), some (.int 1), some (.int 1), some (.int t44.1)] [] (SH, t44.2, J)) rfl (zR_if (fun hc47 => zR_go ?_) (fun hc47 => zR_go ?_))
              · rw [if_pos hc47] at h
                refine zr_steps 1 (111, [some (.ref 0), some (.int v1), some (.int v2), some (.int v3), some (.int 1), some (.int 1), some (.int t44.1)], [.int t44.1], (SH, t44.2, J)) rfl ?_
                have he := Option.some.inj h
                subst he
                exact zr_one (some (.inr (.inr (some (.int t44.1))))) rfl (zR_ret rfl rfl)
              · rw [if_neg hc47] at h
                refine zr_steps 6 (106, [some (.ref 0), some (.int v1), some (.int v2), some (.int v3), some (.int 1), some (.int 1), some (.int t44.1)], [.int v3, .int t44.1, .int v2, .int v1, .ref 52], (SH, t44.2, J)) rfl ?_
                obtain ⟨t46, hc45, h⟩ := zbind h
                refine zr_one (some (.inr (.inl (13, [.ref 52, .int v1, .int v2, .int t44.1, .int v3], [], 109)))) rfl (zR_call (by omega) rfl (ok_f13_add (by omega) v1 v2 t44.1 v3 _ hc45) ?_)
                refine zr_steps 1 (111, [some (.ref 0), some (.int v1), some (.int v2), some (.int v3), some (.int 1), some (.int 1), some (.int t44.1)], [.int t44.1], (SH, t46, J)) rfl ?_
                have he := Option.some.inj h
                subst he
                exact zr_one (some (.inr (.inr (some (.int t44.1))))) rfl (zR_ret rfl rfl)
        · rw [if_neg hc55] at h
          refine zr_steps 3 (69, [some (.ref 0), some (.int v1), some (.int v2), some (.int v3), some (.int 1), some (.int 0), none], [.int 1], (SH, I, J)) rfl ?_
          refine zr_one (if (1 : Int32) = 0 then zN 72 [some (.ref 0), some (.int v1), some (.int v2), some (.int v3), some (.int 1), some (.int 0), none] [] (SH, I, J) else zN 79 [some (.ref 0), some (.int v1), some (.int v2), some (.int v3), some (.int 1), some (.int 0), none] [] (SH, I, J)) rfl (zR_div (by decide) (zR_go ?_))
          refine zr_steps 5 (86, [some (.ref 0), some (.int v1), some (.int v2), some (.int v3), some (.int 1), some (.int 0), none], [.int v3, .int v2, .int v1, .ref 1], (SH, I, J)) rfl ?_
          obtain ⟨t51, hc50, h⟩ := zbind h
          refine zr_one (some (.inr (.inl (69, [.ref 1, .int v1, .int v2, .int v3], [], 89)))) rfl (zR_call (by omega) rfl (ok_f69_mended (by omega) v1 v2 v3 _ hc50) ?_)
          refine zr_steps 3 (94, [some (.ref 0), some (.int v1), some (.int v2), some (.int v3), some (.int 1), some (.int 0), some (.int t51.1)], [.int v3, .int t51.1], (SH, t51.2, J)) rfl ?_
          refine zr_one (if t51.1 = v3 then zN 109 [some (.ref 0), some (.int v1), some (.int v2), some (.int v3), some (.int 1), some (.int 0), some (.int t51.1)] [] (SH, t51.2, J) else zN 97 [some (.ref 0), some (.int v1), some (.int v2), some (.int v3), some (.int 1), some (.int 0), some (.int t51.1)] [] (SH, t51.2, J)) rfl (zR_if (fun hc54 => zR_go ?_) (fun hc54 => zR_go ?_))
          · rw [if_pos hc54] at h
            refine zr_steps 1 (111, [some (.ref 0), some (.int v1), some (.int v2), some (.int v3), some (.int 1), some (.int 0), some (.int t51.1)], [.int t51.1], (SH, t51.2, J)) rfl ?_
            have he := Option.some.inj h
            subst he
            exact zr_one (some (.inr (.inr (some (.int t51.1))))) rfl (zR_ret rfl rfl)
          · rw [if_neg hc54] at h
            refine zr_steps 6 (106, [some (.ref 0), some (.int v1), some (.int v2), some (.int v3), some (.int 1), some (.int 0), some (.int t51.1)], [.int v3, .int t51.1, .int v2, .int v1, .ref 52], (SH, t51.2, J)) rfl ?_
            obtain ⟨t53, hc52, h⟩ := zbind h
            refine zr_one (some (.inr (.inl (13, [.ref 52, .int v1, .int v2, .int t51.1, .int v3], [], 109)))) rfl (zR_call (by omega) rfl (ok_f13_add (by omega) v1 v2 t51.1 v3 _ hc52) ?_)
            refine zr_steps 1 (111, [some (.ref 0), some (.int v1), some (.int v2), some (.int v3), some (.int 1), some (.int 0), some (.int t51.1)], [.int t51.1], (SH, t53, J)) rfl ?_
            have he := Option.some.inj h
            subst he
            exact zr_one (some (.inr (.inr (some (.int t51.1))))) rfl (zR_ret rfl rfl)
  · rw [if_neg hc70] at h
    refine zr_steps 4 (35, [some (.ref 0), some (.int v1), some (.int v2), some (.int v3), some (.int 0), none, none], [.int 1, .int v2], (SH, I, J)) rfl ?_
    refine zr_one (if v2 = 1 then zN 38 [some (.ref 0), some (.int v1), some (.int v2), some (.int v3), some (.int 0), none, none] [] (SH, I, J) else zN 64 [some (.ref 0), some (.int v1), some (.int v2), some (.int v3), some (.int 0), none, none] [] (SH, I, J)) rfl (zR_if (fun hc69 => zR_go ?_) (fun hc69 => zR_go ?_))
    · rw [if_pos hc69] at h
      refine zr_steps 3 (43, [some (.ref 0), some (.int v1), some (.int v2), some (.int v3), some (.int 0), none, none], [.int v1, .ref 1], (SH, I, J)) rfl ?_
      obtain ⟨t59, hc58, h⟩ := zbind h
      refine zr_one (some (.inr (.inl (61, [.ref 1, .int v1], [], 46)))) rfl (zR_call (by omega) rfl (ok_f61_isSquare (by omega) v1 _ hc58) ?_)
      refine zr_one (if t59 = 0 then zN 64 [some (.ref 0), some (.int v1), some (.int v2), some (.int v3), some (.int 0), none, none] [] (SH, I, J) else zN 49 [some (.ref 0), some (.int v1), some (.int v2), some (.int v3), some (.int 0), none, none] [] (SH, I, J)) rfl (zR_if (fun hc68 => zR_go ?_) (fun hc68 => zR_go ?_))
      · rw [if_pos hc68] at h
        refine zr_steps 3 (69, [some (.ref 0), some (.int v1), some (.int v2), some (.int v3), some (.int 0), some (.int 0), none], [.int 0], (SH, I, J)) rfl ?_
        refine zr_one (if (0 : Int32) = 0 then zN 72 [some (.ref 0), some (.int v1), some (.int v2), some (.int v3), some (.int 0), some (.int 0), none] [] (SH, I, J) else zN 79 [some (.ref 0), some (.int v1), some (.int v2), some (.int v3), some (.int 0), some (.int 0), none] [] (SH, I, J)) rfl (zR_pos (by decide) (zR_go ?_))
        refine zr_steps 1 (74, [some (.ref 0), some (.int v1), some (.int v2), some (.int v3), some (.int 0), some (.int 0), none], [.int 0], (SH, I, J)) rfl ?_
        refine zr_one (if (0 : Int32) = 0 then zN 77 [some (.ref 0), some (.int v1), some (.int v2), some (.int v3), some (.int 0), some (.int 0), none] [] (SH, I, J) else zN 79 [some (.ref 0), some (.int v1), some (.int v2), some (.int v3), some (.int 0), some (.int 0), none] [] (SH, I, J)) rfl (zR_pos (by decide) (zR_go ?_))
        refine zr_steps 1 (78, [some (.ref 0), some (.int v1), some (.int v2), some (.int v3), some (.int 0), some (.int 0), none], [.int (-1)], (SH, I, J)) rfl ?_
        have he := Option.some.inj h
        subst he
        exact zr_one (some (.inr (.inr (some (.int (-1)))))) rfl (zR_ret rfl rfl)
      · rw [if_neg hc68] at h
        refine zr_steps 3 (54, [some (.ref 0), some (.int v1), some (.int v2), some (.int v3), some (.int 0), none, none], [.int 999, .int 0, .int v3], (SH, I, J)) rfl ?_
        obtain ⟨t61, hc60, h⟩ := zbind h
        refine zr_one (some (.inr (.inl (126, [.int v3, .int 0, .int 999], [], 57)))) rfl (zR_call (by omega) rfl (ok_f126_within (by omega) v3 0 999 _ hc60) ?_)
        refine zr_one (if t61 = 0 then zN 64 [some (.ref 0), some (.int v1), some (.int v2), some (.int v3), some (.int 0), none, none] [] (SH, I, J) else zN 60 [some (.ref 0), some (.int v1), some (.int v2), some (.int v3), some (.int 0), none, none] [] (SH, I, J)) rfl (zR_if (fun hc67 => zR_go ?_) (fun hc67 => zR_go ?_))
        · rw [if_pos hc67] at h
          refine zr_steps 3 (69, [some (.ref 0), some (.int v1), some (.int v2), some (.int v3), some (.int 0), some (.int 0), none], [.int 0], (SH, I, J)) rfl ?_
          refine zr_one (if (0 : Int32) = 0 then zN 72 [some (.ref 0), some (.int v1), some (.int v2), some (.int v3), some (.int 0), some (.int 0), none] [] (SH, I, J) else zN 79 [some (.ref 0), some (.int v1), some (.int v2), some (.int v3), some (.int 0), some (.int 0), none] [] (SH, I, J)) rfl (zR_pos (by decide) (zR_go ?_))
          refine zr_steps 1 (74, [some (.ref 0), some (.int v1), some (.int v2), some (.int v3), some (.int 0), some (.int 0), none], [.int 0], (SH, I, J)) rfl ?_
          refine zr_one (if (0 : Int32) = 0 then zN 77 [some (.ref 0), some (.int v1), some (.int v2), some (.int v3), some (.int 0), some (.int 0), none] [] (SH, I, J) else zN 79 [some (.ref 0), some (.int v1), some (.int v2), some (.int v3), some (.int 0), some (.int 0), none] [] (SH, I, J)) rfl (zR_pos (by decide) (zR_go ?_))
          refine zr_steps 1 (78, [some (.ref 0), some (.int v1), some (.int v2), some (.int v3), some (.int 0), some (.int 0), none], [.int (-1)], (SH, I, J)) rfl ?_
          have he := Option.some.inj h
          subst he
          exact zr_one (some (.inr (.inr (some (.int (-1)))))) rfl (zR_ret rfl rfl)
        · rw [if_neg hc67] at h
          refine zr_steps 4 (69, [some (.ref 0), some (.int v1), some (.int v2), some (.int v3), some (.int 0), some (.int 1), none], [.int 0], (SH, I, J)) rfl ?_
          refine zr_one (if (0 : Int32) = 0 then zN 72 [some (.ref 0), some (.int v1), some (.int v2), some (.int v3), some (.int 0), some (.int 1), none] [] (SH, I, J) else zN 79 [some (.ref 0), some (.int v1), some (.int v2), some (.int v3), some (.int 0), some (.int 1), none] [] (SH, I, J)) rfl (zR_pos (by decide) (zR_go ?_))
          refine zr_steps 1 (74, [some (.ref 0), some (.int v1), some (.int v2), some (.int v3), some (.int 0), some (.int 1), none], [.int 1], (SH, I, J)) rfl ?_
          refine zr_one (if (1 : Int32) = 0 then zN 77 [some (.ref 0), some (.int v1), some (.int v2), some (.int v3), some (.int 0), some (.int 1), none] [] (SH, I, J) else zN 79 [some (.ref 0), some (.int v1), some (.int v2), some (.int v3), some (.int 0), some (.int 1), none] [] (SH, I, J)) rfl (zR_div (by decide) (zR_go ?_))
          refine zr_steps 5 (86, [some (.ref 0), some (.int v1), some (.int v2), some (.int v3), some (.int 0), some (.int 1), none], [.int v3, .int v2, .int v1, .ref 1], (SH, I, J)) rfl ?_
          obtain ⟨t63, hc62, h⟩ := zbind h
          refine zr_one (some (.inr (.inl (69, [.ref 1, .int v1, .int v2, .int v3], [], 89)))) rfl (zR_call (by omega) rfl (ok_f69_mended (by omega) v1 v2 v3 _ hc62) ?_)
          refine zr_steps 3 (94, [some (.ref 0), some (.int v1), some (.int v2), some (.int v3), some (.int 0), some (.int 1), some (.int t63.1)], [.int v3, .int t63.1], (SH, t63.2, J)) rfl ?_
          refine zr_one (if t63.1 = v3 then zN 109 [some (.ref 0), some (.int v1), some (.int v2), some (.int v3), some (.int 0), some (.int 1), some (.int t63.1)] [] (SH, t63.2, J) else zN 97 [some (.ref 0), some (.int v1), some (.int v2), some (.int v3), some (.int 0), some (.int 1), some (.int t63.1)] [] (SH, t63.2, J)) rfl (zR_if (fun hc66 => zR_go ?_) (fun hc66 => zR_go ?_))
          · rw [if_pos hc66] at h
            refine zr_steps 1 (111, [some (.ref 0), some (.int v1), some (.int v2), some (.int v3), some (.int 0), some (.int 1), some (.int t63.1)], [.int t63.1], (SH, t63.2, J)) rfl ?_
            have he := Option.some.inj h
            subst he
            exact zr_one (some (.inr (.inr (some (.int t63.1))))) rfl (zR_ret rfl rfl)
          · rw [if_neg hc66] at h
            refine zr_steps 6 (106, [some (.ref 0), some (.int v1), some (.int v2), some (.int v3), some (.int 0), some (.int 1), some (.int t63.1)], [.int v3, .int t63.1, .int v2, .int v1, .ref 52], (SH, t63.2, J)) rfl ?_
            obtain ⟨t65, hc64, h⟩ := zbind h
            refine zr_one (some (.inr (.inl (13, [.ref 52, .int v1, .int v2, .int t63.1, .int v3], [], 109)))) rfl (zR_call (by omega) rfl (ok_f13_add (by omega) v1 v2 t63.1 v3 _ hc64) ?_)
            refine zr_steps 1 (111, [some (.ref 0), some (.int v1), some (.int v2), some (.int v3), some (.int 0), some (.int 1), some (.int t63.1)], [.int t63.1], (SH, t65, J)) rfl ?_
            have he := Option.some.inj h
            subst he
            exact zr_one (some (.inr (.inr (some (.int t63.1))))) rfl (zR_ret rfl rfl)
    · rw [if_neg hc69] at h
      refine zr_steps 3 (69, [some (.ref 0), some (.int v1), some (.int v2), some (.int v3), some (.int 0), some (.int 0), none], [.int 0], (SH, I, J)) rfl ?_
      refine zr_one (if (0 : Int32) = 0 then zN 72 [some (.ref 0), some (.int v1), some (.int v2), some (.int v3), some (.int 0), some (.int 0), none] [] (SH, I, J) else zN 79 [some (.ref 0), some (.int v1), some (.int v2), some (.int v3), some (.int 0), some (.int 0), none] [] (SH, I, J)) rfl (zR_pos (by decide) (zR_go ?_))
      refine zr_steps 1 (74, [some (.ref 0), some (.int v1), some (.int v2), some (.int v3), some (.int 0), some (.int 0), none], [.int 0], (SH, I, J)) rfl ?_
      refine zr_one (if (0 : Int32) = 0 then zN 77 [some (.ref 0), some (.int v1), some (.int v2), some (.int v3), some (.int 0), some (.int 0), none] [] (SH, I, J) else zN 79 [some (.ref 0), some (.int v1), some (.int v2), some (.int v3), some (.int 0), some (.int 0), none] [] (SH, I, J)) rfl (zR_pos (by decide) (zR_go ?_))
      refine zr_steps 1 (78, [some (.ref 0), some (.int v1), some (.int v2), some (.int v3), some (.int 0), some (.int 0), none], [.int (-1)], (SH, I, J)) rfl ?_
      have he := Option.some.inj h
      subst he
      exact zr_one (some (.inr (.inr (some (.int (-1)))))) rfl (zR_ret rfl rfl)
set_option maxRecDepth 100000 in
set_option maxHeartbeats 4000000 in
theorem ok_f131_isSort {X : zX} {d : Nat} (hd : 1 ≤ d) (v1 : Int32) {I : (Nat → Nat → Int32)} {J : (Nat → Nat → Int64)} (t : Int32) (h : f131_isSort v1 I = some t) : zRun X d 131 0 (zent 131 [.ref 73, .int v1]) [] (SH, I, J) (some (.int t)) (SH, I, J) := by
  unfold f131_isSort at h
  refine zr_steps 6 (8, [some (.ref 73), some (.int v1)], [.int ((I 73 9) - 1), .int 0, .int v1], (SH, I, J)) rfl ?_
  obtain ⟨t2, hc1, h⟩ := zbind h
  refine zr_one (some (.inr (.inl (129, [.int v1, .int 0, .int ((I 73 9) - 1)], [], 11)))) rfl (zR_call (by omega) rfl (ok_f129_in (by omega) v1 0 ((I 73 9) - 1) _ hc1) ?_)
  obtain ⟨hc3, h⟩ := zifo h
  have he := Option.some.inj h
  subst he
  exact zr_one (if ((t2 : Int32) = 0 ∨ (t2 : Int32) = 1) then some (.inr (.inr (some (.int t2)))) else none) rfl (zR_pos hc3 (zR_ret rfl rfl))
set_option maxRecDepth 100000 in
set_option maxHeartbeats 4000000 in
theorem ok_f159_valueAt {X : zX} {d : Nat} (hd : 0 ≤ d) (v1 : Int32) (v2 : Int32) {I : (Nat → Nat → Int32)} {J : (Nat → Nat → Int64)} (t : Int32) (h : f159_valueAt v1 v2 I = some t) : zRun X d 159 0 (zent 159 [.ref 73, .int v1, .int v2]) [] (SH, I, J) (some (.int t)) (SH, I, J) := by
  unfold f159_valueAt at h
  refine zr_steps 1 (1, [some (.ref 73), some (.int v1), some (.int v2)], [.int v1], (SH, I, J)) rfl ?_
  refine zr_one (if v1 = 0 then zN 4 [some (.ref 73), some (.int v1), some (.int v2)] [] (SH, I, J) else zN 13 [some (.ref 73), some (.int v1), some (.int v2)] [] (SH, I, J)) rfl (zR_if (fun hc3 => zR_go ?_) (fun hc3 => zR_go ?_))
  · rw [if_pos hc3] at h
    refine zr_steps 3 (9, [some (.ref 73), some (.int v1), some (.int v2)], [.int v2, .ref 80], (SH, I, J)) rfl ?_
    obtain ⟨hc1, h⟩ := zbifo h
    refine zr_one (bif zin v2 8 then zN 10 [some (.ref 73), some (.int v1), some (.int v2)] [.int (I 80 v2.toNatClampNeg)] (SH, I, J) else none) rfl (zR_bif hc1 (zR_go ?_))
    refine zr_steps 1 (19, [some (.ref 73), some (.int v1), some (.int v2)], [.int (I 80 v2.toNatClampNeg)], (SH, I, J)) rfl ?_
    have he := Option.some.inj h
    subst he
    exact zr_one (some (.inr (.inr (some (.int (I 80 v2.toNatClampNeg)))))) rfl (zR_ret rfl rfl)
  · rw [if_neg hc3] at h
    refine zr_steps 3 (18, [some (.ref 73), some (.int v1), some (.int v2)], [.int v2, .ref 74], (SH, I, J)) rfl ?_
    obtain ⟨hc2, h⟩ := zbifo h
    refine zr_one (bif zin v2 4 then zN 19 [some (.ref 73), some (.int v1), some (.int v2)] [.int (I 74 v2.toNatClampNeg)] (SH, I, J) else none) rfl (zR_bif hc2 (zR_go ?_))
    have he := Option.some.inj h
    subst he
    exact zr_one (some (.inr (.inr (some (.int (I 74 v2.toNatClampNeg)))))) rfl (zR_ret rfl rfl)
set_option maxRecDepth 100000 in
set_option maxHeartbeats 4000000 in
theorem ok_f160_lays {X : zX} {d : Nat} (hd : 0 ≤ d) (v1 : Int32) (v2 : Int32) (v3 : Int32) {I : (Nat → Nat → Int32)} {J : (Nat → Nat → Int64)} (t : (Nat → Nat → Int32)) (h : f160_lays v1 v2 v3 I = some t) : zRun X d 160 0 (zent 160 [.ref 73, .int v1, .int v2, .int v3]) [] (SH, I, J) none (SH, t, J) := by
  unfold f160_lays at h
  refine zr_steps 1 (1, [some (.ref 73), some (.int v1), some (.int v2), some (.int v3)], [.int v1], (SH, I, J)) rfl ?_
  refine zr_one (if v1 = 0 then zN 4 [some (.ref 73), some (.int v1), some (.int v2), some (.int v3)] [] (SH, I, J) else zN 14 [some (.ref 73), some (.int v1), some (.int v2), some (.int v3)] [] (SH, I, J)) rfl (zR_if (fun hc3 => zR_go ?_) (fun hc3 => zR_go ?_))
  · rw [if_pos hc3] at h
    refine zr_steps 4 (10, [some (.ref 73), some (.int v1), some (.int v2), some (.int v3)], [.int v3, .int v2, .ref 80], (SH, I, J)) rfl ?_
    obtain ⟨hc1, h⟩ := zbifo h
    refine zr_one (bif zin v2 8 then zN 11 [some (.ref 73), some (.int v1), some (.int v2), some (.int v3)] [] (SH, (zu I 80 v2.toNatClampNeg v3), J) else none) rfl (zR_bif hc1 (zR_go ?_))
    refine zr_steps 1 (21, [some (.ref 73), some (.int v1), some (.int v2), some (.int v3)], [], (SH, (zu I 80 v2.toNatClampNeg v3), J)) rfl ?_
    have he := Option.some.inj h
    subst he
    exact zr_one (some (.inr (.inr none))) rfl (zR_ret rfl rfl)
  · rw [if_neg hc3] at h
    refine zr_steps 4 (20, [some (.ref 73), some (.int v1), some (.int v2), some (.int v3)], [.int v3, .int v2, .ref 74], (SH, I, J)) rfl ?_
    obtain ⟨hc2, h⟩ := zbifo h
    refine zr_one (bif zin v2 4 then zN 21 [some (.ref 73), some (.int v1), some (.int v2), some (.int v3)] [] (SH, (zu I 74 v2.toNatClampNeg v3), J) else none) rfl (zR_bif hc2 (zR_go ?_))
    have he := Option.some.inj h
    subst he
    exact zr_one (some (.inr (.inr none))) rfl (zR_ret rfl rfl)
set_option maxRecDepth 100000 in
set_option maxHeartbeats 4000000 in
theorem ok_f161_changes_L34 {X : zX} {d : Nat} {r : Option Value} {M' : zM} (hd : 1 ≤ d) (v1 : Int32) (v2 : Int32) (v3 : Int32) (v4 : Int32) {J : (Nat → Nat → Int64)} : ∀ (n : Nat) (s x : (Int32 × (Nat → Nat → Int32))), zloop (f161_changes_L34 v1 v2 v3 v4) n s = some x → (fun (x : (Int32 × (Nat → Nat → Int32))) => zRun X d 161 111 [some (.ref 73), some (.int v1), some (.int v2), some (.int v3), some (.int v4), none] [] (SH, x.2, J) r M') x → (fun (s : (Int32 × (Nat → Nat → Int32))) => zRun X d 161 34 [some (.ref 73), some (.int v1), some (.int v2), some (.int v3), some (.int v4), some (.int s.1)] [] (SH, s.2, J) r M') s := zloop_ok (B := (f161_changes_L34 v1 v2 v3 v4)) (Wh := fun (s : (Int32 × (Nat → Nat → Int32))) => zRun X d 161 34 [some (.ref 73), some (.int v1), some (.int v2), some (.int v3), some (.int v4), some (.int s.1)] [] (SH, s.2, J) r M') (Wx := fun (x : (Int32 × (Nat → Nat → Int32))) => zRun X d 161 111 [some (.ref 73), some (.int v1), some (.int v2), some (.int v3), some (.int v4), none] [] (SH, x.2, J) r M') (fun s y h w => by
  unfold f161_changes_L34 at h
  refine zr_steps 2 (38, [some (.ref 73), some (.int v1), some (.int v2), some (.int v3), some (.int v4), some (.int s.1)], [.int 40, .int s.1], (SH, s.2, J)) rfl ?_
  refine zr_one (if (40 : Int32) ≤ s.1 then zN 111 [some (.ref 73), some (.int v1), some (.int v2), some (.int v3), some (.int v4), some (.int s.1)] [] (SH, s.2, J) else zN 41 [some (.ref 73), some (.int v1), some (.int v2), some (.int v3), some (.int v4), some (.int s.1)] [] (SH, s.2, J)) rfl (zR_if (fun hc11 => zR_go ?_) (fun hc11 => zR_go ?_))
  · rw [if_pos hc11] at h
    have he := Option.some.inj h
    subst he
    exact zr_hdr (ls2 := [some (.ref 73), some (.int v1), some (.int v2), some (.int v3), some (.int v4), none]) rfl rfl (show zRun X d 161 111 [some (.ref 73), some (.int v1), some (.int v2), some (.int v3), some (.int v4), none] [] (SH, s.2, J) r M' from w)
  · rw [if_neg hc11] at h
    refine zr_steps 8 (55, [some (.ref 73), some (.int v1), some (.int v2), some (.int v3), some (.int v4), some (.int s.1)], [.int s.1, .ref 93, .int (s.1 - 1), .ref 93], (SH, s.2, J)) rfl ?_
    obtain ⟨hc3, h⟩ := zbifo h
    refine zr_one (bif zin s.1 40 then zN 56 [some (.ref 73), some (.int v1), some (.int v2), some (.int v3), some (.int v4), some (.int s.1)] [.int (s.2 93 s.1.toNatClampNeg), .int (s.1 - 1), .ref 93] (SH, s.2, J) else none) rfl (zR_bif hc3 (zR_go ?_))
    obtain ⟨hc4, h⟩ := zbifo h
    refine zr_one (bif zin (s.1 - 1) 40 then zN 57 [some (.ref 73), some (.int v1), some (.int v2), some (.int v3), some (.int v4), some (.int s.1)] [] (SH, (zu s.2 93 (s.1 - 1).toNatClampNeg (s.2 93 s.1.toNatClampNeg)), J) else none) rfl (zR_bif hc4 (zR_go ?_))
    refine zr_steps 8 (71, [some (.ref 73), some (.int v1), some (.int v2), some (.int v3), some (.int v4), some (.int s.1)], [.int s.1, .ref 94, .int (s.1 - 1), .ref 94], (SH, (zu s.2 93 (s.1 - 1).toNatClampNeg (s.2 93 s.1.toNatClampNeg)), J)) rfl ?_
    obtain ⟨hc5, h⟩ := zbifo h
    refine zr_one (bif zin s.1 40 then zN 72 [some (.ref 73), some (.int v1), some (.int v2), some (.int v3), some (.int v4), some (.int s.1)] [.int (s.2 94 s.1.toNatClampNeg), .int (s.1 - 1), .ref 94] (SH, (zu s.2 93 (s.1 - 1).toNatClampNeg (s.2 93 s.1.toNatClampNeg)), J) else none) rfl (zR_bif hc5 (zR_go ?_))
    obtain ⟨hc6, h⟩ := zbifo h
    refine zr_one (bif zin (s.1 - 1) 40 then zN 73 [some (.ref 73), some (.int v1), some (.int v2), some (.int v3), some (.int v4), some (.int s.1)] [] (SH, (zu (zu s.2 93 (s.1 - 1).toNatClampNeg (s.2 93 s.1.toNatClampNeg)) 94 (s.1 - 1).toNatClampNeg (s.2 94 s.1.toNatClampNeg)), J) else none) rfl (zR_bif hc6 (zR_go ?_))
    refine zr_steps 8 (87, [some (.ref 73), some (.int v1), some (.int v2), some (.int v3), some (.int v4), some (.int s.1)], [.int s.1, .ref 95, .int (s.1 - 1), .ref 95], (SH, (zu (zu s.2 93 (s.1 - 1).toNatClampNeg (s.2 93 s.1.toNatClampNeg)) 94 (s.1 - 1).toNatClampNeg (s.2 94 s.1.toNatClampNeg)), J)) rfl ?_
    obtain ⟨hc7, h⟩ := zbifo h
    refine zr_one (bif zin s.1 40 then zN 88 [some (.ref 73), some (.int v1), some (.int v2), some (.int v3), some (.int v4), some (.int s.1)] [.int (s.2 95 s.1.toNatClampNeg), .int (s.1 - 1), .ref 95] (SH, (zu (zu s.2 93 (s.1 - 1).toNatClampNeg (s.2 93 s.1.toNatClampNeg)) 94 (s.1 - 1).toNatClampNeg (s.2 94 s.1.toNatClampNeg)), J) else none) rfl (zR_bif hc7 (zR_go ?_))
    obtain ⟨hc8, h⟩ := zbifo h
    refine zr_one (bif zin (s.1 - 1) 40 then zN 89 [some (.ref 73), some (.int v1), some (.int v2), some (.int v3), some (.int v4), some (.int s.1)] [] (SH, (zu (zu (zu s.2 93 (s.1 - 1).toNatClampNeg (s.2 93 s.1.toNatClampNeg)) 94 (s.1 - 1).toNatClampNeg (s.2 94 s.1.toNatClampNeg)) 95 (s.1 - 1).toNatClampNeg (s.2 95 s.1.toNatClampNeg)), J) else none) rfl (zR_bif hc8 (zR_go ?_))
    refine zr_steps 8 (103, [some (.ref 73), some (.int v1), some (.int v2), some (.int v3), some (.int v4), some (.int s.1)], [.int s.1, .ref 96, .int (s.1 - 1), .ref 96], (SH, (zu (zu (zu s.2 93 (s.1 - 1).toNatClampNeg (s.2 93 s.1.toNatClampNeg)) 94 (s.1 - 1).toNatClampNeg (s.2 94 s.1.toNatClampNeg)) 95 (s.1 - 1).toNatClampNeg (s.2 95 s.1.toNatClampNeg)), J)) rfl ?_
    obtain ⟨hc9, h⟩ := zbifo h
    refine zr_one (bif zin s.1 40 then zN 104 [some (.ref 73), some (.int v1), some (.int v2), some (.int v3), some (.int v4), some (.int s.1)] [.int (s.2 96 s.1.toNatClampNeg), .int (s.1 - 1), .ref 96] (SH, (zu (zu (zu s.2 93 (s.1 - 1).toNatClampNeg (s.2 93 s.1.toNatClampNeg)) 94 (s.1 - 1).toNatClampNeg (s.2 94 s.1.toNatClampNeg)) 95 (s.1 - 1).toNatClampNeg (s.2 95 s.1.toNatClampNeg)), J) else none) rfl (zR_bif hc9 (zR_go ?_))
    obtain ⟨hc10, h⟩ := zbifo h
    refine zr_one (bif zin (s.1 - 1) 40 then zN 105 [some (.ref 73), some (.int v1), some (.int v2), some (.int v3), some (.int v4), some (.int s.1)] [] (SH, (zu (zu (zu (zu s.2 93 (s.1 - 1).toNatClampNeg (s.2 93 s.1.toNatClampNeg)) 94 (s.1 - 1).toNatClampNeg (s.2 94 s.1.toNatClampNeg)) 95 (s.1 - 1).toNatClampNeg (s.2 95 s.1.toNatClampNeg)) 96 (s.1 - 1).toNatClampNeg (s.2 96 s.1.toNatClampNeg)), J) else none) rfl (zR_bif hc10 (zR_go ?_))
    refine zr_steps 2 (34, [some (.ref 73), some (.int v1), some (.int v2), some (.int v3), some (.int v4), some (.int (s.1 + 1))], [], (SH, (zu (zu (zu (zu s.2 93 (s.1 - 1).toNatClampNeg (s.2 93 s.1.toNatClampNeg)) 94 (s.1 - 1).toNatClampNeg (s.2 94 s.1.toNatClampNeg)) 95 (s.1 - 1).toNatClampNeg (s.2 95 s.1.toNatClampNeg)) 96 (s.1 - 1).toNatClampNeg (s.2 96 s.1.toNatClampNeg)), J)) rfl ?_
    have he := Option.some.inj h
    subst he
    exact zr_hdr (ls2 := [some (.ref 73), some (.int v1), some (.int v2), some (.int v3), some (.int v4), some (.int (s.1 + 1))]) rfl rfl (show zRun X d 161 34 [some (.ref 73), some (.int v1), some (.int v2), some (.int v3), some (.int v4), some (.int (s.1 + 1))] [] (SH, (zu (zu (zu (zu s.2 93 (s.1 - 1).toNatClampNeg (s.2 93 s.1.toNatClampNeg)) 94 (s.1 - 1).toNatClampNeg (s.2 94 s.1.toNatClampNeg)) 95 (s.1 - 1).toNatClampNeg (s.2 95 s.1.toNatClampNeg)) 96 (s.1 - 1).toNatClampNeg (s.2 96 s.1.toNatClampNeg)), J) r M' from w))
set_option maxRecDepth 100000 in
set_option maxHeartbeats 4000000 in
theorem ok_f161_changes {X : zX} {d : Nat} (hd : 1 ≤ d) (v1 : Int32) (v2 : Int32) (v3 : Int32) {I : (Nat → Nat → Int32)} {J : (Nat → Nat → Int64)} (t : (Int32 × (Nat → Nat → Int32))) (h : f161_changes v1 v2 v3 I = some t) : zRun X d 161 0 (zent 161 [.ref 73, .int v1, .int v2, .int v3]) [] (SH, I, J) (some (.int t.1)) (SH, t.2, J) := by
  unfold f161_changes at h
  refine zr_steps 3 (3, [some (.ref 73), some (.int v1), some (.int v2), some (.int v3), none, none], [.int v2, .int v1, .ref 73], (SH, I, J)) rfl ?_
  obtain ⟨t2, hc1, h⟩ := zbind h
  refine zr_one (some (.inr (.inl (159, [.ref 73, .int v1, .int v2], [], 6)))) rfl (zR_call (by omega) rfl (ok_f159_valueAt (by omega) v1 v2 _ hc1) ?_)
  refine zr_steps 3 (11, [some (.ref 73), some (.int v1), some (.int v2), some (.int v3), some (.int t2), none], [.int v3, .int t2], (SH, I, J)) rfl ?_
  refine zr_one (if t2 = v3 then zN 14 [some (.ref 73), some (.int v1), some (.int v2), some (.int v3), some (.int t2), none] [] (SH, I, J) else zN 17 [some (.ref 73), some (.int v1), some (.int v2), some (.int v3), some (.int t2), none] [] (SH, I, J)) rfl (zR_if (fun hc27 => zR_go ?_) (fun hc27 => zR_go ?_))
  · rw [if_pos hc27] at h
    refine zr_steps 1 (16, [some (.ref 73), some (.int v1), some (.int v2), some (.int v3), some (.int t2), none], [.int t2], (SH, I, J)) rfl ?_
    have he := Option.some.inj h
    subst he
    exact zr_one (some (.inr (.inr (some (.int t2))))) rfl (zR_ret rfl rfl)
  · rw [if_neg hc27] at h
    refine zr_steps 6 (28, [some (.ref 73), some (.int v1), some (.int v2), some (.int v3), some (.int t2), none], [.int 40, .int (I 73 32)], (SH, (zu I 73 33 0), J)) rfl ?_
    refine zr_one (if (I 73 32) = 40 then zN 31 [some (.ref 73), some (.int v1), some (.int v2), some (.int v3), some (.int t2), none] [] (SH, (zu I 73 33 0), J) else zN 121 [some (.ref 73), some (.int v1), some (.int v2), some (.int v3), some (.int t2), none] [] (SH, (zu I 73 33 0), J)) rfl (zR_if (fun hc26 => zR_go ?_) (fun hc26 => zR_go ?_))
    · rw [if_pos hc26] at h
      refine zr_steps 2 (34, [some (.ref 73), some (.int v1), some (.int v2), some (.int v3), some (.int t2), some (.int 1)], [], (SH, (zu I 73 33 0), J)) rfl ?_
      obtain ⟨s12, ho13, h⟩ := zbind h
      refine zr_hdr (ls2 := [some (.ref 73), some (.int v1), some (.int v2), some (.int v3), some (.int t2), some (.int 1)]) rfl rfl ?_
      refine ok_f161_changes_L34 (by omega) v1 v2 v3 t2 5000 ((1 : Int32), (zu I 73 33 0)) s12 ho13 ?_
      show zRun X d 161 111 [some (.ref 73), some (.int v1), some (.int v2), some (.int v3), some (.int t2), none] [] (SH, s12.2, J) _ _
      refine zr_steps 11 (130, [some (.ref 73), some (.int v1), some (.int v2), some (.int v3), some (.int t2), none], [.int v1, .int ((s12.2 73 32) - 1), .ref 93], (SH, (zu s12.2 73 32 ((s12.2 73 32) - 1)), J)) rfl ?_
      obtain ⟨hc14, h⟩ := zbifo h
      refine zr_one (bif zin ((s12.2 73 32) - 1) 40 then zN 131 [some (.ref 73), some (.int v1), some (.int v2), some (.int v3), some (.int t2), none] [] (SH, (zu (zu s12.2 73 32 ((s12.2 73 32) - 1)) 93 ((s12.2 73 32) - 1).toNatClampNeg v1), J) else none) rfl (zR_bif hc14 (zR_go ?_))
      refine zr_steps 5 (140, [some (.ref 73), some (.int v1), some (.int v2), some (.int v3), some (.int t2), none], [.int v2, .int ((s12.2 73 32) - 1), .ref 94], (SH, (zu (zu s12.2 73 32 ((s12.2 73 32) - 1)) 93 ((s12.2 73 32) - 1).toNatClampNeg v1), J)) rfl ?_
      obtain ⟨hc15, h⟩ := zbifo h
      refine zr_one (bif zin ((s12.2 73 32) - 1) 40 then zN 141 [some (.ref 73), some (.int v1), some (.int v2), some (.int v3), some (.int t2), none] [] (SH, (zu (zu (zu s12.2 73 32 ((s12.2 73 32) - 1)) 93 ((s12.2 73 32) - 1).toNatClampNeg v1) 94 ((s12.2 73 32) - 1).toNatClampNeg v2), J) else none) rfl (zR_bif hc15 (zR_go ?_))
      refine zr_steps 5 (151, [some (.ref 73), some (.int v1), some (.int v2), some (.int v3), some (.int t2), none], [.int t2, .int ((s12.2 73 32) - 1), .ref 95], (SH, (zu (zu (zu s12.2 73 32 ((s12.2 73 32) - 1)) 93 ((s12.2 73 32) - 1).toNatClampNeg v1) 94 ((s12.2 73 32) - 1).toNatClampNeg v2), J)) rfl ?_
      obtain ⟨hc16, h⟩ := zbifo h
      refine zr_one (bif zin ((s12.2 73 32) - 1) 40 then zN 152 [some (.ref 73), some (.int v1), some (.int v2), some (.int v3), some (.int t2), none] [] (SH, (zu (zu (zu (zu s12.2 73 32 ((s12.2 73 32) - 1)) 93 ((s12.2 73 32) - 1).toNatClampNeg v1) 94 ((s12.2 73 32) - 1).toNatClampNeg v2) 95 ((s12.2 73 32) - 1).toNatClampNeg t2), J) else none) rfl (zR_bif hc16 (zR_go ?_))
      refine zr_steps 5 (161, [some (.ref 73), some (.int v1), some (.int v2), some (.int v3), some (.int t2), none], [.int v3, .int ((s12.2 73 32) - 1), .ref 96], (SH, (zu (zu (zu (zu s12.2 73 32 ((s12.2 73 32) - 1)) 93 ((s12.2 73 32) - 1).toNatClampNeg v1) 94 ((s12.2 73 32) - 1).toNatClampNeg v2) 95 ((s12.2 73 32) - 1).toNatClampNeg t2), J)) rfl ?_
      obtain ⟨hc17, h⟩ := zbifo h
      refine zr_one (bif zin ((s12.2 73 32) - 1) 40 then zN 162 [some (.ref 73), some (.int v1), some (.int v2), some (.int v3), some (.int t2), none] [] (SH, (zu (zu (zu (zu (zu s12.2 73 32 ((s12.2 73 32) - 1)) 93 ((s12.2 73 32) - 1).toNatClampNeg v1) 94 ((s12.2 73 32) - 1).toNatClampNeg v2) 95 ((s12.2 73 32) - 1).toNatClampNeg t2) 96 ((s12.2 73 32) - 1).toNatClampNeg v3), J) else none) rfl (zR_bif hc17 (zR_go ?_))
      refine zr_steps 10 (176, [some (.ref 73), some (.int v1), some (.int v2), some (.int v3), some (.int t2), none], [.int v3, .int v2, .int v1, .ref 73], (SH, (zu (zu (zu (zu (zu (zu s12.2 73 32 ((s12.2 73 32) - 1)) 93 ((s12.2 73 32) - 1).toNatClampNeg v1) 94 ((s12.2 73 32) - 1).toNatClampNeg v2) 95 ((s12.2 73 32) - 1).toNatClampNeg t2) 96 ((s12.2 73 32) - 1).toNatClampNeg v3) 73 32 (((s12.2 73 32) - 1) + 1)), J)) rfl ?_
      obtain ⟨t19, hc18, h⟩ := zbind h
      refine zr_one (some (.inr (.inl (160, [.ref 73, .int v1, .int v2, .int v3], [], 179)))) rfl (zR_call (by omega) rfl (ok_f160_lays (by omega) v1 v2 v3 _ hc18) ?_)
      refine zr_steps 1 (181, [some (.ref 73), some (.int v1), some (.int v2), some (.int v3), some (.int t2), none], [.int t2], (SH, t19, J)) rfl ?_
      have he := Option.some.inj h
      subst he
      exact zr_one (some (.inr (.inr (some (.int t2))))) rfl (zR_ret rfl rfl)
    · rw [if_neg hc26] at h
      refine zr_steps 5 (130, [some (.ref 73), some (.int v1), some (.int v2), some (.int v3), some (.int t2), none], [.int v1, .int (I 73 32), .ref 93], (SH, (zu I 73 33 0), J)) rfl ?_
      obtain ⟨hc20, h⟩ := zbifo h
      refine zr_one (bif zin (I 73 32) 40 then zN 131 [some (.ref 73), some (.int v1), some (.int v2), some (.int v3), some (.int t2), none] [] (SH, (zu (zu I 73 33 0) 93 (I 73 32).toNatClampNeg v1), J) else none) rfl (zR_bif hc20 (zR_go ?_))
      refine zr_steps 5 (140, [some (.ref 73), some (.int v1), some (.int v2), some (.int v3), some (.int t2), none], [.int v2, .int (I 73 32), .ref 94], (SH, (zu (zu I 73 33 0) 93 (I 73 32).toNatClampNeg v1), J)) rfl ?_
      obtain ⟨hc21, h⟩ := zbifo h
      refine zr_one (bif zin (I 73 32) 40 then zN 141 [some (.ref 73), some (.int v1), some (.int v2), some (.int v3), some (.int t2), none] [] (SH, (zu (zu (zu I 73 33 0) 93 (I 73 32).toNatClampNeg v1) 94 (I 73 32).toNatClampNeg v2), J) else none) rfl (zR_bif hc21 (zR_go ?_))
      refine zr_steps 5 (151, [some (.ref 73), some (.int v1), some (.int v2), some (.int v3), some (.int t2), none], [.int t2, .int (I 73 32), .ref 95], (SH, (zu (zu (zu I 73 33 0) 93 (I 73 32).toNatClampNeg v1) 94 (I 73 32).toNatClampNeg v2), J)) rfl ?_
      obtain ⟨hc22, h⟩ := zbifo h
      refine zr_one (bif zin (I 73 32) 40 then zN 152 [some (.ref 73), some (.int v1), some (.int v2), some (.int v3), some (.int t2), none] [] (SH, (zu (zu (zu (zu I 73 33 0) 93 (I 73 32).toNatClampNeg v1) 94 (I 73 32).toNatClampNeg v2) 95 (I 73 32).toNatClampNeg t2), J) else none) rfl (zR_bif hc22 (zR_go ?_))
      refine zr_steps 5 (161, [some (.ref 73), some (.int v1), some (.int v2), some (.int v3), some (.int t2), none], [.int v3, .int (I 73 32), .ref 96], (SH, (zu (zu (zu (zu I 73 33 0) 93 (I 73 32).toNatClampNeg v1) 94 (I 73 32).toNatClampNeg v2) 95 (I 73 32).toNatClampNeg t2), J)) rfl ?_
      obtain ⟨hc23, h⟩ := zbifo h
      refine zr_one (bif zin (I 73 32) 40 then zN 162 [some (.ref 73), some (.int v1), some (.int v2), some (.int v3), some (.int t2), none] [] (SH, (zu (zu (zu (zu (zu I 73 33 0) 93 (I 73 32).toNatClampNeg v1) 94 (I 73 32).toNatClampNeg v2) 95 (I 73 32).toNatClampNeg t2) 96 (I 73 32).toNatClampNeg v3), J) else none) rfl (zR_bif hc23 (zR_go ?_))
      refine zr_steps 10 (176, [some (.ref 73), some (.int v1), some (.int v2), some (.int v3), some (.int t2), none], [.int v3, .int v2, .int v1, .ref 73], (SH, (zu (zu (zu (zu (zu (zu I 73 33 0) 93 (I 73 32).toNatClampNeg v1) 94 (I 73 32).toNatClampNeg v2) 95 (I 73 32).toNatClampNeg t2) 96 (I 73 32).toNatClampNeg v3) 73 32 ((I 73 32) + 1)), J)) rfl ?_
      obtain ⟨t25, hc24, h⟩ := zbind h
      refine zr_one (some (.inr (.inl (160, [.ref 73, .int v1, .int v2, .int v3], [], 179)))) rfl (zR_call (by omega) rfl (ok_f160_lays (by omega) v1 v2 v3 _ hc24) ?_)
      refine zr_steps 1 (181, [some (.ref 73), some (.int v1), some (.int v2), some (.int v3), some (.int t2), none], [.int t2], (SH, t25, J)) rfl ?_
      have he := Option.some.inj h
      subst he
      exact zr_one (some (.inr (.inr (some (.int t2))))) rfl (zR_ret rfl rfl)
set_option maxRecDepth 100000 in
set_option maxHeartbeats 4000000 in
theorem ok_f164_mend {X : zX} {d : Nat} (hd : 2 ≤ d) (v1 : Int32) (v2 : Int32) (v3 : Int32) {I : (Nat → Nat → Int32)} {J : (Nat → Nat → Int64)} (t : (Int32 × (Nat → Nat → Int32))) (h : f164_mend v1 v2 v3 I = some t) : zRun X d 164 0 (zent 164 [.ref 73, .int v1, .int v2, .int v3]) [] (SH, I, J) (some (.int t.1)) (SH, t.2, J) := by
  unfold f164_mend at h
  refine zr_steps 1 (1, [some (.ref 73), some (.int v1), some (.int v2), some (.int v3)], [.int v2], (SH, I, J)) rfl ?_
  refine zr_one (if v2 = 0 then zN 4 [some (.ref 73), some (.int v1), some (.int v2), some (.int v3)] [] (SH, I, J) else zN 35 [some (.ref 73), some (.int v1), some (.int v2), some (.int v3)] [] (SH, I, J)) rfl (zR_if (fun hc18 => zR_go ?_) (fun hc18 => zR_go ?_))
  · rw [if_pos hc18] at h
    refine zr_steps 2 (6, [some (.ref 73), some (.int v1), some (.int v2), some (.int v3)], [.int v1, .ref 73], (SH, I, J)) rfl ?_
    obtain ⟨t2, hc1, h⟩ := zbind h
    refine zr_one (some (.inr (.inl (131, [.ref 73, .int v1], [], 9)))) rfl (zR_call (by omega) rfl (ok_f131_isSort (by omega) v1 _ hc1) ?_)
    refine zr_one (if t2 = 0 then zN 33 [some (.ref 73), some (.int v1), some (.int v2), some (.int v3)] [] (SH, I, J) else zN 12 [some (.ref 73), some (.int v1), some (.int v2), some (.int v3)] [] (SH, I, J)) rfl (zR_if (fun hc8 => zR_go ?_) (fun hc8 => zR_go ?_))
    · rw [if_pos hc8] at h
      refine zr_steps 1 (34, [some (.ref 73), some (.int v1), some (.int v2), some (.int v3)], [.int (-1)], (SH, I, J)) rfl ?_
      have he := Option.some.inj h
      subst he
      exact zr_one (some (.inr (.inr (some (.int (-1)))))) rfl (zR_ret rfl rfl)
    · rw [if_neg hc8] at h
      refine zr_steps 3 (17, [some (.ref 73), some (.int v1), some (.int v2), some (.int v3)], [.int 200, .int 0, .int v3], (SH, I, J)) rfl ?_
      obtain ⟨t4, hc3, h⟩ := zbind h
      refine zr_one (some (.inr (.inl (129, [.int v3, .int 0, .int 200], [], 20)))) rfl (zR_call (by omega) rfl (ok_f129_in (by omega) v3 0 200 _ hc3) ?_)
      refine zr_one (if t4 = 0 then zN 33 [some (.ref 73), some (.int v1), some (.int v2), some (.int v3)] [] (SH, I, J) else zN 23 [some (.ref 73), some (.int v1), some (.int v2), some (.int v3)] [] (SH, I, J)) rfl (zR_if (fun hc7 => zR_go ?_) (fun hc7 => zR_go ?_))
      · rw [if_pos hc7] at h
        refine zr_steps 1 (34, [some (.ref 73), some (.int v1), some (.int v2), some (.int v3)], [.int (-1)], (SH, I, J)) rfl ?_
        have he := Option.some.inj h
        subst he
        exact zr_one (some (.inr (.inr (some (.int (-1)))))) rfl (zR_ret rfl rfl)
      · rw [if_neg hc7] at h
        refine zr_steps 4 (27, [some (.ref 73), some (.int v1), some (.int v2), some (.int v3)], [.int v3, .int v1, .int 0, .ref 73], (SH, I, J)) rfl ?_
        obtain ⟨t6, hc5, h⟩ := zbind h
        refine zr_one (some (.inr (.inl (161, [.ref 73, .int 0, .int v1, .int v3], [], 30)))) rfl (zR_call (by omega) rfl (ok_f161_changes (by omega) 0 v1 v3 _ hc5) ?_)
        refine zr_steps 1 (34, [some (.ref 73), some (.int v1), some (.int v2), some (.int v3)], [.int t6.1], (SH, t6.2, J)) rfl ?_
        have he := Option.some.inj h
        subst he
        exact zr_one (some (.inr (.inr (some (.int t6.1))))) rfl (zR_ret rfl rfl)
  · rw [if_neg hc18] at h
    refine zr_steps 2 (37, [some (.ref 73), some (.int v1), some (.int v2), some (.int v3)], [.int 1, .int v2], (SH, I, J)) rfl ?_
    refine zr_one (if v2 = 1 then zN 40 [some (.ref 73), some (.int v1), some (.int v2), some (.int v3)] [] (SH, I, J) else zN 69 [some (.ref 73), some (.int v1), some (.int v2), some (.int v3)] [] (SH, I, J)) rfl (zR_if (fun hc17 => zR_go ?_) (fun hc17 => zR_go ?_))
    · rw [if_pos hc17] at h
      refine zr_steps 2 (42, [some (.ref 73), some (.int v1), some (.int v2), some (.int v3)], [.int v1, .ref 73], (SH, I, J)) rfl ?_
      obtain ⟨t10, hc9, h⟩ := zbind h
      refine zr_one (some (.inr (.inl (130, [.ref 73, .int v1], [], 45)))) rfl (zR_call (by omega) rfl (ok_f130_isSquare (by omega) v1 _ hc9) ?_)
      refine zr_one (if t10 = 0 then zN 69 [some (.ref 73), some (.int v1), some (.int v2), some (.int v3)] [] (SH, I, J) else zN 48 [some (.ref 73), some (.int v1), some (.int v2), some (.int v3)] [] (SH, I, J)) rfl (zR_if (fun hc16 => zR_go ?_) (fun hc16 => zR_go ?_))
      · rw [if_pos hc16] at h
        refine zr_steps 1 (70, [some (.ref 73), some (.int v1), some (.int v2), some (.int v3)], [.int (-1)], (SH, I, J)) rfl ?_
        have he := Option.some.inj h
        subst he
        exact zr_one (some (.inr (.inr (some (.int (-1)))))) rfl (zR_ret rfl rfl)
      · rw [if_neg hc16] at h
        refine zr_steps 3 (53, [some (.ref 73), some (.int v1), some (.int v2), some (.int v3)], [.int 999, .int 0, .int v3], (SH, I, J)) rfl ?_
        obtain ⟨t12, hc11, h⟩ := zbind h
        refine zr_one (some (.inr (.inl (129, [.int v3, .int 0, .int 999], [], 56)))) rfl (zR_call (by omega) rfl (ok_f129_in (by omega) v3 0 999 _ hc11) ?_)
        refine zr_one (if t12 = 0 then zN 69 [some (.ref 73), some (.int v1), some (.int v2), some (.int v3)] [] (SH, I, J) else zN 59 [some (.ref 73), some (.int v1), some (.int v2), some (.int v3)] [] (SH, I, J)) rfl (zR_if (fun hc15 => zR_go ?_) (fun hc15 => zR_go ?_))
        · rw [if_pos hc15] at h
          refine zr_steps 1 (70, [some (.ref 73), some (.int v1), some (.int v2), some (.int v3)], [.int (-1)], (SH, I, J)) rfl ?_
          have he := Option.some.inj h
          subst he
          exact zr_one (some (.inr (.inr (some (.int (-1)))))) rfl (zR_ret rfl rfl)
        · rw [if_neg hc15] at h
          refine zr_steps 4 (63, [some (.ref 73), some (.int v1), some (.int v2), some (.int v3)], [.int v3, .int v1, .int 1, .ref 73], (SH, I, J)) rfl ?_
          obtain ⟨t14, hc13, h⟩ := zbind h
          refine zr_one (some (.inr (.inl (161, [.ref 73, .int 1, .int v1, .int v3], [], 66)))) rfl (zR_call (by omega) rfl (ok_f161_changes (by omega) 1 v1 v3 _ hc13) ?_)
          refine zr_steps 1 (70, [some (.ref 73), some (.int v1), some (.int v2), some (.int v3)], [.int t14.1], (SH, t14.2, J)) rfl ?_
          have he := Option.some.inj h
          subst he
          exact zr_one (some (.inr (.inr (some (.int t14.1))))) rfl (zR_ret rfl rfl)
    · rw [if_neg hc17] at h
      refine zr_steps 1 (70, [some (.ref 73), some (.int v1), some (.int v2), some (.int v3)], [.int (-1)], (SH, I, J)) rfl ?_
      have he := Option.some.inj h
      subst he
      exact zr_one (some (.inr (.inr (some (.int (-1)))))) rfl (zR_ret rfl rfl)
set_option maxRecDepth 100000 in
set_option maxHeartbeats 4000000 in
theorem ok_f72_ofWay {X : zX} {d : Nat} (hd : 0 ≤ d) (v1 : Int32) (v2 : Int32) {I : (Nat → Nat → Int32)} {J : (Nat → Nat → Int64)} (t : Int32) (h : f72_ofWay v1 v2 I = some t) : zRun X d 72 0 (zent 72 [.ref 1, .int v1, .int v2]) [] (SH, I, J) (some (.int t)) (SH, I, J) := by
  unfold f72_ofWay at h
  refine zr_steps 1 (1, [some (.ref 1), some (.int v1), some (.int v2)], [.int v1], (SH, I, J)) rfl ?_
  refine zr_one (if v1 < 0 then zN 12 [some (.ref 1), some (.int v1), some (.int v2)] [] (SH, I, J) else zN 4 [some (.ref 1), some (.int v1), some (.int v2)] [] (SH, I, J)) rfl (zR_if (fun hc10 => zR_go ?_) (fun hc10 => zR_go ?_))
  · rw [if_pos hc10] at h
    refine zr_steps 1 (13, [some (.ref 1), some (.int v1), some (.int v2)], [.int (-1)], (SH, I, J)) rfl ?_
    have he := Option.some.inj h
    subst he
    exact zr_one (some (.inr (.inr (some (.int (-1)))))) rfl (zR_ret rfl rfl)
  · rw [if_neg hc10] at h
    refine zr_steps 3 (9, [some (.ref 1), some (.int v1), some (.int v2)], [.int (I 1 1), .int v1], (SH, I, J)) rfl ?_
    refine zr_one (if v1 < (I 1 1) then zN 14 [some (.ref 1), some (.int v1), some (.int v2)] [] (SH, I, J) else zN 12 [some (.ref 1), some (.int v1), some (.int v2)] [] (SH, I, J)) rfl (zR_if (fun hc9 => zR_go ?_) (fun hc9 => zR_go ?_))
    · rw [if_pos hc9] at h
      refine zr_steps 1 (15, [some (.ref 1), some (.int v1), some (.int v2)], [.int v2], (SH, I, J)) rfl ?_
      refine zr_one (if v2.toInt = 20 then zN 44 [some (.ref 1), some (.int v1), some (.int v2)] [] (SH, I, J) else (if v2.toInt = 21 then zN 51 [some (.ref 1), some (.int v1), some (.int v2)] [] (SH, I, J) else (if v2.toInt = 22 then zN 58 [some (.ref 1), some (.int v1), some (.int v2)] [] (SH, I, J) else (if v2.toInt = 23 then zN 65 [some (.ref 1), some (.int v1), some (.int v2)] [] (SH, I, J) else zN 72 [some (.ref 1), some (.int v1), some (.int v2)] [] (SH, I, J))))) rfl ?_
      refine zR_if (fun hc8 => zR_go ?_) (fun hc8 => ?_)
      · rw [if_pos hc8] at h
        refine zr_steps 3 (49, [some (.ref 1), some (.int v1), some (.int v2)], [.int v1, .ref 4], (SH, I, J)) rfl ?_
        obtain ⟨hc1, h⟩ := zbifo h
        refine zr_one (bif zin v1 12 then zN 50 [some (.ref 1), some (.int v1), some (.int v2)] [.int (I 4 v1.toNatClampNeg)] (SH, I, J) else none) rfl (zR_bif hc1 (zR_go ?_))
        have he := Option.some.inj h
        subst he
        exact zr_one (some (.inr (.inr (some (.int (I 4 v1.toNatClampNeg)))))) rfl (zR_ret rfl rfl)
      rw [if_neg hc8] at h
      refine zR_if (fun hc7 => zR_go ?_) (fun hc7 => ?_)
      · rw [if_pos hc7] at h
        refine zr_steps 3 (56, [some (.ref 1), some (.int v1), some (.int v2)], [.int v1, .ref 5], (SH, I, J)) rfl ?_
        obtain ⟨hc2, h⟩ := zbifo h
        refine zr_one (bif zin v1 12 then zN 57 [some (.ref 1), some (.int v1), some (.int v2)] [.int (I 5 v1.toNatClampNeg)] (SH, I, J) else none) rfl (zR_bif hc2 (zR_go ?_))
        have he := Option.some.inj h
        subst he
        exact zr_one (some (.inr (.inr (some (.int (I 5 v1.toNatClampNeg)))))) rfl (zR_ret rfl rfl)
      rw [if_neg hc7] at h
      refine zR_if (fun hc6 => zR_go ?_) (fun hc6 => ?_)
      · rw [if_pos hc6] at h
        refine zr_steps 3 (63, [some (.ref 1), some (.int v1), some (.int v2)], [.int v1, .ref 6], (SH, I, J)) rfl ?_
        obtain ⟨hc3, h⟩ := zbifo h
        refine zr_one (bif zin v1 12 then zN 64 [some (.ref 1), some (.int v1), some (.int v2)] [.int (I 6 v1.toNatClampNeg)] (SH, I, J) else none) rfl (zR_bif hc3 (zR_go ?_))
        have he := Option.some.inj h
        subst he
        exact zr_one (some (.inr (.inr (some (.int (I 6 v1.toNatClampNeg)))))) rfl (zR_ret rfl rfl)
      rw [if_neg hc6] at h
      refine zR_if (fun hc5 => zR_go ?_) (fun hc5 => ?_)
      · rw [if_pos hc5] at h
        refine zr_steps 3 (70, [some (.ref 1), some (.int v1), some (.int v2)], [.int v1, .ref 7], (SH, I, J)) rfl ?_
        obtain ⟨hc4, h⟩ := zbifo h
        refine zr_one (bif zin v1 12 then zN 71 [some (.ref 1), some (.int v1), some (.int v2)] [.int (I 7 v1.toNatClampNeg)] (SH, I, J) else none) rfl (zR_bif hc4 (zR_go ?_))
        have he := Option.some.inj h
        subst he
        exact zr_one (some (.inr (.inr (some (.int (I 7 v1.toNatClampNeg)))))) rfl (zR_ret rfl rfl)
      rw [if_neg hc5] at h
      refine zR_go ?_
      refine zr_steps 1 (73, [some (.ref 1), some (.int v1), some (.int v2)], [.int (-1)], (SH, I, J)) rfl ?_
      have he := Option.some.inj h
      subst he
      exact zr_one (some (.inr (.inr (some (.int (-1)))))) rfl (zR_ret rfl rfl)
    · rw [if_neg hc9] at h
      refine zr_steps 1 (13, [some (.ref 1), some (.int v1), some (.int v2)], [.int (-1)], (SH, I, J)) rfl ?_
      have he := Option.some.inj h
      subst he
      exact zr_one (some (.inr (.inr (some (.int (-1)))))) rfl (zR_ret rfl rfl)
set_option maxRecDepth 100000 in
set_option maxHeartbeats 4000000 in
theorem ok_f71_ofSquare {X : zX} {d : Nat} (hd : 1 ≤ d) (v1 : Int32) (v2 : Int32) {I : (Nat → Nat → Int32)} {J : (Nat → Nat → Int64)} (t : Int32) (h : f71_ofSquare v1 v2 I = some t) : zRun X d 71 0 (zent 71 [.ref 1, .int v1, .int v2]) [] (SH, I, J) (some (.int t)) (SH, I, J) := by
  unfold f71_ofSquare at h
  refine zr_steps 2 (2, [some (.ref 1), some (.int v1), some (.int v2)], [.int v1, .ref 1], (SH, I, J)) rfl ?_
  obtain ⟨t2, hc1, h⟩ := zbind h
  refine zr_one (some (.inr (.inl (61, [.ref 1, .int v1], [], 5)))) rfl (zR_call (by omega) rfl (ok_f61_isSquare (by omega) v1 _ hc1) ?_)
  refine zr_one (if t2 = 0 then zN 20 [some (.ref 1), some (.int v1), some (.int v2)] [] (SH, I, J) else zN 8 [some (.ref 1), some (.int v1), some (.int v2)] [] (SH, I, J)) rfl (zR_if (fun hc8 => zR_go ?_) (fun hc8 => zR_go ?_))
  · rw [if_pos hc8] at h
    refine zr_steps 1 (21, [some (.ref 1), some (.int v1), some (.int v2)], [.int (-1)], (SH, I, J)) rfl ?_
    have he := Option.some.inj h
    subst he
    exact zr_one (some (.inr (.inr (some (.int (-1)))))) rfl (zR_ret rfl rfl)
  · rw [if_neg hc8] at h
    refine zr_steps 2 (11, [some (.ref 1), some (.int v1), some (.int v2)], [.int 10, .int v2], (SH, I, J)) rfl ?_
    refine zr_one (if v2 < 10 then zN 20 [some (.ref 1), some (.int v1), some (.int v2)] [] (SH, I, J) else zN 14 [some (.ref 1), some (.int v1), some (.int v2)] [] (SH, I, J)) rfl (zR_if (fun hc7 => zR_go ?_) (fun hc7 => zR_go ?_))
    · rw [if_pos hc7] at h
      refine zr_steps 1 (21, [some (.ref 1), some (.int v1), some (.int v2)], [.int (-1)], (SH, I, J)) rfl ?_
      have he := Option.some.inj h
      subst he
      exact zr_one (some (.inr (.inr (some (.int (-1)))))) rfl (zR_ret rfl rfl)
    · rw [if_neg hc7] at h
      refine zr_steps 2 (17, [some (.ref 1), some (.int v1), some (.int v2)], [.int 11, .int v2], (SH, I, J)) rfl ?_
      refine zr_one (if v2 ≤ 11 then zN 22 [some (.ref 1), some (.int v1), some (.int v2)] [] (SH, I, J) else zN 20 [some (.ref 1), some (.int v1), some (.int v2)] [] (SH, I, J)) rfl (zR_if (fun hc6 => zR_go ?_) (fun hc6 => zR_go ?_))
      · rw [if_pos hc6] at h
        refine zr_steps 2 (25, [some (.ref 1), some (.int v1), some (.int v2)], [.int 10, .int v2], (SH, I, J)) rfl ?_
        refine zr_one (if v2 = 10 then zN 28 [some (.ref 1), some (.int v1), some (.int v2)] [] (SH, I, J) else zN 37 [some (.ref 1), some (.int v1), some (.int v2)] [] (SH, I, J)) rfl (zR_if (fun hc5 => zR_go ?_) (fun hc5 => zR_go ?_))
        · rw [if_pos hc5] at h
          refine zr_steps 3 (33, [some (.ref 1), some (.int v1), some (.int v2)], [.int v1, .ref 2], (SH, I, J)) rfl ?_
          obtain ⟨hc3, h⟩ := zbifo h
          refine zr_one (bif zin v1 4 then zN 34 [some (.ref 1), some (.int v1), some (.int v2)] [.int (I 2 v1.toNatClampNeg)] (SH, I, J) else none) rfl (zR_bif hc3 (zR_go ?_))
          refine zr_steps 1 (43, [some (.ref 1), some (.int v1), some (.int v2)], [.int (I 2 v1.toNatClampNeg)], (SH, I, J)) rfl ?_
          have he := Option.some.inj h
          subst he
          exact zr_one (some (.inr (.inr (some (.int (I 2 v1.toNatClampNeg)))))) rfl (zR_ret rfl rfl)
        · rw [if_neg hc5] at h
          refine zr_steps 3 (42, [some (.ref 1), some (.int v1), some (.int v2)], [.int v1, .ref 3], (SH, I, J)) rfl ?_
          obtain ⟨hc4, h⟩ := zbifo h
          refine zr_one (bif zin v1 4 then zN 43 [some (.ref 1), some (.int v1), some (.int v2)] [.int (I 3 v1.toNatClampNeg)] (SH, I, J) else none) rfl (zR_bif hc4 (zR_go ?_))
          have he := Option.some.inj h
          subst he
          exact zr_one (some (.inr (.inr (some (.int (I 3 v1.toNatClampNeg)))))) rfl (zR_ret rfl rfl)
      · rw [if_neg hc6] at h
        refine zr_steps 1 (21, [some (.ref 1), some (.int v1), some (.int v2)], [.int (-1)], (SH, I, J)) rfl ?_
        have he := Option.some.inj h
        subst he
        exact zr_one (some (.inr (.inr (some (.int (-1)))))) rfl (zR_ret rfl rfl)
set_option maxRecDepth 100000 in
set_option maxHeartbeats 4000000 in
theorem ok_f70_ofSort {X : zX} {d : Nat} (hd : 1 ≤ d) (v1 : Int32) (v2 : Int32) {I : (Nat → Nat → Int32)} {J : (Nat → Nat → Int64)} (t : Int32) (h : f70_ofSort v1 v2 I = some t) : zRun X d 70 0 (zent 70 [.ref 1, .int v1, .int v2]) [] (SH, I, J) (some (.int t)) (SH, I, J) := by
  unfold f70_ofSort at h
  refine zr_steps 2 (2, [some (.ref 1), some (.int v1), some (.int v2)], [.int v1, .ref 1], (SH, I, J)) rfl ?_
  obtain ⟨t2, hc1, h⟩ := zbind h
  refine zr_one (some (.inr (.inl (62, [.ref 1, .int v1], [], 5)))) rfl (zR_call (by omega) rfl (ok_f62_isSort (by omega) v1 _ hc1) ?_)
  refine zr_one (if t2 = 0 then zN 8 [some (.ref 1), some (.int v1), some (.int v2)] [] (SH, I, J) else zN 10 [some (.ref 1), some (.int v1), some (.int v2)] [] (SH, I, J)) rfl (zR_if (fun hc13 => zR_go ?_) (fun hc13 => zR_go ?_))
  · rw [if_pos hc13] at h
    refine zr_steps 1 (9, [some (.ref 1), some (.int v1), some (.int v2)], [.int (-1)], (SH, I, J)) rfl ?_
    have he := Option.some.inj h
    subst he
    exact zr_one (some (.inr (.inr (some (.int (-1)))))) rfl (zR_ret rfl rfl)
  · rw [if_neg hc13] at h
    refine zr_steps 1 (11, [some (.ref 1), some (.int v1), some (.int v2)], [.int v2], (SH, I, J)) rfl ?_
    refine zr_one (if v2.toInt = 0 then zN 44 [some (.ref 1), some (.int v1), some (.int v2)] [] (SH, I, J) else (if v2.toInt = 1 then zN 51 [some (.ref 1), some (.int v1), some (.int v2)] [] (SH, I, J) else (if v2.toInt = 2 then zN 58 [some (.ref 1), some (.int v1), some (.int v2)] [] (SH, I, J) else (if v2.toInt = 3 then zN 65 [some (.ref 1), some (.int v1), some (.int v2)] [] (SH, I, J) else (if v2.toInt = 4 then zN 72 [some (.ref 1), some (.int v1), some (.int v2)] [] (SH, I, J) else zN 79 [some (.ref 1), some (.int v1), some (.int v2)] [] (SH, I, J)))))) rfl ?_
    refine zR_if (fun hc12 => zR_go ?_) (fun hc12 => ?_)
    · rw [if_pos hc12] at h
      refine zr_steps 3 (49, [some (.ref 1), some (.int v1), some (.int v2)], [.int v1, .ref 8], (SH, I, J)) rfl ?_
      obtain ⟨hc3, h⟩ := zbifo h
      refine zr_one (bif zin v1 8 then zN 50 [some (.ref 1), some (.int v1), some (.int v2)] [.int (I 8 v1.toNatClampNeg)] (SH, I, J) else none) rfl (zR_bif hc3 (zR_go ?_))
      have he := Option.some.inj h
      subst he
      exact zr_one (some (.inr (.inr (some (.int (I 8 v1.toNatClampNeg)))))) rfl (zR_ret rfl rfl)
    rw [if_neg hc12] at h
    refine zR_if (fun hc11 => zR_go ?_) (fun hc11 => ?_)
    · rw [if_pos hc11] at h
      refine zr_steps 3 (56, [some (.ref 1), some (.int v1), some (.int v2)], [.int v1, .ref 9], (SH, I, J)) rfl ?_
      obtain ⟨hc4, h⟩ := zbifo h
      refine zr_one (bif zin v1 8 then zN 57 [some (.ref 1), some (.int v1), some (.int v2)] [.int (I 9 v1.toNatClampNeg)] (SH, I, J) else none) rfl (zR_bif hc4 (zR_go ?_))
      have he := Option.some.inj h
      subst he
      exact zr_one (some (.inr (.inr (some (.int (I 9 v1.toNatClampNeg)))))) rfl (zR_ret rfl rfl)
    rw [if_neg hc11] at h
    refine zR_if (fun hc10 => zR_go ?_) (fun hc10 => ?_)
    · rw [if_pos hc10] at h
      refine zr_steps 3 (63, [some (.ref 1), some (.int v1), some (.int v2)], [.int v1, .ref 10], (SH, I, J)) rfl ?_
      obtain ⟨hc5, h⟩ := zbifo h
      refine zr_one (bif zin v1 8 then zN 64 [some (.ref 1), some (.int v1), some (.int v2)] [.int (I 10 v1.toNatClampNeg)] (SH, I, J) else none) rfl (zR_bif hc5 (zR_go ?_))
      have he := Option.some.inj h
      subst he
      exact zr_one (some (.inr (.inr (some (.int (I 10 v1.toNatClampNeg)))))) rfl (zR_ret rfl rfl)
    rw [if_neg hc10] at h
    refine zR_if (fun hc9 => zR_go ?_) (fun hc9 => ?_)
    · rw [if_pos hc9] at h
      refine zr_steps 3 (70, [some (.ref 1), some (.int v1), some (.int v2)], [.int v1, .ref 11], (SH, I, J)) rfl ?_
      obtain ⟨hc6, h⟩ := zbifo h
      refine zr_one (bif zin v1 8 then zN 71 [some (.ref 1), some (.int v1), some (.int v2)] [.int (I 11 v1.toNatClampNeg)] (SH, I, J) else none) rfl (zR_bif hc6 (zR_go ?_))
      have he := Option.some.inj h
      subst he
      exact zr_one (some (.inr (.inr (some (.int (I 11 v1.toNatClampNeg)))))) rfl (zR_ret rfl rfl)
    rw [if_neg hc9] at h
    refine zR_if (fun hc8 => zR_go ?_) (fun hc8 => ?_)
    · rw [if_pos hc8] at h
      refine zr_steps 3 (77, [some (.ref 1), some (.int v1), some (.int v2)], [.int v1, .ref 12], (SH, I, J)) rfl ?_
      obtain ⟨hc7, h⟩ := zbifo h
      refine zr_one (bif zin v1 8 then zN 78 [some (.ref 1), some (.int v1), some (.int v2)] [.int (I 12 v1.toNatClampNeg)] (SH, I, J) else none) rfl (zR_bif hc7 (zR_go ?_))
      have he := Option.some.inj h
      subst he
      exact zr_one (some (.inr (.inr (some (.int (I 12 v1.toNatClampNeg)))))) rfl (zR_ret rfl rfl)
    rw [if_neg hc8] at h
    refine zR_go ?_
    refine zr_steps 1 (80, [some (.ref 1), some (.int v1), some (.int v2)], [.int (-1)], (SH, I, J)) rfl ?_
    have he := Option.some.inj h
    subst he
    exact zr_one (some (.inr (.inr (some (.int (-1)))))) rfl (zR_ret rfl rfl)
set_option maxRecDepth 100000 in
set_option maxHeartbeats 4000000 in
theorem ok_f95_of {X : zX} {d : Nat} (hd : 2 ≤ d) (v1 : Int32) (v2 : Int32) {I : (Nat → Nat → Int32)} {J : (Nat → Nat → Int64)} (t : Int32) (h : f95_of v1 v2 I = some t) : zRun X d 95 0 (zent 95 [.ref 0, .int v1, .int v2]) [] (SH, I, J) (some (.int t)) (SH, I, J) := by
  unfold f95_of at h
  refine zr_steps 2 (3, [some (.ref 0), some (.int v1), some (.int v2)], [.int 10, .int v2], (SH, I, J)) rfl ?_
  refine zr_one (if (10 : Int32) ≤ v2 then zN 16 [some (.ref 0), some (.int v1), some (.int v2)] [] (SH, I, J) else zN 6 [some (.ref 0), some (.int v1), some (.int v2)] [] (SH, I, J)) rfl (zR_if (fun hc8 => zR_go ?_) (fun hc8 => zR_go ?_))
  · rw [if_pos hc8] at h
    refine zr_steps 2 (19, [some (.ref 0), some (.int v1), some (.int v2)], [.int 20, .int v2], (SH, I, J)) rfl ?_
    refine zr_one (if (20 : Int32) ≤ v2 then zN 34 [some (.ref 0), some (.int v1), some (.int v2)] [] (SH, I, J) else zN 22 [some (.ref 0), some (.int v1), some (.int v2)] [] (SH, I, J)) rfl (zR_if (fun hc5 => zR_go ?_) (fun hc5 => zR_go ?_))
    · rw [if_pos hc5] at h
      refine zr_steps 4 (40, [some (.ref 0), some (.int v1), some (.int v2)], [.int v2, .int v1, .ref 1], (SH, I, J)) rfl ?_
      obtain ⟨t2, hc1, h⟩ := zbind h
      refine zr_one (some (.inr (.inl (72, [.ref 1, .int v1, .int v2], [], 43)))) rfl (zR_call (by omega) rfl (ok_f72_ofWay (by omega) v1 v2 _ hc1) ?_)
      have he := Option.some.inj h
      subst he
      exact zr_one (some (.inr (.inr (some (.int t2))))) rfl (zR_ret rfl rfl)
    · rw [if_neg hc5] at h
      refine zr_steps 4 (28, [some (.ref 0), some (.int v1), some (.int v2)], [.int v2, .int v1, .ref 1], (SH, I, J)) rfl ?_
      obtain ⟨t4, hc3, h⟩ := zbind h
      refine zr_one (some (.inr (.inl (71, [.ref 1, .int v1, .int v2], [], 31)))) rfl (zR_call (by omega) rfl (ok_f71_ofSquare (by omega) v1 v2 _ hc3) ?_)
      refine zr_steps 1 (43, [some (.ref 0), some (.int v1), some (.int v2)], [.int t4], (SH, I, J)) rfl ?_
      have he := Option.some.inj h
      subst he
      exact zr_one (some (.inr (.inr (some (.int t4))))) rfl (zR_ret rfl rfl)
  · rw [if_neg hc8] at h
    refine zr_steps 4 (12, [some (.ref 0), some (.int v1), some (.int v2)], [.int v2, .int v1, .ref 1], (SH, I, J)) rfl ?_
    obtain ⟨t7, hc6, h⟩ := zbind h
    refine zr_one (some (.inr (.inl (70, [.ref 1, .int v1, .int v2], [], 15)))) rfl (zR_call (by omega) rfl (ok_f70_ofSort (by omega) v1 v2 _ hc6) ?_)
    have he := Option.some.inj h
    subst he
    exact zr_one (some (.inr (.inr (some (.int t7))))) rfl (zR_ret rfl rfl)
