set_option maxRecDepth 100000 in
set_option maxHeartbeats 4000000 in
theorem ok_f165_of {X : zX} {d : Nat} (hd : 2 ≤ d) (v1 : Int32) (v2 : Int32) {I : (Nat → Nat → Int32)} {J : (Nat → Nat → Int64)} (t : Int32) (h : f165_of v1 v2 I = some t) : zRun X d 165 0 (zent 165 [.ref 73, .int v1, .int v2]) [] (SH, I, J) (some (.int t)) (SH, I, J) := by
  unfold f165_of at h
  refine zr_steps 3 (3, [some (.ref 73), some (.int v1), some (.int v2)], [.int 4, .int 0, .int v2], (SH, I, J)) rfl ?_
  obtain ⟨t2, hc1, h⟩ := zbind h
  refine zr_one (some (.inr (.inl (129, [.int v2, .int 0, .int 4], [], 6)))) rfl (zR_call (by omega) rfl (ok_f129_in (by omega) v2 0 4 _ hc1) ?_)
  refine zr_one (if t2 = 0 then zN 81 [some (.ref 73), some (.int v1), some (.int v2)] [] (SH, I, J) else zN 9 [some (.ref 73), some (.int v1), some (.int v2)] [] (SH, I, J)) rfl (zR_if (fun hc37 => zR_go ?_) (fun hc37 => zR_go ?_))
  · rw [if_pos hc37] at h
    refine zr_steps 3 (86, [some (.ref 73), some (.int v1), some (.int v2)], [.int 11, .int 10, .int v2], (SH, I, J)) rfl ?_
    obtain ⟨t4, hc3, h⟩ := zbind h
    refine zr_one (some (.inr (.inl (129, [.int v2, .int 10, .int 11], [], 89)))) rfl (zR_call (by omega) rfl (ok_f129_in (by omega) v2 10 11 _ hc3) ?_)
    refine zr_one (if t4 = 0 then zN 126 [some (.ref 73), some (.int v1), some (.int v2)] [] (SH, I, J) else zN 92 [some (.ref 73), some (.int v1), some (.int v2)] [] (SH, I, J)) rfl (zR_if (fun hc24 => zR_go ?_) (fun hc24 => zR_go ?_))
    · rw [if_pos hc24] at h
      refine zr_steps 3 (131, [some (.ref 73), some (.int v1), some (.int v2)], [.int 23, .int 20, .int v2], (SH, I, J)) rfl ?_
      obtain ⟨t6, hc5, h⟩ := zbind h
      refine zr_one (some (.inr (.inl (129, [.int v2, .int 20, .int 23], [], 134)))) rfl (zR_call (by omega) rfl (ok_f129_in (by omega) v2 20 23 _ hc5) ?_)
      refine zr_one (if t6 = 0 then zN 151 [some (.ref 73), some (.int v1), some (.int v2)] [] (SH, I, J) else zN 137 [some (.ref 73), some (.int v1), some (.int v2)] [] (SH, I, J)) rfl (zR_if (fun hc17 => zR_go ?_) (fun hc17 => zR_go ?_))
      · rw [if_pos hc17] at h
        refine zr_steps 1 (152, [some (.ref 73), some (.int v1), some (.int v2)], [.int (-1)], (SH, I, J)) rfl ?_
        have he := Option.some.inj h
        subst he
        exact zr_one (some (.inr (.inr (some (.int (-1)))))) rfl (zR_ret rfl rfl)
      · rw [if_neg hc17] at h
        refine zr_steps 6 (145, [some (.ref 73), some (.int v1), some (.int v2)], [.int ((I 73 4) - 1), .int 0, .int v1], (SH, I, J)) rfl ?_
        obtain ⟨t8, hc7, h⟩ := zbind h
        refine zr_one (some (.inr (.inl (129, [.int v1, .int 0, .int ((I 73 4) - 1)], [], 148)))) rfl (zR_call (by omega) rfl (ok_f129_in (by omega) v1 0 ((I 73 4) - 1) _ hc7) ?_)
        refine zr_one (if t8 = 0 then zN 151 [some (.ref 73), some (.int v1), some (.int v2)] [] (SH, I, J) else zN 153 [some (.ref 73), some (.int v1), some (.int v2)] [] (SH, I, J)) rfl (zR_if (fun hc16 => zR_go ?_) (fun hc16 => zR_go ?_))
        · rw [if_pos hc16] at h
          refine zr_steps 1 (152, [some (.ref 73), some (.int v1), some (.int v2)], [.int (-1)], (SH, I, J)) rfl ?_
          have he := Option.some.inj h
          subst he
          exact zr_one (some (.inr (.inr (some (.int (-1)))))) rfl (zR_ret rfl rfl)
        · rw [if_neg hc16] at h
          refine zr_steps 2 (156, [some (.ref 73), some (.int v1), some (.int v2)], [.int 20, .int v2], (SH, I, J)) rfl ?_
          refine zr_one (if v2 = 20 then zN 159 [some (.ref 73), some (.int v1), some (.int v2)] [] (SH, I, J) else zN 168 [some (.ref 73), some (.int v1), some (.int v2)] [] (SH, I, J)) rfl (zR_if (fun hc15 => zR_go ?_) (fun hc15 => zR_go ?_))
          · rw [if_pos hc15] at h
            refine zr_steps 3 (164, [some (.ref 73), some (.int v1), some (.int v2)], [.int v1, .ref 76], (SH, I, J)) rfl ?_
            obtain ⟨hc9, h⟩ := zbifo h
            refine zr_one (bif zin v1 12 then zN 165 [some (.ref 73), some (.int v1), some (.int v2)] [.int (I 76 v1.toNatClampNeg)] (SH, I, J) else none) rfl (zR_bif hc9 (zR_go ?_))
            refine zr_steps 1 (204, [some (.ref 73), some (.int v1), some (.int v2)], [.int (I 76 v1.toNatClampNeg)], (SH, I, J)) rfl ?_
            have he := Option.some.inj h
            subst he
            exact zr_one (some (.inr (.inr (some (.int (I 76 v1.toNatClampNeg)))))) rfl (zR_ret rfl rfl)
          · rw [if_neg hc15] at h
            refine zr_steps 2 (171, [some (.ref 73), some (.int v1), some (.int v2)], [.int 21, .int v2], (SH, I, J)) rfl ?_
            refine zr_one (if v2 = 21 then zN 174 [some (.ref 73), some (.int v1), some (.int v2)] [] (SH, I, J) else zN 183 [some (.ref 73), some (.int v1), some (.int v2)] [] (SH, I, J)) rfl (zR_if (fun hc14 => zR_go ?_) (fun hc14 => zR_go ?_))
            · rw [if_pos hc14] at h
              refine zr_steps 3 (179, [some (.ref 73), some (.int v1), some (.int v2)], [.int v1, .ref 77], (SH, I, J)) rfl ?_
              obtain ⟨hc10, h⟩ := zbifo h
              refine zr_one (bif zin v1 12 then zN 180 [some (.ref 73), some (.int v1), some (.int v2)] [.int (I 77 v1.toNatClampNeg)] (SH, I, J) else none) rfl (zR_bif hc10 (zR_go ?_))
              refine zr_steps 1 (204, [some (.ref 73), some (.int v1), some (.int v2)], [.int (I 77 v1.toNatClampNeg)], (SH, I, J)) rfl ?_
              have he := Option.some.inj h
              subst he
              exact zr_one (some (.inr (.inr (some (.int (I 77 v1.toNatClampNeg)))))) rfl (zR_ret rfl rfl)
            · rw [if_neg hc14] at h
              refine zr_steps 2 (186, [some (.ref 73), some (.int v1), some (.int v2)], [.int 22, .int v2], (SH, I, J)) rfl ?_
              refine zr_one (if v2 = 22 then zN 189 [some (.ref 73), some (.int v1), some (.int v2)] [] (SH, I, J) else zN 198 [some (.ref 73), some (.int v1), some (.int v2)] [] (SH, I, J)) rfl (zR_if (fun hc13 => zR_go ?_) (fun hc13 => zR_go ?_))
              · rw [if_pos hc13] at h
                refine zr_steps 3 (194, [some (.ref 73), some (.int v1), some (.int v2)], [.int v1, .ref 78], (SH, I, J)) rfl ?_
                obtain ⟨hc11, h⟩ := zbifo h
                refine zr_one (bif zin v1 12 then zN 195 [some (.ref 73), some (.int v1), some (.int v2)] [.int (I 78 v1.toNatClampNeg)] (SH, I, J) else none) rfl (zR_bif hc11 (zR_go ?_))
                refine zr_steps 1 (204, [some (.ref 73), some (.int v1), some (.int v2)], [.int (I 78 v1.toNatClampNeg)], (SH, I, J)) rfl ?_
                have he := Option.some.inj h
                subst he
                exact zr_one (some (.inr (.inr (some (.int (I 78 v1.toNatClampNeg)))))) rfl (zR_ret rfl rfl)
              · rw [if_neg hc13] at h
                refine zr_steps 3 (203, [some (.ref 73), some (.int v1), some (.int v2)], [.int v1, .ref 79], (SH, I, J)) rfl ?_
                obtain ⟨hc12, h⟩ := zbifo h
                refine zr_one (bif zin v1 12 then zN 204 [some (.ref 73), some (.int v1), some (.int v2)] [.int (I 79 v1.toNatClampNeg)] (SH, I, J) else none) rfl (zR_bif hc12 (zR_go ?_))
                have he := Option.some.inj h
                subst he
                exact zr_one (some (.inr (.inr (some (.int (I 79 v1.toNatClampNeg)))))) rfl (zR_ret rfl rfl)
    · rw [if_neg hc24] at h
      refine zr_steps 2 (94, [some (.ref 73), some (.int v1), some (.int v2)], [.int v1, .ref 73], (SH, I, J)) rfl ?_
      obtain ⟨t19, hc18, h⟩ := zbind h
      refine zr_one (some (.inr (.inl (130, [.ref 73, .int v1], [], 97)))) rfl (zR_call (by omega) rfl (ok_f130_isSquare (by omega) v1 _ hc18) ?_)
      refine zr_one (if t19 = 0 then zN 100 [some (.ref 73), some (.int v1), some (.int v2)] [] (SH, I, J) else zN 104 [some (.ref 73), some (.int v1), some (.int v2)] [] (SH, I, J)) rfl (zR_if (fun hc23 => zR_go ?_) (fun hc23 => zR_go ?_))
      · rw [if_pos hc23] at h
        refine zr_steps 2 (125, [some (.ref 73), some (.int v1), some (.int v2)], [.int (-1)], (SH, I, J)) rfl ?_
        have he := Option.some.inj h
        subst he
        exact zr_one (some (.inr (.inr (some (.int (-1)))))) rfl (zR_ret rfl rfl)
      · rw [if_neg hc23] at h
        refine zr_steps 2 (107, [some (.ref 73), some (.int v1), some (.int v2)], [.int 10, .int v2], (SH, I, J)) rfl ?_
        refine zr_one (if v2 = 10 then zN 110 [some (.ref 73), some (.int v1), some (.int v2)] [] (SH, I, J) else zN 119 [some (.ref 73), some (.int v1), some (.int v2)] [] (SH, I, J)) rfl (zR_if (fun hc22 => zR_go ?_) (fun hc22 => zR_go ?_))
        · rw [if_pos hc22] at h
          refine zr_steps 3 (115, [some (.ref 73), some (.int v1), some (.int v2)], [.int v1, .ref 74], (SH, I, J)) rfl ?_
          obtain ⟨hc20, h⟩ := zbifo h
          refine zr_one (bif zin v1 4 then zN 116 [some (.ref 73), some (.int v1), some (.int v2)] [.int (I 74 v1.toNatClampNeg)] (SH, I, J) else none) rfl (zR_bif hc20 (zR_go ?_))
          refine zr_steps 1 (125, [some (.ref 73), some (.int v1), some (.int v2)], [.int (I 74 v1.toNatClampNeg)], (SH, I, J)) rfl ?_
          have he := Option.some.inj h
          subst he
          exact zr_one (some (.inr (.inr (some (.int (I 74 v1.toNatClampNeg)))))) rfl (zR_ret rfl rfl)
        · rw [if_neg hc22] at h
          refine zr_steps 3 (124, [some (.ref 73), some (.int v1), some (.int v2)], [.int v1, .ref 75], (SH, I, J)) rfl ?_
          obtain ⟨hc21, h⟩ := zbifo h
          refine zr_one (bif zin v1 4 then zN 125 [some (.ref 73), some (.int v1), some (.int v2)] [.int (I 75 v1.toNatClampNeg)] (SH, I, J) else none) rfl (zR_bif hc21 (zR_go ?_))
          have he := Option.some.inj h
          subst he
          exact zr_one (some (.inr (.inr (some (.int (I 75 v1.toNatClampNeg)))))) rfl (zR_ret rfl rfl)
  · rw [if_neg hc37] at h
    refine zr_steps 2 (11, [some (.ref 73), some (.int v1), some (.int v2)], [.int v1, .ref 73], (SH, I, J)) rfl ?_
    obtain ⟨t26, hc25, h⟩ := zbind h
    refine zr_one (some (.inr (.inl (131, [.ref 73, .int v1], [], 14)))) rfl (zR_call (by omega) rfl (ok_f131_isSort (by omega) v1 _ hc25) ?_)
    refine zr_one (if t26 = 0 then zN 17 [some (.ref 73), some (.int v1), some (.int v2)] [] (SH, I, J) else zN 19 [some (.ref 73), some (.int v1), some (.int v2)] [] (SH, I, J)) rfl (zR_if (fun hc36 => zR_go ?_) (fun hc36 => zR_go ?_))
    · rw [if_pos hc36] at h
      refine zr_steps 1 (18, [some (.ref 73), some (.int v1), some (.int v2)], [.int (-1)], (SH, I, J)) rfl ?_
      have he := Option.some.inj h
      subst he
      exact zr_one (some (.inr (.inr (some (.int (-1)))))) rfl (zR_ret rfl rfl)
    · rw [if_neg hc36] at h
      refine zr_steps 1 (20, [some (.ref 73), some (.int v1), some (.int v2)], [.int v2], (SH, I, J)) rfl ?_
      refine zr_one (if v2 = 0 then zN 23 [some (.ref 73), some (.int v1), some (.int v2)] [] (SH, I, J) else zN 32 [some (.ref 73), some (.int v1), some (.int v2)] [] (SH, I, J)) rfl (zR_if (fun hc35 => zR_go ?_) (fun hc35 => zR_go ?_))
      · rw [if_pos hc35] at h
        refine zr_steps 3 (28, [some (.ref 73), some (.int v1), some (.int v2)], [.int v1, .ref 80], (SH, I, J)) rfl ?_
        obtain ⟨hc27, h⟩ := zbifo h
        refine zr_one (bif zin v1 8 then zN 29 [some (.ref 73), some (.int v1), some (.int v2)] [.int (I 80 v1.toNatClampNeg)] (SH, I, J) else none) rfl (zR_bif hc27 (zR_go ?_))
        refine zr_steps 1 (80, [some (.ref 73), some (.int v1), some (.int v2)], [.int (I 80 v1.toNatClampNeg)], (SH, I, J)) rfl ?_
        have he := Option.some.inj h
        subst he
        exact zr_one (some (.inr (.inr (some (.int (I 80 v1.toNatClampNeg)))))) rfl (zR_ret rfl rfl)
      · rw [if_neg hc35] at h
        refine zr_steps 2 (34, [some (.ref 73), some (.int v1), some (.int v2)], [.int 1, .int v2], (SH, I, J)) rfl ?_
        refine zr_one (if v2 = 1 then zN 37 [some (.ref 73), some (.int v1), some (.int v2)] [] (SH, I, J) else zN 46 [some (.ref 73), some (.int v1), some (.int v2)] [] (SH, I, J)) rfl (zR_if (fun hc34 => zR_go ?_) (fun hc34 => zR_go ?_))
        · rw [if_pos hc34] at h
          refine zr_steps 3 (42, [some (.ref 73), some (.int v1), some (.int v2)], [.int v1, .ref 81], (SH, I, J)) rfl ?_
          obtain ⟨hc28, h⟩ := zbifo h
          refine zr_one (bif zin v1 8 then zN 43 [some (.ref 73), some (.int v1), some (.int v2)] [.int (I 81 v1.toNatClampNeg)] (SH, I, J) else none) rfl (zR_bif hc28 (zR_go ?_))
          refine zr_steps 1 (80, [some (.ref 73), some (.int v1), some (.int v2)], [.int (I 81 v1.toNatClampNeg)], (SH, I, J)) rfl ?_
          have he := Option.some.inj h
          subst he
          exact zr_one (some (.inr (.inr (some (.int (I 81 v1.toNatClampNeg)))))) rfl (zR_ret rfl rfl)
        · rw [if_neg hc34] at h
          refine zr_steps 2 (48, [some (.ref 73), some (.int v1), some (.int v2)], [.int 2, .int v2], (SH, I, J)) rfl ?_
          refine zr_one (if v2 = 2 then zN 51 [some (.ref 73), some (.int v1), some (.int v2)] [] (SH, I, J) else zN 60 [some (.ref 73), some (.int v1), some (.int v2)] [] (SH, I, J)) rfl (zR_if (fun hc33 => zR_go ?_) (fun hc33 => zR_go ?_))
          · rw [if_pos hc33] at h
            refine zr_steps 3 (56, [some (.ref 73), some (.int v1), some (.int v2)], [.int v1, .ref 82], (SH, I, J)) rfl ?_
            obtain ⟨hc29, h⟩ := zbifo h
            refine zr_one (bif zin v1 8 then zN 57 [some (.ref 73), some (.int v1), some (.int v2)] [.int (I 82 v1.toNatClampNeg)] (SH, I, J) else none) rfl (zR_bif hc29 (zR_go ?_))
            refine zr_steps 1 (80, [some (.ref 73), some (.int v1), some (.int v2)], [.int (I 82 v1.toNatClampNeg)], (SH, I, J)) rfl ?_
            have he := Option.some.inj h
            subst he
            exact zr_one (some (.inr (.inr (some (.int (I 82 v1.toNatClampNeg)))))) rfl (zR_ret rfl rfl)
          · rw [if_neg hc33] at h
            refine zr_steps 2 (62, [some (.ref 73), some (.int v1), some (.int v2)], [.int 3, .int v2], (SH, I, J)) rfl ?_
            refine zr_one (if v2 = 3 then zN 65 [some (.ref 73), some (.int v1), some (.int v2)] [] (SH, I, J) else zN 74 [some (.ref 73), some (.int v1), some (.int v2)] [] (SH, I, J)) rfl (zR_if (fun hc32 => zR_go ?_) (fun hc32 => zR_go ?_))
            · rw [if_pos hc32] at h
              refine zr_steps 3 (70, [some (.ref 73), some (.int v1), some (.int v2)], [.int v1, .ref 83], (SH, I, J)) rfl ?_
              obtain ⟨hc30, h⟩ := zbifo h
              refine zr_one (bif zin v1 8 then zN 71 [some (.ref 73), some (.int v1), some (.int v2)] [.int (I 83 v1.toNatClampNeg)] (SH, I, J) else none) rfl (zR_bif hc30 (zR_go ?_))
              refine zr_steps 1 (80, [some (.ref 73), some (.int v1), some (.int v2)], [.int (I 83 v1.toNatClampNeg)], (SH, I, J)) rfl ?_
              have he := Option.some.inj h
              subst he
              exact zr_one (some (.inr (.inr (some (.int (I 83 v1.toNatClampNeg)))))) rfl (zR_ret rfl rfl)
            · rw [if_neg hc32] at h
              refine zr_steps 3 (79, [some (.ref 73), some (.int v1), some (.int v2)], [.int v1, .ref 84], (SH, I, J)) rfl ?_
              obtain ⟨hc31, h⟩ := zbifo h
              refine zr_one (bif zin v1 8 then zN 80 [some (.ref 73), some (.int v1), some (.int v2)] [.int (I 84 v1.toNatClampNeg)] (SH, I, J) else none) rfl (zR_bif hc31 (zR_go ?_))
              have he := Option.some.inj h
              subst he
              exact zr_one (some (.inr (.inr (some (.int (I 84 v1.toNatClampNeg)))))) rfl (zR_ret rfl rfl)
set_option maxRecDepth 100000 in
set_option maxHeartbeats 4000000 in
theorem ok_f81_asIn_25 {X : zX} {d : Nat} (hd : 0 ≤ d) {I : (Nat → Nat → Int32)} {J : (Nat → Nat → Int64)} (t : (Nat → Nat → Int32)) (h : f81_asIn_25 I = some t) : zRun X d 81 0 (zent 81 [.ref 25, .ref 1]) [] (SH, I, J) none (SH, t, J) := by
  unfold f81_asIn_25 at h
  refine zr_steps 21 (38, [some (.ref 25), some (.ref 1)], [.int 8, .int 0, .ref 26, .int 0, .ref 10], (SH, (zu (zu (zu (zu I 25 0 (I 1 3)) 25 1 (I 1 4)) 25 3 0) 25 4 (-1)), J)) rfl ?_
  obtain ⟨hc1, h⟩ := zbifo h
  refine zr_one (zcopy 38 [some (.ref 25), some (.ref 1)] [.int 8, .int 0, .ref 26, .int 0, .ref 10] (SH, (zu (zu (zu (zu I 25 0 (I 1 3)) 25 1 (I 1 4)) 25 3 0) 25 4 (-1)), J)) rfl (zR_copy (na := 8) (nb := 8) rfl rfl rfl rfl hc1 rfl ?_)
  refine zr_steps 7 (53, [some (.ref 25), some (.ref 1)], [.int 8, .int 0, .ref 27, .int 0, .ref 12], (SH, (zcp (zu (zu (zu (zu I 25 0 (I 1 3)) 25 1 (I 1 4)) 25 3 0) 25 4 (-1)) 10 26 0 0 8), J)) rfl ?_
  obtain ⟨hc2, h⟩ := zbifo h
  refine zr_one (zcopy 53 [some (.ref 25), some (.ref 1)] [.int 8, .int 0, .ref 27, .int 0, .ref 12] (SH, (zcp (zu (zu (zu (zu I 25 0 (I 1 3)) 25 1 (I 1 4)) 25 3 0) 25 4 (-1)) 10 26 0 0 8), J)) rfl (zR_copy (na := 8) (nb := 8) rfl rfl rfl rfl hc2 rfl ?_)
  have he := Option.some.inj h
  subst he
  exact zr_one (some (.inr (.inr none))) rfl (zR_ret rfl rfl)
set_option maxRecDepth 100000 in
set_option maxHeartbeats 4000000 in
theorem ok_f41_begin_24_L24 {X : zX} {d : Nat} {r : Option Value} {M' : zM} (hd : 0 ≤ d) {J : (Nat → Nat → Int64)} : ∀ (n : Nat) (s x : (Int32 × (Nat → Nat → Int32))), zloop f41_begin_24_L24 n s = some x → (fun (x : (Int32 × (Nat → Nat → Int32))) => zRun X d 41 59 [some (.ref 24), none] [] (SH, x.2, J) r M') x → (fun (s : (Int32 × (Nat → Nat → Int32))) => zRun X d 41 24 [some (.ref 24), some (.int s.1)] [] (SH, s.2, J) r M') s := zloop_ok (B := f41_begin_24_L24) (Wh := fun (s : (Int32 × (Nat → Nat → Int32))) => zRun X d 41 24 [some (.ref 24), some (.int s.1)] [] (SH, s.2, J) r M') (Wx := fun (x : (Int32 × (Nat → Nat → Int32))) => zRun X d 41 59 [some (.ref 24), none] [] (SH, x.2, J) r M') (fun s y h w => by
  unfold f41_begin_24_L24 at h
  refine zr_steps 2 (27, [some (.ref 24), some (.int s.1)], [.int 32, .int s.1], (SH, s.2, J)) rfl ?_
  refine zr_one (if (32 : Int32) ≤ s.1 then zN 59 [some (.ref 24), some (.int s.1)] [] (SH, s.2, J) else zN 30 [some (.ref 24), some (.int s.1)] [] (SH, s.2, J)) rfl (zR_if (fun hc4 => zR_go ?_) (fun hc4 => zR_go ?_))
  · rw [if_pos hc4] at h
    have he := Option.some.inj h
    subst he
    exact zr_hdr (ls2 := [some (.ref 24), none]) rfl rfl (show zRun X d 41 59 [some (.ref 24), none] [] (SH, s.2, J) r M' from w)
  · rw [if_neg hc4] at h
    refine zr_steps 4 (36, [some (.ref 24), some (.int s.1)], [.int 0, .int s.1, .ref 28], (SH, s.2, J)) rfl ?_
    obtain ⟨hc1, h⟩ := zbifo h
    refine zr_one (bif zin s.1 32 then zN 37 [some (.ref 24), some (.int s.1)] [] (SH, (zu s.2 28 s.1.toNatClampNeg 0), J) else none) rfl (zR_bif hc1 (zR_go ?_))
    refine zr_steps 4 (43, [some (.ref 24), some (.int s.1)], [.int 0, .int s.1, .ref 29], (SH, (zu s.2 28 s.1.toNatClampNeg 0), J)) rfl ?_
    obtain ⟨hc2, h⟩ := zbifo h
    refine zr_one (bif zin s.1 32 then zN 44 [some (.ref 24), some (.int s.1)] [] (SH, (zu (zu s.2 28 s.1.toNatClampNeg 0) 29 s.1.toNatClampNeg 0), J) else none) rfl (zR_bif hc2 (zR_go ?_))
    refine zr_steps 4 (52, [some (.ref 24), some (.int s.1)], [.int 200, .int s.1, .ref 30], (SH, (zu (zu s.2 28 s.1.toNatClampNeg 0) 29 s.1.toNatClampNeg 0), J)) rfl ?_
    obtain ⟨hc3, h⟩ := zbifo h
    refine zr_one (bif zin s.1 32 then zN 53 [some (.ref 24), some (.int s.1)] [] (SH, (zu (zu (zu s.2 28 s.1.toNatClampNeg 0) 29 s.1.toNatClampNeg 0) 30 s.1.toNatClampNeg 200), J) else none) rfl (zR_bif hc3 (zR_go ?_))
    refine zr_steps 2 (24, [some (.ref 24), some (.int (s.1 + 1))], [], (SH, (zu (zu (zu s.2 28 s.1.toNatClampNeg 0) 29 s.1.toNatClampNeg 0) 30 s.1.toNatClampNeg 200), J)) rfl ?_
    have he := Option.some.inj h
    subst he
    exact zr_hdr (ls2 := [some (.ref 24), some (.int (s.1 + 1))]) rfl rfl (show zRun X d 41 24 [some (.ref 24), some (.int (s.1 + 1))] [] (SH, (zu (zu (zu s.2 28 s.1.toNatClampNeg 0) 29 s.1.toNatClampNeg 0) 30 s.1.toNatClampNeg 200), J) r M' from w))
set_option maxRecDepth 100000 in
set_option maxHeartbeats 4000000 in
theorem ok_f41_begin_24_L61 {X : zX} {d : Nat} {r : Option Value} {M' : zM} (hd : 0 ≤ d) {J : (Nat → Nat → Int64)} : ∀ (n : Nat) (s x : (Int32 × (Nat → Nat → Int32))), zloop f41_begin_24_L61 n s = some x → (fun (x : (Int32 × (Nat → Nat → Int32))) => zRun X d 41 90 [some (.ref 24), none] [] (SH, x.2, J) r M') x → (fun (s : (Int32 × (Nat → Nat → Int32))) => zRun X d 41 61 [some (.ref 24), some (.int s.1)] [] (SH, s.2, J) r M') s := zloop_ok (B := f41_begin_24_L61) (Wh := fun (s : (Int32 × (Nat → Nat → Int32))) => zRun X d 41 61 [some (.ref 24), some (.int s.1)] [] (SH, s.2, J) r M') (Wx := fun (x : (Int32 × (Nat → Nat → Int32))) => zRun X d 41 90 [some (.ref 24), none] [] (SH, x.2, J) r M') (fun s y h w => by
  unfold f41_begin_24_L61 at h
  refine zr_steps 8 (74, [some (.ref 24), some (.int s.1)], [.int (((s.2 25 0) + 1) * 32), .int s.1], (SH, s.2, J)) rfl ?_
  refine zr_one (if (((s.2 25 0) + 1) * 32) ≤ s.1 then zN 90 [some (.ref 24), some (.int s.1)] [] (SH, s.2, J) else zN 77 [some (.ref 24), some (.int s.1)] [] (SH, s.2, J)) rfl (zR_if (fun hc8 => zR_go ?_) (fun hc8 => zR_go ?_))
  · rw [if_pos hc8] at h
    have he := Option.some.inj h
    subst he
    exact zr_hdr (ls2 := [some (.ref 24), none]) rfl rfl (show zRun X d 41 90 [some (.ref 24), none] [] (SH, s.2, J) r M' from w)
  · rw [if_neg hc8] at h
    refine zr_steps 4 (83, [some (.ref 24), some (.int s.1)], [.int 0, .int s.1, .ref 32], (SH, s.2, J)) rfl ?_
    obtain ⟨hc7, h⟩ := zbifo h
    refine zr_one (bif zin s.1 1952 then zN 84 [some (.ref 24), some (.int s.1)] [] (SH, (zu s.2 32 s.1.toNatClampNeg 0), J) else none) rfl (zR_bif hc7 (zR_go ?_))
    refine zr_steps 2 (61, [some (.ref 24), some (.int (s.1 + 1))], [], (SH, (zu s.2 32 s.1.toNatClampNeg 0), J)) rfl ?_
    have he := Option.some.inj h
    subst he
    exact zr_hdr (ls2 := [some (.ref 24), some (.int (s.1 + 1))]) rfl rfl (show zRun X d 41 61 [some (.ref 24), some (.int (s.1 + 1))] [] (SH, (zu s.2 32 s.1.toNatClampNeg 0), J) r M' from w))
set_option maxRecDepth 100000 in
set_option maxHeartbeats 4000000 in
theorem ok_f41_begin_24_L92 {X : zX} {d : Nat} {r : Option Value} {M' : zM} (hd : 0 ≤ d) {J : (Nat → Nat → Int64)} : ∀ (n : Nat) (s x : (Int32 × (Nat → Nat → Int32))), zloop f41_begin_24_L92 n s = some x → (fun (x : (Int32 × (Nat → Nat → Int32))) => zRun X d 41 110 [some (.ref 24), none] [] (SH, x.2, J) r M') x → (fun (s : (Int32 × (Nat → Nat → Int32))) => zRun X d 41 92 [some (.ref 24), some (.int s.1)] [] (SH, s.2, J) r M') s := zloop_ok (B := f41_begin_24_L92) (Wh := fun (s : (Int32 × (Nat → Nat → Int32))) => zRun X d 41 92 [some (.ref 24), some (.int s.1)] [] (SH, s.2, J) r M') (Wx := fun (x : (Int32 × (Nat → Nat → Int32))) => zRun X d 41 110 [some (.ref 24), none] [] (SH, x.2, J) r M') (fun s y h w => by
  unfold f41_begin_24_L92 at h
  refine zr_steps 2 (94, [some (.ref 24), some (.int s.1)], [.int 4, .int s.1], (SH, s.2, J)) rfl ?_
  refine zr_one (if (4 : Int32) ≤ s.1 then zN 110 [some (.ref 24), some (.int s.1)] [] (SH, s.2, J) else zN 97 [some (.ref 24), some (.int s.1)] [] (SH, s.2, J)) rfl (zR_if (fun hc12 => zR_go ?_) (fun hc12 => zR_go ?_))
  · rw [if_pos hc12] at h
    have he := Option.some.inj h
    subst he
    exact zr_hdr (ls2 := [some (.ref 24), none]) rfl rfl (show zRun X d 41 110 [some (.ref 24), none] [] (SH, s.2, J) r M' from w)
  · rw [if_neg hc12] at h
    refine zr_steps 4 (103, [some (.ref 24), some (.int s.1)], [.int 0, .int s.1, .ref 31], (SH, s.2, J)) rfl ?_
    obtain ⟨hc11, h⟩ := zbifo h
    refine zr_one (bif zin s.1 4 then zN 104 [some (.ref 24), some (.int s.1)] [] (SH, (zu s.2 31 s.1.toNatClampNeg 0), J) else none) rfl (zR_bif hc11 (zR_go ?_))
    refine zr_steps 2 (92, [some (.ref 24), some (.int (s.1 + 1))], [], (SH, (zu s.2 31 s.1.toNatClampNeg 0), J)) rfl ?_
    have he := Option.some.inj h
    subst he
    exact zr_hdr (ls2 := [some (.ref 24), some (.int (s.1 + 1))]) rfl rfl (show zRun X d 41 92 [some (.ref 24), some (.int (s.1 + 1))] [] (SH, (zu s.2 31 s.1.toNatClampNeg 0), J) r M' from w))
set_option maxRecDepth 100000 in
set_option maxHeartbeats 4000000 in
theorem ok_f41_begin_24_L112 {X : zX} {d : Nat} {r : Option Value} {M' : zM} (hd : 0 ≤ d) {J : (Nat → Nat → Int64)} : ∀ (n : Nat) (s x : (Int32 × (Nat → Nat → Int32))), zloop f41_begin_24_L112 n s = some x → (fun (x : (Int32 × (Nat → Nat → Int32))) => zRun X d 41 183 [some (.ref 24), none] [] (SH, x.2, J) r M') x → (fun (s : (Int32 × (Nat → Nat → Int32))) => zRun X d 41 112 [some (.ref 24), some (.int s.1)] [] (SH, s.2, J) r M') s := zloop_ok (B := f41_begin_24_L112) (Wh := fun (s : (Int32 × (Nat → Nat → Int32))) => zRun X d 41 112 [some (.ref 24), some (.int s.1)] [] (SH, s.2, J) r M') (Wx := fun (x : (Int32 × (Nat → Nat → Int32))) => zRun X d 41 183 [some (.ref 24), none] [] (SH, x.2, J) r M') (fun s y h w => by
  unfold f41_begin_24_L112 at h
  refine zr_steps 4 (120, [some (.ref 24), some (.int s.1)], [.int (s.2 1 2), .int s.1], (SH, s.2, J)) rfl ?_
  refine zr_one (if (s.2 1 2) ≤ s.1 then zN 183 [some (.ref 24), some (.int s.1)] [] (SH, s.2, J) else zN 123 [some (.ref 24), some (.int s.1)] [] (SH, s.2, J)) rfl (zR_if (fun hc22 => zR_go ?_) (fun hc22 => zR_go ?_))
  · rw [if_pos hc22] at h
    have he := Option.some.inj h
    subst he
    exact zr_hdr (ls2 := [some (.ref 24), none]) rfl rfl (show zRun X d 41 183 [some (.ref 24), none] [] (SH, s.2, J) r M' from w)
  · rw [if_neg hc22] at h
    refine zr_steps 6 (135, [some (.ref 24), some (.int s.1)], [.int s.1, .ref 26, .ref 28], (SH, s.2, J)) rfl ?_
    obtain ⟨hc15, h⟩ := zbifo h
    refine zr_one (bif zin s.1 8 then zN 136 [some (.ref 24), some (.int s.1)] [.int (s.2 26 s.1.toNatClampNeg), .ref 28] (SH, s.2, J) else none) rfl (zR_bif hc15 (zR_go ?_))
    refine zr_steps 8 (149, [some (.ref 24), some (.int s.1)], [.int s.1, .ref 8, .int (((s.2 26 s.1.toNatClampNeg) * 8) + s.1), .ref 28], (SH, s.2, J)) rfl ?_
    obtain ⟨hc16, h⟩ := zbifo h
    refine zr_one (bif zin s.1 8 then zN 150 [some (.ref 24), some (.int s.1)] [.int (s.2 8 s.1.toNatClampNeg), .int (((s.2 26 s.1.toNatClampNeg) * 8) + s.1), .ref 28] (SH, s.2, J) else none) rfl (zR_bif hc16 (zR_go ?_))
    obtain ⟨hc17, h⟩ := zbifo h
    refine zr_one (bif zin (((s.2 26 s.1.toNatClampNeg) * 8) + s.1) 32 then zN 151 [some (.ref 24), some (.int s.1)] [] (SH, (zu s.2 28 (((s.2 26 s.1.toNatClampNeg) * 8) + s.1).toNatClampNeg (s.2 8 s.1.toNatClampNeg)), J) else none) rfl (zR_bif hc17 (zR_go ?_))
    refine zr_steps 6 (163, [some (.ref 24), some (.int s.1)], [.int s.1, .ref 26, .ref 31], (SH, (zu s.2 28 (((s.2 26 s.1.toNatClampNeg) * 8) + s.1).toNatClampNeg (s.2 8 s.1.toNatClampNeg)), J)) rfl ?_
    obtain ⟨hc18, h⟩ := zbifo h
    refine zr_one (bif zin s.1 8 then zN 164 [some (.ref 24), some (.int s.1)] [.int (s.2 26 s.1.toNatClampNeg), .ref 31] (SH, (zu s.2 28 (((s.2 26 s.1.toNatClampNeg) * 8) + s.1).toNatClampNeg (s.2 8 s.1.toNatClampNeg)), J) else none) rfl (zR_bif hc18 (zR_go ?_))
    refine zr_steps 1 (165, [some (.ref 24), some (.int s.1)], [.int (s.2 26 s.1.toNatClampNeg), .ref 31, .int (s.2 26 s.1.toNatClampNeg), .ref 31], (SH, (zu s.2 28 (((s.2 26 s.1.toNatClampNeg) * 8) + s.1).toNatClampNeg (s.2 8 s.1.toNatClampNeg)), J)) rfl ?_
    obtain ⟨hc19, h⟩ := zbifo h
    refine zr_one (bif zin (s.2 26 s.1.toNatClampNeg) 4 then zN 166 [some (.ref 24), some (.int s.1)] [.int (s.2 31 (s.2 26 s.1.toNatClampNeg).toNatClampNeg), .int (s.2 26 s.1.toNatClampNeg), .ref 31] (SH, (zu s.2 28 (((s.2 26 s.1.toNatClampNeg) * 8) + s.1).toNatClampNeg (s.2 8 s.1.toNatClampNeg)), J) else none) rfl (zR_bif hc19 (zR_go ?_))
    refine zr_steps 4 (174, [some (.ref 24), some (.int s.1)], [.int s.1, .ref 8, .int (s.2 31 (s.2 26 s.1.toNatClampNeg).toNatClampNeg), .int (s.2 26 s.1.toNatClampNeg), .ref 31], (SH, (zu s.2 28 (((s.2 26 s.1.toNatClampNeg) * 8) + s.1).toNatClampNeg (s.2 8 s.1.toNatClampNeg)), J)) rfl ?_
    obtain ⟨hc20, h⟩ := zbifo h
    refine zr_one (bif zin s.1 8 then zN 175 [some (.ref 24), some (.int s.1)] [.int (s.2 8 s.1.toNatClampNeg), .int (s.2 31 (s.2 26 s.1.toNatClampNeg).toNatClampNeg), .int (s.2 26 s.1.toNatClampNeg), .ref 31] (SH, (zu s.2 28 (((s.2 26 s.1.toNatClampNeg) * 8) + s.1).toNatClampNeg (s.2 8 s.1.toNatClampNeg)), J) else none) rfl (zR_bif hc20 (zR_go ?_))
    refine zr_steps 1 (176, [some (.ref 24), some (.int s.1)], [.int ((s.2 31 (s.2 26 s.1.toNatClampNeg).toNatClampNeg) + (s.2 8 s.1.toNatClampNeg)), .int (s.2 26 s.1.toNatClampNeg), .ref 31], (SH, (zu s.2 28 (((s.2 26 s.1.toNatClampNeg) * 8) + s.1).toNatClampNeg (s.2 8 s.1.toNatClampNeg)), J)) rfl ?_
    obtain ⟨hc21, h⟩ := zbifo h
    refine zr_one (bif zin (s.2 26 s.1.toNatClampNeg) 4 then zN 177 [some (.ref 24), some (.int s.1)] [] (SH, (zu (zu s.2 28 (((s.2 26 s.1.toNatClampNeg) * 8) + s.1).toNatClampNeg (s.2 8 s.1.toNatClampNeg)) 31 (s.2 26 s.1.toNatClampNeg).toNatClampNeg ((s.2 31 (s.2 26 s.1.toNatClampNeg).toNatClampNeg) + (s.2 8 s.1.toNatClampNeg))), J) else none) rfl (zR_bif hc21 (zR_go ?_))
    refine zr_steps 2 (112, [some (.ref 24), some (.int (s.1 + 1))], [], (SH, (zu (zu s.2 28 (((s.2 26 s.1.toNatClampNeg) * 8) + s.1).toNatClampNeg (s.2 8 s.1.toNatClampNeg)) 31 (s.2 26 s.1.toNatClampNeg).toNatClampNeg ((s.2 31 (s.2 26 s.1.toNatClampNeg).toNatClampNeg) + (s.2 8 s.1.toNatClampNeg))), J)) rfl ?_
    have he := Option.some.inj h
    subst he
    exact zr_hdr (ls2 := [some (.ref 24), some (.int (s.1 + 1))]) rfl rfl (show zRun X d 41 112 [some (.ref 24), some (.int (s.1 + 1))] [] (SH, (zu (zu s.2 28 (((s.2 26 s.1.toNatClampNeg) * 8) + s.1).toNatClampNeg (s.2 8 s.1.toNatClampNeg)) 31 (s.2 26 s.1.toNatClampNeg).toNatClampNeg ((s.2 31 (s.2 26 s.1.toNatClampNeg).toNatClampNeg) + (s.2 8 s.1.toNatClampNeg))), J) r M' from w))
set_option maxRecDepth 100000 in
set_option maxHeartbeats 4000000 in
theorem ok_f41_begin_24 {X : zX} {d : Nat} (hd : 0 ≤ d) {I : (Nat → Nat → Int32)} {J : (Nat → Nat → Int64)} (t : (Nat → Nat → Int32)) (h : f41_begin_24 I = some t) : zRun X d 41 0 (zent 41 [.ref 24]) [] (SH, I, J) none (SH, t, J) := by
  unfold f41_begin_24 at h
  refine zr_steps 12 (24, [some (.ref 24), some (.int 0)], [], (SH, (zu (zu I 24 13 (I 1 0)) 24 14 (I 1 2)), J)) rfl ?_
  obtain ⟨s5, ho6, h⟩ := zbind h
  refine zr_hdr (ls2 := [some (.ref 24), some (.int 0)]) rfl rfl ?_
  refine ok_f41_begin_24_L24 (by omega) 5000 ((0 : Int32), (zu (zu I 24 13 (I 1 0)) 24 14 (I 1 2))) s5 ho6 ?_
  show zRun X d 41 59 [some (.ref 24), none] [] (SH, s5.2, J) _ _
  refine zr_steps 2 (61, [some (.ref 24), some (.int 0)], [], (SH, s5.2, J)) rfl ?_
  obtain ⟨s9, ho10, h⟩ := zbind h
  refine zr_hdr (ls2 := [some (.ref 24), some (.int 0)]) rfl rfl ?_
  refine ok_f41_begin_24_L61 (by omega) 5000 ((0 : Int32), s5.2) s9 ho10 ?_
  show zRun X d 41 90 [some (.ref 24), none] [] (SH, s9.2, J) _ _
  refine zr_steps 2 (92, [some (.ref 24), some (.int 0)], [], (SH, s9.2, J)) rfl ?_
  obtain ⟨s13, ho14, h⟩ := zbind h
  refine zr_hdr (ls2 := [some (.ref 24), some (.int 0)]) rfl rfl ?_
  refine ok_f41_begin_24_L92 (by omega) 5000 ((0 : Int32), s9.2) s13 ho14 ?_
  show zRun X d 41 110 [some (.ref 24), none] [] (SH, s13.2, J) _ _
  refine zr_steps 2 (112, [some (.ref 24), some (.int 0)], [], (SH, s13.2, J)) rfl ?_
  obtain ⟨s23, ho24, h⟩ := zbind h
  refine zr_hdr (ls2 := [some (.ref 24), some (.int 0)]) rfl rfl ?_
  refine ok_f41_begin_24_L112 (by omega) 5000 ((0 : Int32), s13.2) s23 ho24 ?_
  show zRun X d 41 183 [some (.ref 24), none] [] (SH, s23.2, J) _ _
  refine zr_steps 6 (195, [some (.ref 24), none], [.int (s23.2 25 2), .ref 31, .int (s23.2 25 2), .ref 31], (SH, s23.2, J)) rfl ?_
  obtain ⟨hc25, h⟩ := zbifo h
  refine zr_one (bif zin (s23.2 25 2) 4 then zN 196 [some (.ref 24), none] [.int (s23.2 31 (s23.2 25 2).toNatClampNeg), .int (s23.2 25 2), .ref 31] (SH, s23.2, J) else none) rfl (zR_bif hc25 (zR_go ?_))
  refine zr_steps 4 (204, [some (.ref 24), none], [.int ((s23.2 31 (s23.2 25 2).toNatClampNeg) + (s23.2 25 3)), .int (s23.2 25 2), .ref 31], (SH, s23.2, J)) rfl ?_
  obtain ⟨hc26, h⟩ := zbifo h
  refine zr_one (bif zin (s23.2 25 2) 4 then zN 205 [some (.ref 24), none] [] (SH, (zu s23.2 31 (s23.2 25 2).toNatClampNeg ((s23.2 31 (s23.2 25 2).toNatClampNeg) + (s23.2 25 3))), J) else none) rfl (zR_bif hc26 (zR_go ?_))
  have he := Option.some.inj h
  subst he
  exact zr_one (some (.inr (.inr none))) rfl (zR_ret rfl rfl)
set_option maxRecDepth 100000 in
set_option maxHeartbeats 4000000 in
theorem ok_f43_seenIn_24 {X : zX} {d : Nat} (hd : 0 ≤ d) (v1 : Int32) {I : (Nat → Nat → Int32)} {J : (Nat → Nat → Int64)} (t : Int32) (h : f43_seenIn_24 v1 I = some t) : zRun X d 43 0 (zent 43 [.ref 24, .int v1]) [] (SH, I, J) (some (.int t)) (SH, I, J) := by
  unfold f43_seenIn_24 at h
  refine zr_steps 8 (12, [some (.ref 24), some (.int v1)], [.int (((I 24 12) * 4) + v1), .ref 34], (SH, I, J)) rfl ?_
  obtain ⟨hc1, h⟩ := zbifo h
  refine zr_one (bif zin (((I 24 12) * 4) + v1) 240 then zN 13 [some (.ref 24), some (.int v1)] [.int (I 34 (((I 24 12) * 4) + v1).toNatClampNeg)] (SH, I, J) else none) rfl (zR_bif hc1 (zR_go ?_))
  have he := Option.some.inj h
  subst he
  exact zr_one (some (.inr (.inr (some (.int (I 34 (((I 24 12) * 4) + v1).toNatClampNeg)))))) rfl (zR_ret rfl rfl)
set_option maxRecDepth 100000 in
set_option maxHeartbeats 4000000 in
theorem ok_f42_see_24_L2 {X : zX} {d : Nat} {r : Option Value} {M' : zM} (hd : 1 ≤ d) (v1 : Int32) {J : (Nat → Nat → Int64)} : ∀ (n : Nat) (s x : (Int32 × (Nat → Nat → Int32))), zloop (f42_see_24_L2 v1) n s = some x → (fun (x : (Int32 × (Nat → Nat → Int32))) => zRun X d 42 29 [some (.ref 24), some (.int v1), none, none] [] (SH, x.2, J) r M') x → (fun (s : (Int32 × (Nat → Nat → Int32))) => zRun X d 42 2 [some (.ref 24), some (.int v1), some (.int s.1), none] [] (SH, s.2, J) r M') s := zloop_ok (B := (f42_see_24_L2 v1)) (Wh := fun (s : (Int32 × (Nat → Nat → Int32))) => zRun X d 42 2 [some (.ref 24), some (.int v1), some (.int s.1), none] [] (SH, s.2, J) r M') (Wx := fun (x : (Int32 × (Nat → Nat → Int32))) => zRun X d 42 29 [some (.ref 24), some (.int v1), none, none] [] (SH, x.2, J) r M') (fun s y h w => by
  unfold f42_see_24_L2 at h
  refine zr_steps 2 (4, [some (.ref 24), some (.int v1), some (.int s.1), none], [.int 4, .int s.1], (SH, s.2, J)) rfl ?_
  refine zr_one (if (4 : Int32) ≤ s.1 then zN 29 [some (.ref 24), some (.int v1), some (.int s.1), none] [] (SH, s.2, J) else zN 7 [some (.ref 24), some (.int v1), some (.int s.1), none] [] (SH, s.2, J)) rfl (zR_if (fun hc3 => zR_go ?_) (fun hc3 => zR_go ?_))
  · rw [if_pos hc3] at h
    have he := Option.some.inj h
    subst he
    exact zr_hdr (ls2 := [some (.ref 24), some (.int v1), none, none]) rfl rfl (show zRun X d 42 29 [some (.ref 24), some (.int v1), none, none] [] (SH, s.2, J) r M' from w)
  · rw [if_neg hc3] at h
    refine zr_steps 10 (21, [some (.ref 24), some (.int v1), some (.int s.1), none], [.int s.1, .ref 31, .int ((v1 * 4) + s.1), .ref 34], (SH, s.2, J)) rfl ?_
    obtain ⟨hc1, h⟩ := zbifo h
    refine zr_one (bif zin s.1 4 then zN 22 [some (.ref 24), some (.int v1), some (.int s.1), none] [.int (s.2 31 s.1.toNatClampNeg), .int ((v1 * 4) + s.1), .ref 34] (SH, s.2, J) else none) rfl (zR_bif hc1 (zR_go ?_))
    obtain ⟨hc2, h⟩ := zbifo h
    refine zr_one (bif zin ((v1 * 4) + s.1) 240 then zN 23 [some (.ref 24), some (.int v1), some (.int s.1), none] [] (SH, (zu s.2 34 ((v1 * 4) + s.1).toNatClampNeg (s.2 31 s.1.toNatClampNeg)), J) else none) rfl (zR_bif hc2 (zR_go ?_))
    refine zr_steps 2 (2, [some (.ref 24), some (.int v1), some (.int (s.1 + 1)), none], [], (SH, (zu s.2 34 ((v1 * 4) + s.1).toNatClampNeg (s.2 31 s.1.toNatClampNeg)), J)) rfl ?_
    have he := Option.some.inj h
    subst he
    exact zr_hdr (ls2 := [some (.ref 24), some (.int v1), some (.int (s.1 + 1)), none]) rfl rfl (show zRun X d 42 2 [some (.ref 24), some (.int v1), some (.int (s.1 + 1)), none] [] (SH, (zu s.2 34 ((v1 * 4) + s.1).toNatClampNeg (s.2 31 s.1.toNatClampNeg)), J) r M' from w))
set_option maxRecDepth 100000 in
set_option maxHeartbeats 4000000 in
theorem ok_f42_see_24_L50 {X : zX} {d : Nat} {r : Option Value} {M' : zM} (hd : 1 ≤ d) (v1 : Int32) {I : (Nat → Nat → Int32)} {J : (Nat → Nat → Int64)} : ∀ (n : Nat) (s x : (Int32 × Int32)), zloop (f42_see_24_L50 v1 I) n s = some x → (fun (x : (Int32 × Int32)) => zRun X d 42 86 [some (.ref 24), some (.int v1), some (.int x.1), none] [] (SH, I, J) r M') x → (fun (s : (Int32 × Int32)) => zRun X d 42 50 [some (.ref 24), some (.int v1), some (.int s.1), some (.int s.2)] [] (SH, I, J) r M') s := zloop_ok (B := (f42_see_24_L50 v1 I)) (Wh := fun (s : (Int32 × Int32)) => zRun X d 42 50 [some (.ref 24), some (.int v1), some (.int s.1), some (.int s.2)] [] (SH, I, J) r M') (Wx := fun (x : (Int32 × Int32)) => zRun X d 42 86 [some (.ref 24), some (.int v1), some (.int x.1), none] [] (SH, I, J) r M') (fun s y h w => by
  unfold f42_see_24_L50 at h
  refine zr_steps 4 (58, [some (.ref 24), some (.int v1), some (.int s.1), some (.int s.2)], [.int (I 1 0), .int s.2], (SH, I, J)) rfl ?_
  refine zr_one (if (I 1 0) ≤ s.2 then zN 86 [some (.ref 24), some (.int v1), some (.int s.1), some (.int s.2)] [] (SH, I, J) else zN 61 [some (.ref 24), some (.int v1), some (.int s.1), some (.int s.2)] [] (SH, I, J)) rfl (zR_if (fun hc11 => zR_go ?_) (fun hc11 => zR_go ?_))
  · rw [if_pos hc11] at h
    have he := Option.some.inj h
    subst he
    exact zr_hdr (ls2 := [some (.ref 24), some (.int v1), some (.int s.1), none]) rfl rfl (show zRun X d 42 86 [some (.ref 24), some (.int v1), some (.int s.1), none] [] (SH, I, J) r M' from w)
  · rw [if_neg hc11] at h
    refine zr_steps 2 (63, [some (.ref 24), some (.int v1), some (.int s.1), some (.int s.2)], [.int s.2, .ref 24], (SH, I, J)) rfl ?_
    obtain ⟨t7, hc6, h⟩ := zbind h
    refine zr_one (some (.inr (.inl (43, [.ref 24, .int s.2], [], 66)))) rfl (zR_call (by omega) rfl (ok_f43_seenIn_24 (by omega) s.2 _ hc6) ?_)
    refine zr_steps 2 (68, [some (.ref 24), some (.int v1), some (.int s.1), some (.int s.2)], [.int s.1, .ref 24, .int t7], (SH, I, J)) rfl ?_
    obtain ⟨t9, hc8, h⟩ := zbind h
    refine zr_one (some (.inr (.inl (43, [.ref 24, .int s.1], [.int t7], 71)))) rfl (zR_call (by omega) rfl (ok_f43_seenIn_24 (by omega) s.1 _ hc8) ?_)
    refine zr_one (if t7 ≤ t9 then zN 78 [some (.ref 24), some (.int v1), some (.int s.1), some (.int s.2)] [] (SH, I, J) else zN 74 [some (.ref 24), some (.int v1), some (.int s.1), some (.int s.2)] [] (SH, I, J)) rfl (zR_if (fun hc10 => zR_go ?_) (fun hc10 => zR_go ?_))
    · rw [if_pos hc10] at h
      refine zr_steps 4 (50, [some (.ref 24), some (.int v1), some (.int s.1), some (.int (s.2 + 1))], [], (SH, I, J)) rfl ?_
      have he := Option.some.inj h
      subst he
      exact zr_hdr (ls2 := [some (.ref 24), some (.int v1), some (.int s.1), some (.int (s.2 + 1))]) rfl rfl (show zRun X d 42 50 [some (.ref 24), some (.int v1), some (.int s.1), some (.int (s.2 + 1))] [] (SH, I, J) r M' from w)
    · rw [if_neg hc10] at h
      refine zr_steps 5 (50, [some (.ref 24), some (.int v1), some (.int s.2), some (.int (s.2 + 1))], [], (SH, I, J)) rfl ?_
      have he := Option.some.inj h
      subst he
      exact zr_hdr (ls2 := [some (.ref 24), some (.int v1), some (.int s.2), some (.int (s.2 + 1))]) rfl rfl (show zRun X d 42 50 [some (.ref 24), some (.int v1), some (.int s.2), some (.int (s.2 + 1))] [] (SH, I, J) r M' from w))
set_option maxRecDepth 100000 in
set_option maxHeartbeats 4000000 in
theorem ok_f42_see_24 {X : zX} {d : Nat} (hd : 1 ≤ d) (v1 : Int32) {I : (Nat → Nat → Int32)} {J : (Nat → Nat → Int64)} (t : (Nat → Nat → Int32)) (h : f42_see_24 v1 I = some t) : zRun X d 42 0 (zent 42 [.ref 24, .int v1]) [] (SH, I, J) none (SH, t, J) := by
  unfold f42_see_24 at h
  refine zr_steps 2 (2, [some (.ref 24), some (.int v1), some (.int 0), none], [], (SH, I, J)) rfl ?_
  obtain ⟨s4, ho5, h⟩ := zbind h
  refine zr_hdr (ls2 := [some (.ref 24), some (.int v1), some (.int 0), none]) rfl rfl ?_
  refine ok_f42_see_24_L2 (by omega) v1 5000 ((0 : Int32), I) s4 ho5 ?_
  show zRun X d 42 29 [some (.ref 24), some (.int v1), none, none] [] (SH, s4.2, J) _ _
  refine zr_steps 13 (50, [some (.ref 24), some (.int v1), some (.int 0), some (.int 1)], [], (SH, (zu s4.2 24 12 (zmax 0 (v1 - (s4.2 25 1)))), J)) rfl ?_
  obtain ⟨s12, ho13, h⟩ := zbind h
  refine zr_hdr (ls2 := [some (.ref 24), some (.int v1), some (.int 0), some (.int 1)]) rfl rfl ?_
  refine ok_f42_see_24_L50 (by omega) v1 5000 ((0 : Int32), (1 : Int32)) s12 ho13 ?_
  show zRun X d 42 86 [some (.ref 24), some (.int v1), some (.int s12.1), none] [] (SH, (zu s4.2 24 12 (zmax 0 (v1 - (s4.2 25 1)))), J) _ _
  refine zr_steps 8 (100, [some (.ref 24), some (.int v1), some (.int s12.1), none], [.int ((s4.2 25 0) - v1), .int 0, .ref 36], (SH, (zu s4.2 24 12 (zmax 0 (v1 - (s4.2 25 1)))), J)) rfl ?_
  refine zr_one (bif zin 0 8 then zN 101 [some (.ref 24), some (.int v1), some (.int s12.1), none] [] (SH, (zu (zu s4.2 24 12 (zmax 0 (v1 - (s4.2 25 1)))) 36 0 ((s4.2 25 0) - v1)), J) else none) rfl (zR_bif (by decide) (zR_go ?_))
  refine zr_steps 4 (107, [some (.ref 24), some (.int v1), some (.int s12.1), none], [.int s12.1, .int 5, .ref 36], (SH, (zu (zu s4.2 24 12 (zmax 0 (v1 - (s4.2 25 1)))) 36 0 ((s4.2 25 0) - v1)), J)) rfl ?_
  refine zr_one (bif zin 5 8 then zN 108 [some (.ref 24), some (.int v1), some (.int s12.1), none] [] (SH, (zu (zu (zu s4.2 24 12 (zmax 0 (v1 - (s4.2 25 1)))) 36 0 ((s4.2 25 0) - v1)) 36 5 s12.1), J) else none) rfl (zR_bif (by decide) (zR_go ?_))
  refine zr_steps 5 (116, [some (.ref 24), some (.int v1), some (.int s12.1), none], [.int s12.1, .ref 24, .int 6, .ref 36], (SH, (zu (zu (zu s4.2 24 12 (zmax 0 (v1 - (s4.2 25 1)))) 36 0 ((s4.2 25 0) - v1)) 36 5 s12.1), J)) rfl ?_
  obtain ⟨t15, hc14, h⟩ := zbind h
  refine zr_one (some (.inr (.inl (43, [.ref 24, .int s12.1], [.int 6, .ref 36], 119)))) rfl (zR_call (by omega) rfl (ok_f43_seenIn_24 (by omega) s12.1 _ hc14) ?_)
  refine zr_one (bif zin 6 8 then zN 120 [some (.ref 24), some (.int v1), some (.int s12.1), none] [] (SH, (zu (zu (zu (zu s4.2 24 12 (zmax 0 (v1 - (s4.2 25 1)))) 36 0 ((s4.2 25 0) - v1)) 36 5 s12.1) 36 6 t15), J) else none) rfl (zR_bif (by decide) (zR_go ?_))
  have he := Option.some.inj h
  subst he
  exact zr_one (some (.inr (.inr none))) rfl (zR_ret rfl rfl)
set_option maxRecDepth 100000 in
set_option maxHeartbeats 4000000 in
theorem ok_f44_arrive_24_L15 {X : zX} {d : Nat} {r : Option Value} {M' : zM} (hd : 0 ≤ d) (v1 : Int32) (v2 : Int32) {J : (Nat → Nat → Int64)} : ∀ (n : Nat) (s x : (Int32 × (Nat → Nat → Int32))), zloop (f44_arrive_24_L15 v1 v2) n s = some x → (fun (x : (Int32 × (Nat → Nat → Int32))) => zRun X d 44 129 [some (.ref 24), some (.int v1), some (.int v2), none, none, none] [] (SH, x.2, J) r M') x → (fun (s : (Int32 × (Nat → Nat → Int32))) => zRun X d 44 15 [some (.ref 24), some (.int v1), some (.int v2), some (.int s.1), none, none] [] (SH, s.2, J) r M') s := zloop_ok (B := (f44_arrive_24_L15 v1 v2)) (Wh := fun (s : (Int32 × (Nat → Nat → Int32))) => zRun X d 44 15 [some (.ref 24), some (.int v1), some (.int v2), some (.int s.1), none, none] [] (SH, s.2, J) r M') (Wx := fun (x : (Int32 × (Nat → Nat → Int32))) => zRun X d 44 129 [some (.ref 24), some (.int v1), some (.int v2), none, none, none] [] (SH, x.2, J) r M') (fun s y h w => by
  unfold f44_arrive_24_L15 at h
  refine zr_steps 4 (23, [some (.ref 24), some (.int v1), some (.int v2), some (.int s.1), none, none], [.int (s.2 1 2), .int s.1], (SH, s.2, J)) rfl ?_
  refine zr_one (if (s.2 1 2) ≤ s.1 then zN 129 [some (.ref 24), some (.int v1), some (.int v2), some (.int s.1), none, none] [] (SH, s.2, J) else zN 26 [some (.ref 24), some (.int v1), some (.int v2), some (.int s.1), none, none] [] (SH, s.2, J)) rfl (zR_if (fun hc13 => zR_go ?_) (fun hc13 => zR_go ?_))
  · rw [if_pos hc13] at h
    have he := Option.some.inj h
    subst he
    exact zr_hdr (ls2 := [some (.ref 24), some (.int v1), some (.int v2), none, none, none]) rfl rfl (show zRun X d 44 129 [some (.ref 24), some (.int v1), some (.int v2), none, none, none] [] (SH, s.2, J) r M' from w)
  · rw [if_neg hc13] at h
    refine zr_steps 10 (41, [some (.ref 24), some (.int v1), some (.int v2), some (.int s.1), some (.int ((v2 * 8) + s.1)), none], [.int ((v2 * 8) + s.1), .ref 29, .int ((v2 * 8) + s.1), .ref 29], (SH, s.2, J)) rfl ?_
    obtain ⟨hc1, h⟩ := zbifo h
    refine zr_one (bif zin ((v2 * 8) + s.1) 32 then zN 42 [some (.ref 24), some (.int v1), some (.int v2), some (.int s.1), some (.int ((v2 * 8) + s.1)), none] [.int (s.2 29 ((v2 * 8) + s.1).toNatClampNeg), .int ((v2 * 8) + s.1), .ref 29] (SH, s.2, J) else none) rfl (zR_bif hc1 (zR_go ?_))
    refine zr_steps 7 (53, [some (.ref 24), some (.int v1), some (.int v2), some (.int s.1), some (.int ((v2 * 8) + s.1)), none], [.int ((v1 * 32) + ((v2 * 8) + s.1)), .ref 32, .int (s.2 29 ((v2 * 8) + s.1).toNatClampNeg), .int ((v2 * 8) + s.1), .ref 29], (SH, s.2, J)) rfl ?_
    obtain ⟨hc2, h⟩ := zbifo h
    refine zr_one (bif zin ((v1 * 32) + ((v2 * 8) + s.1)) 1952 then zN 54 [some (.ref 24), some (.int v1), some (.int v2), some (.int s.1), some (.int ((v2 * 8) + s.1)), none] [.int (s.2 32 ((v1 * 32) + ((v2 * 8) + s.1)).toNatClampNeg), .int (s.2 29 ((v2 * 8) + s.1).toNatClampNeg), .int ((v2 * 8) + s.1), .ref 29] (SH, s.2, J) else none) rfl (zR_bif hc2 (zR_go ?_))
    refine zr_steps 1 (55, [some (.ref 24), some (.int v1), some (.int v2), some (.int s.1), some (.int ((v2 * 8) + s.1)), none], [.int ((s.2 29 ((v2 * 8) + s.1).toNatClampNeg) + (s.2 32 ((v1 * 32) + ((v2 * 8) + s.1)).toNatClampNeg)), .int ((v2 * 8) + s.1), .ref 29], (SH, s.2, J)) rfl ?_
    obtain ⟨hc3, h⟩ := zbifo h
    refine zr_one (bif zin ((v2 * 8) + s.1) 32 then zN 56 [some (.ref 24), some (.int v1), some (.int v2), some (.int s.1), some (.int ((v2 * 8) + s.1)), none] [] (SH, (zu s.2 29 ((v2 * 8) + s.1).toNatClampNeg ((s.2 29 ((v2 * 8) + s.1).toNatClampNeg) + (s.2 32 ((v1 * 32) + ((v2 * 8) + s.1)).toNatClampNeg))), J) else none) rfl (zR_bif hc3 (zR_go ?_))
    refine zr_steps 3 (62, [some (.ref 24), some (.int v1), some (.int v2), some (.int s.1), some (.int ((v2 * 8) + s.1)), none], [.int ((v2 * 8) + s.1), .ref 29], (SH, (zu s.2 29 ((v2 * 8) + s.1).toNatClampNeg ((s.2 29 ((v2 * 8) + s.1).toNatClampNeg) + (s.2 32 ((v1 * 32) + ((v2 * 8) + s.1)).toNatClampNeg))), J)) rfl ?_
    obtain ⟨hc4, h⟩ := zbifo h
    refine zr_one (bif zin ((v2 * 8) + s.1) 32 then zN 63 [some (.ref 24), some (.int v1), some (.int v2), some (.int s.1), some (.int ((v2 * 8) + s.1)), none] [.int ((zu s.2 29 ((v2 * 8) + s.1).toNatClampNeg ((s.2 29 ((v2 * 8) + s.1).toNatClampNeg) + (s.2 32 ((v1 * 32) + ((v2 * 8) + s.1)).toNatClampNeg))) 29 ((v2 * 8) + s.1).toNatClampNeg)] (SH, (zu s.2 29 ((v2 * 8) + s.1).toNatClampNeg ((s.2 29 ((v2 * 8) + s.1).toNatClampNeg) + (s.2 32 ((v1 * 32) + ((v2 * 8) + s.1)).toNatClampNeg))), J) else none) rfl (zR_bif hc4 (zR_go ?_))
    refine zr_steps 5 (72, [some (.ref 24), some (.int v1), some (.int v2), some (.int s.1), some (.int ((v2 * 8) + s.1)), none], [.int v2, .ref 2, .int 0, .int ((zu s.2 29 ((v2 * 8) + s.1).toNatClampNeg ((s.2 29 ((v2 * 8) + s.1).toNatClampNeg) + (s.2 32 ((v1 * 32) + ((v2 * 8) + s.1)).toNatClampNeg))) 29 ((v2 * 8) + s.1).toNatClampNeg)], (SH, (zu s.2 29 ((v2 * 8) + s.1).toNatClampNeg ((s.2 29 ((v2 * 8) + s.1).toNatClampNeg) + (s.2 32 ((v1 * 32) + ((v2 * 8) + s.1)).toNatClampNeg))), J)) rfl ?_
    obtain ⟨hc5, h⟩ := zbifo h
    refine zr_one (bif zin v2 4 then zN 73 [some (.ref 24), some (.int v1), some (.int v2), some (.int s.1), some (.int ((v2 * 8) + s.1)), none] [.int (s.2 2 v2.toNatClampNeg), .int 0, .int ((zu s.2 29 ((v2 * 8) + s.1).toNatClampNeg ((s.2 29 ((v2 * 8) + s.1).toNatClampNeg) + (s.2 32 ((v1 * 32) + ((v2 * 8) + s.1)).toNatClampNeg))) 29 ((v2 * 8) + s.1).toNatClampNeg)] (SH, (zu s.2 29 ((v2 * 8) + s.1).toNatClampNeg ((s.2 29 ((v2 * 8) + s.1).toNatClampNeg) + (s.2 32 ((v1 * 32) + ((v2 * 8) + s.1)).toNatClampNeg))), J) else none) rfl (zR_bif hc5 (zR_go ?_))
    refine zr_steps 3 (78, [some (.ref 24), some (.int v1), some (.int v2), some (.int s.1), some (.int ((v2 * 8) + s.1)), none], [.int v2, .ref 31, .int (s.2 2 v2.toNatClampNeg), .int 0, .int ((zu s.2 29 ((v2 * 8) + s.1).toNatClampNeg ((s.2 29 ((v2 * 8) + s.1).toNatClampNeg) + (s.2 32 ((v1 * 32) + ((v2 * 8) + s.1)).toNatClampNeg))) 29 ((v2 * 8) + s.1).toNatClampNeg)], (SH, (zu s.2 29 ((v2 * 8) + s.1).toNatClampNeg ((s.2 29 ((v2 * 8) + s.1).toNatClampNeg) + (s.2 32 ((v1 * 32) + ((v2 * 8) + s.1)).toNatClampNeg))), J)) rfl ?_
    obtain ⟨hc6, h⟩ := zbifo h
    refine zr_one (bif zin v2 4 then zN 79 [some (.ref 24), some (.int v1), some (.int v2), some (.int s.1), some (.int ((v2 * 8) + s.1)), none] [.int (s.2 31 v2.toNatClampNeg), .int (s.2 2 v2.toNatClampNeg), .int 0, .int ((zu s.2 29 ((v2 * 8) + s.1).toNatClampNeg ((s.2 29 ((v2 * 8) + s.1).toNatClampNeg) + (s.2 32 ((v1 * 32) + ((v2 * 8) + s.1)).toNatClampNeg))) 29 ((v2 * 8) + s.1).toNatClampNeg)] (SH, (zu s.2 29 ((v2 * 8) + s.1).toNatClampNeg ((s.2 29 ((v2 * 8) + s.1).toNatClampNeg) + (s.2 32 ((v1 * 32) + ((v2 * 8) + s.1)).toNatClampNeg))), J) else none) rfl (zR_bif hc6 (zR_go ?_))
    refine zr_steps 8 (95, [some (.ref 24), some (.int v1), some (.int v2), some (.int s.1), some (.int ((v2 * 8) + s.1)), some (.int (zmin ((zu s.2 29 ((v2 * 8) + s.1).toNatClampNeg ((s.2 29 ((v2 * 8) + s.1).toNatClampNeg) + (s.2 32 ((v1 * 32) + ((v2 * 8) + s.1)).toNatClampNeg))) 29 ((v2 * 8) + s.1).toNatClampNeg) (zmax 0 ((s.2 2 v2.toNatClampNeg) - (s.2 31 v2.toNatClampNeg)))))], [.int ((v2 * 8) + s.1), .ref 29, .int ((v2 * 8) + s.1), .ref 29], (SH, (zu s.2 29 ((v2 * 8) + s.1).toNatClampNeg ((s.2 29 ((v2 * 8) + s.1).toNatClampNeg) + (s.2 32 ((v1 * 32) + ((v2 * 8) + s.1)).toNatClampNeg))), J)) rfl ?_
    obtain ⟨hc7, h⟩ := zbifo h
    refine zr_one (bif zin ((v2 * 8) + s.1) 32 then zN 96 [some (.ref 24), some (.int v1), some (.int v2), some (.int s.1), some (.int ((v2 * 8) + s.1)), some (.int (zmin ((zu s.2 29 ((v2 * 8) + s.1).toNatClampNeg ((s.2 29 ((v2 * 8) + s.1).toNatClampNeg) + (s.2 32 ((v1 * 32) + ((v2 * 8) + s.1)).toNatClampNeg))) 29 ((v2 * 8) + s.1).toNatClampNeg) (zmax 0 ((s.2 2 v2.toNatClampNeg) - (s.2 31 v2.toNatClampNeg)))))] [.int ((zu s.2 29 ((v2 * 8) + s.1).toNatClampNeg ((s.2 29 ((v2 * 8) + s.1).toNatClampNeg) + (s.2 32 ((v1 * 32) + ((v2 * 8) + s.1)).toNatClampNeg))) 29 ((v2 * 8) + s.1).toNatClampNeg), .int ((v2 * 8) + s.1), .ref 29] (SH, (zu s.2 29 ((v2 * 8) + s.1).toNatClampNeg ((s.2 29 ((v2 * 8) + s.1).toNatClampNeg) + (s.2 32 ((v1 * 32) + ((v2 * 8) + s.1)).toNatClampNeg))), J) else none) rfl (zR_bif hc7 (zR_go ?_))
    refine zr_steps 2 (99, [some (.ref 24), some (.int v1), some (.int v2), some (.int s.1), some (.int ((v2 * 8) + s.1)), some (.int (zmin ((zu s.2 29 ((v2 * 8) + s.1).toNatClampNeg ((s.2 29 ((v2 * 8) + s.1).toNatClampNeg) + (s.2 32 ((v1 * 32) + ((v2 * 8) + s.1)).toNatClampNeg))) 29 ((v2 * 8) + s.1).toNatClampNeg) (zmax 0 ((s.2 2 v2.toNatClampNeg) - (s.2 31 v2.toNatClampNeg)))))], [.int (((zu s.2 29 ((v2 * 8) + s.1).toNatClampNeg ((s.2 29 ((v2 * 8) + s.1).toNatClampNeg) + (s.2 32 ((v1 * 32) + ((v2 * 8) + s.1)).toNatClampNeg))) 29 ((v2 * 8) + s.1).toNatClampNeg) - (zmin ((zu s.2 29 ((v2 * 8) + s.1).toNatClampNeg ((s.2 29 ((v2 * 8) + s.1).toNatClampNeg) + (s.2 32 ((v1 * 32) + ((v2 * 8) + s.1)).toNatClampNeg))) 29 ((v2 * 8) + s.1).toNatClampNeg) (zmax 0 ((s.2 2 v2.toNatClampNeg) - (s.2 31 v2.toNatClampNeg))))), .int ((v2 * 8) + s.1), .ref 29], (SH, (zu s.2 29 ((v2 * 8) + s.1).toNatClampNeg ((s.2 29 ((v2 * 8) + s.1).toNatClampNeg) + (s.2 32 ((v1 * 32) + ((v2 * 8) + s.1)).toNatClampNeg))), J)) rfl ?_
    obtain ⟨hc8, h⟩ := zbifo h
    refine zr_one (bif zin ((v2 * 8) + s.1) 32 then zN 100 [some (.ref 24), some (.int v1), some (.int v2), some (.int s.1), some (.int ((v2 * 8) + s.1)), some (.int (zmin ((zu s.2 29 ((v2 * 8) + s.1).toNatClampNeg ((s.2 29 ((v2 * 8) + s.1).toNatClampNeg) + (s.2 32 ((v1 * 32) + ((v2 * 8) + s.1)).toNatClampNeg))) 29 ((v2 * 8) + s.1).toNatClampNeg) (zmax 0 ((s.2 2 v2.toNatClampNeg) - (s.2 31 v2.toNatClampNeg)))))] [] (SH, (zu (zu s.2 29 ((v2 * 8) + s.1).toNatClampNeg ((s.2 29 ((v2 * 8) + s.1).toNatClampNeg) + (s.2 32 ((v1 * 32) + ((v2 * 8) + s.1)).toNatClampNeg))) 29 ((v2 * 8) + s.1).toNatClampNeg (((zu s.2 29 ((v2 * 8) + s.1).toNatClampNeg ((s.2 29 ((v2 * 8) + s.1).toNatClampNeg) + (s.2 32 ((v1 * 32) + ((v2 * 8) + s.1)).toNatClampNeg))) 29 ((v2 * 8) + s.1).toNatClampNeg) - (zmin ((zu s.2 29 ((v2 * 8) + s.1).toNatClampNeg ((s.2 29 ((v2 * 8) + s.1).toNatClampNeg) + (s.2 32 ((v1 * 32) + ((v2 * 8) + s.1)).toNatClampNeg))) 29 ((v2 * 8) + s.1).toNatClampNeg) (zmax 0 ((s.2 2 v2.toNatClampNeg) - (s.2 31 v2.toNatClampNeg)))))), J) else none) rfl (zR_bif hc8 (zR_go ?_))
    refine zr_steps 4 (107, [some (.ref 24), some (.int v1), some (.int v2), some (.int s.1), some (.int ((v2 * 8) + s.1)), some (.int (zmin ((zu s.2 29 ((v2 * 8) + s.1).toNatClampNeg ((s.2 29 ((v2 * 8) + s.1).toNatClampNeg) + (s.2 32 ((v1 * 32) + ((v2 * 8) + s.1)).toNatClampNeg))) 29 ((v2 * 8) + s.1).toNatClampNeg) (zmax 0 ((s.2 2 v2.toNatClampNeg) - (s.2 31 v2.toNatClampNeg)))))], [.int ((v2 * 8) + s.1), .ref 28, .int ((v2 * 8) + s.1), .ref 28], (SH, (zu (zu s.2 29 ((v2 * 8) + s.1).toNatClampNeg ((s.2 29 ((v2 * 8) + s.1).toNatClampNeg) + (s.2 32 ((v1 * 32) + ((v2 * 8) + s.1)).toNatClampNeg))) 29 ((v2 * 8) + s.1).toNatClampNeg (((zu s.2 29 ((v2 * 8) + s.1).toNatClampNeg ((s.2 29 ((v2 * 8) + s.1).toNatClampNeg) + (s.2 32 ((v1 * 32) + ((v2 * 8) + s.1)).toNatClampNeg))) 29 ((v2 * 8) + s.1).toNatClampNeg) - (zmin ((zu s.2 29 ((v2 * 8) + s.1).toNatClampNeg ((s.2 29 ((v2 * 8) + s.1).toNatClampNeg) + (s.2 32 ((v1 * 32) + ((v2 * 8) + s.1)).toNatClampNeg))) 29 ((v2 * 8) + s.1).toNatClampNeg) (zmax 0 ((s.2 2 v2.toNatClampNeg) - (s.2 31 v2.toNatClampNeg)))))), J)) rfl ?_
    obtain ⟨hc9, h⟩ := zbifo h
    refine zr_one (bif zin ((v2 * 8) + s.1) 32 then zN 108 [some (.ref 24), some (.int v1), some (.int v2), some (.int s.1), some (.int ((v2 * 8) + s.1)), some (.int (zmin ((zu s.2 29 ((v2 * 8) + s.1).toNatClampNeg ((s.2 29 ((v2 * 8) + s.1).toNatClampNeg) + (s.2 32 ((v1 * 32) + ((v2 * 8) + s.1)).toNatClampNeg))) 29 ((v2 * 8) + s.1).toNatClampNeg) (zmax 0 ((s.2 2 v2.toNatClampNeg) - (s.2 31 v2.toNatClampNeg)))))] [.int (s.2 28 ((v2 * 8) + s.1).toNatClampNeg), .int ((v2 * 8) + s.1), .ref 28] (SH, (zu (zu s.2 29 ((v2 * 8) + s.1).toNatClampNeg ((s.2 29 ((v2 * 8) + s.1).toNatClampNeg) + (s.2 32 ((v1 * 32) + ((v2 * 8) + s.1)).toNatClampNeg))) 29 ((v2 * 8) + s.1).toNatClampNeg (((zu s.2 29 ((v2 * 8) + s.1).toNatClampNeg ((s.2 29 ((v2 * 8) + s.1).toNatClampNeg) + (s.2 32 ((v1 * 32) + ((v2 * 8) + s.1)).toNatClampNeg))) 29 ((v2 * 8) + s.1).toNatClampNeg) - (zmin ((zu s.2 29 ((v2 * 8) + s.1).toNatClampNeg ((s.2 29 ((v2 * 8) + s.1).toNatClampNeg) + (s.2 32 ((v1 * 32) + ((v2 * 8) + s.1)).toNatClampNeg))) 29 ((v2 * 8) + s.1).toNatClampNeg) (zmax 0 ((s.2 2 v2.toNatClampNeg) - (s.2 31 v2.toNatClampNeg)))))), J) else none) rfl (zR_bif hc9 (zR_go ?_))
    refine zr_steps 2 (111, [some (.ref 24), some (.int v1), some (.int v2), some (.int s.1), some (.int ((v2 * 8) + s.1)), some (.int (zmin ((zu s.2 29 ((v2 * 8) + s.1).toNatClampNeg ((s.2 29 ((v2 * 8) + s.1).toNatClampNeg) + (s.2 32 ((v1 * 32) + ((v2 * 8) + s.1)).toNatClampNeg))) 29 ((v2 * 8) + s.1).toNatClampNeg) (zmax 0 ((s.2 2 v2.toNatClampNeg) - (s.2 31 v2.toNatClampNeg)))))], [.int ((s.2 28 ((v2 * 8) + s.1).toNatClampNeg) + (zmin ((zu s.2 29 ((v2 * 8) + s.1).toNatClampNeg ((s.2 29 ((v2 * 8) + s.1).toNatClampNeg) + (s.2 32 ((v1 * 32) + ((v2 * 8) + s.1)).toNatClampNeg))) 29 ((v2 * 8) + s.1).toNatClampNeg) (zmax 0 ((s.2 2 v2.toNatClampNeg) - (s.2 31 v2.toNatClampNeg))))), .int ((v2 * 8) + s.1), .ref 28], (SH, (zu (zu s.2 29 ((v2 * 8) + s.1).toNatClampNeg ((s.2 29 ((v2 * 8) + s.1).toNatClampNeg) + (s.2 32 ((v1 * 32) + ((v2 * 8) + s.1)).toNatClampNeg))) 29 ((v2 * 8) + s.1).toNatClampNeg (((zu s.2 29 ((v2 * 8) + s.1).toNatClampNeg ((s.2 29 ((v2 * 8) + s.1).toNatClampNeg) + (s.2 32 ((v1 * 32) + ((v2 * 8) + s.1)).toNatClampNeg))) 29 ((v2 * 8) + s.1).toNatClampNeg) - (zmin ((zu s.2 29 ((v2 * 8) + s.1).toNatClampNeg ((s.2 29 ((v2 * 8) + s.1).toNatClampNeg) + (s.2 32 ((v1 * 32) + ((v2 * 8) + s.1)).toNatClampNeg))) 29 ((v2 * 8) + s.1).toNatClampNeg) (zmax 0 ((s.2 2 v2.toNatClampNeg) - (s.2 31 v2.toNatClampNeg)))))), J)) rfl ?_
    obtain ⟨hc10, h⟩ := zbifo h
    refine zr_one (bif zin ((v2 * 8) + s.1) 32 then zN 112 [some (.ref 24), some (.int v1), some (.int v2), some (.int s.1), some (.int ((v2 * 8) + s.1)), some (.int (zmin ((zu s.2 29 ((v2 * 8) + s.1).toNatClampNeg ((s.2 29 ((v2 * 8) + s.1).toNatClampNeg) + (s.2 32 ((v1 * 32) + ((v2 * 8) + s.1)).toNatClampNeg))) 29 ((v2 * 8) + s.1).toNatClampNeg) (zmax 0 ((s.2 2 v2.toNatClampNeg) - (s.2 31 v2.toNatClampNeg)))))] [] (SH, (zu (zu (zu s.2 29 ((v2 * 8) + s.1).toNatClampNeg ((s.2 29 ((v2 * 8) + s.1).toNatClampNeg) + (s.2 32 ((v1 * 32) + ((v2 * 8) + s.1)).toNatClampNeg))) 29 ((v2 * 8) + s.1).toNatClampNeg (((zu s.2 29 ((v2 * 8) + s.1).toNatClampNeg ((s.2 29 ((v2 * 8) + s.1).toNatClampNeg) + (s.2 32 ((v1 * 32) + ((v2 * 8) + s.1)).toNatClampNeg))) 29 ((v2 * 8) + s.1).toNatClampNeg) - (zmin ((zu s.2 29 ((v2 * 8) + s.1).toNatClampNeg ((s.2 29 ((v2 * 8) + s.1).toNatClampNeg) + (s.2 32 ((v1 * 32) + ((v2 * 8) + s.1)).toNatClampNeg))) 29 ((v2 * 8) + s.1).toNatClampNeg) (zmax 0 ((s.2 2 v2.toNatClampNeg) - (s.2 31 v2.toNatClampNeg)))))) 28 ((v2 * 8) + s.1).toNatClampNeg ((s.2 28 ((v2 * 8) + s.1).toNatClampNeg) + (zmin ((zu s.2 29 ((v2 * 8) + s.1).toNatClampNeg ((s.2 29 ((v2 * 8) + s.1).toNatClampNeg) + (s.2 32 ((v1 * 32) + ((v2 * 8) + s.1)).toNatClampNeg))) 29 ((v2 * 8) + s.1).toNatClampNeg) (zmax 0 ((s.2 2 v2.toNatClampNeg) - (s.2 31 v2.toNatClampNeg)))))), J) else none) rfl (zR_bif hc10 (zR_go ?_))
    refine zr_steps 4 (118, [some (.ref 24), some (.int v1), some (.int v2), some (.int s.1), some (.int ((v2 * 8) + s.1)), some (.int (zmin ((zu s.2 29 ((v2 * 8) + s.1).toNatClampNeg ((s.2 29 ((v2 * 8) + s.1).toNatClampNeg) + (s.2 32 ((v1 * 32) + ((v2 * 8) + s.1)).toNatClampNeg))) 29 ((v2 * 8) + s.1).toNatClampNeg) (zmax 0 ((s.2 2 v2.toNatClampNeg) - (s.2 31 v2.toNatClampNeg)))))], [.int v2, .ref 31, .int v2, .ref 31], (SH, (zu (zu (zu s.2 29 ((v2 * 8) + s.1).toNatClampNeg ((s.2 29 ((v2 * 8) + s.1).toNatClampNeg) + (s.2 32 ((v1 * 32) + ((v2 * 8) + s.1)).toNatClampNeg))) 29 ((v2 * 8) + s.1).toNatClampNeg (((zu s.2 29 ((v2 * 8) + s.1).toNatClampNeg ((s.2 29 ((v2 * 8) + s.1).toNatClampNeg) + (s.2 32 ((v1 * 32) + ((v2 * 8) + s.1)).toNatClampNeg))) 29 ((v2 * 8) + s.1).toNatClampNeg) - (zmin ((zu s.2 29 ((v2 * 8) + s.1).toNatClampNeg ((s.2 29 ((v2 * 8) + s.1).toNatClampNeg) + (s.2 32 ((v1 * 32) + ((v2 * 8) + s.1)).toNatClampNeg))) 29 ((v2 * 8) + s.1).toNatClampNeg) (zmax 0 ((s.2 2 v2.toNatClampNeg) - (s.2 31 v2.toNatClampNeg)))))) 28 ((v2 * 8) + s.1).toNatClampNeg ((s.2 28 ((v2 * 8) + s.1).toNatClampNeg) + (zmin ((zu s.2 29 ((v2 * 8) + s.1).toNatClampNeg ((s.2 29 ((v2 * 8) + s.1).toNatClampNeg) + (s.2 32 ((v1 * 32) + ((v2 * 8) + s.1)).toNatClampNeg))) 29 ((v2 * 8) + s.1).toNatClampNeg) (zmax 0 ((s.2 2 v2.toNatClampNeg) - (s.2 31 v2.toNatClampNeg)))))), J)) rfl ?_
    obtain ⟨hc11, h⟩ := zbifo h
    refine zr_one (bif zin v2 4 then zN 119 [some (.ref 24), some (.int v1), some (.int v2), some (.int s.1), some (.int ((v2 * 8) + s.1)), some (.int (zmin ((zu s.2 29 ((v2 * 8) + s.1).toNatClampNeg ((s.2 29 ((v2 * 8) + s.1).toNatClampNeg) + (s.2 32 ((v1 * 32) + ((v2 * 8) + s.1)).toNatClampNeg))) 29 ((v2 * 8) + s.1).toNatClampNeg) (zmax 0 ((s.2 2 v2.toNatClampNeg) - (s.2 31 v2.toNatClampNeg)))))] [.int (s.2 31 v2.toNatClampNeg), .int v2, .ref 31] (SH, (zu (zu (zu s.2 29 ((v2 * 8) + s.1).toNatClampNeg ((s.2 29 ((v2 * 8) + s.1).toNatClampNeg) + (s.2 32 ((v1 * 32) + ((v2 * 8) + s.1)).toNatClampNeg))) 29 ((v2 * 8) + s.1).toNatClampNeg (((zu s.2 29 ((v2 * 8) + s.1).toNatClampNeg ((s.2 29 ((v2 * 8) + s.1).toNatClampNeg) + (s.2 32 ((v1 * 32) + ((v2 * 8) + s.1)).toNatClampNeg))) 29 ((v2 * 8) + s.1).toNatClampNeg) - (zmin ((zu s.2 29 ((v2 * 8) + s.1).toNatClampNeg ((s.2 29 ((v2 * 8) + s.1).toNatClampNeg) + (s.2 32 ((v1 * 32) + ((v2 * 8) + s.1)).toNatClampNeg))) 29 ((v2 * 8) + s.1).toNatClampNeg) (zmax 0 ((s.2 2 v2.toNatClampNeg) - (s.2 31 v2.toNatClampNeg)))))) 28 ((v2 * 8) + s.1).toNatClampNeg ((s.2 28 ((v2 * 8) + s.1).toNatClampNeg) + (zmin ((zu s.2 29 ((v2 * 8) + s.1).toNatClampNeg ((s.2 29 ((v2 * 8) + s.1).toNatClampNeg) + (s.2 32 ((v1 * 32) + ((v2 * 8) + s.1)).toNatClampNeg))) 29 ((v2 * 8) + s.1).toNatClampNeg) (zmax 0 ((s.2 2 v2.toNatClampNeg) - (s.2 31 v2.toNatClampNeg)))))), J) else none) rfl (zR_bif hc11 (zR_go ?_))
    refine zr_steps 2 (122, [some (.ref 24), some (.int v1), some (.int v2), some (.int s.1), some (.int ((v2 * 8) + s.1)), some (.int (zmin ((zu s.2 29 ((v2 * 8) + s.1).toNatClampNeg ((s.2 29 ((v2 * 8) + s.1).toNatClampNeg) + (s.2 32 ((v1 * 32) + ((v2 * 8) + s.1)).toNatClampNeg))) 29 ((v2 * 8) + s.1).toNatClampNeg) (zmax 0 ((s.2 2 v2.toNatClampNeg) - (s.2 31 v2.toNatClampNeg)))))], [.int ((s.2 31 v2.toNatClampNeg) + (zmin ((zu s.2 29 ((v2 * 8) + s.1).toNatClampNeg ((s.2 29 ((v2 * 8) + s.1).toNatClampNeg) + (s.2 32 ((v1 * 32) + ((v2 * 8) + s.1)).toNatClampNeg))) 29 ((v2 * 8) + s.1).toNatClampNeg) (zmax 0 ((s.2 2 v2.toNatClampNeg) - (s.2 31 v2.toNatClampNeg))))), .int v2, .ref 31], (SH, (zu (zu (zu s.2 29 ((v2 * 8) + s.1).toNatClampNeg ((s.2 29 ((v2 * 8) + s.1).toNatClampNeg) + (s.2 32 ((v1 * 32) + ((v2 * 8) + s.1)).toNatClampNeg))) 29 ((v2 * 8) + s.1).toNatClampNeg (((zu s.2 29 ((v2 * 8) + s.1).toNatClampNeg ((s.2 29 ((v2 * 8) + s.1).toNatClampNeg) + (s.2 32 ((v1 * 32) + ((v2 * 8) + s.1)).toNatClampNeg))) 29 ((v2 * 8) + s.1).toNatClampNeg) - (zmin ((zu s.2 29 ((v2 * 8) + s.1).toNatClampNeg ((s.2 29 ((v2 * 8) + s.1).toNatClampNeg) + (s.2 32 ((v1 * 32) + ((v2 * 8) + s.1)).toNatClampNeg))) 29 ((v2 * 8) + s.1).toNatClampNeg) (zmax 0 ((s.2 2 v2.toNatClampNeg) - (s.2 31 v2.toNatClampNeg)))))) 28 ((v2 * 8) + s.1).toNatClampNeg ((s.2 28 ((v2 * 8) + s.1).toNatClampNeg) + (zmin ((zu s.2 29 ((v2 * 8) + s.1).toNatClampNeg ((s.2 29 ((v2 * 8) + s.1).toNatClampNeg) + (s.2 32 ((v1 * 32) + ((v2 * 8) + s.1)).toNatClampNeg))) 29 ((v2 * 8) + s.1).toNatClampNeg) (zmax 0 ((s.2 2 v2.toNatClampNeg) - (s.2 31 v2.toNatClampNeg)))))), J)) rfl ?_
    obtain ⟨hc12, h⟩ := zbifo h
    refine zr_one (bif zin v2 4 then zN 123 [some (.ref 24), some (.int v1), some (.int v2), some (.int s.1), some (.int ((v2 * 8) + s.1)), some (.int (zmin ((zu s.2 29 ((v2 * 8) + s.1).toNatClampNeg ((s.2 29 ((v2 * 8) + s.1).toNatClampNeg) + (s.2 32 ((v1 * 32) + ((v2 * 8) + s.1)).toNatClampNeg))) 29 ((v2 * 8) + s.1).toNatClampNeg) (zmax 0 ((s.2 2 v2.toNatClampNeg) - (s.2 31 v2.toNatClampNeg)))))] [] (SH, (zu (zu (zu (zu s.2 29 ((v2 * 8) + s.1).toNatClampNeg ((s.2 29 ((v2 * 8) + s.1).toNatClampNeg) + (s.2 32 ((v1 * 32) + ((v2 * 8) + s.1)).toNatClampNeg))) 29 ((v2 * 8) + s.1).toNatClampNeg (((zu s.2 29 ((v2 * 8) + s.1).toNatClampNeg ((s.2 29 ((v2 * 8) + s.1).toNatClampNeg) + (s.2 32 ((v1 * 32) + ((v2 * 8) + s.1)).toNatClampNeg))) 29 ((v2 * 8) + s.1).toNatClampNeg) - (zmin ((zu s.2 29 ((v2 * 8) + s.1).toNatClampNeg ((s.2 29 ((v2 * 8) + s.1).toNatClampNeg) + (s.2 32 ((v1 * 32) + ((v2 * 8) + s.1)).toNatClampNeg))) 29 ((v2 * 8) + s.1).toNatClampNeg) (zmax 0 ((s.2 2 v2.toNatClampNeg) - (s.2 31 v2.toNatClampNeg)))))) 28 ((v2 * 8) + s.1).toNatClampNeg ((s.2 28 ((v2 * 8) + s.1).toNatClampNeg) + (zmin ((zu s.2 29 ((v2 * 8) + s.1).toNatClampNeg ((s.2 29 ((v2 * 8) + s.1).toNatClampNeg) + (s.2 32 ((v1 * 32) + ((v2 * 8) + s.1)).toNatClampNeg))) 29 ((v2 * 8) + s.1).toNatClampNeg) (zmax 0 ((s.2 2 v2.toNatClampNeg) - (s.2 31 v2.toNatClampNeg)))))) 31 v2.toNatClampNeg ((s.2 31 v2.toNatClampNeg) + (zmin ((zu s.2 29 ((v2 * 8) + s.1).toNatClampNeg ((s.2 29 ((v2 * 8) + s.1).toNatClampNeg) + (s.2 32 ((v1 * 32) + ((v2 * 8) + s.1)).toNatClampNeg))) 29 ((v2 * 8) + s.1).toNatClampNeg) (zmax 0 ((s.2 2 v2.toNatClampNeg) - (s.2 31 v2.toNatClampNeg)))))), J) else none) rfl (zR_bif hc12 (zR_go ?_))
    refine zr_steps 2 (15, [some (.ref 24), some (.int v1), some (.int v2), some (.int (s.1 + 1)), some (.int ((v2 * 8) + s.1)), some (.int (zmin ((zu s.2 29 ((v2 * 8) + s.1).toNatClampNeg ((s.2 29 ((v2 * 8) + s.1).toNatClampNeg) + (s.2 32 ((v1 * 32) + ((v2 * 8) + s.1)).toNatClampNeg))) 29 ((v2 * 8) + s.1).toNatClampNeg) (zmax 0 ((s.2 2 v2.toNatClampNeg) - (s.2 31 v2.toNatClampNeg)))))], [], (SH, (zu (zu (zu (zu s.2 29 ((v2 * 8) + s.1).toNatClampNeg ((s.2 29 ((v2 * 8) + s.1).toNatClampNeg) + (s.2 32 ((v1 * 32) + ((v2 * 8) + s.1)).toNatClampNeg))) 29 ((v2 * 8) + s.1).toNatClampNeg (((zu s.2 29 ((v2 * 8) + s.1).toNatClampNeg ((s.2 29 ((v2 * 8) + s.1).toNatClampNeg) + (s.2 32 ((v1 * 32) + ((v2 * 8) + s.1)).toNatClampNeg))) 29 ((v2 * 8) + s.1).toNatClampNeg) - (zmin ((zu s.2 29 ((v2 * 8) + s.1).toNatClampNeg ((s.2 29 ((v2 * 8) + s.1).toNatClampNeg) + (s.2 32 ((v1 * 32) + ((v2 * 8) + s.1)).toNatClampNeg))) 29 ((v2 * 8) + s.1).toNatClampNeg) (zmax 0 ((s.2 2 v2.toNatClampNeg) - (s.2 31 v2.toNatClampNeg)))))) 28 ((v2 * 8) + s.1).toNatClampNeg ((s.2 28 ((v2 * 8) + s.1).toNatClampNeg) + (zmin ((zu s.2 29 ((v2 * 8) + s.1).toNatClampNeg ((s.2 29 ((v2 * 8) + s.1).toNatClampNeg) + (s.2 32 ((v1 * 32) + ((v2 * 8) + s.1)).toNatClampNeg))) 29 ((v2 * 8) + s.1).toNatClampNeg) (zmax 0 ((s.2 2 v2.toNatClampNeg) - (s.2 31 v2.toNatClampNeg)))))) 31 v2.toNatClampNeg ((s.2 31 v2.toNatClampNeg) + (zmin ((zu s.2 29 ((v2 * 8) + s.1).toNatClampNeg ((s.2 29 ((v2 * 8) + s.1).toNatClampNeg) + (s.2 32 ((v1 * 32) + ((v2 * 8) + s.1)).toNatClampNeg))) 29 ((v2 * 8) + s.1).toNatClampNeg) (zmax 0 ((s.2 2 v2.toNatClampNeg) - (s.2 31 v2.toNatClampNeg)))))), J)) rfl ?_
    have he := Option.some.inj h
    subst he
    exact zr_hdr (ls2 := [some (.ref 24), some (.int v1), some (.int v2), some (.int (s.1 + 1)), none, none]) rfl rfl (show zRun X d 44 15 [some (.ref 24), some (.int v1), some (.int v2), some (.int (s.1 + 1)), none, none] [] (SH, (zu (zu (zu (zu s.2 29 ((v2 * 8) + s.1).toNatClampNeg ((s.2 29 ((v2 * 8) + s.1).toNatClampNeg) + (s.2 32 ((v1 * 32) + ((v2 * 8) + s.1)).toNatClampNeg))) 29 ((v2 * 8) + s.1).toNatClampNeg (((zu s.2 29 ((v2 * 8) + s.1).toNatClampNeg ((s.2 29 ((v2 * 8) + s.1).toNatClampNeg) + (s.2 32 ((v1 * 32) + ((v2 * 8) + s.1)).toNatClampNeg))) 29 ((v2 * 8) + s.1).toNatClampNeg) - (zmin ((zu s.2 29 ((v2 * 8) + s.1).toNatClampNeg ((s.2 29 ((v2 * 8) + s.1).toNatClampNeg) + (s.2 32 ((v1 * 32) + ((v2 * 8) + s.1)).toNatClampNeg))) 29 ((v2 * 8) + s.1).toNatClampNeg) (zmax 0 ((s.2 2 v2.toNatClampNeg) - (s.2 31 v2.toNatClampNeg)))))) 28 ((v2 * 8) + s.1).toNatClampNeg ((s.2 28 ((v2 * 8) + s.1).toNatClampNeg) + (zmin ((zu s.2 29 ((v2 * 8) + s.1).toNatClampNeg ((s.2 29 ((v2 * 8) + s.1).toNatClampNeg) + (s.2 32 ((v1 * 32) + ((v2 * 8) + s.1)).toNatClampNeg))) 29 ((v2 * 8) + s.1).toNatClampNeg) (zmax 0 ((s.2 2 v2.toNatClampNeg) - (s.2 31 v2.toNatClampNeg)))))) 31 v2.toNatClampNeg ((s.2 31 v2.toNatClampNeg) + (zmin ((zu s.2 29 ((v2 * 8) + s.1).toNatClampNeg ((s.2 29 ((v2 * 8) + s.1).toNatClampNeg) + (s.2 32 ((v1 * 32) + ((v2 * 8) + s.1)).toNatClampNeg))) 29 ((v2 * 8) + s.1).toNatClampNeg) (zmax 0 ((s.2 2 v2.toNatClampNeg) - (s.2 31 v2.toNatClampNeg)))))), J) r M' from w))
set_option maxRecDepth 100000 in
set_option maxHeartbeats 4000000 in
theorem ok_f44_arrive_24_L2 {X : zX} {d : Nat} {r : Option Value} {M' : zM} (hd : 0 ≤ d) (v1 : Int32) {J : (Nat → Nat → Int64)} : ∀ (n : Nat) (s x : (Int32 × (Nat → Nat → Int32))), zloop (f44_arrive_24_L2 v1) n s = some x → (fun (x : (Int32 × (Nat → Nat → Int32))) => zRun X d 44 135 [none, none, none, none, none, none] [] (SH, x.2, J) r M') x → (fun (s : (Int32 × (Nat → Nat → Int32))) => zRun X d 44 2 [some (.ref 24), some (.int v1), some (.int s.1), none, none, none] [] (SH, s.2, J) r M') s := zloop_ok (B := (f44_arrive_24_L2 v1)) (Wh := fun (s : (Int32 × (Nat → Nat → Int32))) => zRun X d 44 2 [some (.ref 24), some (.int v1), some (.int s.1), none, none, none] [] (SH, s.2, J) r M') (Wx := fun (x : (Int32 × (Nat → Nat → Int32))) => zRun X d 44 135 [none, none, none, none, none, none] [] (SH, x.2, J) r M') (fun s y h w => by
  unfold f44_arrive_24_L2 at h
  refine zr_steps 4 (10, [some (.ref 24), some (.int v1), some (.int s.1), none, none, none], [.int (s.2 1 0), .int s.1], (SH, s.2, J)) rfl ?_
  refine zr_one (if (s.2 1 0) ≤ s.1 then zN 135 [some (.ref 24), some (.int v1), some (.int s.1), none, none, none] [] (SH, s.2, J) else zN 13 [some (.ref 24), some (.int v1), some (.int s.1), none, none, none] [] (SH, s.2, J)) rfl (zR_if (fun hc16 => zR_go ?_) (fun hc16 => zR_go ?_))
  · rw [if_pos hc16] at h
    have he := Option.some.inj h
    subst he
    exact zr_hdv (ls2 := [none, none, none, none, none, none]) rfl rfl (show zRun X d 44 135 [none, none, none, none, none, none] [] (SH, s.2, J) r M' from w)
  · rw [if_neg hc16] at h
    refine zr_steps 2 (15, [some (.ref 24), some (.int v1), some (.int s.1), some (.int 0), none, none], [], (SH, s.2, J)) rfl ?_
    obtain ⟨s14, ho15, h⟩ := zbind h
    refine zr_hdr (ls2 := [some (.ref 24), some (.int v1), some (.int s.1), some (.int 0), none, none]) rfl rfl ?_
    refine ok_f44_arrive_24_L15 (by omega) v1 s.1 5000 ((0 : Int32), s.2) s14 ho15 ?_
    show zRun X d 44 129 [some (.ref 24), some (.int v1), some (.int s.1), none, none, none] [] (SH, s14.2, J) _ _
    refine zr_steps 2 (2, [some (.ref 24), some (.int v1), some (.int (s.1 + 1)), none, none, none], [], (SH, s14.2, J)) rfl ?_
    have he := Option.some.inj h
    subst he
    exact zr_hdr (ls2 := [some (.ref 24), some (.int v1), some (.int (s.1 + 1)), none, none, none]) rfl rfl (show zRun X d 44 2 [some (.ref 24), some (.int v1), some (.int (s.1 + 1)), none, none, none] [] (SH, s14.2, J) r M' from w))
set_option maxRecDepth 100000 in
set_option maxHeartbeats 4000000 in
theorem ok_f44_arrive_24 {X : zX} {d : Nat} (hd : 0 ≤ d) (v1 : Int32) {I : (Nat → Nat → Int32)} {J : (Nat → Nat → Int64)} (t : (Nat → Nat → Int32)) (h : f44_arrive_24 v1 I = some t) : zRun X d 44 0 (zent 44 [.ref 24, .int v1]) [] (SH, I, J) none (SH, t, J) := by
  unfold f44_arrive_24 at h
  refine zr_steps 2 (2, [some (.ref 24), some (.int v1), some (.int 0), none, none, none], [], (SH, I, J)) rfl ?_
  obtain ⟨s17, ho18, h⟩ := zbind h
  refine zr_hdr (ls2 := [some (.ref 24), some (.int v1), some (.int 0), none, none, none]) rfl rfl ?_
  refine ok_f44_arrive_24_L2 (by omega) v1 5000 ((0 : Int32), I) s17 ho18 ?_
  show zRun X d 44 135 [none, none, none, none, none, none] [] (SH, s17.2, J) _ _
  have he := Option.some.inj h
  subst he
  exact zr_one (some (.inr (.inr none))) rfl (zR_ret rfl rfl)
set_option maxRecDepth 100000 in
set_option maxHeartbeats 4000000 in
theorem ok_f34_pop {X : zX} {d : Nat} (hd : 0 ≤ d) {I : (Nat → Nat → Int32)} {J : (Nat → Nat → Int64)} (t : (Int32 × (Nat → Nat → Int32))) (h : f34_pop I = some t) : zRun X d 34 0 (zent 34 [.ref 15]) [] (SH, I, J) (some (.int t.1)) (SH, t.2, J) := by
  unfold f34_pop at h
  refine zr_steps 2 (4, [some (.ref 15)], [.int (I 15 5)], (SH, I, J)) rfl ?_
  refine zr_one (if (0 : Int32) < (I 15 5) then zN 9 [some (.ref 15)] [] (SH, I, J) else zN 7 [some (.ref 15)] [] (SH, I, J)) rfl (zR_if (fun hc2 => zR_go ?_) (fun hc2 => zR_go ?_))
  · rw [if_pos hc2] at h
    refine zr_steps 10 (27, [some (.ref 15)], [.int ((I 15 5) - 1), .ref 23], (SH, (zu I 15 5 ((I 15 5) - 1)), J)) rfl ?_
    obtain ⟨hc1, h⟩ := zbifo h
    refine zr_one (bif zin ((I 15 5) - 1) 64 then zN 28 [some (.ref 15)] [.int (I 23 ((I 15 5) - 1).toNatClampNeg)] (SH, (zu I 15 5 ((I 15 5) - 1)), J) else none) rfl (zR_bif hc1 (zR_go ?_))
    have he := Option.some.inj h
    subst he
    exact zr_one (some (.inr (.inr (some (.int (I 23 ((I 15 5) - 1).toNatClampNeg)))))) rfl (zR_ret rfl rfl)
  · rw [if_neg hc2] at h
    refine zr_steps 1 (8, [some (.ref 15)], [.int 0], (SH, I, J)) rfl ?_
    have he := Option.some.inj h
    subst he
    exact zr_one (some (.inr (.inr (some (.int 0))))) rfl (zR_ret rfl rfl)
set_option maxRecDepth 100000 in
set_option maxHeartbeats 4000000 in
theorem ok_f33_push {X : zX} {d : Nat} (hd : 0 ≤ d) (v1 : Int32) {I : (Nat → Nat → Int32)} {J : (Nat → Nat → Int64)} (t : (Nat → Nat → Int32)) (h : f33_push v1 I = some t) : zRun X d 33 0 (zent 33 [.ref 15, .int v1]) [] (SH, I, J) none (SH, t, J) := by
  unfold f33_push at h
  refine zr_steps 3 (6, [some (.ref 15), some (.int v1)], [.int 64, .int (I 15 5)], (SH, I, J)) rfl ?_
  refine zr_one (if (64 : Int32) ≤ (I 15 5) then zN 29 [some (.ref 15), some (.int v1)] [] (SH, I, J) else zN 9 [some (.ref 15), some (.int v1)] [] (SH, I, J)) rfl (zR_if (fun hc2 => zR_go ?_) (fun hc2 => zR_go ?_))
  · rw [if_pos hc2] at h
    have he := Option.some.inj h
    subst he
    exact zr_one (some (.inr (.inr none))) rfl (zR_ret rfl rfl)
  · rw [if_neg hc2] at h
    refine zr_steps 5 (18, [some (.ref 15), some (.int v1)], [.int v1, .int (I 15 5), .ref 23], (SH, I, J)) rfl ?_
    obtain ⟨hc1, h⟩ := zbifo h
    refine zr_one (bif zin (I 15 5) 64 then zN 19 [some (.ref 15), some (.int v1)] [] (SH, (zu I 23 (I 15 5).toNatClampNeg v1), J) else none) rfl (zR_bif hc1 (zR_go ?_))
    refine zr_steps 6 (29, [some (.ref 15), some (.int v1)], [], (SH, (zu (zu I 23 (I 15 5).toNatClampNeg v1) 15 5 ((I 15 5) + 1)), J)) rfl ?_
    have he := Option.some.inj h
    subst he
    exact zr_one (some (.inr (.inr none))) rfl (zR_ret rfl rfl)
set_option maxRecDepth 100000 in
set_option maxHeartbeats 4000000 in
theorem ok_f32_joined {X : zX} {d : Nat} (hd : 0 ≤ d) (v0 : Int32) (v1 : Int32) (v2 : Int32) {I : (Nat → Nat → Int32)} {J : (Nat → Nat → Int64)} (t : Int32) (h : f32_joined v0 v1 v2 = some t) : zRun X d 32 0 (zent 32 [.int v0, .int v1, .int v2]) [] (SH, I, J) (some (.int t)) (SH, I, J) := by
  unfold f32_joined at h
  refine zr_steps 1 (1, [some (.int v0), some (.int v1), some (.int v2)], [.int v1], (SH, I, J)) rfl ?_
  refine zr_one (if v1.toInt = 38 then zN 98 [some (.int v0), some (.int v1), some (.int v2)] [] (SH, I, J) else (if v1.toInt = 42 then zN 153 [some (.int v0), some (.int v1), some (.int v2)] [] (SH, I, J) else (if v1.toInt = 43 then zN 145 [some (.int v0), some (.int v1), some (.int v2)] [] (SH, I, J) else (if v1.toInt = 45 then zN 149 [some (.int v0), some (.int v1), some (.int v2)] [] (SH, I, J) else (if v1.toInt = 47 then zN 157 [some (.int v0), some (.int v1), some (.int v2)] [] (SH, I, J) else (if v1.toInt = 60 then zN 112 [some (.int v0), some (.int v1), some (.int v2)] [] (SH, I, J) else (if v1.toInt = 61 then zN 123 [some (.int v0), some (.int v1), some (.int v2)] [] (SH, I, J) else (if v1.toInt = 62 then zN 134 [some (.int v0), some (.int v1), some (.int v2)] [] (SH, I, J) else (if v1.toInt = 124 then zN 84 [some (.int v0), some (.int v1), some (.int v2)] [] (SH, I, J) else zN 169 [some (.int v0), some (.int v1), some (.int v2)] [] (SH, I, J)))))))))) rfl ?_
  refine zR_if (fun hc20 => zR_go ?_) (fun hc20 => ?_)
  · rw [if_pos hc20] at h
    refine zr_steps 1 (99, [some (.int v0), some (.int v1), some (.int v2)], [.int v0], (SH, I, J)) rfl ?_
    refine zr_one (if v0 = 0 then zN 110 [some (.int v0), some (.int v1), some (.int v2)] [] (SH, I, J) else zN 102 [some (.int v0), some (.int v1), some (.int v2)] [] (SH, I, J)) rfl (zR_if (fun hc2 => zR_go ?_) (fun hc2 => zR_go ?_))
    · rw [if_pos hc2] at h
      refine zr_steps 1 (111, [some (.int v0), some (.int v1), some (.int v2)], [.int 0], (SH, I, J)) rfl ?_
      have he := Option.some.inj h
      subst he
      exact zr_one (some (.inr (.inr (some (.int 0))))) rfl (zR_ret rfl rfl)
    · rw [if_neg hc2] at h
      refine zr_steps 1 (103, [some (.int v0), some (.int v1), some (.int v2)], [.int v2], (SH, I, J)) rfl ?_
      refine zr_one (if v2 = 0 then zN 110 [some (.int v0), some (.int v1), some (.int v2)] [] (SH, I, J) else zN 106 [some (.int v0), some (.int v1), some (.int v2)] [] (SH, I, J)) rfl (zR_if (fun hc1 => zR_go ?_) (fun hc1 => zR_go ?_))
      · rw [if_pos hc1] at h
        refine zr_steps 1 (111, [some (.int v0), some (.int v1), some (.int v2)], [.int 0], (SH, I, J)) rfl ?_
        have he := Option.some.inj h
        subst he
        exact zr_one (some (.inr (.inr (some (.int 0))))) rfl (zR_ret rfl rfl)
      · rw [if_neg hc1] at h
        refine zr_steps 2 (111, [some (.int v0), some (.int v1), some (.int v2)], [.int 1], (SH, I, J)) rfl ?_
        have he := Option.some.inj h
        subst he
        exact zr_one (some (.inr (.inr (some (.int 1))))) rfl (zR_ret rfl rfl)
  rw [if_neg hc20] at h
  refine zR_if (fun hc19 => zR_go ?_) (fun hc19 => ?_)
  · rw [if_pos hc19] at h
    refine zr_steps 3 (156, [some (.int v0), some (.int v1), some (.int v2)], [.int (v0 * v2)], (SH, I, J)) rfl ?_
    have he := Option.some.inj h
    subst he
    exact zr_one (some (.inr (.inr (some (.int (v0 * v2)))))) rfl (zR_ret rfl rfl)
  rw [if_neg hc19] at h
  refine zR_if (fun hc18 => zR_go ?_) (fun hc18 => ?_)
  · rw [if_pos hc18] at h
    refine zr_steps 3 (148, [some (.int v0), some (.int v1), some (.int v2)], [.int (v0 + v2)], (SH, I, J)) rfl ?_
    have he := Option.some.inj h
    subst he
    exact zr_one (some (.inr (.inr (some (.int (v0 + v2)))))) rfl (zR_ret rfl rfl)
  rw [if_neg hc18] at h
  refine zR_if (fun hc17 => zR_go ?_) (fun hc17 => ?_)
  · rw [if_pos hc17] at h
    refine zr_steps 3 (152, [some (.int v0), some (.int v1), some (.int v2)], [.int (v0 - v2)], (SH, I, J)) rfl ?_
    have he := Option.some.inj h
    subst he
    exact zr_one (some (.inr (.inr (some (.int (v0 - v2)))))) rfl (zR_ret rfl rfl)
  rw [if_neg hc17] at h
  refine zR_if (fun hc16 => zR_go ?_) (fun hc16 => ?_)
  · rw [if_pos hc16] at h
    refine zr_steps 1 (158, [some (.int v0), some (.int v1), some (.int v2)], [.int v2], (SH, I, J)) rfl ?_
    refine zr_one (if v2 = 0 then zN 161 [some (.int v0), some (.int v1), some (.int v2)] [] (SH, I, J) else zN 165 [some (.int v0), some (.int v1), some (.int v2)] [] (SH, I, J)) rfl (zR_if (fun hc4 => zR_go ?_) (fun hc4 => zR_go ?_))
    · rw [if_pos hc4] at h
      refine zr_steps 2 (168, [some (.int v0), some (.int v1), some (.int v2)], [.int 0], (SH, I, J)) rfl ?_
      have he := Option.some.inj h
      subst he
      exact zr_one (some (.inr (.inr (some (.int 0))))) rfl (zR_ret rfl rfl)
    · rw [if_neg hc4] at h
      refine zr_steps 2 (167, [some (.int v0), some (.int v1), some (.int v2)], [.int v2, .int v0], (SH, I, J)) rfl ?_
      obtain ⟨hc3, h⟩ := zdivo h
      refine zr_one (if (v2 : Int32) = 0 then none else zN 168 [some (.int v0), some (.int v1), some (.int v2)] [.int (v0 / v2)] (SH, I, J)) rfl (zR_div hc3 (zR_go ?_))
      have he := Option.some.inj h
      subst he
      exact zr_one (some (.inr (.inr (some (.int (v0 / v2)))))) rfl (zR_ret rfl rfl)
  rw [if_neg hc16] at h
  refine zR_if (fun hc15 => zR_go ?_) (fun hc15 => ?_)
  · rw [if_pos hc15] at h
    refine zr_steps 2 (114, [some (.int v0), some (.int v1), some (.int v2)], [.int v2, .int v0], (SH, I, J)) rfl ?_
    refine zr_one (if v2 ≤ v0 then zN 121 [some (.int v0), some (.int v1), some (.int v2)] [] (SH, I, J) else zN 117 [some (.int v0), some (.int v1), some (.int v2)] [] (SH, I, J)) rfl (zR_if (fun hc5 => zR_go ?_) (fun hc5 => zR_go ?_))
    · rw [if_pos hc5] at h
      refine zr_steps 1 (122, [some (.int v0), some (.int v1), some (.int v2)], [.int 0], (SH, I, J)) rfl ?_
      have he := Option.some.inj h
      subst he
      exact zr_one (some (.inr (.inr (some (.int 0))))) rfl (zR_ret rfl rfl)
    · rw [if_neg hc5] at h
      refine zr_steps 2 (122, [some (.int v0), some (.int v1), some (.int v2)], [.int 1], (SH, I, J)) rfl ?_
      have he := Option.some.inj h
      subst he
      exact zr_one (some (.inr (.inr (some (.int 1))))) rfl (zR_ret rfl rfl)
  rw [if_neg hc15] at h
  refine zR_if (fun hc14 => zR_go ?_) (fun hc14 => ?_)
  · rw [if_pos hc14] at h
    refine zr_steps 2 (125, [some (.int v0), some (.int v1), some (.int v2)], [.int v2, .int v0], (SH, I, J)) rfl ?_
    refine zr_one (if v0 = v2 then zN 128 [some (.int v0), some (.int v1), some (.int v2)] [] (SH, I, J) else zN 132 [some (.int v0), some (.int v1), some (.int v2)] [] (SH, I, J)) rfl (zR_if (fun hc6 => zR_go ?_) (fun hc6 => zR_go ?_))
    · rw [if_pos hc6] at h
      refine zr_steps 2 (133, [some (.int v0), some (.int v1), some (.int v2)], [.int 1], (SH, I, J)) rfl ?_
      have he := Option.some.inj h
      subst he
      exact zr_one (some (.inr (.inr (some (.int 1))))) rfl (zR_ret rfl rfl)
    · rw [if_neg hc6] at h
      refine zr_steps 1 (133, [some (.int v0), some (.int v1), some (.int v2)], [.int 0], (SH, I, J)) rfl ?_
      have he := Option.some.inj h
      subst he
      exact zr_one (some (.inr (.inr (some (.int 0))))) rfl (zR_ret rfl rfl)
  rw [if_neg hc14] at h
  refine zR_if (fun hc13 => zR_go ?_) (fun hc13 => ?_)
  · rw [if_pos hc13] at h
    refine zr_steps 2 (136, [some (.int v0), some (.int v1), some (.int v2)], [.int v2, .int v0], (SH, I, J)) rfl ?_
    refine zr_one (if v0 ≤ v2 then zN 143 [some (.int v0), some (.int v1), some (.int v2)] [] (SH, I, J) else zN 139 [some (.int v0), some (.int v1), some (.int v2)] [] (SH, I, J)) rfl (zR_if (fun hc7 => zR_go ?_) (fun hc7 => zR_go ?_))
    · rw [if_pos hc7] at h
      refine zr_steps 1 (144, [some (.int v0), some (.int v1), some (.int v2)], [.int 0], (SH, I, J)) rfl ?_
      have he := Option.some.inj h
      subst he
      exact zr_one (some (.inr (.inr (some (.int 0))))) rfl (zR_ret rfl rfl)
    · rw [if_neg hc7] at h
      refine zr_steps 2 (144, [some (.int v0), some (.int v1), some (.int v2)], [.int 1], (SH, I, J)) rfl ?_
      have he := Option.some.inj h
      subst he
      exact zr_one (some (.inr (.inr (some (.int 1))))) rfl (zR_ret rfl rfl)
  rw [if_neg hc13] at h
  refine zR_if (fun hc12 => zR_go ?_) (fun hc12 => ?_)
  · rw [if_pos hc12] at h
    refine zr_steps 1 (85, [some (.int v0), some (.int v1), some (.int v2)], [.int v0], (SH, I, J)) rfl ?_
    refine zr_one (if v0 = 0 then zN 88 [some (.int v0), some (.int v1), some (.int v2)] [] (SH, I, J) else zN 92 [some (.int v0), some (.int v1), some (.int v2)] [] (SH, I, J)) rfl (zR_if (fun hc9 => zR_go ?_) (fun hc9 => zR_go ?_))
    · rw [if_pos hc9] at h
      refine zr_steps 1 (89, [some (.int v0), some (.int v1), some (.int v2)], [.int v2], (SH, I, J)) rfl ?_
      refine zr_one (if v2 = 0 then zN 96 [some (.int v0), some (.int v1), some (.int v2)] [] (SH, I, J) else zN 92 [some (.int v0), some (.int v1), some (.int v2)] [] (SH, I, J)) rfl (zR_if (fun hc8 => zR_go ?_) (fun hc8 => zR_go ?_))
      · rw [if_pos hc8] at h
        refine zr_steps 1 (97, [some (.int v0), some (.int v1), some (.int v2)], [.int 0], (SH, I, J)) rfl ?_
        have he := Option.some.inj h
        subst he
        exact zr_one (some (.inr (.inr (some (.int 0))))) rfl (zR_ret rfl rfl)
      · rw [if_neg hc8] at h
        refine zr_steps 2 (97, [some (.int v0), some (.int v1), some (.int v2)], [.int 1], (SH, I, J)) rfl ?_
        have he := Option.some.inj h
        subst he
        exact zr_one (some (.inr (.inr (some (.int 1))))) rfl (zR_ret rfl rfl)
    · rw [if_neg hc9] at h
      refine zr_steps 2 (97, [some (.int v0), some (.int v1), some (.int v2)], [.int 1], (SH, I, J)) rfl ?_
      have he := Option.some.inj h
      subst he
      exact zr_one (some (.inr (.inr (some (.int 1))))) rfl (zR_ret rfl rfl)
  rw [if_neg hc12] at h
  refine zR_go ?_
  refine zr_steps 1 (170, [some (.int v0), some (.int v1), some (.int v2)], [.int v2], (SH, I, J)) rfl ?_
  refine zr_one (if v2 = 0 then zN 173 [some (.int v0), some (.int v1), some (.int v2)] [] (SH, I, J) else zN 177 [some (.int v0), some (.int v1), some (.int v2)] [] (SH, I, J)) rfl (zR_if (fun hc11 => zR_go ?_) (fun hc11 => zR_go ?_))
  · rw [if_pos hc11] at h
    refine zr_steps 2 (180, [some (.int v0), some (.int v1), some (.int v2)], [.int 0], (SH, I, J)) rfl ?_
    have he := Option.some.inj h
    subst he
    exact zr_one (some (.inr (.inr (some (.int 0))))) rfl (zR_ret rfl rfl)
  · rw [if_neg hc11] at h
    refine zr_steps 2 (179, [some (.int v0), some (.int v1), some (.int v2)], [.int v2, .int v0], (SH, I, J)) rfl ?_
    obtain ⟨hc10, h⟩ := zdivo h
    refine zr_one (if (v2 : Int32) = 0 then none else zN 180 [some (.int v0), some (.int v1), some (.int v2)] [.int (v0 - v0 / v2 * v2)] (SH, I, J)) rfl (zR_div hc10 (zR_go ?_))
    have he := Option.some.inj h
    subst he
    exact zr_one (some (.inr (.inr (some (.int (v0 - v0 / v2 * v2)))))) rfl (zR_ret rfl rfl)
set_option maxRecDepth 100000 in
set_option maxHeartbeats 4000000 in
theorem ok_f31_passesLine_15_36 {X : zX} {d : Nat} (hd : 1 ≤ d) (v1 : Int32) {I : (Nat → Nat → Int32)} {J : (Nat → Nat → Int64)} (t : (Int32 × (Nat → Nat → Int32))) (h : f31_passesLine_15_36 v1 I = some t) : zRun X d 31 0 (zent 31 [.ref 15, .int v1, .ref 36]) [] (SH, I, J) (some (.int t.1)) (SH, t.2, J) := by
  unfold f31_passesLine_15_36 at h
  refine zr_steps 2 (4, [some (.ref 15), some (.int v1), some (.ref 36), none], [.int 20063, .int v1], (SH, I, J)) rfl ?_
  refine zr_one (if v1 = 20063 then zN 7 [some (.ref 15), some (.int v1), some (.ref 36), none] [] (SH, I, J) else zN 20 [some (.ref 15), some (.int v1), some (.ref 36), none] [] (SH, I, J)) rfl (zR_if (fun hc32 => zR_go ?_) (fun hc32 => zR_go ?_))
  · rw [if_pos hc32] at h
    refine zr_steps 1 (8, [some (.ref 15), some (.int v1), some (.ref 36), none], [.ref 15], (SH, I, J)) rfl ?_
    obtain ⟨t2, hc1, h⟩ := zbind h
    refine zr_one (some (.inr (.inl (34, [.ref 15], [], 11)))) rfl (zR_call (by omega) rfl (ok_f34_pop (by omega)  _ hc1) ?_)
    refine zr_one (if t2.1 = 0 then zN 14 [some (.ref 15), some (.int v1), some (.ref 36), none] [] (SH, t2.2, J) else zN 18 [some (.ref 15), some (.int v1), some (.ref 36), none] [] (SH, t2.2, J)) rfl (zR_if (fun hc3 => zR_go ?_) (fun hc3 => zR_go ?_))
    · rw [if_pos hc3] at h
      refine zr_steps 2 (19, [some (.ref 15), some (.int v1), some (.ref 36), none], [.int 1], (SH, t2.2, J)) rfl ?_
      have he := Option.some.inj h
      subst he
      exact zr_one (if ((1 : Int32) = 0 ∨ (1 : Int32) = 1) then some (.inr (.inr (some (.int 1)))) else none) rfl (zR_pos (by decide) (zR_ret rfl rfl))
    · rw [if_neg hc3] at h
      refine zr_steps 1 (19, [some (.ref 15), some (.int v1), some (.ref 36), none], [.int 0], (SH, t2.2, J)) rfl ?_
      have he := Option.some.inj h
      subst he
      exact zr_one (if ((0 : Int32) = 0 ∨ (0 : Int32) = 1) then some (.inr (.inr (some (.int 0)))) else none) rfl (zR_pos (by decide) (zR_ret rfl rfl))
  · rw [if_neg hc32] at h
    refine zr_steps 2 (24, [some (.ref 15), some (.int v1), some (.ref 36), none], [.int 10000, .int v1], (SH, I, J)) rfl ?_
    refine zr_one (if (10000 : Int32) ≤ v1 then zN 35 [some (.ref 15), some (.int v1), some (.ref 36), none] [] (SH, I, J) else zN 27 [some (.ref 15), some (.int v1), some (.ref 36), none] [] (SH, I, J)) rfl (zR_if (fun hc31 => zR_go ?_) (fun hc31 => zR_go ?_))
    · rw [if_pos hc31] at h
      refine zr_steps 2 (39, [some (.ref 15), some (.int v1), some (.ref 36), none], [.int 20000, .int v1], (SH, I, J)) rfl ?_
      refine zr_one (if (20000 : Int32) ≤ v1 then zN 56 [some (.ref 15), some (.int v1), some (.ref 36), none] [] (SH, I, J) else zN 42 [some (.ref 15), some (.int v1), some (.ref 36), none] [] (SH, I, J)) rfl (zR_if (fun hc28 => zR_go ?_) (fun hc28 => zR_go ?_))
      · rw [if_pos hc28] at h
        refine zr_steps 2 (60, [some (.ref 15), some (.int v1), some (.ref 36), none], [.int 20033, .int v1], (SH, I, J)) rfl ?_
        refine zr_one (if v1 = 20033 then zN 63 [some (.ref 15), some (.int v1), some (.ref 36), none] [] (SH, I, J) else zN 82 [some (.ref 15), some (.int v1), some (.ref 36), none] [] (SH, I, J)) rfl (zR_if (fun hc24 => zR_go ?_) (fun hc24 => zR_go ?_))
        · rw [if_pos hc24] at h
          refine zr_steps 2 (65, [some (.ref 15), some (.int v1), some (.ref 36), none], [.ref 15, .ref 15], (SH, I, J)) rfl ?_
          obtain ⟨t5, hc4, h⟩ := zbind h
          refine zr_one (some (.inr (.inl (34, [.ref 15], [.ref 15], 68)))) rfl (zR_call (by omega) rfl (ok_f34_pop (by omega)  _ hc4) ?_)
          refine zr_one (if t5.1 = 0 then zN 71 [some (.ref 15), some (.int v1), some (.ref 36), none] [.ref 15] (SH, t5.2, J) else zN 75 [some (.ref 15), some (.int v1), some (.ref 36), none] [.ref 15] (SH, t5.2, J)) rfl (zR_if (fun hc10 => zR_go ?_) (fun hc10 => zR_go ?_))
          · rw [if_pos hc10] at h
            refine zr_steps 2 (76, [some (.ref 15), some (.int v1), some (.ref 36), none], [.int 1, .ref 15], (SH, t5.2, J)) rfl ?_
            obtain ⟨t7, hc6, h⟩ := zbind h
            refine zr_one (some (.inr (.inl (33, [.ref 15, .int 1], [], 79)))) rfl (zR_call (by omega) rfl (ok_f33_push (by omega) 1 _ hc6) ?_)
            refine zr_steps 2 (124, [some (.ref 15), some (.int v1), some (.ref 36), none], [.int 0], (SH, t7, J)) rfl ?_
            have he := Option.some.inj h
            subst he
            exact zr_one (if ((0 : Int32) = 0 ∨ (0 : Int32) = 1) then some (.inr (.inr (some (.int 0)))) else none) rfl (zR_pos (by decide) (zR_ret rfl rfl))
          · rw [if_neg hc10] at h
            refine zr_steps 1 (76, [some (.ref 15), some (.int v1), some (.ref 36), none], [.int 0, .ref 15], (SH, t5.2, J)) rfl ?_
            obtain ⟨t9, hc8, h⟩ := zbind h
            refine zr_one (some (.inr (.inl (33, [.ref 15, .int 0], [], 79)))) rfl (zR_call (by omega) rfl (ok_f33_push (by omega) 0 _ hc8) ?_)
            refine zr_steps 2 (124, [some (.ref 15), some (.int v1), some (.ref 36), none], [.int 0], (SH, t9, J)) rfl ?_
            have he := Option.some.inj h
            subst he
            exact zr_one (if ((0 : Int32) = 0 ∨ (0 : Int32) = 1) then some (.inr (.inr (some (.int 0)))) else none) rfl (zR_pos (by decide) (zR_ret rfl rfl))
        · rw [if_neg hc24] at h
          refine zr_steps 2 (86, [some (.ref 15), some (.int v1), some (.ref 36), none], [.int 20126, .int v1], (SH, I, J)) rfl ?_
          refine zr_one (if v1 = 20126 then zN 89 [some (.ref 15), some (.int v1), some (.ref 36), none] [] (SH, I, J) else zN 101 [some (.ref 15), some (.int v1), some (.ref 36), none] [] (SH, I, J)) rfl (zR_if (fun hc23 => zR_go ?_) (fun hc23 => zR_go ?_))
          · rw [if_pos hc23] at h
            refine zr_steps 2 (91, [some (.ref 15), some (.int v1), some (.ref 36), none], [.ref 15, .ref 15], (SH, I, J)) rfl ?_
            obtain ⟨t12, hc11, h⟩ := zbind h
            refine zr_one (some (.inr (.inl (34, [.ref 15], [.ref 15], 94)))) rfl (zR_call (by omega) rfl (ok_f34_pop (by omega)  _ hc11) ?_)
            refine zr_steps 1 (95, [some (.ref 15), some (.int v1), some (.ref 36), none], [.int (-t12.1), .ref 15], (SH, t12.2, J)) rfl ?_
            obtain ⟨t14, hc13, h⟩ := zbind h
            refine zr_one (some (.inr (.inl (33, [.ref 15, .int (-t12.1)], [], 98)))) rfl (zR_call (by omega) rfl (ok_f33_push (by omega) (-t12.1) _ hc13) ?_)
            refine zr_steps 2 (124, [some (.ref 15), some (.int v1), some (.ref 36), none], [.int 0], (SH, t14, J)) rfl ?_
            have he := Option.some.inj h
            subst he
            exact zr_one (if ((0 : Int32) = 0 ∨ (0 : Int32) = 1) then some (.inr (.inr (some (.int 0)))) else none) rfl (zR_pos (by decide) (zR_ret rfl rfl))
          · rw [if_neg hc23] at h
            refine zr_steps 1 (102, [some (.ref 15), some (.int v1), some (.ref 36), none], [.ref 15], (SH, I, J)) rfl ?_
            obtain ⟨t16, hc15, h⟩ := zbind h
            refine zr_one (some (.inr (.inl (34, [.ref 15], [], 105)))) rfl (zR_call (by omega) rfl (ok_f34_pop (by omega)  _ hc15) ?_)
            refine zr_steps 3 (108, [some (.ref 15), some (.int v1), some (.ref 36), some (.int t16.1)], [.ref 15, .ref 15], (SH, t16.2, J)) rfl ?_
            obtain ⟨t18, hc17, h⟩ := zbind h
            refine zr_one (some (.inr (.inl (34, [.ref 15], [.ref 15], 111)))) rfl (zR_call (by omega) rfl (ok_f34_pop (by omega)  _ hc17) ?_)
            refine zr_steps 4 (117, [some (.ref 15), some (.int v1), some (.ref 36), some (.int t16.1)], [.int t16.1, .int (v1 - 20000), .int t18.1, .ref 15], (SH, t18.2, J)) rfl ?_
            obtain ⟨t20, hc19, h⟩ := zbind h
            refine zr_one (some (.inr (.inl (32, [.int t18.1, .int (v1 - 20000), .int t16.1], [.ref 15], 120)))) rfl (zR_call (by omega) rfl (ok_f32_joined (by omega) t18.1 (v1 - 20000) t16.1 _ hc19) ?_)
            obtain ⟨t22, hc21, h⟩ := zbind h
            refine zr_one (some (.inr (.inl (33, [.ref 15, .int t20], [], 123)))) rfl (zR_call (by omega) rfl (ok_f33_push (by omega) t20 _ hc21) ?_)
            refine zr_steps 1 (124, [some (.ref 15), some (.int v1), some (.ref 36), some (.int t16.1)], [.int 0], (SH, t22, J)) rfl ?_
            have he := Option.some.inj h
            subst he
            exact zr_one (if ((0 : Int32) = 0 ∨ (0 : Int32) = 1) then some (.inr (.inr (some (.int 0)))) else none) rfl (zR_pos (by decide) (zR_ret rfl rfl))
      · rw [if_neg hc28] at h
        refine zr_steps 5 (49, [some (.ref 15), some (.int v1), some (.ref 36), none], [.int (v1 - 10000), .ref 36, .ref 15], (SH, I, J)) rfl ?_
        obtain ⟨hc25, h⟩ := zbifo h
        refine zr_one (bif zin (v1 - 10000) 8 then zN 50 [some (.ref 15), some (.int v1), some (.ref 36), none] [.int (I 36 (v1 - 10000).toNatClampNeg), .ref 15] (SH, I, J) else none) rfl (zR_bif hc25 (zR_go ?_))
        obtain ⟨t27, hc26, h⟩ := zbind h
        refine zr_one (some (.inr (.inl (33, [.ref 15, .int (I 36 (v1 - 10000).toNatClampNeg)], [], 53)))) rfl (zR_call (by omega) rfl (ok_f33_push (by omega) (I 36 (v1 - 10000).toNatClampNeg) _ hc26) ?_)
        refine zr_steps 2 (124, [some (.ref 15), some (.int v1), some (.ref 36), none], [.int 0], (SH, t27, J)) rfl ?_
        have he := Option.some.inj h
        subst he
        exact zr_one (if ((0 : Int32) = 0 ∨ (0 : Int32) = 1) then some (.inr (.inr (some (.int 0)))) else none) rfl (zR_pos (by decide) (zR_ret rfl rfl))
    · rw [if_neg hc31] at h
      refine zr_steps 2 (29, [some (.ref 15), some (.int v1), some (.ref 36), none], [.int v1, .ref 15], (SH, I, J)) rfl ?_
      obtain ⟨t30, hc29, h⟩ := zbind h
      refine zr_one (some (.inr (.inl (33, [.ref 15, .int v1], [], 32)))) rfl (zR_call (by omega) rfl (ok_f33_push (by omega) v1 _ hc29) ?_)
      refine zr_steps 2 (124, [some (.ref 15), some (.int v1), some (.ref 36), none], [.int 0], (SH, t30, J)) rfl ?_
      have he := Option.some.inj h
      subst he
      exact zr_one (if ((0 : Int32) = 0 ∨ (0 : Int32) = 1) then some (.inr (.inr (some (.int 0)))) else none) rfl (zR_pos (by decide) (zR_ret rfl rfl))
set_option maxRecDepth 100000 in
set_option maxHeartbeats 4000000 in
theorem ok_f30_gives_15_36_L10 {X : zX} {d : Nat} {r : Option Value} {M' : zM} (hd : 2 ≤ d) (v1 : Int32) {J : (Nat → Nat → Int64)} : ∀ (n : Nat) (s : (Int32 × Int32 × (Nat → Nat → Int32))) (t : (Int32 × (Nat → Nat → Int32)) ⊕ (Int32 × Int32 × (Nat → Nat → Int32))), zloopR (f30_gives_15_36_L10 v1) n s = some t → zSumE (fun (x : (Int32 × (Nat → Nat → Int32))) => r = (some (.int x.1)) ∧ M' = (SH, x.2, J)) (fun (x : (Int32 × Int32 × (Nat → Nat → Int32))) => zRun X d 30 83 [none, none, none, none, none, none] [] (SH, x.2.2, J) r M') t → (fun (s : (Int32 × Int32 × (Nat → Nat → Int32))) => zRun X d 30 10 [some (.ref 15), some (.int v1), some (.ref 36), some (.int s.1), some (.int s.2.1), none] [] (SH, s.2.2, J) r M') s := zloopR_ok (B := (f30_gives_15_36_L10 v1)) (Wh := fun (s : (Int32 × Int32 × (Nat → Nat → Int32))) => zRun X d 30 10 [some (.ref 15), some (.int v1), some (.ref 36), some (.int s.1), some (.int s.2.1), none] [] (SH, s.2.2, J) r M') (Wx := fun (x : (Int32 × Int32 × (Nat → Nat → Int32))) => zRun X d 30 83 [none, none, none, none, none, none] [] (SH, x.2.2, J) r M') (Wr := fun (x : (Int32 × (Nat → Nat → Int32))) => r = (some (.int x.1)) ∧ M' = (SH, x.2, J)) (fun s y h w => by
  unfold f30_gives_15_36_L10 at h
  refine zr_steps 4 (17, [some (.ref 15), some (.int v1), some (.ref 36), some (.int s.1), some (.int s.2.1), none], [.int v1, .ref 22, .int s.2.1], (SH, s.2.2, J)) rfl ?_
  obtain ⟨hc1, h⟩ := zbifo h
  refine zr_one (bif zin v1 4 then zN 18 [some (.ref 15), some (.int v1), some (.ref 36), some (.int s.1), some (.int s.2.1), none] [.int (s.2.2 22 v1.toNatClampNeg), .int s.2.1] (SH, s.2.2, J) else none) rfl (zR_bif hc1 (zR_go ?_))
  refine zr_one (if (s.2.2 22 v1.toNatClampNeg) ≤ s.2.1 then zN 83 [some (.ref 15), some (.int v1), some (.ref 36), some (.int s.1), some (.int s.2.1), none] [] (SH, s.2.2, J) else zN 21 [some (.ref 15), some (.int v1), some (.ref 36), some (.int s.1), some (.int s.2.1), none] [] (SH, s.2.2, J)) rfl (zR_if (fun hc12 => zR_go ?_) (fun hc12 => zR_go ?_))
  · rw [if_pos hc12] at h
    have he := Option.some.inj h
    subst he
    exact zr_hdr (ls2 := [none, none, none, none, none, none]) rfl rfl (show zRun X d 30 83 [none, none, none, none, none, none] [] (SH, s.2.2, J) r M' from w)
  · rw [if_neg hc12] at h
    refine zr_steps 3 (26, [some (.ref 15), some (.int v1), some (.ref 36), some (.int s.1), some (.int s.2.1), none], [.int v1, .ref 17], (SH, s.2.2, J)) rfl ?_
    obtain ⟨hc2, h⟩ := zbifo h
    refine zr_one (bif zin v1 4 then zrefr 27 [some (.ref 15), some (.int v1), some (.ref 36), some (.int s.1), some (.int s.2.1), none] [] (SH, s.2.2, J) (zri (SH, s.2.2, J) 17 v1.toNatClampNeg) else none) rfl (zR_bif hc2 (zR_ref (ro_at hc2) ?_))
    refine zr_steps 1 (29, [some (.ref 15), some (.int v1), some (.ref 36), some (.int s.1), some (.int s.2.1), none], [.int s.2.1, .ref (zrow0 v1)], (SH, s.2.2, J)) rfl ?_
    obtain ⟨hc3, h⟩ := zbifo h
    refine zr_one (ziald X 0 29 [some (.ref 15), some (.int v1), some (.ref 36), some (.int s.1), some (.int s.2.1), none] [.int s.2.1, .ref (zrow0 v1)] (SH, s.2.2, J)) rfl (rR_ald (ro_is hc2) hc3 ?_)
    refine zr_steps 3 (37, [some (.ref 15), some (.int v1), some (.ref 36), some (.int s.1), some (.int s.2.1), some (.int (s.2.2 (zrow0 v1) s.2.1.toNatClampNeg))], [.int 20059, .int (s.2.2 (zrow0 v1) s.2.1.toNatClampNeg)], (SH, s.2.2, J)) rfl ?_
    refine zr_one (if (s.2.2 (zrow0 v1) s.2.1.toNatClampNeg) = 20059 then zN 63 [some (.ref 15), some (.int v1), some (.ref 36), some (.int s.1), some (.int s.2.1), some (.int (s.2.2 (zrow0 v1) s.2.1.toNatClampNeg))] [] (SH, s.2.2, J) else zN 40 [some (.ref 15), some (.int v1), some (.ref 36), some (.int s.1), some (.int s.2.1), some (.int (s.2.2 (zrow0 v1) s.2.1.toNatClampNeg))] [] (SH, s.2.2, J)) rfl (zR_if (fun hc11 => zR_go ?_) (fun hc11 => zR_go ?_))
    · rw [if_pos hc11] at h
      refine zr_steps 1 (64, [some (.ref 15), some (.int v1), some (.ref 36), some (.int s.1), some (.int s.2.1), some (.int (s.2.2 (zrow0 v1) s.2.1.toNatClampNeg))], [.int s.1], (SH, s.2.2, J)) rfl ?_
      refine zr_one (if s.1 = 0 then zN 72 [some (.ref 15), some (.int v1), some (.ref 36), some (.int s.1), some (.int s.2.1), some (.int (s.2.2 (zrow0 v1) s.2.1.toNatClampNeg))] [] (SH, s.2.2, J) else zN 67 [some (.ref 15), some (.int v1), some (.ref 36), some (.int s.1), some (.int s.2.1), some (.int (s.2.2 (zrow0 v1) s.2.1.toNatClampNeg))] [] (SH, s.2.2, J)) rfl (zR_if (fun hc6 => zR_go ?_) (fun hc6 => zR_go ?_))
      · rw [if_pos hc6] at h
        refine zr_steps 1 (73, [some (.ref 15), some (.int v1), some (.ref 36), some (.int s.1), some (.int s.2.1), some (.int (s.2.2 (zrow0 v1) s.2.1.toNatClampNeg))], [.ref 15], (SH, s.2.2, J)) rfl ?_
        obtain ⟨t5, hc4, h⟩ := zbind h
        refine zr_one (some (.inr (.inl (34, [.ref 15], [], 76)))) rfl (zR_call (by omega) rfl (ok_f34_pop (by omega)  _ hc4) ?_)
        have he := Option.some.inj h
        subst he
        obtain ⟨e1, e2⟩ := (show r = (some (.int t5.1)) ∧ M' = (SH, t5.2, J) from w)
        exact zr_one (some (.inr (.inr (some (.int t5.1))))) rfl (zR_ret e1.symm e2.symm)
      · rw [if_neg hc6] at h
        refine zr_steps 5 (10, [some (.ref 15), some (.int v1), some (.ref 36), some (.int 0), some (.int (s.2.1 + 1)), some (.int (s.2.2 (zrow0 v1) s.2.1.toNatClampNeg))], [], (SH, s.2.2, J)) rfl ?_
        have he := Option.some.inj h
        subst he
        exact zr_hdr (ls2 := [some (.ref 15), some (.int v1), some (.ref 36), some (.int 0), some (.int (s.2.1 + 1)), none]) rfl rfl (show zRun X d 30 10 [some (.ref 15), some (.int v1), some (.ref 36), some (.int 0), some (.int (s.2.1 + 1)), none] [] (SH, s.2.2, J) r M' from w)
    · rw [if_neg hc11] at h
      refine zr_steps 1 (41, [some (.ref 15), some (.int v1), some (.ref 36), some (.int s.1), some (.int s.2.1), some (.int (s.2.2 (zrow0 v1) s.2.1.toNatClampNeg))], [.int s.1], (SH, s.2.2, J)) rfl ?_
      refine zr_one (if s.1 = 0 then zN 44 [some (.ref 15), some (.int v1), some (.ref 36), some (.int s.1), some (.int s.2.1), some (.int (s.2.2 (zrow0 v1) s.2.1.toNatClampNeg))] [] (SH, s.2.2, J) else zN 54 [some (.ref 15), some (.int v1), some (.ref 36), some (.int s.1), some (.int s.2.1), some (.int (s.2.2 (zrow0 v1) s.2.1.toNatClampNeg))] [] (SH, s.2.2, J)) rfl (zR_if (fun hc10 => zR_go ?_) (fun hc10 => zR_go ?_))
      · rw [if_pos hc10] at h
        refine zr_steps 3 (48, [some (.ref 15), some (.int v1), some (.ref 36), some (.int s.1), some (.int s.2.1), some (.int (s.2.2 (zrow0 v1) s.2.1.toNatClampNeg))], [.ref 36, .int (s.2.2 (zrow0 v1) s.2.1.toNatClampNeg), .ref 15], (SH, s.2.2, J)) rfl ?_
        obtain ⟨t8, hc7, h⟩ := zbind h
        refine zr_one (some (.inr (.inl (31, [.ref 15, .int (s.2.2 (zrow0 v1) s.2.1.toNatClampNeg), .ref 36], [], 51)))) rfl (zR_call (by omega) rfl (ok_f31_passesLine_15_36 (by omega) (s.2.2 (zrow0 v1) s.2.1.toNatClampNeg) _ hc7) ?_)
        refine zr_one (if t8.1 = 0 then zN 58 [some (.ref 15), some (.int v1), some (.ref 36), some (.int s.1), some (.int s.2.1), some (.int (s.2.2 (zrow0 v1) s.2.1.toNatClampNeg))] [] (SH, t8.2, J) else zN 54 [some (.ref 15), some (.int v1), some (.ref 36), some (.int s.1), some (.int s.2.1), some (.int (s.2.2 (zrow0 v1) s.2.1.toNatClampNeg))] [] (SH, t8.2, J)) rfl (zR_if (fun hc9 => zR_go ?_) (fun hc9 => zR_go ?_))
        · rw [if_pos hc9] at h
          refine zr_steps 5 (10, [some (.ref 15), some (.int v1), some (.ref 36), some (.int 0), some (.int (s.2.1 + 1)), some (.int (s.2.2 (zrow0 v1) s.2.1.toNatClampNeg))], [], (SH, t8.2, J)) rfl ?_
          have he := Option.some.inj h
          subst he
          exact zr_hdr (ls2 := [some (.ref 15), some (.int v1), some (.ref 36), some (.int 0), some (.int (s.2.1 + 1)), none]) rfl rfl (show zRun X d 30 10 [some (.ref 15), some (.int v1), some (.ref 36), some (.int 0), some (.int (s.2.1 + 1)), none] [] (SH, t8.2, J) r M' from w)
        · rw [if_neg hc9] at h
          refine zr_steps 6 (10, [some (.ref 15), some (.int v1), some (.ref 36), some (.int 1), some (.int (s.2.1 + 1)), some (.int (s.2.2 (zrow0 v1) s.2.1.toNatClampNeg))], [], (SH, t8.2, J)) rfl ?_
          have he := Option.some.inj h
          subst he
          exact zr_hdr (ls2 := [some (.ref 15), some (.int v1), some (.ref 36), some (.int 1), some (.int (s.2.1 + 1)), none]) rfl rfl (show zRun X d 30 10 [some (.ref 15), some (.int v1), some (.ref 36), some (.int 1), some (.int (s.2.1 + 1)), none] [] (SH, t8.2, J) r M' from w)
      · rw [if_neg hc10] at h
        refine zr_steps 6 (10, [some (.ref 15), some (.int v1), some (.ref 36), some (.int 1), some (.int (s.2.1 + 1)), some (.int (s.2.2 (zrow0 v1) s.2.1.toNatClampNeg))], [], (SH, s.2.2, J)) rfl ?_
        have he := Option.some.inj h
        subst he
        exact zr_hdr (ls2 := [some (.ref 15), some (.int v1), some (.ref 36), some (.int 1), some (.int (s.2.1 + 1)), none]) rfl rfl (show zRun X d 30 10 [some (.ref 15), some (.int v1), some (.ref 36), some (.int 1), some (.int (s.2.1 + 1)), none] [] (SH, s.2.2, J) r M' from w))
set_option maxRecDepth 100000 in
set_option maxHeartbeats 4000000 in
theorem ok_f30_gives_15_36 {X : zX} {d : Nat} (hd : 2 ≤ d) (v1 : Int32) {I : (Nat → Nat → Int32)} {J : (Nat → Nat → Int64)} (t : (Int32 × (Nat → Nat → Int32))) (h : f30_gives_15_36 v1 I = some t) : zRun X d 30 0 (zent 30 [.ref 15, .int v1, .ref 36]) [] (SH, I, J) (some (.int t.1)) (SH, t.2, J) := by
  unfold f30_gives_15_36 at h
  refine zr_steps 7 (10, [some (.ref 15), some (.int v1), some (.ref 36), some (.int 0), some (.int 0), none], [], (SH, (zu I 15 5 0), J)) rfl ?_
  obtain ⟨y15, ho14, hy⟩ := zbRe h
  refine zr_hdr (ls2 := [some (.ref 15), some (.int v1), some (.ref 36), some (.int 0), some (.int 0), none]) rfl rfl ?_
  refine ok_f30_gives_15_36_L10 (by omega) v1 5000 ((0 : Int32), (0 : Int32), (zu I 15 5 0)) y15 ho14 ?_
  rcases hy with ⟨rr, rfl, h⟩ | ⟨s13, rfl, h⟩
  · have he := Option.some.inj h
    subst he
    exact ⟨rfl, rfl⟩
  · show zRun X d 30 83 [none, none, none, none, none, none] [] (SH, s13.2.2, J) _ _
    refine zr_steps 1 (84, [none, none, none, none, none, none], [.int 0], (SH, s13.2.2, J)) rfl ?_
    have he := Option.some.inj h
    subst he
    exact zr_one (some (.inr (.inr (some (.int 0))))) rfl (zR_ret rfl rfl)
