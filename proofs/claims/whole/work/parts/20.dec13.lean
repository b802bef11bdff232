set_option maxRecDepth 100000 in
set_option maxHeartbeats 4000000 in
theorem ok_f46_setOut_38 {X : zX} {d : Nat} (hd : 4 ≤ d) (v1 : Int32) (v2 : Int32) (v3 : Int32) {I : (Nat → Nat → Int32)} {J : (Nat → Nat → Int64)} (t : (Nat → Nat → Int32)) (h : f46_setOut_38 v1 v2 v3 I = some t) : zRun X d 46 0 (zent 46 [.ref 38, .int v1, .int v2, .int v3]) [] (SH, I, J) none (SH, t, J) := by
  unfold f46_setOut_38 at h
  refine zr_steps 4 (4, [some (.ref 38), some (.int v1), some (.int v2), some (.int v3), none, none, none, none, none], [.int v3, .int v2, .int v1, .ref 38], (SH, I, J)) rfl ?_
  obtain ⟨t2, hc1, h⟩ := zbind h
  refine zr_one (some (.inr (.inl (47, [.ref 38, .int v1, .int v2, .int v3], [], 7)))) rfl (zR_call (by omega) rfl (ok_f47_aim_38 (by omega) v1 v2 v3 _ hc1) ?_)
  refine zr_steps 4 (15, [some (.ref 38), some (.int v1), some (.int v2), some (.int v3), some (.int t2.1), none, none, none, none], [.int t2.1, .ref 1], (SH, t2.2, J)) rfl ?_
  obtain ⟨t4, hc3, h⟩ := zbind h
  refine zr_one (some (.inr (.inl (61, [.ref 1, .int t2.1], [], 18)))) rfl (zR_call (by omega) rfl (ok_f61_isSquare (by omega) t2.1 _ hc3) ?_)
  refine zr_one (if t4 = 0 then zN 44 [some (.ref 38), some (.int v1), some (.int v2), some (.int v3), some (.int t2.1), none, none, none, none] [] (SH, t2.2, J) else zN 21 [some (.ref 38), some (.int v1), some (.int v2), some (.int v3), some (.int t2.1), none, none, none, none] [] (SH, t2.2, J)) rfl (zR_if (fun hc36 => zR_go ?_) (fun hc36 => zR_go ?_))
  · rw [if_pos hc36] at h
    refine zr_steps 3 (49, [some (.ref 38), some (.int v1), some (.int v2), some (.int v3), some (.int t2.1), some (.int (-1)), none, none, none], [.int (-1)], (SH, t2.2, J)) rfl ?_
    refine zr_one (if (0 : Int32) ≤ (-1) then zN 53 [some (.ref 38), some (.int v1), some (.int v2), some (.int v3), some (.int t2.1), some (.int (-1)), none, none, none] [] (SH, t2.2, J) else zN 52 [some (.ref 38), some (.int v1), some (.int v2), some (.int v3), some (.int t2.1), some (.int (-1)), none, none, none] [] (SH, t2.2, J)) rfl (zR_div (by decide) (zR_go ?_))
    have he := Option.some.inj h
    subst he
    exact zr_one (some (.inr (.inr none))) rfl (zR_ret rfl rfl)
  · rw [if_neg hc36] at h
    refine zr_steps 2 (24, [some (.ref 38), some (.int v1), some (.int v2), some (.int v3), some (.int t2.1), none, none, none, none], [.int v3, .int t2.1], (SH, t2.2, J)) rfl ?_
    refine zr_one (if t2.1 = v3 then zN 44 [some (.ref 38), some (.int v1), some (.int v2), some (.int v3), some (.int t2.1), none, none, none, none] [] (SH, t2.2, J) else zN 27 [some (.ref 38), some (.int v1), some (.int v2), some (.int v3), some (.int t2.1), none, none, none, none] [] (SH, t2.2, J)) rfl (zR_if (fun hc35 => zR_go ?_) (fun hc35 => zR_go ?_))
    · rw [if_pos hc35] at h
      refine zr_steps 3 (49, [some (.ref 38), some (.int v1), some (.int v2), some (.int v3), some (.int t2.1), some (.int (-1)), none, none, none], [.int (-1)], (SH, t2.2, J)) rfl ?_
      refine zr_one (if (0 : Int32) ≤ (-1) then zN 53 [some (.ref 38), some (.int v1), some (.int v2), some (.int v3), some (.int t2.1), some (.int (-1)), none, none, none] [] (SH, t2.2, J) else zN 52 [some (.ref 38), some (.int v1), some (.int v2), some (.int v3), some (.int t2.1), some (.int (-1)), none, none, none] [] (SH, t2.2, J)) rfl (zR_div (by decide) (zR_go ?_))
      have he := Option.some.inj h
      subst he
      exact zr_one (some (.inr (.inr none))) rfl (zR_ret rfl rfl)
    · rw [if_neg hc35] at h
      refine zr_steps 8 (40, [some (.ref 38), some (.int v1), some (.int v2), some (.int v3), some (.int t2.1), none, none, none, none], [.int ((v3 * 4) + t2.1), .ref 13], (SH, t2.2, J)) rfl ?_
      obtain ⟨hc5, h⟩ := zbifo h
      refine zr_one (bif zin ((v3 * 4) + t2.1) 16 then zN 41 [some (.ref 38), some (.int v1), some (.int v2), some (.int v3), some (.int t2.1), none, none, none, none] [.int (t2.2 13 ((v3 * 4) + t2.1).toNatClampNeg)] (SH, t2.2, J) else none) rfl (zR_bif hc5 (zR_go ?_))
      refine zr_steps 3 (49, [some (.ref 38), some (.int v1), some (.int v2), some (.int v3), some (.int t2.1), some (.int (t2.2 13 ((v3 * 4) + t2.1).toNatClampNeg)), none, none, none], [.int (t2.2 13 ((v3 * 4) + t2.1).toNatClampNeg)], (SH, t2.2, J)) rfl ?_
      refine zr_one (if (0 : Int32) ≤ (t2.2 13 ((v3 * 4) + t2.1).toNatClampNeg) then zN 53 [some (.ref 38), some (.int v1), some (.int v2), some (.int v3), some (.int t2.1), some (.int (t2.2 13 ((v3 * 4) + t2.1).toNatClampNeg)), none, none, none] [] (SH, t2.2, J) else zN 52 [some (.ref 38), some (.int v1), some (.int v2), some (.int v3), some (.int t2.1), some (.int (t2.2 13 ((v3 * 4) + t2.1).toNatClampNeg)), none, none, none] [] (SH, t2.2, J)) rfl (zR_if (fun hc34 => zR_go ?_) (fun hc34 => zR_go ?_))
      · rw [if_pos hc34] at h
        refine zr_steps 4 (62, [some (.ref 38), some (.int v1), some (.int v2), some (.int v3), some (.int t2.1), some (.int (t2.2 13 ((v3 * 4) + t2.1).toNatClampNeg)), none, none, none], [.int (t2.2 13 ((v3 * 4) + t2.1).toNatClampNeg), .ref 4], (SH, t2.2, J)) rfl ?_
        obtain ⟨hc6, h⟩ := zbifo h
        refine zr_one (bif zin (t2.2 13 ((v3 * 4) + t2.1).toNatClampNeg) 12 then zN 63 [some (.ref 38), some (.int v1), some (.int v2), some (.int v3), some (.int t2.1), some (.int (t2.2 13 ((v3 * 4) + t2.1).toNatClampNeg)), none, none, none] [.int (t2.2 4 (t2.2 13 ((v3 * 4) + t2.1).toNatClampNeg).toNatClampNeg)] (SH, t2.2, J) else none) rfl (zR_bif hc6 (zR_go ?_))
        refine zr_steps 1 (64, [some (.ref 38), some (.int v1), some (.int v2), some (.int v3), some (.int t2.1), some (.int (t2.2 13 ((v3 * 4) + t2.1).toNatClampNeg)), none, none, none], [.int v3, .int (t2.2 4 (t2.2 13 ((v3 * 4) + t2.1).toNatClampNeg).toNatClampNeg)], (SH, t2.2, J)) rfl ?_
        refine zr_one (if (t2.2 4 (t2.2 13 ((v3 * 4) + t2.1).toNatClampNeg).toNatClampNeg) = v3 then zN 67 [some (.ref 38), some (.int v1), some (.int v2), some (.int v3), some (.int t2.1), some (.int (t2.2 13 ((v3 * 4) + t2.1).toNatClampNeg)), none, none, none] [] (SH, t2.2, J) else zN 74 [some (.ref 38), some (.int v1), some (.int v2), some (.int v3), some (.int t2.1), some (.int (t2.2 13 ((v3 * 4) + t2.1).toNatClampNeg)), none, none, none] [] (SH, t2.2, J)) rfl (zR_if (fun hc33 => zR_go ?_) (fun hc33 => zR_go ?_))
        · rw [if_pos hc33] at h
          refine zr_steps 12 (92, [some (.ref 38), some (.int v1), some (.int v2), some (.int v3), some (.int t2.1), some (.int (t2.2 13 ((v3 * 4) + t2.1).toNatClampNeg)), some (.int (2 * (t2.2 13 ((v3 * 4) + t2.1).toNatClampNeg))), none, none], [.int ((v3 * 8) + v2), .ref 42], (SH, t2.2, J)) rfl ?_
          obtain ⟨hc7, h⟩ := zbifo h
          refine zr_one (bif zin ((v3 * 8) + v2) 32 then zN 93 [some (.ref 38), some (.int v1), some (.int v2), some (.int v3), some (.int t2.1), some (.int (t2.2 13 ((v3 * 4) + t2.1).toNatClampNeg)), some (.int (2 * (t2.2 13 ((v3 * 4) + t2.1).toNatClampNeg))), none, none] [.int (t2.2 42 ((v3 * 8) + v2).toNatClampNeg)] (SH, t2.2, J) else none) rfl (zR_bif hc7 (zR_go ?_))
          refine zr_steps 3 (99, [some (.ref 38), some (.int v1), some (.int v2), some (.int v3), some (.int t2.1), some (.int (t2.2 13 ((v3 * 4) + t2.1).toNatClampNeg)), some (.int (2 * (t2.2 13 ((v3 * 4) + t2.1).toNatClampNeg))), none, none], [.int (2 * (t2.2 13 ((v3 * 4) + t2.1).toNatClampNeg)), .ref 49, .int (t2.2 42 ((v3 * 8) + v2).toNatClampNeg)], (SH, t2.2, J)) rfl ?_
          obtain ⟨hc8, h⟩ := zbifo h
          refine zr_one (bif zin (2 * (t2.2 13 ((v3 * 4) + t2.1).toNatClampNeg)) 24 then zN 100 [some (.ref 38), some (.int v1), some (.int v2), some (.int v3), some (.int t2.1), some (.int (t2.2 13 ((v3 * 4) + t2.1).toNatClampNeg)), some (.int (2 * (t2.2 13 ((v3 * 4) + t2.1).toNatClampNeg))), none, none] [.int (t2.2 49 (2 * (t2.2 13 ((v3 * 4) + t2.1).toNatClampNeg)).toNatClampNeg), .int (t2.2 42 ((v3 * 8) + v2).toNatClampNeg)] (SH, t2.2, J) else none) rfl (zR_bif hc8 (zR_go ?_))
          refine zr_steps 6 (112, [some (.ref 38), some (.int v1), some (.int v2), some (.int v3), some (.int t2.1), some (.int (t2.2 13 ((v3 * 4) + t2.1).toNatClampNeg)), some (.int (2 * (t2.2 13 ((v3 * 4) + t2.1).toNatClampNeg))), some (.int (zmin (t2.2 42 ((v3 * 8) + v2).toNatClampNeg) (t2.2 49 (2 * (t2.2 13 ((v3 * 4) + t2.1).toNatClampNeg)).toNatClampNeg))), none], [.int (2 * (t2.2 13 ((v3 * 4) + t2.1).toNatClampNeg)), .ref 49, .int (2 * (t2.2 13 ((v3 * 4) + t2.1).toNatClampNeg)), .ref 49], (SH, t2.2, J)) rfl ?_
          obtain ⟨hc9, h⟩ := zbifo h
          refine zr_one (bif zin (2 * (t2.2 13 ((v3 * 4) + t2.1).toNatClampNeg)) 24 then zN 113 [some (.ref 38), some (.int v1), some (.int v2), some (.int v3), some (.int t2.1), some (.int (t2.2 13 ((v3 * 4) + t2.1).toNatClampNeg)), some (.int (2 * (t2.2 13 ((v3 * 4) + t2.1).toNatClampNeg))), some (.int (zmin (t2.2 42 ((v3 * 8) + v2).toNatClampNeg) (t2.2 49 (2 * (t2.2 13 ((v3 * 4) + t2.1).toNatClampNeg)).toNatClampNeg))), none] [.int (t2.2 49 (2 * (t2.2 13 ((v3 * 4) + t2.1).toNatClampNeg)).toNatClampNeg), .int (2 * (t2.2 13 ((v3 * 4) + t2.1).toNatClampNeg)), .ref 49] (SH, t2.2, J) else none) rfl (zR_bif hc9 (zR_go ?_))
          refine zr_steps 2 (116, [some (.ref 38), some (.int v1), some (.int v2), some (.int v3), some (.int t2.1), some (.int (t2.2 13 ((v3 * 4) + t2.1).toNatClampNeg)), some (.int (2 * (t2.2 13 ((v3 * 4) + t2.1).toNatClampNeg))), some (.int (zmin (t2.2 42 ((v3 * 8) + v2).toNatClampNeg) (t2.2 49 (2 * (t2.2 13 ((v3 * 4) + t2.1).toNatClampNeg)).toNatClampNeg))), none], [.int ((t2.2 49 (2 * (t2.2 13 ((v3 * 4) + t2.1).toNatClampNeg)).toNatClampNeg) - (zmin (t2.2 42 ((v3 * 8) + v2).toNatClampNeg) (t2.2 49 (2 * (t2.2 13 ((v3 * 4) + t2.1).toNatClampNeg)).toNatClampNeg))), .int (2 * (t2.2 13 ((v3 * 4) + t2.1).toNatClampNeg)), .ref 49], (SH, t2.2, J)) rfl ?_
          obtain ⟨hc10, h⟩ := zbifo h
          refine zr_one (bif zin (2 * (t2.2 13 ((v3 * 4) + t2.1).toNatClampNeg)) 24 then zN 117 [some (.ref 38), some (.int v1), some (.int v2), some (.int v3), some (.int t2.1), some (.int (t2.2 13 ((v3 * 4) + t2.1).toNatClampNeg)), some (.int (2 * (t2.2 13 ((v3 * 4) + t2.1).toNatClampNeg))), some (.int (zmin (t2.2 42 ((v3 * 8) + v2).toNatClampNeg) (t2.2 49 (2 * (t2.2 13 ((v3 * 4) + t2.1).toNatClampNeg)).toNatClampNeg))), none] [] (SH, (zu t2.2 49 (2 * (t2.2 13 ((v3 * 4) + t2.1).toNatClampNeg)).toNatClampNeg ((t2.2 49 (2 * (t2.2 13 ((v3 * 4) + t2.1).toNatClampNeg)).toNatClampNeg) - (zmin (t2.2 42 ((v3 * 8) + v2).toNatClampNeg) (t2.2 49 (2 * (t2.2 13 ((v3 * 4) + t2.1).toNatClampNeg)).toNatClampNeg)))), J) else none) rfl (zR_bif hc10 (zR_go ?_))
          refine zr_steps 8 (128, [some (.ref 38), some (.int v1), some (.int v2), some (.int v3), some (.int t2.1), some (.int (t2.2 13 ((v3 * 4) + t2.1).toNatClampNeg)), some (.int (2 * (t2.2 13 ((v3 * 4) + t2.1).toNatClampNeg))), some (.int (zmin (t2.2 42 ((v3 * 8) + v2).toNatClampNeg) (t2.2 49 (2 * (t2.2 13 ((v3 * 4) + t2.1).toNatClampNeg)).toNatClampNeg))), none], [.int ((v3 * 8) + v2), .ref 42, .int ((v3 * 8) + v2), .ref 42], (SH, (zu t2.2 49 (2 * (t2.2 13 ((v3 * 4) + t2.1).toNatClampNeg)).toNatClampNeg ((t2.2 49 (2 * (t2.2 13 ((v3 * 4) + t2.1).toNatClampNeg)).toNatClampNeg) - (zmin (t2.2 42 ((v3 * 8) + v2).toNatClampNeg) (t2.2 49 (2 * (t2.2 13 ((v3 * 4) + t2.1).toNatClampNeg)).toNatClampNeg)))), J)) rfl ?_
          obtain ⟨hc11, h⟩ := zbifo h
          refine zr_one (bif zin ((v3 * 8) + v2) 32 then zN 129 [some (.ref 38), some (.int v1), some (.int v2), some (.int v3), some (.int t2.1), some (.int (t2.2 13 ((v3 * 4) + t2.1).toNatClampNeg)), some (.int (2 * (t2.2 13 ((v3 * 4) + t2.1).toNatClampNeg))), some (.int (zmin (t2.2 42 ((v3 * 8) + v2).toNatClampNeg) (t2.2 49 (2 * (t2.2 13 ((v3 * 4) + t2.1).toNatClampNeg)).toNatClampNeg))), none] [.int (t2.2 42 ((v3 * 8) + v2).toNatClampNeg), .int ((v3 * 8) + v2), .ref 42] (SH, (zu t2.2 49 (2 * (t2.2 13 ((v3 * 4) + t2.1).toNatClampNeg)).toNatClampNeg ((t2.2 49 (2 * (t2.2 13 ((v3 * 4) + t2.1).toNatClampNeg)).toNatClampNeg) - (zmin (t2.2 42 ((v3 * 8) + v2).toNatClampNeg) (t2.2 49 (2 * (t2.2 13 ((v3 * 4) + t2.1).toNatClampNeg)).toNatClampNeg)))), J) else none) rfl (zR_bif hc11 (zR_go ?_))
          refine zr_steps 2 (132, [some (.ref 38), some (.int v1), some (.int v2), some (.int v3), some (.int t2.1), some (.int (t2.2 13 ((v3 * 4) + t2.1).toNatClampNeg)), some (.int (2 * (t2.2 13 ((v3 * 4) + t2.1).toNatClampNeg))), some (.int (zmin (t2.2 42 ((v3 * 8) + v2).toNatClampNeg) (t2.2 49 (2 * (t2.2 13 ((v3 * 4) + t2.1).toNatClampNeg)).toNatClampNeg))), none], [.int ((t2.2 42 ((v3 * 8) + v2).toNatClampNeg) - (zmin (t2.2 42 ((v3 * 8) + v2).toNatClampNeg) (t2.2 49 (2 * (t2.2 13 ((v3 * 4) + t2.1).toNatClampNeg)).toNatClampNeg))), .int ((v3 * 8) + v2), .ref 42], (SH, (zu t2.2 49 (2 * (t2.2 13 ((v3 * 4) + t2.1).toNatClampNeg)).toNatClampNeg ((t2.2 49 (2 * (t2.2 13 ((v3 * 4) + t2.1).toNatClampNeg)).toNatClampNeg) - (zmin (t2.2 42 ((v3 * 8) + v2).toNatClampNeg) (t2.2 49 (2 * (t2.2 13 ((v3 * 4) + t2.1).toNatClampNeg)).toNatClampNeg)))), J)) rfl ?_
          obtain ⟨hc12, h⟩ := zbifo h
          refine zr_one (bif zin ((v3 * 8) + v2) 32 then zN 133 [some (.ref 38), some (.int v1), some (.int v2), some (.int v3), some (.int t2.1), some (.int (t2.2 13 ((v3 * 4) + t2.1).toNatClampNeg)), some (.int (2 * (t2.2 13 ((v3 * 4) + t2.1).toNatClampNeg))), some (.int (zmin (t2.2 42 ((v3 * 8) + v2).toNatClampNeg) (t2.2 49 (2 * (t2.2 13 ((v3 * 4) + t2.1).toNatClampNeg)).toNatClampNeg))), none] [] (SH, (zu (zu t2.2 49 (2 * (t2.2 13 ((v3 * 4) + t2.1).toNatClampNeg)).toNatClampNeg ((t2.2 49 (2 * (t2.2 13 ((v3 * 4) + t2.1).toNatClampNeg)).toNatClampNeg) - (zmin (t2.2 42 ((v3 * 8) + v2).toNatClampNeg) (t2.2 49 (2 * (t2.2 13 ((v3 * 4) + t2.1).toNatClampNeg)).toNatClampNeg)))) 42 ((v3 * 8) + v2).toNatClampNeg ((t2.2 42 ((v3 * 8) + v2).toNatClampNeg) - (zmin (t2.2 42 ((v3 * 8) + v2).toNatClampNeg) (t2.2 49 (2 * (t2.2 13 ((v3 * 4) + t2.1).toNatClampNeg)).toNatClampNeg)))), J) else none) rfl (zR_bif hc12 (zR_go ?_))
          refine zr_steps 4 (139, [some (.ref 38), some (.int v1), some (.int v2), some (.int v3), some (.int t2.1), some (.int (t2.2 13 ((v3 * 4) + t2.1).toNatClampNeg)), some (.int (2 * (t2.2 13 ((v3 * 4) + t2.1).toNatClampNeg))), some (.int (zmin (t2.2 42 ((v3 * 8) + v2).toNatClampNeg) (t2.2 49 (2 * (t2.2 13 ((v3 * 4) + t2.1).toNatClampNeg)).toNatClampNeg))), none], [.int v3, .ref 45, .int v3, .ref 45], (SH, (zu (zu t2.2 49 (2 * (t2.2 13 ((v3 * 4) + t2.1).toNatClampNeg)).toNatClampNeg ((t2.2 49 (2 * (t2.2 13 ((v3 * 4) + t2.1).toNatClampNeg)).toNatClampNeg) - (zmin (t2.2 42 ((v3 * 8) + v2).toNatClampNeg) (t2.2 49 (2 * (t2.2 13 ((v3 * 4) + t2.1).toNatClampNeg)).toNatClampNeg)))) 42 ((v3 * 8) + v2).toNatClampNeg ((t2.2 42 ((v3 * 8) + v2).toNatClampNeg) - (zmin (t2.2 42 ((v3 * 8) + v2).toNatClampNeg) (t2.2 49 (2 * (t2.2 13 ((v3 * 4) + t2.1).toNatClampNeg)).toNatClampNeg)))), J)) rfl ?_
          obtain ⟨hc13, h⟩ := zbifo h
          refine zr_one (bif zin v3 4 then zN 140 [some (.ref 38), some (.int v1), some (.int v2), some (.int v3), some (.int t2.1), some (.int (t2.2 13 ((v3 * 4) + t2.1).toNatClampNeg)), some (.int (2 * (t2.2 13 ((v3 * 4) + t2.1).toNatClampNeg))), some (.int (zmin (t2.2 42 ((v3 * 8) + v2).toNatClampNeg) (t2.2 49 (2 * (t2.2 13 ((v3 * 4) + t2.1).toNatClampNeg)).toNatClampNeg))), none] [.int (t2.2 45 v3.toNatClampNeg), .int v3, .ref 45] (SH, (zu (zu t2.2 49 (2 * (t2.2 13 ((v3 * 4) + t2.1).toNatClampNeg)).toNatClampNeg ((t2.2 49 (2 * (t2.2 13 ((v3 * 4) + t2.1).toNatClampNeg)).toNatClampNeg) - (zmin (t2.2 42 ((v3 * 8) + v2).toNatClampNeg) (t2.2 49 (2 * (t2.2 13 ((v3 * 4) + t2.1).toNatClampNeg)).toNatClampNeg)))) 42 ((v3 * 8) + v2).toNatClampNeg ((t2.2 42 ((v3 * 8) + v2).toNatClampNeg) - (zmin (t2.2 42 ((v3 * 8) + v2).toNatClampNeg) (t2.2 49 (2 * (t2.2 13 ((v3 * 4) + t2.1).toNatClampNeg)).toNatClampNeg)))), J) else none) rfl (zR_bif hc13 (zR_go ?_))
          refine zr_steps 2 (143, [some (.ref 38), some (.int v1), some (.int v2), some (.int v3), some (.int t2.1), some (.int (t2.2 13 ((v3 * 4) + t2.1).toNatClampNeg)), some (.int (2 * (t2.2 13 ((v3 * 4) + t2.1).toNatClampNeg))), some (.int (zmin (t2.2 42 ((v3 * 8) + v2).toNatClampNeg) (t2.2 49 (2 * (t2.2 13 ((v3 * 4) + t2.1).toNatClampNeg)).toNatClampNeg))), none], [.int ((t2.2 45 v3.toNatClampNeg) - (zmin (t2.2 42 ((v3 * 8) + v2).toNatClampNeg) (t2.2 49 (2 * (t2.2 13 ((v3 * 4) + t2.1).toNatClampNeg)).toNatClampNeg))), .int v3, .ref 45], (SH, (zu (zu t2.2 49 (2 * (t2.2 13 ((v3 * 4) + t2.1).toNatClampNeg)).toNatClampNeg ((t2.2 49 (2 * (t2.2 13 ((v3 * 4) + t2.1).toNatClampNeg)).toNatClampNeg) - (zmin (t2.2 42 ((v3 * 8) + v2).toNatClampNeg) (t2.2 49 (2 * (t2.2 13 ((v3 * 4) + t2.1).toNatClampNeg)).toNatClampNeg)))) 42 ((v3 * 8) + v2).toNatClampNeg ((t2.2 42 ((v3 * 8) + v2).toNatClampNeg) - (zmin (t2.2 42 ((v3 * 8) + v2).toNatClampNeg) (t2.2 49 (2 * (t2.2 13 ((v3 * 4) + t2.1).toNatClampNeg)).toNatClampNeg)))), J)) rfl ?_
          obtain ⟨hc14, h⟩ := zbifo h
          refine zr_one (bif zin v3 4 then zN 144 [some (.ref 38), some (.int v1), some (.int v2), some (.int v3), some (.int t2.1), some (.int (t2.2 13 ((v3 * 4) + t2.1).toNatClampNeg)), some (.int (2 * (t2.2 13 ((v3 * 4) + t2.1).toNatClampNeg))), some (.int (zmin (t2.2 42 ((v3 * 8) + v2).toNatClampNeg) (t2.2 49 (2 * (t2.2 13 ((v3 * 4) + t2.1).toNatClampNeg)).toNatClampNeg))), none] [] (SH, (zu (zu (zu t2.2 49 (2 * (t2.2 13 ((v3 * 4) + t2.1).toNatClampNeg)).toNatClampNeg ((t2.2 49 (2 * (t2.2 13 ((v3 * 4) + t2.1).toNatClampNeg)).toNatClampNeg) - (zmin (t2.2 42 ((v3 * 8) + v2).toNatClampNeg) (t2.2 49 (2 * (t2.2 13 ((v3 * 4) + t2.1).toNatClampNeg)).toNatClampNeg)))) 42 ((v3 * 8) + v2).toNatClampNeg ((t2.2 42 ((v3 * 8) + v2).toNatClampNeg) - (zmin (t2.2 42 ((v3 * 8) + v2).toNatClampNeg) (t2.2 49 (2 * (t2.2 13 ((v3 * 4) + t2.1).toNatClampNeg)).toNatClampNeg)))) 45 v3.toNatClampNeg ((t2.2 45 v3.toNatClampNeg) - (zmin (t2.2 42 ((v3 * 8) + v2).toNatClampNeg) (t2.2 49 (2 * (t2.2 13 ((v3 * 4) + t2.1).toNatClampNeg)).toNatClampNeg)))), J) else none) rfl (zR_bif hc14 (zR_go ?_))
          refine zr_steps 5 (154, [some (.ref 38), some (.int v1), some (.int v2), some (.int v3), some (.int t2.1), some (.int (t2.2 13 ((v3 * 4) + t2.1).toNatClampNeg)), some (.int (2 * (t2.2 13 ((v3 * 4) + t2.1).toNatClampNeg))), some (.int (zmin (t2.2 42 ((v3 * 8) + v2).toNatClampNeg) (t2.2 49 (2 * (t2.2 13 ((v3 * 4) + t2.1).toNatClampNeg)).toNatClampNeg))), none], [.int (t2.2 13 ((v3 * 4) + t2.1).toNatClampNeg), .ref 6, .int v1], (SH, (zu (zu (zu t2.2 49 (2 * (t2.2 13 ((v3 * 4) + t2.1).toNatClampNeg)).toNatClampNeg ((t2.2 49 (2 * (t2.2 13 ((v3 * 4) + t2.1).toNatClampNeg)).toNatClampNeg) - (zmin (t2.2 42 ((v3 * 8) + v2).toNatClampNeg) (t2.2 49 (2 * (t2.2 13 ((v3 * 4) + t2.1).toNatClampNeg)).toNatClampNeg)))) 42 ((v3 * 8) + v2).toNatClampNeg ((t2.2 42 ((v3 * 8) + v2).toNatClampNeg) - (zmin (t2.2 42 ((v3 * 8) + v2).toNatClampNeg) (t2.2 49 (2 * (t2.2 13 ((v3 * 4) + t2.1).toNatClampNeg)).toNatClampNeg)))) 45 v3.toNatClampNeg ((t2.2 45 v3.toNatClampNeg) - (zmin (t2.2 42 ((v3 * 8) + v2).toNatClampNeg) (t2.2 49 (2 * (t2.2 13 ((v3 * 4) + t2.1).toNatClampNeg)).toNatClampNeg)))), J)) rfl ?_
          obtain ⟨hc15, h⟩ := zbifo h
          refine zr_one (bif zin (t2.2 13 ((v3 * 4) + t2.1).toNatClampNeg) 12 then zN 155 [some (.ref 38), some (.int v1), some (.int v2), some (.int v3), some (.int t2.1), some (.int (t2.2 13 ((v3 * 4) + t2.1).toNatClampNeg)), some (.int (2 * (t2.2 13 ((v3 * 4) + t2.1).toNatClampNeg))), some (.int (zmin (t2.2 42 ((v3 * 8) + v2).toNatClampNeg) (t2.2 49 (2 * (t2.2 13 ((v3 * 4) + t2.1).toNatClampNeg)).toNatClampNeg))), none] [.int (t2.2 6 (t2.2 13 ((v3 * 4) + t2.1).toNatClampNeg).toNatClampNeg), .int v1] (SH, (zu (zu (zu t2.2 49 (2 * (t2.2 13 ((v3 * 4) + t2.1).toNatClampNeg)).toNatClampNeg ((t2.2 49 (2 * (t2.2 13 ((v3 * 4) + t2.1).toNatClampNeg)).toNatClampNeg) - (zmin (t2.2 42 ((v3 * 8) + v2).toNatClampNeg) (t2.2 49 (2 * (t2.2 13 ((v3 * 4) + t2.1).toNatClampNeg)).toNatClampNeg)))) 42 ((v3 * 8) + v2).toNatClampNeg ((t2.2 42 ((v3 * 8) + v2).toNatClampNeg) - (zmin (t2.2 42 ((v3 * 8) + v2).toNatClampNeg) (t2.2 49 (2 * (t2.2 13 ((v3 * 4) + t2.1).toNatClampNeg)).toNatClampNeg)))) 45 v3.toNatClampNeg ((t2.2 45 v3.toNatClampNeg) - (zmin (t2.2 42 ((v3 * 8) + v2).toNatClampNeg) (t2.2 49 (2 * (t2.2 13 ((v3 * 4) + t2.1).toNatClampNeg)).toNatClampNeg)))), J) else none) rfl (zR_bif hc15 (zR_go ?_))
          refine zr_steps 4 (163, [some (.ref 38), some (.int v1), some (.int v2), some (.int v3), some (.int t2.1), some (.int (t2.2 13 ((v3 * 4) + t2.1).toNatClampNeg)), some (.int (2 * (t2.2 13 ((v3 * 4) + t2.1).toNatClampNeg))), some (.int (zmin (t2.2 42 ((v3 * 8) + v2).toNatClampNeg) (t2.2 49 (2 * (t2.2 13 ((v3 * 4) + t2.1).toNatClampNeg)).toNatClampNeg))), none], [.int v2, .ref 11, .int (t2.2 6 (t2.2 13 ((v3 * 4) + t2.1).toNatClampNeg).toNatClampNeg), .int v1], (SH, (zu (zu (zu t2.2 49 (2 * (t2.2 13 ((v3 * 4) + t2.1).toNatClampNeg)).toNatClampNeg ((t2.2 49 (2 * (t2.2 13 ((v3 * 4) + t2.1).toNatClampNeg)).toNatClampNeg) - (zmin (t2.2 42 ((v3 * 8) + v2).toNatClampNeg) (t2.2 49 (2 * (t2.2 13 ((v3 * 4) + t2.1).toNatClampNeg)).toNatClampNeg)))) 42 ((v3 * 8) + v2).toNatClampNeg ((t2.2 42 ((v3 * 8) + v2).toNatClampNeg) - (zmin (t2.2 42 ((v3 * 8) + v2).toNatClampNeg) (t2.2 49 (2 * (t2.2 13 ((v3 * 4) + t2.1).toNatClampNeg)).toNatClampNeg)))) 45 v3.toNatClampNeg ((t2.2 45 v3.toNatClampNeg) - (zmin (t2.2 42 ((v3 * 8) + v2).toNatClampNeg) (t2.2 49 (2 * (t2.2 13 ((v3 * 4) + t2.1).toNatClampNeg)).toNatClampNeg)))), J)) rfl ?_
          obtain ⟨hc16, h⟩ := zbifo h
          refine zr_one (bif zin v2 8 then zN 164 [some (.ref 38), some (.int v1), some (.int v2), some (.int v3), some (.int t2.1), some (.int (t2.2 13 ((v3 * 4) + t2.1).toNatClampNeg)), some (.int (2 * (t2.2 13 ((v3 * 4) + t2.1).toNatClampNeg))), some (.int (zmin (t2.2 42 ((v3 * 8) + v2).toNatClampNeg) (t2.2 49 (2 * (t2.2 13 ((v3 * 4) + t2.1).toNatClampNeg)).toNatClampNeg))), none] [.int (t2.2 11 v2.toNatClampNeg), .int (t2.2 6 (t2.2 13 ((v3 * 4) + t2.1).toNatClampNeg).toNatClampNeg), .int v1] (SH, (zu (zu (zu t2.2 49 (2 * (t2.2 13 ((v3 * 4) + t2.1).toNatClampNeg)).toNatClampNeg ((t2.2 49 (2 * (t2.2 13 ((v3 * 4) + t2.1).toNatClampNeg)).toNatClampNeg) - (zmin (t2.2 42 ((v3 * 8) + v2).toNatClampNeg) (t2.2 49 (2 * (t2.2 13 ((v3 * 4) + t2.1).toNatClampNeg)).toNatClampNeg)))) 42 ((v3 * 8) + v2).toNatClampNeg ((t2.2 42 ((v3 * 8) + v2).toNatClampNeg) - (zmin (t2.2 42 ((v3 * 8) + v2).toNatClampNeg) (t2.2 49 (2 * (t2.2 13 ((v3 * 4) + t2.1).toNatClampNeg)).toNatClampNeg)))) 45 v3.toNatClampNeg ((t2.2 45 v3.toNatClampNeg) - (zmin (t2.2 42 ((v3 * 8) + v2).toNatClampNeg) (t2.2 49 (2 * (t2.2 13 ((v3 * 4) + t2.1).toNatClampNeg)).toNatClampNeg)))), J) else none) rfl (zR_bif hc16 (zR_go ?_))
          refine zr_steps 7 (177, [some (.ref 38), some (.int v1), some (.int v2), some (.int v3), some (.int t2.1), some (.int (t2.2 13 ((v3 * 4) + t2.1).toNatClampNeg)), some (.int (2 * (t2.2 13 ((v3 * 4) + t2.1).toNatClampNeg))), some (.int (zmin (t2.2 42 ((v3 * 8) + v2).toNatClampNeg) (t2.2 49 (2 * (t2.2 13 ((v3 * 4) + t2.1).toNatClampNeg)).toNatClampNeg))), some (.int (v1 + ((t2.2 6 (t2.2 13 ((v3 * 4) + t2.1).toNatClampNeg).toNatClampNeg) * (t2.2 11 v2.toNatClampNeg))))], [.int (t2.2 39 0), .int (v1 + ((t2.2 6 (t2.2 13 ((v3 * 4) + t2.1).toNatClampNeg).toNatClampNeg) * (t2.2 11 v2.toNatClampNeg)))], (SH, (zu (zu (zu t2.2 49 (2 * (t2.2 13 ((v3 * 4) + t2.1).toNatClampNeg)).toNatClampNeg ((t2.2 49 (2 * (t2.2 13 ((v3 * 4) + t2.1).toNatClampNeg)).toNatClampNeg) - (zmin (t2.2 42 ((v3 * 8) + v2).toNatClampNeg) (t2.2 49 (2 * (t2.2 13 ((v3 * 4) + t2.1).toNatClampNeg)).toNatClampNeg)))) 42 ((v3 * 8) + v2).toNatClampNeg ((t2.2 42 ((v3 * 8) + v2).toNatClampNeg) - (zmin (t2.2 42 ((v3 * 8) + v2).toNatClampNeg) (t2.2 49 (2 * (t2.2 13 ((v3 * 4) + t2.1).toNatClampNeg)).toNatClampNeg)))) 45 v3.toNatClampNeg ((t2.2 45 v3.toNatClampNeg) - (zmin (t2.2 42 ((v3 * 8) + v2).toNatClampNeg) (t2.2 49 (2 * (t2.2 13 ((v3 * 4) + t2.1).toNatClampNeg)).toNatClampNeg)))), J)) rfl ?_
          refine zr_one (if (t2.2 39 0) < (v1 + ((t2.2 6 (t2.2 13 ((v3 * 4) + t2.1).toNatClampNeg).toNatClampNeg) * (t2.2 11 v2.toNatClampNeg))) then zN 203 [some (.ref 38), some (.int v1), some (.int v2), some (.int v3), some (.int t2.1), some (.int (t2.2 13 ((v3 * 4) + t2.1).toNatClampNeg)), some (.int (2 * (t2.2 13 ((v3 * 4) + t2.1).toNatClampNeg))), some (.int (zmin (t2.2 42 ((v3 * 8) + v2).toNatClampNeg) (t2.2 49 (2 * (t2.2 13 ((v3 * 4) + t2.1).toNatClampNeg)).toNatClampNeg))), some (.int (v1 + ((t2.2 6 (t2.2 13 ((v3 * 4) + t2.1).toNatClampNeg).toNatClampNeg) * (t2.2 11 v2.toNatClampNeg))))] [] (SH, (zu (zu (zu t2.2 49 (2 * (t2.2 13 ((v3 * 4) + t2.1).toNatClampNeg)).toNatClampNeg ((t2.2 49 (2 * (t2.2 13 ((v3 * 4) + t2.1).toNatClampNeg)).toNatClampNeg) - (zmin (t2.2 42 ((v3 * 8) + v2).toNatClampNeg) (t2.2 49 (2 * (t2.2 13 ((v3 * 4) + t2.1).toNatClampNeg)).toNatClampNeg)))) 42 ((v3 * 8) + v2).toNatClampNeg ((t2.2 42 ((v3 * 8) + v2).toNatClampNeg) - (zmin (t2.2 42 ((v3 * 8) + v2).toNatClampNeg) (t2.2 49 (2 * (t2.2 13 ((v3 * 4) + t2.1).toNatClampNeg)).toNatClampNeg)))) 45 v3.toNatClampNeg ((t2.2 45 v3.toNatClampNeg) - (zmin (t2.2 42 ((v3 * 8) + v2).toNatClampNeg) (t2.2 49 (2 * (t2.2 13 ((v3 * 4) + t2.1).toNatClampNeg)).toNatClampNeg)))), J) else zN 180 [some (.ref 38), some (.int v1), some (.int v2), some (.int v3), some (.int t2.1), some (.int (t2.2 13 ((v3 * 4) + t2.1).toNatClampNeg)), some (.int (2 * (t2.2 13 ((v3 * 4) + t2.1).toNatClampNeg))), some (.int (zmin (t2.2 42 ((v3 * 8) + v2).toNatClampNeg) (t2.2 49 (2 * (t2.2 13 ((v3 * 4) + t2.1).toNatClampNeg)).toNatClampNeg))), some (.int (v1 + ((t2.2 6 (t2.2 13 ((v3 * 4) + t2.1).toNatClampNeg).toNatClampNeg) * (t2.2 11 v2.toNatClampNeg))))] [] (SH, (zu (zu (zu t2.2 49 (2 * (t2.2 13 ((v3 * 4) + t2.1).toNatClampNeg)).toNatClampNeg ((t2.2 49 (2 * (t2.2 13 ((v3 * 4) + t2.1).toNatClampNeg)).toNatClampNeg) - (zmin (t2.2 42 ((v3 * 8) + v2).toNatClampNeg) (t2.2 49 (2 * (t2.2 13 ((v3 * 4) + t2.1).toNatClampNeg)).toNatClampNeg)))) 42 ((v3 * 8) + v2).toNatClampNeg ((t2.2 42 ((v3 * 8) + v2).toNatClampNeg) - (zmin (t2.2 42 ((v3 * 8) + v2).toNatClampNeg) (t2.2 49 (2 * (t2.2 13 ((v3 * 4) + t2.1).toNatClampNeg)).toNatClampNeg)))) 45 v3.toNatClampNeg ((t2.2 45 v3.toNatClampNeg) - (zmin (t2.2 42 ((v3 * 8) + v2).toNatClampNeg) (t2.2 49 (2 * (t2.2 13 ((v3 * 4) + t2.1).toNatClampNeg)).toNatClampNeg)))), J)) rfl (zR_if (fun hc19 => zR_go ?_) (fun hc19 => zR_go ?_))
          · rw [if_pos hc19] at h
            have he := Option.some.inj h
            subst he
            exact zr_one (some (.inr (.inr none))) rfl (zR_ret rfl rfl)
          · rw [if_neg hc19] at h
            refine zr_steps 12 (198, [some (.ref 38), some (.int v1), some (.int v2), some (.int v3), some (.int t2.1), some (.int (t2.2 13 ((v3 * 4) + t2.1).toNatClampNeg)), some (.int (2 * (t2.2 13 ((v3 * 4) + t2.1).toNatClampNeg))), some (.int (zmin (t2.2 42 ((v3 * 8) + v2).toNatClampNeg) (t2.2 49 (2 * (t2.2 13 ((v3 * 4) + t2.1).toNatClampNeg)).toNatClampNeg))), some (.int (v1 + ((t2.2 6 (t2.2 13 ((v3 * 4) + t2.1).toNatClampNeg).toNatClampNeg) * (t2.2 11 v2.toNatClampNeg))))], [.int ((((v1 + ((t2.2 6 (t2.2 13 ((v3 * 4) + t2.1).toNatClampNeg).toNatClampNeg) * (t2.2 11 v2.toNatClampNeg))) * 32) + (t2.1 * 8)) + v2), .ref 46, .int ((((v1 + ((t2.2 6 (t2.2 13 ((v3 * 4) + t2.1).toNatClampNeg).toNatClampNeg) * (t2.2 11 v2.toNatClampNeg))) * 32) + (t2.1 * 8)) + v2), .ref 46], (SH, (zu (zu (zu t2.2 49 (2 * (t2.2 13 ((v3 * 4) + t2.1).toNatClampNeg)).toNatClampNeg ((t2.2 49 (2 * (t2.2 13 ((v3 * 4) + t2.1).toNatClampNeg)).toNatClampNeg) - (zmin (t2.2 42 ((v3 * 8) + v2).toNatClampNeg) (t2.2 49 (2 * (t2.2 13 ((v3 * 4) + t2.1).toNatClampNeg)).toNatClampNeg)))) 42 ((v3 * 8) + v2).toNatClampNeg ((t2.2 42 ((v3 * 8) + v2).toNatClampNeg) - (zmin (t2.2 42 ((v3 * 8) + v2).toNatClampNeg) (t2.2 49 (2 * (t2.2 13 ((v3 * 4) + t2.1).toNatClampNeg)).toNatClampNeg)))) 45 v3.toNatClampNeg ((t2.2 45 v3.toNatClampNeg) - (zmin (t2.2 42 ((v3 * 8) + v2).toNatClampNeg) (t2.2 49 (2 * (t2.2 13 ((v3 * 4) + t2.1).toNatClampNeg)).toNatClampNeg)))), J)) rfl ?_
            obtain ⟨hc17, h⟩ := zbifo h
            refine zr_one (bif zin ((((v1 + ((t2.2 6 (t2.2 13 ((v3 * 4) + t2.1).toNatClampNeg).toNatClampNeg) * (t2.2 11 v2.toNatClampNeg))) * 32) + (t2.1 * 8)) + v2) 1952 then zN 199 [some (.ref 38), some (.int v1), some (.int v2), some (.int v3), some (.int t2.1), some (.int (t2.2 13 ((v3 * 4) + t2.1).toNatClampNeg)), some (.int (2 * (t2.2 13 ((v3 * 4) + t2.1).toNatClampNeg))), some (.int (zmin (t2.2 42 ((v3 * 8) + v2).toNatClampNeg) (t2.2 49 (2 * (t2.2 13 ((v3 * 4) + t2.1).toNatClampNeg)).toNatClampNeg))), some (.int (v1 + ((t2.2 6 (t2.2 13 ((v3 * 4) + t2.1).toNatClampNeg).toNatClampNeg) * (t2.2 11 v2.toNatClampNeg))))] [.int (t2.2 46 ((((v1 + ((t2.2 6 (t2.2 13 ((v3 * 4) + t2.1).toNatClampNeg).toNatClampNeg) * (t2.2 11 v2.toNatClampNeg))) * 32) + (t2.1 * 8)) + v2).toNatClampNeg), .int ((((v1 + ((t2.2 6 (t2.2 13 ((v3 * 4) + t2.1).toNatClampNeg).toNatClampNeg) * (t2.2 11 v2.toNatClampNeg))) * 32) + (t2.1 * 8)) + v2), .ref 46] (SH, (zu (zu (zu t2.2 49 (2 * (t2.2 13 ((v3 * 4) + t2.1).toNatClampNeg)).toNatClampNeg ((t2.2 49 (2 * (t2.2 13 ((v3 * 4) + t2.1).toNatClampNeg)).toNatClampNeg) - (zmin (t2.2 42 ((v3 * 8) + v2).toNatClampNeg) (t2.2 49 (2 * (t2.2 13 ((v3 * 4) + t2.1).toNatClampNeg)).toNatClampNeg)))) 42 ((v3 * 8) + v2).toNatClampNeg ((t2.2 42 ((v3 * 8) + v2).toNatClampNeg) - (zmin (t2.2 42 ((v3 * 8) + v2).toNatClampNeg) (t2.2 49 (2 * (t2.2 13 ((v3 * 4) + t2.1).toNatClampNeg)).toNatClampNeg)))) 45 v3.toNatClampNeg ((t2.2 45 v3.toNatClampNeg) - (zmin (t2.2 42 ((v3 * 8) + v2).toNatClampNeg) (t2.2 49 (2 * (t2.2 13 ((v3 * 4) + t2.1).toNatClampNeg)).toNatClampNeg)))), J) else none) rfl (zR_bif hc17 (zR_go ?_))
            refine zr_steps 2 (202, [some (.ref 38), some (.int v1), some (.int v2), some (.int v3), some (.int t2.1), some (.int (t2.2 13 ((v3 * 4) + t2.1).toNatClampNeg)), some (.int (2 * (t2.2 13 ((v3 * 4) + t2.1).toNatClampNeg))), some (.int (zmin (t2.2 42 ((v3 * 8) + v2).toNatClampNeg) (t2.2 49 (2 * (t2.2 13 ((v3 * 4) + t2.1).toNatClampNeg)).toNatClampNeg))), some (.int (v1 + ((t2.2 6 (t2.2 13 ((v3 * 4) + t2.1).toNatClampNeg).toNatClampNeg) * (t2.2 11 v2.toNatClampNeg))))], [.int ((t2.2 46 ((((v1 + ((t2.2 6 (t2.2 13 ((v3 * 4) + t2.1).toNatClampNeg).toNatClampNeg) * (t2.2 11 v2.toNatClampNeg))) * 32) + (t2.1 * 8)) + v2).toNatClampNeg) + (zmin (t2.2 42 ((v3 * 8) + v2).toNatClampNeg) (t2.2 49 (2 * (t2.2 13 ((v3 * 4) + t2.1).toNatClampNeg)).toNatClampNeg))), .int ((((v1 + ((t2.2 6 (t2.2 13 ((v3 * 4) + t2.1).toNatClampNeg).toNatClampNeg) * (t2.2 11 v2.toNatClampNeg))) * 32) + (t2.1 * 8)) + v2), .ref 46], (SH, (zu (zu (zu t2.2 49 (2 * (t2.2 13 ((v3 * 4) + t2.1).toNatClampNeg)).toNatClampNeg ((t2.2 49 (2 * (t2.2 13 ((v3 * 4) + t2.1).toNatClampNeg)).toNatClampNeg) - (zmin (t2.2 42 ((v3 * 8) + v2).toNatClampNeg) (t2.2 49 (2 * (t2.2 13 ((v3 * 4) + t2.1).toNatClampNeg)).toNatClampNeg)))) 42 ((v3 * 8) + v2).toNatClampNeg ((t2.2 42 ((v3 * 8) + v2).toNatClampNeg) - (zmin (t2.2 42 ((v3 * 8) + v2).toNatClampNeg) (t2.2 49 (2 * (t2.2 13 ((v3 * 4) + t2.1).toNatClampNeg)).toNatClampNeg)))) 45 v3.toNatClampNeg ((t2.2 45 v3.toNatClampNeg) - (zmin (t2.2 42 ((v3 * 8) + v2).toNatClampNeg) (t2.2 49 (2 * (t2.2 13 ((v3 * 4) + t2.1).toNatClampNeg)).toNatClampNeg)))), J)) rfl ?_
            obtain ⟨hc18, h⟩ := zbifo h
            refine zr_one (bif zin ((((v1 + ((t2.2 6 (t2.2 13 ((v3 * 4) + t2.1).toNatClampNeg).toNatClampNeg) * (t2.2 11 v2.toNatClampNeg))) * 32) + (t2.1 * 8)) + v2) 1952 then zN 203 [some (.ref 38), some (.int v1), some (.int v2), some (.int v3), some (.int t2.1), some (.int (t2.2 13 ((v3 * 4) + t2.1).toNatClampNeg)), some (.int (2 * (t2.2 13 ((v3 * 4) + t2.1).toNatClampNeg))), some (.int (zmin (t2.2 42 ((v3 * 8) + v2).toNatClampNeg) (t2.2 49 (2 * (t2.2 13 ((v3 * 4) + t2.1).toNatClampNeg)).toNatClampNeg))), some (.int (v1 + ((t2.2 6 (t2.2 13 ((v3 * 4) + t2.1).toNatClampNeg).toNatClampNeg) * (t2.2 11 v2.toNatClampNeg))))] [] (SH, (zu (zu (zu (zu t2.2 49 (2 * (t2.2 13 ((v3 * 4) + t2.1).toNatClampNeg)).toNatClampNeg ((t2.2 49 (2 * (t2.2 13 ((v3 * 4) + t2.1).toNatClampNeg)).toNatClampNeg) - (zmin (t2.2 42 ((v3 * 8) + v2).toNatClampNeg) (t2.2 49 (2 * (t2.2 13 ((v3 * 4) + t2.1).toNatClampNeg)).toNatClampNeg)))) 42 ((v3 * 8) + v2).toNatClampNeg ((t2.2 42 ((v3 * 8) + v2).toNatClampNeg) - (zmin (t2.2 42 ((v3 * 8) + v2).toNatClampNeg) (t2.2 49 (2 * (t2.2 13 ((v3 * 4) + t2.1).toNatClampNeg)).toNatClampNeg)))) 45 v3.toNatClampNeg ((t2.2 45 v3.toNatClampNeg) - (zmin (t2.2 42 ((v3 * 8) + v2).toNatClampNeg) (t2.2 49 (2 * (t2.2 13 ((v3 * 4) + t2.1).toNatClampNeg)).toNatClampNeg)))) 46 ((((v1 + ((t2.2 6 (t2.2 13 ((v3 * 4) + t2.1).toNatClampNeg).toNatClampNeg) * (t2.2 11 v2.toNatClampNeg))) * 32) + (t2.1 * 8)) + v2).toNatClampNeg ((t2.2 46 ((((v1 + ((t2.2 6 (t2.2 13 ((v3 * 4) + t2.1).toNatClampNeg).toNatClampNeg) * (t2.2 11 v2.toNatClampNeg))) * 32) + (t2.1 * 8)) + v2).toNatClampNeg) + (zmin (t2.2 42 ((v3 * 8) + v2).toNatClampNeg) (t2.2 49 (2 * (t2.2 13 ((v3 * 4) + t2.1).toNatClampNeg)).toNatClampNeg)))), J) else none) rfl (zR_bif hc18 (zR_go ?_))
            have he := Option.some.inj h
            subst he
            exact zr_one (some (.inr (.inr none))) rfl (zR_ret rfl rfl)
        · rw [if_neg hc33] at h
          refine zr_steps 13 (92, [some (.ref 38), some (.int v1), some (.int v2), some (.int v3), some (.int t2.1), some (.int (t2.2 13 ((v3 * 4) + t2.1).toNatClampNeg)), some (.int ((2 * (t2.2 13 ((v3 * 4) + t2.1).toNatClampNeg)) + 1)), none, none], [.int ((v3 * 8) + v2), .ref 42], (SH, t2.2, J)) rfl ?_
          obtain ⟨hc20, h⟩ := zbifo h
          refine zr_one (bif zin ((v3 * 8) + v2) 32 then zN 93 [some (.ref 38), some (.int v1), some (.int v2), some (.int v3), some (.int t2.1), some (.int (t2.2 13 ((v3 * 4) + t2.1).toNatClampNeg)), some (.int ((2 * (t2.2 13 ((v3 * 4) + t2.1).toNatClampNeg)) + 1)), none, none] [.int (t2.2 42 ((v3 * 8) + v2).toNatClampNeg)] (SH, t2.2, J) else none) rfl (zR_bif hc20 (zR_go ?_))
          refine zr_steps 3 (99, [some (.ref 38), some (.int v1), some (.int v2), some (.int v3), some (.int t2.1), some (.int (t2.2 13 ((v3 * 4) + t2.1).toNatClampNeg)), some (.int ((2 * (t2.2 13 ((v3 * 4) + t2.1).toNatClampNeg)) + 1)), none, none], [.int ((2 * (t2.2 13 ((v3 * 4) + t2.1).toNatClampNeg)) + 1), .ref 49, .int (t2.2 42 ((v3 * 8) + v2).toNatClampNeg)], (SH, t2.2, J)) rfl ?_
          obtain ⟨hc21, h⟩ := zbifo h
          refine zr_one (bif zin ((2 * (t2.2 13 ((v3 * 4) + t2.1).toNatClampNeg)) + 1) 24 then zN 100 [some (.ref 38), some (.int v1), some (.int v2), some (.int v3), some (.int t2.1), some (.int (t2.2 13 ((v3 * 4) + t2.1).toNatClampNeg)), some (.int ((2 * (t2.2 13 ((v3 * 4) + t2.1).toNatClampNeg)) + 1)), none, none] [.int (t2.2 49 ((2 * (t2.2 13 ((v3 * 4) + t2.1).toNatClampNeg)) + 1).toNatClampNeg), .int (t2.2 42 ((v3 * 8) + v2).toNatClampNeg)] (SH, t2.2, J) else none) rfl (zR_bif hc21 (zR_go ?_))
          refine zr_steps 6 (112, [some (.ref 38), some (.int v1), some (.int v2), some (.int v3), some (.int t2.1), some (.int (t2.2 13 ((v3 * 4) + t2.1).toNatClampNeg)), some (.int ((2 * (t2.2 13 ((v3 * 4) + t2.1).toNatClampNeg)) + 1)), some (.int (zmin (t2.2 42 ((v3 * 8) + v2).toNatClampNeg) (t2.2 49 ((2 * (t2.2 13 ((v3 * 4) + t2.1).toNatClampNeg)) + 1).toNatClampNeg))), none], [.int ((2 * (t2.2 13 ((v3 * 4) + t2.1).toNatClampNeg)) + 1), .ref 49, .int ((2 * (t2.2 13 ((v3 * 4) + t2.1).toNatClampNeg)) + 1), .ref 49], (SH, t2.2, J)) rfl ?_
          obtain ⟨hc22, h⟩ := zbifo h
          refine zr_one (bif zin ((2 * (t2.2 13 ((v3 * 4) + t2.1).toNatClampNeg)) + 1) 24 then zN 113 [some (.ref 38), some (.int v1), some (.int v2), some (.int v3), some (.int t2.1), some (.int (t2.2 13 ((v3 * 4) + t2.1).toNatClampNeg)), some (.int ((2 * (t2.2 13 ((v3 * 4) + t2.1).toNatClampNeg)) + 1)), some (.int (zmin (t2.2 42 ((v3 * 8) + v2).toNatClampNeg) (t2.2 49 ((2 * (t2.2 13 ((v3 * 4) + t2.1).toNatClampNeg)) + 1).toNatClampNeg))), none] [.int (t2.2 49 ((2 * (t2.2 13 ((v3 * 4) + t2.1).toNatClampNeg)) + 1).toNatClampNeg), .int ((2 * (t2.2 13 ((v3 * 4) + t2.1).toNatClampNeg)) + 1), .ref 49] (SH, t2.2, J) else none) rfl (zR_bif hc22 (zR_go ?_))
          refine zr_steps 2 (116, [some (.ref 38), some (.int v1), some (.int v2), some (.int v3), some (.int t2.1), some (.int (t2.2 13 ((v3 * 4) + t2.1).toNatClampNeg)), some (.int ((2 * (t2.2 13 ((v3 * 4) + t2.1).toNatClampNeg)) + 1)), some (.int (zmin (t2.2 42 ((v3 * 8) + v2).toNatClampNeg) (t2.2 49 ((2 * (t2.2 13 ((v3 * 4) + t2.1).toNatClampNeg)) + 1).toNatClampNeg))), none], [.int ((t2.2 49 ((2 * (t2.2 13 ((v3 * 4) + t2.1).toNatClampNeg)) + 1).toNatClampNeg) - (zmin (t2.2 42 ((v3 * 8) + v2).toNatClampNeg) (t2.2 49 ((2 * (t2.2 13 ((v3 * 4) + t2.1).toNatClampNeg)) + 1).toNatClampNeg))), .int ((2 * (t2.2 13 ((v3 * 4) + t2.1).toNatClampNeg)) + 1), .ref 49], (SH, t2.2, J)) rfl ?_
          obtain ⟨hc23, h⟩ := zbifo h
          refine zr_one (bif zin ((2 * (t2.2 13 ((v3 * 4) + t2.1).toNatClampNeg)) + 1) 24 then zN 117 [some (.ref 38), some (.int v1), some (.int v2), some (.int v3), some (.int t2.1), some (.int (t2.2 13 ((v3 * 4) + t2.1).toNatClampNeg)), some (.int ((2 * (t2.2 13 ((v3 * 4) + t2.1).toNatClampNeg)) + 1)), some (.int (zmin (t2.2 42 ((v3 * 8) + v2).toNatClampNeg) (t2.2 49 ((2 * (t2.2 13 ((v3 * 4) + t2.1).toNatClampNeg)) + 1).toNatClampNeg))), none] [] (SH, (zu t2.2 49 ((2 * (t2.2 13 ((v3 * 4) + t2.1).toNatClampNeg)) + 1).toNatClampNeg ((t2.2 49 ((2 * (t2.2 13 ((v3 * 4) + t2.1).toNatClampNeg)) + 1).toNatClampNeg) - (zmin (t2.2 42 ((v3 * 8) + v2).toNatClampNeg) (t2.2 49 ((2 * (t2.2 13 ((v3 * 4) + t2.1).toNatClampNeg)) + 1).toNatClampNeg)))), J) else none) rfl (zR_bif hc23 (zR_go ?_))
          refine zr_steps 8 (128, [some (.ref 38), some (.int v1), some (.int v2), some (.int v3), some (.int t2.1), some (.int (t2.2 13 ((v3 * 4) + t2.1).toNatClampNeg)), some (.int ((2 * (t2.2 13 ((v3 * 4) + t2.1).toNatClampNeg)) + 1)), some (.int (zmin (t2.2 42 ((v3 * 8) + v2).toNatClampNeg) (t2.2 49 ((2 * (t2.2 13 ((v3 * 4) + t2.1).toNatClampNeg)) + 1).toNatClampNeg))), none], [.int ((v3 * 8) + v2), .ref 42, .int ((v3 * 8) + v2), .ref 42], (SH, (zu t2.2 49 ((2 * (t2.2 13 ((v3 * 4) + t2.1).toNatClampNeg)) + 1).toNatClampNeg ((t2.2 49 ((2 * (t2.2 13 ((v3 * 4) + t2.1).toNatClampNeg)) + 1).toNatClampNeg) - (zmin (t2.2 42 ((v3 * 8) + v2).toNatClampNeg) (t2.2 49 ((2 * (t2.2 13 ((v3 * 4) + t2.1).toNatClampNeg)) + 1).toNatClampNeg)))), J)) rfl ?_
          obtain ⟨hc24, h⟩ := zbifo h
          refine zr_one (bif zin ((v3 * 8) + v2) 32 then zN 129 [some (.ref 38), some (.int v1), some (.int v2), some (.int v3), some (.int t2.1), some (.int (t2.2 13 ((v3 * 4) + t2.1).toNatClampNeg)), some (.int ((2 * (t2.2 13 ((v3 * 4) + t2.1).toNatClampNeg)) + 1)), some (.int (zmin (t2.2 42 ((v3 * 8) + v2).toNatClampNeg) (t2.2 49 ((2 * (t2.2 13 ((v3 * 4) + t2.1).toNatClampNeg)) + 1).toNatClampNeg))), none] [.int (t2.2 42 ((v3 * 8) + v2).toNatClampNeg), .int ((v3 * 8) + v2), .ref 42] (SH, (zu t2.2 49 ((2 * (t2.2 13 ((v3 * 4) + t2.1).toNatClampNeg)) + 1).toNatClampNeg ((t2.2 49 ((2 * (t2.2 13 ((v3 * 4) + t2.1).toNatClampNeg)) + 1).toNatClampNeg) - (zmin (t2.2 42 ((v3 * 8) + v2).toNatClampNeg) (t2.2 49 ((2 * (t2.2 13 ((v3 * 4) + t2.1).toNatClampNeg)) + 1).toNatClampNeg)))), J) else none) rfl (zR_bif hc24 (zR_go ?_))
          refine zr_steps 2 (132, [some (.ref 38), some (.int v1), some (.int v2), some (.int v3), some (.int t2.1), some (.int (t2.2 13 ((v3 * 4) + t2.1).toNatClampNeg)), some (.int ((2 * (t2.2 13 ((v3 * 4) + t2.1).toNatClampNeg)) + 1)), some (.int (zmin (t2.2 42 ((v3 * 8) + v2).toNatClampNeg) (t2.2 49 ((2 * (t2.2 13 ((v3 * 4) + t2.1).toNatClampNeg)) + 1).toNatClampNeg))), none], [.int ((t2.2 42 ((v3 * 8) + v2).toNatClampNeg) - (zmin (t2.2 42 ((v3 * 8) + v2).toNatClampNeg) (t2.2 49 ((2 * (t2.2 13 ((v3 * 4) + t2.1).toNatClampNeg)) + 1).toNatClampNeg))), .int ((v3 * 8) + v2), .ref 42], (SH, (zu t2.2 49 ((2 * (t2.2 13 ((v3 * 4) + t2.1).toNatClampNeg)) + 1).toNatClampNeg ((t2.2 49 ((2 * (t2.2 13 ((v3 * 4) + t2.1).toNatClampNeg)) + 1).toNatClampNeg) - (zmin (t2.2 42 ((v3 * 8) + v2).toNatClampNeg) (t2.2 49 ((2 * (t2.2 13 ((v3 * 4) + t2.1).toNatClampNeg)) + 1).toNatClampNeg)))), J)) rfl ?_
          obtain ⟨hc25, h⟩ := zbifo h
          refine zr_one (bif zin ((v3 * 8) + v2) 32 then zN 133 [some (.ref 38), some (.int v1), some (.int v2), some (.int v3), some (.int t2.1), some (.int (t2.2 13 ((v3 * 4) + t2.1).toNatClampNeg)), some (.int ((2 * (t2.2 13 ((v3 * 4) + t2.1).toNatClampNeg)) + 1)), some (.int (zmin (t2.2 42 ((v3 * 8) + v2).toNatClampNeg) (t2.2 49 ((2 * (t2.2 13 ((v3 * 4) + t2.1).toNatClampNeg)) + 1).toNatClampNeg))), none] [] (SH, (zu (zu t2.2 49 ((2 * (t2.2 13 ((v3 * 4) + t2.1).toNatClampNeg)) + 1).toNatClampNeg ((t2.2 49 ((2 * (t2.2 13 ((v3 * 4) + t2.1).toNatClampNeg)) + 1).toNatClampNeg) - (zmin (t2.2 42 ((v3 * 8) + v2).toNatClampNeg) (t2.2 49 ((2 * (t2.2 13 ((v3 * 4) + t2.1).toNatClampNeg)) + 1).toNatClampNeg)))) 42 ((v3 * 8) + v2).toNatClampNeg ((t2.2 42 ((v3 * 8) + v2).toNatClampNeg) - (zmin (t2.2 42 ((v3 * 8) + v2).toNatClampNeg) (t2.2 49 ((2 * (t2.2 13 ((v3 * 4) + t2.1).toNatClampNeg)) + 1).toNatClampNeg)))), J) else none) rfl (zR_bif hc25 (zR_go ?_))
          refine zr_steps 4 (139, [some (.ref 38), some (.int v1), some (.int v2), some (.int v3), some (.int t2.1), some (.int (t2.2 13 ((v3 * 4) + t2.1).toNatClampNeg)), some (.int ((2 * (t2.2 13 ((v3 * 4) + t2.1).toNatClampNeg)) + 1)), some (.int (zmin (t2.2 42 ((v3 * 8) + v2).toNatClampNeg) (t2.2 49 ((2 * (t2.2 13 ((v3 * 4) + t2.1).toNatClampNeg)) + 1).toNatClampNeg))), none], [.int v3, .ref 45, .int v3, .ref 45], (SH, (zu (zu t2.2 49 ((2 * (t2.2 13 ((v3 * 4) + t2.1).toNatClampNeg)) + 1).toNatClampNeg ((t2.2 49 ((2 * (t2.2 13 ((v3 * 4) + t2.1).toNatClampNeg)) + 1).toNatClampNeg) - (zmin (t2.2 42 ((v3 * 8) + v2).toNatClampNeg) (t2.2 49 ((2 * (t2.2 13 ((v3 * 4) + t2.1).toNatClampNeg)) + 1).toNatClampNeg)))) 42 ((v3 * 8) + v2).toNatClampNeg ((t2.2 42 ((v3 * 8) + v2).toNatClampNeg) - (zmin (t2.2 42 ((v3 * 8) + v2).toNatClampNeg) (t2.2 49 ((2 * (t2.2 13 ((v3 * 4) + t2.1).toNatClampNeg)) + 1).toNatClampNeg)))), J)) rfl ?_
          obtain ⟨hc26, h⟩ := zbifo h
          refine zr_one (bif zin v3 4 then zN 140 [some (.ref 38), some (.int v1), some (.int v2), some (.int v3), some (.int t2.1), some (.int (t2.2 13 ((v3 * 4) + t2.1).toNatClampNeg)), some (.int ((2 * (t2.2 13 ((v3 * 4) + t2.1).toNatClampNeg)) + 1)), some (.int (zmin (t2.2 42 ((v3 * 8) + v2).toNatClampNeg) (t2.2 49 ((2 * (t2.2 13 ((v3 * 4) + t2.1).toNatClampNeg)) + 1).toNatClampNeg))), none] [.int (t2.2 45 v3.toNatClampNeg), .int v3, .ref 45] (SH, (zu (zu t2.2 49 ((2 * (t2.2 13 ((v3 * 4) + t2.1).toNatClampNeg)) + 1).toNatClampNeg ((t2.2 49 ((2 * (t2.2 13 ((v3 * 4) + t2.1).toNatClampNeg)) + 1).toNatClampNeg) - (zmin (t2.2 42 ((v3 * 8) + v2).toNatClampNeg) (t2.2 49 ((2 * (t2.2 13 ((v3 * 4) + t2.1).toNatClampNeg)) + 1).toNatClampNeg)))) 42 ((v3 * 8) + v2).toNatClampNeg ((t2.2 42 ((v3 * 8) + v2).toNatClampNeg) - (zmin (t2.2 42 ((v3 * 8) + v2).toNatClampNeg) (t2.2 49 ((2 * (t2.2 13 ((v3 * 4) + t2.1).toNatClampNeg)) + 1).toNatClampNeg)))), J) else none) rfl (zR_bif hc26 (zR_go ?_))
          refine zr_steps 2 (143, [some (.ref 38), some (.int v1), some (.int v2), some (.int v3), some (.int t2.1), some (.int (t2.2 13 ((v3 * 4) + t2.1).toNatClampNeg)), some (.int ((2 * (t2.2 13 ((v3 * 4) + t2.1).toNatClampNeg)) + 1)), some (.int (zmin (t2.2 42 ((v3 * 8) + v2).toNatClampNeg) (t2.2 49 ((2 * (t2.2 13 ((v3 * 4) + t2.1).toNatClampNeg)) + 1).toNatClampNeg))), none], [.int ((t2.2 45 v3.toNatClampNeg) - (zmin (t2.2 42 ((v3 * 8) + v2).toNatClampNeg) (t2.2 49 ((2 * (t2.2 13 ((v3 * 4) + t2.1).toNatClampNeg)) + 1).toNatClampNeg))), .int v3, .ref 45], (SH, (zu (zu t2.2 49 ((2 * (t2.2 13 ((v3 * 4) + t2.1).toNatClampNeg)) + 1).toNatClampNeg ((t2.2 49 ((2 * (t2.2 13 ((v3 * 4) + t2.1).toNatClampNeg)) + 1).toNatClampNeg) - (zmin (t2.2 42 ((v3 * 8) + v2).toNatClampNeg) (t2.2 49 ((2 * (t2.2 13 ((v3 * 4) + t2.1).toNatClampNeg)) + 1).toNatClampNeg)))) 42 ((v3 * 8) + v2).toNatClampNeg ((t2.2 42 ((v3 * 8) + v2).toNatClampNeg) - (zmin (t2.2 42 ((v3 * 8) + v2).toNatClampNeg) (t2.2 49 ((2 * (t2.2 13 ((v3 * 4) + t2.1).toNatClampNeg)) + 1).toNatClampNeg)))), J)) rfl ?_
          obtain ⟨hc27, h⟩ := zbifo h
          refine zr_one (bif zin v3 4 then zN 144 [some (.ref 38), some (.int v1), some (.int v2), some (.int v3), some (.int t2.1), some (.int (t2.2 13 ((v3 * 4) + t2.1).toNatClampNeg)), some (.int ((2 * (t2.2 13 ((v3 * 4) + t2.1).toNatClampNeg)) + 1)), some (.int (zmin (t2.2 42 ((v3 * 8) + v2).toNatClampNeg) (t2.2 49 ((2 * (t2.2 13 ((v3 * 4) + t2.1).toNatClampNeg)) + 1).toNatClampNeg))), none] [] (SH, (zu (zu (zu t2.2 49 ((2 * (t2.2 13 ((v3 * 4) + t2.1).toNatClampNeg)) + 1).toNatClampNeg ((t2.2 49 ((2 * (t2.2 13 ((v3 * 4) + t2.1).toNatClampNeg)) + 1).toNatClampNeg) - (zmin (t2.2 42 ((v3 * 8) + v2).toNatClampNeg) (t2.2 49 ((2 * (t2.2 13 ((v3 * 4) + t2.1).toNatClampNeg)) + 1).toNatClampNeg)))) 42 ((v3 * 8) + v2).toNatClampNeg ((t2.2 42 ((v3 * 8) + v2).toNatClampNeg) - (zmin (t2.2 42 ((v3 * 8) + v2).toNatClampNeg) (t2.2 49 ((2 * (t2.2 13 ((v3 * 4) + t2.1).toNatClampNeg)) + 1).toNatClampNeg)))) 45 v3.toNatClampNeg ((t2.2 45 v3.toNatClampNeg) - (zmin (t2.2 42 ((v3 * 8) + v2).toNatClampNeg) (t2.2 49 ((2 * (t2.2 13 ((v3 * 4) + t2.1).toNatClampNeg)) + 1).toNatClampNeg)))), J) else none) rfl (zR_bif hc27 (zR_go ?_))
          refine zr_steps 5 (154, [some (.ref 38), some (.int v1), some (.int v2), some (.int v3), some (.int t2.1), some (.int (t2.2 13 ((v3 * 4) + t2.1).toNatClampNeg)), some (.int ((2 * (t2.2 13 ((v3 * 4) + t2.1).toNatClampNeg)) + 1)), some (.int (zmin (t2.2 42 ((v3 * 8) + v2).toNatClampNeg) (t2.2 49 ((2 * (t2.2 13 ((v3 * 4) + t2.1).toNatClampNeg)) + 1).toNatClampNeg))), none], [.int (t2.2 13 ((v3 * 4) + t2.1).toNatClampNeg), .ref 6, .int v1], (SH, (zu (zu (zu t2.2 49 ((2 * (t2.2 13 ((v3 * 4) + t2.1).toNatClampNeg)) + 1).toNatClampNeg ((t2.2 49 ((2 * (t2.2 13 ((v3 * 4) + t2.1).toNatClampNeg)) + 1).toNatClampNeg) - (zmin (t2.2 42 ((v3 * 8) + v2).toNatClampNeg) (t2.2 49 ((2 * (t2.2 13 ((v3 * 4) + t2.1).toNatClampNeg)) + 1).toNatClampNeg)))) 42 ((v3 * 8) + v2).toNatClampNeg ((t2.2 42 ((v3 * 8) + v2).toNatClampNeg) - (zmin (t2.2 42 ((v3 * 8) + v2).toNatClampNeg) (t2.2 49 ((2 * (t2.2 13 ((v3 * 4) + t2.1).toNatClampNeg)) + 1).toNatClampNeg)))) 45 v3.toNatClampNeg ((t2.2 45 v3.toNatClampNeg) - (zmin (t2.2 42 ((v3 * 8) + v2).toNatClampNeg) (t2.2 49 ((2 * (t2.2 13 ((v3 * 4) + t2.1).toNatClampNeg)) + 1).toNatClampNeg)))), J)) rfl ?_
          obtain ⟨hc28, h⟩ := zbifo h
          refine zr_one (bif zin (t2.2 13 ((v3 * 4) + t2.1).toNatClampNeg) 12 then zN 155 [some (.ref 38), some (.int v1), some (.int v2), some (.int v3), some (.int t2.1), some (.int (t2.2 13 ((v3 * 4) + t2.1).toNatClampNeg)), some (.int ((2 * (t2.2 13 ((v3 * 4) + t2.1).toNatClampNeg)) + 1)), some (.int (zmin (t2.2 42 ((v3 * 8) + v2).toNatClampNeg) (t2.2 49 ((2 * (t2.2 13 ((v3 * 4) + t2.1).toNatClampNeg)) + 1).toNatClampNeg))), none] [.int (t2.2 6 (t2.2 13 ((v3 * 4) + t2.1).toNatClampNeg).toNatClampNeg), .int v1] (SH, (zu (zu (zu t2.2 49 ((2 * (t2.2 13 ((v3 * 4) + t2.1).toNatClampNeg)) + 1).toNatClampNeg ((t2.2 49 ((2 * (t2.2 13 ((v3 * 4) + t2.1).toNatClampNeg)) + 1).toNatClampNeg) - (zmin (t2.2 42 ((v3 * 8) + v2).toNatClampNeg) (t2.2 49 ((2 * (t2.2 13 ((v3 * 4) + t2.1).toNatClampNeg)) + 1).toNatClampNeg)))) 42 ((v3 * 8) + v2).toNatClampNeg ((t2.2 42 ((v3 * 8) + v2).toNatClampNeg) - (zmin (t2.2 42 ((v3 * 8) + v2).toNatClampNeg) (t2.2 49 ((2 * (t2.2 13 ((v3 * 4) + t2.1).toNatClampNeg)) + 1).toNatClampNeg)))) 45 v3.toNatClampNeg ((t2.2 45 v3.toNatClampNeg) - (zmin (t2.2 42 ((v3 * 8) + v2).toNatClampNeg) (t2.2 49 ((2 * (t2.2 13 ((v3 * 4) + t2.1).toNatClampNeg)) + 1).toNatClampNeg)))), J) else none) rfl (zR_bif hc28 (zR_go ?_))
          refine zr_steps 4 (163, [some (.ref 38), some (.int v1), some (.int v2), some (.int v3), some (.int t2.1), some (.int (t2.2 13 ((v3 * 4) + t2.1).toNatClampNeg)), some (.int ((2 * (t2.2 13 ((v3 * 4) + t2.1).toNatClampNeg)) + 1)), some (.int (zmin (t2.2 42 ((v3 * 8) + v2).toNatClampNeg) (t2.2 49 ((2 * (t2.2 13 ((v3 * 4) + t2.1).toNatClampNeg)) + 1).toNatClampNeg))), none], [.int v2, .ref 11, .int (t2.2 6 (t2.2 13 ((v3 * 4) + t2.1).toNatClampNeg).toNatClampNeg), .int v1], (SH, (zu (zu (zu t2.2 49 ((2 * (t2.2 13 ((v3 * 4) + t2.1).toNatClampNeg)) + 1).toNatClampNeg ((t2.2 49 ((2 * (t2.2 13 ((v3 * 4) + t2.1).toNatClampNeg)) + 1).toNatClampNeg) - (zmin (t2.2 42 ((v3 * 8) + v2).toNatClampNeg) (t2.2 49 ((2 * (t2.2 13 ((v3 * 4) + t2.1).toNatClampNeg)) + 1).toNatClampNeg)))) 42 ((v3 * 8) + v2).toNatClampNeg ((t2.2 42 ((v3 * 8) + v2).toNatClampNeg) - (zmin (t2.2 42 ((v3 * 8) + v2).toNatClampNeg) (t2.2 49 ((2 * (t2.2 13 ((v3 * 4) + t2.1).toNatClampNeg)) + 1).toNatClampNeg)))) 45 v3.toNatClampNeg ((t2.2 45 v3.toNatClampNeg) - (zmin (t2.2 42 ((v3 * 8) + v2).toNatClampNeg) (t2.2 49 ((2 * (t2.2 13 ((v3 * 4) + t2.1).toNatClampNeg)) + 1).toNatClampNeg)))), J)) rfl ?_
          obtain ⟨hc29, h⟩ := zbifo h
          refine zr_one (bif zin v2 8 then zN 164 [some (.ref 38), some (.int v1), some (.int v2), some (.int v3), some (.int t2.1), some (.int (t2.2 13 ((v3 * 4) + t2.1).toNatClampNeg)), some (.int ((2 * (t2.2 13 ((v3 * 4) + t2.1).toNatClampNeg)) + 1)), some (.int (zmin (t2.2 42 ((v3 * 8) + v2).toNatClampNeg) (t2.2 49 ((2 * (t2.2 13 ((v3 * 4) + t2.1).toNatClampNeg)) + 1).toNatClampNeg))), none] [.int (t2.2 11 v2.toNatClampNeg), .int (t2.2 6 (t2.2 13 ((v3 * 4) + t2.1).toNatClampNeg).toNatClampNeg), .int v1] (SH, (zu (zu (zu t2.2 49 ((2 * (t2.2 13 ((v3 * 4) + t2.1).toNatClampNeg)) + 1).toNatClampNeg ((t2.2 49 ((2 * (t2.2 13 ((v3 * 4) + t2.1).toNatClampNeg)) + 1).toNatClampNeg) - (zmin (t2.2 42 ((v3 * 8) + v2).toNatClampNeg) (t2.2 49 ((2 * (t2.2 13 ((v3 * 4) + t2.1).toNatClampNeg)) + 1).toNatClampNeg)))) 42 ((v3 * 8) + v2).toNatClampNeg ((t2.2 42 ((v3 * 8) + v2).toNatClampNeg) - (zmin (t2.2 42 ((v3 * 8) + v2).toNatClampNeg) (t2.2 49 ((2 * (t2.2 13 ((v3 * 4) + t2.1).toNatClampNeg)) + 1).toNatClampNeg)))) 45 v3.toNatClampNeg ((t2.2 45 v3.toNatClampNeg) - (zmin (t2.2 42 ((v3 * 8) + v2).toNatClampNeg) (t2.2 49 ((2 * (t2.2 13 ((v3 * 4) + t2.1).toNatClampNeg)) + 1).toNatClampNeg)))), J) else none) rfl (zR_bif hc29 (zR_go ?_))
          refine zr_steps 7 (177, [some (.ref 38), some (.int v1), some (.int v2), some (.int v3), some (.int t2.1), some (.int (t2.2 13 ((v3 * 4) + t2.1).toNatClampNeg)), some (.int ((2 * (t2.2 13 ((v3 * 4) + t2.1).toNatClampNeg)) + 1)), some (.int (zmin (t2.2 42 ((v3 * 8) + v2).toNatClampNeg) (t2.2 49 ((2 * (t2.2 13 ((v3 * 4) + t2.1).toNatClampNeg)) + 1).toNatClampNeg))), some (.int (v1 + ((t2.2 6 (t2.2 13 ((v3 * 4) + t2.1).toNatClampNeg).toNatClampNeg) * (t2.2 11 v2.toNatClampNeg))))], [.int (t2.2 39 0), .int (v1 + ((t2.2 6 (t2.2 13 ((v3 * 4) + t2.1).toNatClampNeg).toNatClampNeg) * (t2.2 11 v2.toNatClampNeg)))], (SH, (zu (zu (zu t2.2 49 ((2 * (t2.2 13 ((v3 * 4) + t2.1).toNatClampNeg)) + 1).toNatClampNeg ((t2.2 49 ((2 * (t2.2 13 ((v3 * 4) + t2.1).toNatClampNeg)) + 1).toNatClampNeg) - (zmin (t2.2 42 ((v3 * 8) + v2).toNatClampNeg) (t2.2 49 ((2 * (t2.2 13 ((v3 * 4) + t2.1).toNatClampNeg)) + 1).toNatClampNeg)))) 42 ((v3 * 8) + v2).toNatClampNeg ((t2.2 42 ((v3 * 8) + v2).toNatClampNeg) - (zmin (t2.2 42 ((v3 * 8) + v2).toNatClampNeg) (t2.2 49 ((2 * (t2.2 13 ((v3 * 4) + t2.1).toNatClampNeg)) + 1).toNatClampNeg)))) 45 v3.toNatClampNeg ((t2.2 45 v3.toNatClampNeg) - (zmin (t2.2 42 ((v3 * 8) + v2).toNatClampNeg) (t2.2 49 ((2 * (t2.2 13 ((v3 * 4) + t2.1).toNatClampNeg)) + 1).toNatClampNeg)))), J)) rfl ?_
          refine zr_one (if (t2.2 39 0) < (v1 + ((t2.2 6 (t2.2 13 ((v3 * 4) + t2.1).toNatClampNeg).toNatClampNeg) * (t2.2 11 v2.toNatClampNeg))) then zN 203 [some (.ref 38), some (.int v1), some (.int v2), some (.int v3), some (.int t2.1), some (.int (t2.2 13 ((v3 * 4) + t2.1).toNatClampNeg)), some (.int ((2 * (t2.2 13 ((v3 * 4) + t2.1).toNatClampNeg)) + 1)), some (.int (zmin (t2.2 42 ((v3 * 8) + v2).toNatClampNeg) (t2.2 49 ((2 * (t2.2 13 ((v3 * 4) + t2.1).toNatClampNeg)) + 1).toNatClampNeg))), some (.int (v1 + ((t2.2 6 (t2.2 13 ((v3 * 4) + t2.1).toNatClampNeg).toNatClampNeg) * (t2.2 11 v2.toNatClampNeg))))] [] (SH, (zu (zu (zu t2.2 49 ((2 * (t2.2 13 ((v3 * 4) + t2.1).toNatClampNeg)) + 1).toNatClampNeg ((t2.2 49 ((2 * (t2.2 13 ((v3 * 4) + t2.1).toNatClampNeg)) + 1).toNatClampNeg) - (zmin (t2.2 42 ((v3 * 8) + v2).toNatClampNeg) (t2.2 49 ((2 * (t2.2 13 ((v3 * 4) + t2.1).toNatClampNeg)) + 1).toNatClampNeg)))) 42 ((v3 * 8) + v2).toNatClampNeg ((t2.2 42 ((v3 * 8) + v2).toNatClampNeg) - (zmin (t2.2 42 ((v3 * 8) + v2).toNatClampNeg) (t2.2 49 ((2 * (t2.2 13 ((v3 * 4) + t2.1).toNatClampNeg)) + 1).toNatClampNeg)))) 45 v3.toNatClampNeg ((t2.2 45 v3.toNatClampNeg) - (zmin (t2.2 42 ((v3 * 8) + v2).toNatClampNeg) (t2.2 49 ((2 * (t2.2 13 ((v3 * 4) + t2.1).toNatClampNeg)) + 1).toNatClampNeg)))), J) else zN 180 [some (.ref 38), some (.int v1), some (.int v2), some (.int v3), some (.int t2.1), some (.int (t2.2 13 ((v3 * 4) + t2.1).toNatClampNeg)), some (.int ((2 * (t2.2 13 ((v3 * 4) + t2.1).toNatClampNeg)) + 1)), some (.int (zmin (t2.2 42 ((v3 * 8) + v2).toNatClampNeg) (t2.2 49 ((2 * (t2.2 13 ((v3 * 4) + t2.1).toNatClampNeg)) + 1).toNatClampNeg))), some (.int (v1 + ((t2.2 6 (t2.2 13 ((v3 * 4) + t2.1).toNatClampNeg).toNatClampNeg) * (t2.2 11 v2.toNatClampNeg))))] [] (SH, (zu (zu (zu t2.2 49 ((2 * (t2.2 13 ((v3 * 4) + t2.1).toNatClampNeg)) + 1).toNatClampNeg ((t2.2 49 ((2 * (t2.2 13 ((v3 * 4) + t2.1).toNatClampNeg)) + 1).toNatClampNeg) - (zmin (t2.2 42 ((v3 * 8) + v2).toNatClampNeg) (t2.2 49 ((2 * (t2.2 13 ((v3 * 4) + t2.1).toNatClampNeg)) + 1).toNatClampNeg)))) 42 ((v3 * 8) + v2).toNatClampNeg ((t2.2 42 ((v3 * 8) + v2).toNatClampNeg) - (zmin (t2.2 42 ((v3 * 8) + v2).toNatClampNeg) (t2.2 49 ((2 * (t2.2 13 ((v3 * 4) + t2.1).toNatClampNeg)) + 1).toNatClampNeg)))) 45 v3.toNatClampNeg ((t2.2 45 v3.toNatClampNeg) - (zmin (t2.2 42 ((v3 * 8) + v2).toNatClampNeg) (t2.2 49 ((2 * (t2.2 13 ((v3 * 4) + t2.1).toNatClampNeg)) + 1).toNatClampNeg)))), J)) rfl (zR_if (fun hc32 => zR_go ?_) (fun hc32 => zR_go ?_))
          · rw [if_pos hc32] at h
            have he := Option.some.inj h
            subst he
            exact zr_one (some (.inr (.inr none))) rfl (zR_ret rfl rfl)
          · rw [if_neg hc32] at h
            refine zr_steps 12 (198, [some (.ref 38), some (.int v1), some (.int v2), some (.int v3), some (.int t2.1), some (.int (t2.2 13 ((v3 * 4) + t2.1).toNatClampNeg)), some (.int ((2 * (t2.2 13 ((v3 * 4) + t2.1).toNatClampNeg)) + 1)), some (.int (zmin (t2.2 42 ((v3 * 8) + v2).toNatClampNeg) (t2.2 49 ((2 * (t2.2 13 ((v3 * 4) + t2.1).toNatClampNeg)) + 1).toNatClampNeg))), some (.int (v1 + ((t2.2 6 (t2.2 13 ((v3 * 4) + t2.1).toNatClampNeg).toNatClampNeg) * (t2.2 11 v2.toNatClampNeg))))], [.int ((((v1 + ((t2.2 6 (t2.2 13 ((v3 * 4) + t2.1).toNatClampNeg).toNatClampNeg) * (t2.2 11 v2.toNatClampNeg))) * 32) + (t2.1 * 8)) + v2), .ref 46, .int ((((v1 + ((t2.2 6 (t2.2 13 ((v3 * 4) + t2.1).toNatClampNeg).toNatClampNeg) * (t2.2 11 v2.toNatClampNeg))) * 32) + (t2.1 * 8)) + v2), .ref 46], (SH, (zu (zu (zu t2.2 49 ((2 * (t2.2 13 ((v3 * 4) + t2.1).toNatClampNeg)) + 1).toNatClampNeg ((t2.2 49 ((2 * (t2.2 13 ((v3 * 4) + t2.1).toNatClampNeg)) + 1).toNatClampNeg) - (zmin (t2.2 42 ((v3 * 8) + v2).toNatClampNeg) (t2.2 49 ((2 * (t2.2 13 ((v3 * 4) + t2.1).toNatClampNeg)) + 1).toNatClampNeg)))) 42 ((v3 * 8) + v2).toNatClampNeg ((t2.2 42 ((v3 * 8) + v2).toNatClampNeg) - (zmin (t2.2 42 ((v3 * 8) + v2).toNatClampNeg) (t2.2 49 ((2 * (t2.2 13 ((v3 * 4) + t2.1).toNatClampNeg)) + 1).toNatClampNeg)))) 45 v3.toNatClampNeg ((t2.2 45 v3.toNatClampNeg) - (zmin (t2.2 42 ((v3 * 8) + v2).toNatClampNeg) (t2.2 49 ((2 * (t2.2 13 ((v3 * 4) + t2.1).toNatClampNeg)) + 1).toNatClampNeg)))), J)) rfl ?_
            obtain ⟨hc30, h⟩ := zbifo h
            refine zr_one (bif zin ((((v1 + ((t2.2 6 (t2.2 13 ((v3 * 4) + t2.1).toNatClampNeg).toNatClampNeg) * (t2.2 11 v2.toNatClampNeg))) * 32) + (t2.1 * 8)) + v2) 1952 then zN 199 [some (.ref 38), some (.int v1), some (.int v2), some (.int v3), some (.int t2.1), some (.int (t2.2 13 ((v3 * 4) + t2.1).toNatClampNeg)), some (.int ((2 * (t2.2 13 ((v3 * 4) + t2.1).toNatClampNeg)) + 1)), some (.int (zmin (t2.2 42 ((v3 * 8) + v2).toNatClampNeg) (t2.2 49 ((2 * (t2.2 13 ((v3 * 4) + t2.1).toNatClampNeg)) + 1).toNatClampNeg))), some (.int (v1 + ((t2.2 6 (t2.2 13 ((v3 * 4) + t2.1).toNatClampNeg).toNatClampNeg) * (t2.2 11 v2.toNatClampNeg))))] [.int (t2.2 46 ((((v1 + ((t2.2 6 (t2.2 13 ((v3 * 4) + t2.1).toNatClampNeg).toNatClampNeg) * (t2.2 11 v2.toNatClampNeg))) * 32) + (t2.1 * 8)) + v2).toNatClampNeg), .int ((((v1 + ((t2.2 6 (t2.2 13 ((v3 * 4) + t2.1).toNatClampNeg).toNatClampNeg) * (t2.2 11 v2.toNatClampNeg))) * 32) + (t2.1 * 8)) + v2), .ref 46] (SH, (zu (zu (zu t2.2 49 ((2 * (t2.2 13 ((v3 * 4) + t2.1).toNatClampNeg)) + 1).toNatClampNeg ((t2.2 49 ((2 * (t2.2 13 ((v3 * 4) + t2.1).toNatClampNeg)) + 1).toNatClampNeg) - (zmin (t2.2 42 ((v3 * 8) + v2).toNatClampNeg) (t2.2 49 ((2 * (t2.2 13 ((v3 * 4) + t2.1).toNatClampNeg)) + 1).toNatClampNeg)))) 42 ((v3 * 8) + v2).toNatClampNeg ((t2.2 42 ((v3 * 8) + v2).toNatClampNeg) - (zmin (t2.2 42 ((v3 * 8) + v2).toNatClampNeg) (t2.2 49 ((2 * (t2.2 13 ((v3 * 4) + t2.1).toNatClampNeg)) + 1).toNatClampNeg)))) 45 v3.toNatClampNeg ((t2.2 45 v3.toNatClampNeg) - (zmin (t2.2 42 ((v3 * 8) + v2).toNatClampNeg) (t2.2 49 ((2 * (t2.2 13 ((v3 * 4) + t2.1).toNatClampNeg)) + 1).toNatClampNeg)))), J) else none) rfl (zR_bif hc30 (zR_go ?_))
            refine zr_steps 2 (202, [some (.ref 38), some (.int v1), some (.int v2), some (.int v3), some (.int t2.1), some (.int (t2.2 13 ((v3 * 4) + t2.1).toNatClampNeg)), some (.int ((2 * (t2.2 13 ((v3 * 4) + t2.1).toNatClampNeg)) + 1)), some (.int (zmin (t2.2 42 ((v3 * 8) + v2).toNatClampNeg) (t2.2 49 ((2 * (t2.2 13 ((v3 * 4) + t2.1).toNatClampNeg)) + 1).toNatClampNeg))), some (.int (v1 + ((t2.2 6 (t2.2 13 ((v3 * 4) + t2.1).toNatClampNeg).toNatClampNeg) * (t2.2 11 v2.toNatClampNeg))))], [.int ((t2.2 46 ((((v1 + ((t2.2 6 (t2.2 13 ((v3 * 4) + t2.1).toNatClampNeg).toNatClampNeg) * (t2.2 11 v2.toNatClampNeg))) * 32) + (t2.1 * 8)) + v2).toNatClampNeg) + (zmin (t2.2 42 ((v3 * 8) + v2).toNatClampNeg) (t2.2 49 ((2 * (t2.2 13 ((v3 * 4) + t2.1).toNatClampNeg)) + 1).toNatClampNeg))), .int ((((v1 + ((t2.2 6 (t2.2 13 ((v3 * 4) + t2.1).toNatClampNeg).toNatClampNeg) * (t2.2 11 v2.toNatClampNeg))) * 32) + (t2.1 * 8)) + v2), .ref 46], (SH, (zu (zu (zu t2.2 49 ((2 * (t2.2 13 ((v3 * 4) + t2.1).toNatClampNeg)) + 1).toNatClampNeg ((t2.2 49 ((2 * (t2.2 13 ((v3 * 4) + t2.1).toNatClampNeg)) + 1).toNatClampNeg) - (zmin (t2.2 42 ((v3 * 8) + v2).toNatClampNeg) (t2.2 49 ((2 * (t2.2 13 ((v3 * 4) + t2.1).toNatClampNeg)) + 1).toNatClampNeg)))) 42 ((v3 * 8) + v2).toNatClampNeg ((t2.2 42 ((v3 * 8) + v2).toNatClampNeg) - (zmin (t2.2 42 ((v3 * 8) + v2).toNatClampNeg) (t2.2 49 ((2 * (t2.2 13 ((v3 * 4) + t2.1).toNatClampNeg)) + 1).toNatClampNeg)))) 45 v3.toNatClampNeg ((t2.2 45 v3.toNatClampNeg) - (zmin (t2.2 42 ((v3 * 8) + v2).toNatClampNeg) (t2.2 49 ((2 * (t2.2 13 ((v3 * 4) + t2.1).toNatClampNeg)) + 1).toNatClampNeg)))), J)) rfl ?_
            obtain ⟨hc31, h⟩ := zbifo h
            refine zr_one (bif zin ((((v1 + ((t2.2 6 (t2.2 13 ((v3 * 4) + t2.1).toNatClampNeg).toNatClampNeg) * (t2.2 11 v2.toNatClampNeg))) * 32) + (t2.1 * 8)) + v2) 1952 then zN 203 [some (.ref 38), some (.int v1), some (.int v2), some (.int v3), some (.int t2.1), some (.int (t2.2 13 ((v3 * 4) + t2.1).toNatClampNeg)), some (.int ((2 * (t2.2 13 ((v3 * 4) + t2.1).toNatClampNeg)) + 1)), some (.int (zmin (t2.2 42 ((v3 * 8) + v2).toNatClampNeg) (t2.2 49 ((2 * (t2.2 13 ((v3 * 4) + t2.1).toNatClampNeg)) + 1).toNatClampNeg))), some (.int (v1 + ((t2.2 6 (t2.2 13 ((v3 * 4) + t2.1).toNatClampNeg).toNatClampNeg) * (t2.2 11 v2.toNatClampNeg))))] [] (SH, (zu (zu (zu (zu t2.2 49 ((2 * (t2.2 13 ((v3 * 4) + t2.1).toNatClampNeg)) + 1).toNatClampNeg ((t2.2 49 ((2 * (t2.2 13 ((v3 * 4) + t2.1).toNatClampNeg)) + 1).toNatClampNeg) - (zmin (t2.2 42 ((v3 * 8) + v2).toNatClampNeg) (t2.2 49 ((2 * (t2.2 13 ((v3 * 4) + t2.1).toNatClampNeg)) + 1).toNatClampNeg)))) 42 ((v3 * 8) + v2).toNatClampNeg ((t2.2 42 ((v3 * 8) + v2).toNatClampNeg) - (zmin (t2.2 42 ((v3 * 8) + v2).toNatClampNeg) (t2.2 49 ((2 * (t2.2 13 ((v3 * 4) + t2.1).toNatClampNeg)) + 1).toNatClampNeg)))) 45 v3.toNatClampNeg ((t2.2 45 v3.toNatClampNeg) - (zmin (t2.2 42 ((v3 * 8) + v2).toNatClampNeg) (t2.2 49 ((2 * (t2.2 13 ((v3 * 4) + t2.1).toNatClampNeg)) + 1).toNatClampNeg)))) 46 ((((v1 + ((t2.2 6 (t2.2 13 ((v3 * 4) + t2.1).toNatClampNeg).toNatClampNeg) * (t2.2 11 v2.toNatClampNeg))) * 32) + (t2.1 * 8)) + v2).toNatClampNeg ((t2.2 46 ((((v1 + ((t2.2 6 (t2.2 13 ((v3 * 4) + t2.1).toNatClampNeg).toNatClampNeg) * (t2.2 11 v2.toNatClampNeg))) * 32) + (t2.1 * 8)) + v2).toNatClampNeg) + (zmin (t2.2 42 ((v3 * 8) + v2).toNatClampNeg) (t2.2 49 ((2 * (t2.2 13 ((v3 * 4) + t2.1).toNatClampNeg)) + 1).toNatClampNeg)))), J) else none) rfl (zR_bif hc31 (zR_go ?_))
            have he := Option.some.inj h
            subst he
            exact zr_one (some (.inr (.inr none))) rfl (zR_ret rfl rfl)
      · rw [if_neg hc34] at h
        have he := Option.some.inj h
        subst he
        exact zr_one (some (.inr (.inr none))) rfl (zR_ret rfl rfl)
set_option maxRecDepth 100000 in
set_option maxHeartbeats 4000000 in
theorem ok_f45_go_38_L2 {X : zX} {d : Nat} {r : Option Value} {M' : zM} (hd : 5 ≤ d) (v1 : Int32) {J : (Nat → Nat → Int64)} : ∀ (n : Nat) (s x : (Int32 × (Nat → Nat → Int32))), zloop (f45_go_38_L2 v1) n s = some x → (fun (x : (Int32 × (Nat → Nat → Int32))) => zRun X d 45 55 [some (.ref 38), some (.int v1), none, none] [] (SH, x.2, J) r M') x → (fun (s : (Int32 × (Nat → Nat → Int32))) => zRun X d 45 2 [some (.ref 38), some (.int v1), some (.int s.1), none] [] (SH, s.2, J) r M') s := zloop_ok (B := (f45_go_38_L2 v1)) (Wh := fun (s : (Int32 × (Nat → Nat → Int32))) => zRun X d 45 2 [some (.ref 38), some (.int v1), some (.int s.1), none] [] (SH, s.2, J) r M') (Wx := fun (x : (Int32 × (Nat → Nat → Int32))) => zRun X d 45 55 [some (.ref 38), some (.int v1), none, none] [] (SH, x.2, J) r M') (fun s y h w => by
  unfold f45_go_38_L2 at h
  refine zr_steps 4 (10, [some (.ref 38), some (.int v1), some (.int s.1), none], [.int (s.2 1 1), .int s.1], (SH, s.2, J)) rfl ?_
  refine zr_one (if (s.2 1 1) ≤ s.1 then zN 55 [some (.ref 38), some (.int v1), some (.int s.1), none] [] (SH, s.2, J) else zN 13 [some (.ref 38), some (.int v1), some (.int s.1), none] [] (SH, s.2, J)) rfl (zR_if (fun hc5 => zR_go ?_) (fun hc5 => zR_go ?_))
  · rw [if_pos hc5] at h
    have he := Option.some.inj h
    subst he
    exact zr_hdr (ls2 := [some (.ref 38), some (.int v1), none, none]) rfl rfl (show zRun X d 45 55 [some (.ref 38), some (.int v1), none, none] [] (SH, s.2, J) r M' from w)
  · rw [if_neg hc5] at h
    refine zr_steps 9 (28, [some (.ref 38), some (.int v1), some (.int s.1), none], [.int s.1, .ref 7, .int (2 * s.1), .ref 49], (SH, s.2, J)) rfl ?_
    obtain ⟨hc1, h⟩ := zbifo h
    refine zr_one (bif zin s.1 12 then zN 29 [some (.ref 38), some (.int v1), some (.int s.1), none] [.int (s.2 7 s.1.toNatClampNeg), .int (2 * s.1), .ref 49] (SH, s.2, J) else none) rfl (zR_bif hc1 (zR_go ?_))
    obtain ⟨hc2, h⟩ := zbifo h
    refine zr_one (bif zin (2 * s.1) 24 then zN 30 [some (.ref 38), some (.int v1), some (.int s.1), none] [] (SH, (zu s.2 49 (2 * s.1).toNatClampNeg (s.2 7 s.1.toNatClampNeg)), J) else none) rfl (zR_bif hc2 (zR_go ?_))
    refine zr_steps 11 (47, [some (.ref 38), some (.int v1), some (.int s.1), none], [.int s.1, .ref 7, .int ((2 * s.1) + 1), .ref 49], (SH, (zu s.2 49 (2 * s.1).toNatClampNeg (s.2 7 s.1.toNatClampNeg)), J)) rfl ?_
    obtain ⟨hc3, h⟩ := zbifo h
    refine zr_one (bif zin s.1 12 then zN 48 [some (.ref 38), some (.int v1), some (.int s.1), none] [.int (s.2 7 s.1.toNatClampNeg), .int ((2 * s.1) + 1), .ref 49] (SH, (zu s.2 49 (2 * s.1).toNatClampNeg (s.2 7 s.1.toNatClampNeg)), J) else none) rfl (zR_bif hc3 (zR_go ?_))
    obtain ⟨hc4, h⟩ := zbifo h
    refine zr_one (bif zin ((2 * s.1) + 1) 24 then zN 49 [some (.ref 38), some (.int v1), some (.int s.1), none] [] (SH, (zu (zu s.2 49 (2 * s.1).toNatClampNeg (s.2 7 s.1.toNatClampNeg)) 49 ((2 * s.1) + 1).toNatClampNeg (s.2 7 s.1.toNatClampNeg)), J) else none) rfl (zR_bif hc4 (zR_go ?_))
    refine zr_steps 2 (2, [some (.ref 38), some (.int v1), some (.int (s.1 + 1)), none], [], (SH, (zu (zu s.2 49 (2 * s.1).toNatClampNeg (s.2 7 s.1.toNatClampNeg)) 49 ((2 * s.1) + 1).toNatClampNeg (s.2 7 s.1.toNatClampNeg)), J)) rfl ?_
    have he := Option.some.inj h
    subst he
    exact zr_hdr (ls2 := [some (.ref 38), some (.int v1), some (.int (s.1 + 1)), none]) rfl rfl (show zRun X d 45 2 [some (.ref 38), some (.int v1), some (.int (s.1 + 1)), none] [] (SH, (zu (zu s.2 49 (2 * s.1).toNatClampNeg (s.2 7 s.1.toNatClampNeg)) 49 ((2 * s.1) + 1).toNatClampNeg (s.2 7 s.1.toNatClampNeg)), J) r M' from w))
set_option maxRecDepth 100000 in
set_option maxHeartbeats 4000000 in
theorem ok_f45_go_38_L70 {X : zX} {d : Nat} {r : Option Value} {M' : zM} (hd : 5 ≤ d) (v1 : Int32) (v2 : Int32) {J : (Nat → Nat → Int64)} : ∀ (n : Nat) (s x : (Int32 × (Nat → Nat → Int32))), zloop (f45_go_38_L70 v1 v2) n s = some x → (fun (x : (Int32 × (Nat → Nat → Int32))) => zRun X d 45 108 [some (.ref 38), some (.int v1), some (.int v2), none] [] (SH, x.2, J) r M') x → (fun (s : (Int32 × (Nat → Nat → Int32))) => zRun X d 45 70 [some (.ref 38), some (.int v1), some (.int v2), some (.int s.1)] [] (SH, s.2, J) r M') s := zloop_ok (B := (f45_go_38_L70 v1 v2)) (Wh := fun (s : (Int32 × (Nat → Nat → Int32))) => zRun X d 45 70 [some (.ref 38), some (.int v1), some (.int v2), some (.int s.1)] [] (SH, s.2, J) r M') (Wx := fun (x : (Int32 × (Nat → Nat → Int32))) => zRun X d 45 108 [some (.ref 38), some (.int v1), some (.int v2), none] [] (SH, x.2, J) r M') (fun s y h w => by
  unfold f45_go_38_L70 at h
  refine zr_steps 4 (78, [some (.ref 38), some (.int v1), some (.int v2), some (.int s.1)], [.int (s.2 1 0), .int s.1], (SH, s.2, J)) rfl ?_
  refine zr_one (if (s.2 1 0) ≤ s.1 then zN 108 [some (.ref 38), some (.int v1), some (.int v2), some (.int s.1)] [] (SH, s.2, J) else zN 81 [some (.ref 38), some (.int v1), some (.int v2), some (.int s.1)] [] (SH, s.2, J)) rfl (zR_if (fun hc12 => zR_go ?_) (fun hc12 => zR_go ?_))
  · rw [if_pos hc12] at h
    have he := Option.some.inj h
    subst he
    exact zr_hdr (ls2 := [some (.ref 38), some (.int v1), some (.int v2), none]) rfl rfl (show zRun X d 45 108 [some (.ref 38), some (.int v1), some (.int v2), none] [] (SH, s.2, J) r M' from w)
  · rw [if_neg hc12] at h
    refine zr_steps 7 (91, [some (.ref 38), some (.int v1), some (.int v2), some (.int s.1)], [.int ((s.1 * 8) + v2), .ref 42], (SH, s.2, J)) rfl ?_
    obtain ⟨hc8, h⟩ := zbifo h
    refine zr_one (bif zin ((s.1 * 8) + v2) 32 then zN 92 [some (.ref 38), some (.int v1), some (.int v2), some (.int s.1)] [.int (s.2 42 ((s.1 * 8) + v2).toNatClampNeg)] (SH, s.2, J) else none) rfl (zR_bif hc8 (zR_go ?_))
    refine zr_one (if (s.2 42 ((s.1 * 8) + v2).toNatClampNeg) ≤ 0 then zN 102 [some (.ref 38), some (.int v1), some (.int v2), some (.int s.1)] [] (SH, s.2, J) else zN 95 [some (.ref 38), some (.int v1), some (.int v2), some (.int s.1)] [] (SH, s.2, J)) rfl (zR_if (fun hc11 => zR_go ?_) (fun hc11 => zR_go ?_))
    · rw [if_pos hc11] at h
      refine zr_steps 2 (70, [some (.ref 38), some (.int v1), some (.int v2), some (.int (s.1 + 1))], [], (SH, s.2, J)) rfl ?_
      have he := Option.some.inj h
      subst he
      exact zr_hdr (ls2 := [some (.ref 38), some (.int v1), some (.int v2), some (.int (s.1 + 1))]) rfl rfl (show zRun X d 45 70 [some (.ref 38), some (.int v1), some (.int v2), some (.int (s.1 + 1))] [] (SH, s.2, J) r M' from w)
    · rw [if_neg hc11] at h
      refine zr_steps 4 (99, [some (.ref 38), some (.int v1), some (.int v2), some (.int s.1)], [.int s.1, .int v2, .int v1, .ref 38], (SH, s.2, J)) rfl ?_
      obtain ⟨t10, hc9, h⟩ := zbind h
      refine zr_one (some (.inr (.inl (46, [.ref 38, .int v1, .int v2, .int s.1], [], 102)))) rfl (zR_call (by omega) rfl (ok_f46_setOut_38 (by omega) v1 v2 s.1 _ hc9) ?_)
      refine zr_steps 2 (70, [some (.ref 38), some (.int v1), some (.int v2), some (.int (s.1 + 1))], [], (SH, t10, J)) rfl ?_
      have he := Option.some.inj h
      subst he
      exact zr_hdr (ls2 := [some (.ref 38), some (.int v1), some (.int v2), some (.int (s.1 + 1))]) rfl rfl (show zRun X d 45 70 [some (.ref 38), some (.int v1), some (.int v2), some (.int (s.1 + 1))] [] (SH, t10, J) r M' from w))
set_option maxRecDepth 100000 in
set_option maxHeartbeats 4000000 in
theorem ok_f45_go_38_L57 {X : zX} {d : Nat} {r : Option Value} {M' : zM} (hd : 5 ≤ d) (v1 : Int32) {J : (Nat → Nat → Int64)} : ∀ (n : Nat) (s x : (Int32 × (Nat → Nat → Int32))), zloop (f45_go_38_L57 v1) n s = some x → (fun (x : (Int32 × (Nat → Nat → Int32))) => zRun X d 45 114 [none, none, none, none] [] (SH, x.2, J) r M') x → (fun (s : (Int32 × (Nat → Nat → Int32))) => zRun X d 45 57 [some (.ref 38), some (.int v1), some (.int s.1), none] [] (SH, s.2, J) r M') s := zloop_ok (B := (f45_go_38_L57 v1)) (Wh := fun (s : (Int32 × (Nat → Nat → Int32))) => zRun X d 45 57 [some (.ref 38), some (.int v1), some (.int s.1), none] [] (SH, s.2, J) r M') (Wx := fun (x : (Int32 × (Nat → Nat → Int32))) => zRun X d 45 114 [none, none, none, none] [] (SH, x.2, J) r M') (fun s y h w => by
  unfold f45_go_38_L57 at h
  refine zr_steps 4 (65, [some (.ref 38), some (.int v1), some (.int s.1), none], [.int (s.2 1 2), .int s.1], (SH, s.2, J)) rfl ?_
  refine zr_one (if (s.2 1 2) ≤ s.1 then zN 114 [some (.ref 38), some (.int v1), some (.int s.1), none] [] (SH, s.2, J) else zN 68 [some (.ref 38), some (.int v1), some (.int s.1), none] [] (SH, s.2, J)) rfl (zR_if (fun hc15 => zR_go ?_) (fun hc15 => zR_go ?_))
  · rw [if_pos hc15] at h
    have he := Option.some.inj h
    subst he
    exact zr_hdv (ls2 := [none, none, none, none]) rfl rfl (show zRun X d 45 114 [none, none, none, none] [] (SH, s.2, J) r M' from w)
  · rw [if_neg hc15] at h
    refine zr_steps 2 (70, [some (.ref 38), some (.int v1), some (.int s.1), some (.int 0)], [], (SH, s.2, J)) rfl ?_
    obtain ⟨s13, ho14, h⟩ := zbind h
    refine zr_hdr (ls2 := [some (.ref 38), some (.int v1), some (.int s.1), some (.int 0)]) rfl rfl ?_
    refine ok_f45_go_38_L70 (by omega) v1 s.1 5000 ((0 : Int32), s.2) s13 ho14 ?_
    show zRun X d 45 108 [some (.ref 38), some (.int v1), some (.int s.1), none] [] (SH, s13.2, J) _ _
    refine zr_steps 2 (57, [some (.ref 38), some (.int v1), some (.int (s.1 + 1)), none], [], (SH, s13.2, J)) rfl ?_
    have he := Option.some.inj h
    subst he
    exact zr_hdr (ls2 := [some (.ref 38), some (.int v1), some (.int (s.1 + 1)), none]) rfl rfl (show zRun X d 45 57 [some (.ref 38), some (.int v1), some (.int (s.1 + 1)), none] [] (SH, s13.2, J) r M' from w))
set_option maxRecDepth 100000 in
set_option maxHeartbeats 4000000 in
theorem ok_f45_go_38 {X : zX} {d : Nat} (hd : 5 ≤ d) (v1 : Int32) {I : (Nat → Nat → Int32)} {J : (Nat → Nat → Int64)} (t : (Nat → Nat → Int32)) (h : f45_go_38 v1 I = some t) : zRun X d 45 0 (zent 45 [.ref 38, .int v1]) [] (SH, I, J) none (SH, t, J) := by
  unfold f45_go_38 at h
  refine zr_steps 2 (2, [some (.ref 38), some (.int v1), some (.int 0), none], [], (SH, I, J)) rfl ?_
  obtain ⟨s6, ho7, h⟩ := zbind h
  refine zr_hdr (ls2 := [some (.ref 38), some (.int v1), some (.int 0), none]) rfl rfl ?_
  refine ok_f45_go_38_L2 (by omega) v1 5000 ((0 : Int32), I) s6 ho7 ?_
  show zRun X d 45 55 [some (.ref 38), some (.int v1), none, none] [] (SH, s6.2, J) _ _
  refine zr_steps 2 (57, [some (.ref 38), some (.int v1), some (.int 0), none], [], (SH, s6.2, J)) rfl ?_
  obtain ⟨s16, ho17, h⟩ := zbind h
  refine zr_hdr (ls2 := [some (.ref 38), some (.int v1), some (.int 0), none]) rfl rfl ?_
  refine ok_f45_go_38_L57 (by omega) v1 5000 ((0 : Int32), s6.2) s16 ho17 ?_
  show zRun X d 45 114 [none, none, none, none] [] (SH, s16.2, J) _ _
  have he := Option.some.inj h
  subst he
  exact zr_one (some (.inr (.inr none))) rfl (zR_ret rfl rfl)
set_option maxRecDepth 100000 in
set_option maxHeartbeats 4000000 in
theorem ok_f48_end_38_L39 {X : zX} {d : Nat} {r : Option Value} {M' : zM} (hd : 0 ≤ d) {J : (Nat → Nat → Int64)} : ∀ (n : Nat) (s x : (Int32 × (Nat → Nat → Int32))), zloop f48_end_38_L39 n s = some x → (fun (x : (Int32 × (Nat → Nat → Int32))) => zRun X d 48 72 [none, none, none] [] (SH, x.2, J) r M') x → (fun (s : (Int32 × (Nat → Nat → Int32))) => zRun X d 48 39 [some (.ref 38), none, some (.int s.1)] [] (SH, s.2, J) r M') s := zloop_ok (B := f48_end_38_L39) (Wh := fun (s : (Int32 × (Nat → Nat → Int32))) => zRun X d 48 39 [some (.ref 38), none, some (.int s.1)] [] (SH, s.2, J) r M') (Wx := fun (x : (Int32 × (Nat → Nat → Int32))) => zRun X d 48 72 [none, none, none] [] (SH, x.2, J) r M') (fun s y h w => by
  unfold f48_end_38_L39 at h
  refine zr_steps 2 (42, [some (.ref 38), none, some (.int s.1)], [.int 32, .int s.1], (SH, s.2, J)) rfl ?_
  refine zr_one (if (32 : Int32) ≤ s.1 then zN 72 [some (.ref 38), none, some (.int s.1)] [] (SH, s.2, J) else zN 45 [some (.ref 38), none, some (.int s.1)] [] (SH, s.2, J)) rfl (zR_if (fun hc5 => zR_go ?_) (fun hc5 => zR_go ?_))
  · rw [if_pos hc5] at h
    have he := Option.some.inj h
    subst he
    exact zr_hdv (ls2 := [none, none, none]) rfl rfl (show zRun X d 48 72 [none, none, none] [] (SH, s.2, J) r M' from w)
  · rw [if_neg hc5] at h
    refine zr_steps 6 (55, [some (.ref 38), none, some (.int s.1)], [.int s.1, .ref 44, .int s.1, .ref 44], (SH, s.2, J)) rfl ?_
    obtain ⟨hc2, h⟩ := zbifo h
    refine zr_one (bif zin s.1 32 then zN 56 [some (.ref 38), none, some (.int s.1)] [.int (s.2 44 s.1.toNatClampNeg), .int s.1, .ref 44] (SH, s.2, J) else none) rfl (zR_bif hc2 (zR_go ?_))
    refine zr_steps 3 (61, [some (.ref 38), none, some (.int s.1)], [.int s.1, .ref 42, .int (s.2 44 s.1.toNatClampNeg), .int s.1, .ref 44], (SH, s.2, J)) rfl ?_
    obtain ⟨hc3, h⟩ := zbifo h
    refine zr_one (bif zin s.1 32 then zN 62 [some (.ref 38), none, some (.int s.1)] [.int (s.2 42 s.1.toNatClampNeg), .int (s.2 44 s.1.toNatClampNeg), .int s.1, .ref 44] (SH, s.2, J) else none) rfl (zR_bif hc3 (zR_go ?_))
    refine zr_steps 1 (65, [some (.ref 38), none, some (.int s.1)], [.int (zmin (s.2 44 s.1.toNatClampNeg) (s.2 42 s.1.toNatClampNeg)), .int s.1, .ref 44], (SH, s.2, J)) rfl ?_
    obtain ⟨hc4, h⟩ := zbifo h
    refine zr_one (bif zin s.1 32 then zN 66 [some (.ref 38), none, some (.int s.1)] [] (SH, (zu s.2 44 s.1.toNatClampNeg (zmin (s.2 44 s.1.toNatClampNeg) (s.2 42 s.1.toNatClampNeg))), J) else none) rfl (zR_bif hc4 (zR_go ?_))
    refine zr_steps 2 (39, [some (.ref 38), none, some (.int (s.1 + 1))], [], (SH, (zu s.2 44 s.1.toNatClampNeg (zmin (s.2 44 s.1.toNatClampNeg) (s.2 42 s.1.toNatClampNeg))), J)) rfl ?_
    have he := Option.some.inj h
    subst he
    exact zr_hdr (ls2 := [some (.ref 38), none, some (.int (s.1 + 1))]) rfl rfl (show zRun X d 48 39 [some (.ref 38), none, some (.int (s.1 + 1))] [] (SH, (zu s.2 44 s.1.toNatClampNeg (zmin (s.2 44 s.1.toNatClampNeg) (s.2 42 s.1.toNatClampNeg))), J) r M' from w))
set_option maxRecDepth 100000 in
set_option maxHeartbeats 4000000 in
theorem ok_f48_end_38 {X : zX} {d : Nat} (hd : 0 ≤ d) (v1 : Int32) {I : (Nat → Nat → Int32)} {J : (Nat → Nat → Int64)} (t : (Nat → Nat → Int32)) (h : f48_end_38 v1 I = some t) : zRun X d 48 0 (zent 48 [.ref 38, .int v1]) [] (SH, I, J) none (SH, t, J) := by
  unfold f48_end_38 at h
  refine zr_steps 9 (15, [some (.ref 38), some (.int v1), none], [.int 32, .int (v1 * 32), .ref 47, .int 0, .ref 42], (SH, I, J)) rfl ?_
  obtain ⟨hc1, h⟩ := zbifo h
  refine zr_one (zcopy 15 [some (.ref 38), some (.int v1), none] [.int 32, .int (v1 * 32), .ref 47, .int 0, .ref 42] (SH, I, J)) rfl (zR_copy (na := 32) (nb := 1952) rfl rfl rfl rfl hc1 rfl ?_)
  refine zr_steps 8 (34, [some (.ref 38), some (.int v1), none], [.int ((I 39 0) - (I 1 5)), .int v1], (SH, (zcp I 42 47 0 (v1 * 32) 32), J)) rfl ?_
  refine zr_one (if v1 < ((I 39 0) - (I 1 5)) then zN 72 [some (.ref 38), some (.int v1), none] [] (SH, (zcp I 42 47 0 (v1 * 32) 32), J) else zN 37 [some (.ref 38), some (.int v1), none] [] (SH, (zcp I 42 47 0 (v1 * 32) 32), J)) rfl (zR_if (fun hc8 => zR_go ?_) (fun hc8 => zR_go ?_))
  · rw [if_pos hc8] at h
    have he := Option.some.inj h
    subst he
    exact zr_one (some (.inr (.inr none))) rfl (zR_ret rfl rfl)
  · rw [if_neg hc8] at h
    refine zr_steps 2 (39, [some (.ref 38), some (.int v1), some (.int 0)], [], (SH, (zcp I 42 47 0 (v1 * 32) 32), J)) rfl ?_
    obtain ⟨s6, ho7, h⟩ := zbind h
    refine zr_hdr (ls2 := [some (.ref 38), none, some (.int 0)]) rfl rfl ?_
    refine ok_f48_end_38_L39 (by omega) 5000 ((0 : Int32), (zcp I 42 47 0 (v1 * 32) 32)) s6 ho7 ?_
    show zRun X d 48 72 [none, none, none] [] (SH, s6.2, J) _ _
    have he := Option.some.inj h
    subst he
    exact zr_one (some (.inr (.inr none))) rfl (zR_ret rfl rfl)
set_option maxRecDepth 100000 in
set_option maxHeartbeats 4000000 in
theorem ok_f49_tally_38_L56 {X : zX} {d : Nat} {r : Option Value} {M' : zM} (hd : 2 ≤ d) (v1 : Int32) {J : (Nat → Nat → Int64)} : ∀ (n : Nat) (s x : (Int32 × (Nat → Nat → Int32))), zloop (f49_tally_38_L56 v1) n s = some x → (fun (x : (Int32 × (Nat → Nat → Int32))) => zRun X d 49 88 [some (.ref 38), some (.int v1), none] [] (SH, x.2, J) r M') x → (fun (s : (Int32 × (Nat → Nat → Int32))) => zRun X d 49 56 [some (.ref 38), some (.int v1), some (.int s.1)] [] (SH, s.2, J) r M') s := zloop_ok (B := (f49_tally_38_L56 v1)) (Wh := fun (s : (Int32 × (Nat → Nat → Int32))) => zRun X d 49 56 [some (.ref 38), some (.int v1), some (.int s.1)] [] (SH, s.2, J) r M') (Wx := fun (x : (Int32 × (Nat → Nat → Int32))) => zRun X d 49 88 [some (.ref 38), some (.int v1), none] [] (SH, x.2, J) r M') (fun s y h w => by
  unfold f49_tally_38_L56 at h
  refine zr_steps 2 (59, [some (.ref 38), some (.int v1), some (.int s.1)], [.int 8, .int s.1], (SH, s.2, J)) rfl ?_
  refine zr_one (if (8 : Int32) ≤ s.1 then zN 88 [some (.ref 38), some (.int v1), some (.int s.1)] [] (SH, s.2, J) else zN 62 [some (.ref 38), some (.int v1), some (.int s.1)] [] (SH, s.2, J)) rfl (zR_if (fun hc7 => zR_go ?_) (fun hc7 => zR_go ?_))
  · rw [if_pos hc7] at h
    have he := Option.some.inj h
    subst he
    exact zr_hdr (ls2 := [some (.ref 38), some (.int v1), none]) rfl rfl (show zRun X d 49 88 [some (.ref 38), some (.int v1), none] [] (SH, s.2, J) r M' from w)
  · rw [if_neg hc7] at h
    refine zr_steps 4 (68, [some (.ref 38), some (.int v1), some (.int s.1)], [.int v1, .ref 51, .int v1, .ref 51], (SH, s.2, J)) rfl ?_
    obtain ⟨hc4, h⟩ := zbifo h
    refine zr_one (bif zin v1 4 then zN 69 [some (.ref 38), some (.int v1), some (.int s.1)] [.int (s.2 51 v1.toNatClampNeg), .int v1, .ref 51] (SH, s.2, J) else none) rfl (zR_bif hc4 (zR_go ?_))
    refine zr_steps 7 (79, [some (.ref 38), some (.int v1), some (.int s.1)], [.int ((v1 * 8) + s.1), .ref 44, .int (s.2 51 v1.toNatClampNeg), .int v1, .ref 51], (SH, s.2, J)) rfl ?_
    obtain ⟨hc5, h⟩ := zbifo h
    refine zr_one (bif zin ((v1 * 8) + s.1) 32 then zN 80 [some (.ref 38), some (.int v1), some (.int s.1)] [.int (s.2 44 ((v1 * 8) + s.1).toNatClampNeg), .int (s.2 51 v1.toNatClampNeg), .int v1, .ref 51] (SH, s.2, J) else none) rfl (zR_bif hc5 (zR_go ?_))
    refine zr_steps 1 (81, [some (.ref 38), some (.int v1), some (.int s.1)], [.int ((s.2 51 v1.toNatClampNeg) + (s.2 44 ((v1 * 8) + s.1).toNatClampNeg)), .int v1, .ref 51], (SH, s.2, J)) rfl ?_
    obtain ⟨hc6, h⟩ := zbifo h
    refine zr_one (bif zin v1 4 then zN 82 [some (.ref 38), some (.int v1), some (.int s.1)] [] (SH, (zu s.2 51 v1.toNatClampNeg ((s.2 51 v1.toNatClampNeg) + (s.2 44 ((v1 * 8) + s.1).toNatClampNeg))), J) else none) rfl (zR_bif hc6 (zR_go ?_))
    refine zr_steps 2 (56, [some (.ref 38), some (.int v1), some (.int (s.1 + 1))], [], (SH, (zu s.2 51 v1.toNatClampNeg ((s.2 51 v1.toNatClampNeg) + (s.2 44 ((v1 * 8) + s.1).toNatClampNeg))), J)) rfl ?_
    have he := Option.some.inj h
    subst he
    exact zr_hdr (ls2 := [some (.ref 38), some (.int v1), some (.int (s.1 + 1))]) rfl rfl (show zRun X d 49 56 [some (.ref 38), some (.int v1), some (.int (s.1 + 1))] [] (SH, (zu s.2 51 v1.toNatClampNeg ((s.2 51 v1.toNatClampNeg) + (s.2 44 ((v1 * 8) + s.1).toNatClampNeg))), J) r M' from w))
set_option maxRecDepth 100000 in
set_option maxHeartbeats 4000000 in
theorem ok_f49_tally_38_L21 {X : zX} {d : Nat} {r : Option Value} {M' : zM} (hd : 2 ≤ d) {J : (Nat → Nat → Int64)} : ∀ (n : Nat) (s x : (Int32 × (Nat → Nat → Int32))), zloop f49_tally_38_L21 n s = some x → (fun (x : (Int32 × (Nat → Nat → Int32))) => zRun X d 49 109 [some (.ref 38), none, none] [] (SH, x.2, J) r M') x → (fun (s : (Int32 × (Nat → Nat → Int32))) => zRun X d 49 21 [some (.ref 38), some (.int s.1), none] [] (SH, s.2, J) r M') s := zloop_ok (B := f49_tally_38_L21) (Wh := fun (s : (Int32 × (Nat → Nat → Int32))) => zRun X d 49 21 [some (.ref 38), some (.int s.1), none] [] (SH, s.2, J) r M') (Wx := fun (x : (Int32 × (Nat → Nat → Int32))) => zRun X d 49 109 [some (.ref 38), none, none] [] (SH, x.2, J) r M') (fun s y h w => by
  unfold f49_tally_38_L21 at h
  refine zr_steps 2 (23, [some (.ref 38), some (.int s.1), none], [.int 4, .int s.1], (SH, s.2, J)) rfl ?_
  refine zr_one (if (4 : Int32) ≤ s.1 then zN 109 [some (.ref 38), some (.int s.1), none] [] (SH, s.2, J) else zN 26 [some (.ref 38), some (.int s.1), none] [] (SH, s.2, J)) rfl (zR_if (fun hc16 => zR_go ?_) (fun hc16 => zR_go ?_))
  · rw [if_pos hc16] at h
    have he := Option.some.inj h
    subst he
    exact zr_hdr (ls2 := [some (.ref 38), none, none]) rfl rfl (show zRun X d 49 109 [some (.ref 38), none, none] [] (SH, s.2, J) r M' from w)
  · rw [if_neg hc16] at h
    refine zr_steps 7 (39, [some (.ref 38), some (.int s.1), none], [.int (s.2 39 2), .int s.1, .int s.1, .ref 51], (SH, s.2, J)) rfl ?_
    refine zr_one (if s.1 = (s.2 39 2) then zN 42 [some (.ref 38), some (.int s.1), none] [.int s.1, .ref 51] (SH, s.2, J) else zN 52 [some (.ref 38), some (.int s.1), none] [.int s.1, .ref 51] (SH, s.2, J)) rfl (zR_if (fun hc15 => zR_go ?_) (fun hc15 => zR_go ?_))
    · rw [if_pos hc15] at h
      refine zr_steps 4 (53, [some (.ref 38), some (.int s.1), none], [.int (s.2 39 3), .int s.1, .ref 51], (SH, s.2, J)) rfl ?_
      obtain ⟨hc3, h⟩ := zbifo h
      refine zr_one (bif zin s.1 4 then zN 54 [some (.ref 38), some (.int s.1), none] [] (SH, (zu s.2 51 s.1.toNatClampNeg (s.2 39 3)), J) else none) rfl (zR_bif hc3 (zR_go ?_))
      refine zr_steps 2 (56, [some (.ref 38), some (.int s.1), some (.int 0)], [], (SH, (zu s.2 51 s.1.toNatClampNeg (s.2 39 3)), J)) rfl ?_
      obtain ⟨s8, ho9, h⟩ := zbind h
      refine zr_hdr (ls2 := [some (.ref 38), some (.int s.1), some (.int 0)]) rfl rfl ?_
      refine ok_f49_tally_38_L56 (by omega) s.1 5000 ((0 : Int32), (zu s.2 51 s.1.toNatClampNeg (s.2 39 3))) s8 ho9 ?_
      show zRun X d 49 88 [some (.ref 38), some (.int s.1), none] [] (SH, s8.2, J) _ _
      refine zr_steps 6 (98, [some (.ref 38), some (.int s.1), none], [.int s.1, .ref 45, .int (s8.2 38 19), .ref 38], (SH, s8.2, J)) rfl ?_
      obtain ⟨hc10, h⟩ := zbifo h
      refine zr_one (bif zin s.1 4 then zN 99 [some (.ref 38), some (.int s.1), none] [.int (s8.2 45 s.1.toNatClampNeg), .int (s8.2 38 19), .ref 38] (SH, s8.2, J) else none) rfl (zR_bif hc10 (zR_go ?_))
      refine zr_steps 4 (21, [some (.ref 38), some (.int (s.1 + 1)), none], [], (SH, (zu s8.2 38 19 ((s8.2 38 19) - (s8.2 45 s.1.toNatClampNeg))), J)) rfl ?_
      have he := Option.some.inj h
      subst he
      exact zr_hdr (ls2 := [some (.ref 38), some (.int (s.1 + 1)), none]) rfl rfl (show zRun X d 49 21 [some (.ref 38), some (.int (s.1 + 1)), none] [] (SH, (zu s8.2 38 19 ((s8.2 38 19) - (s8.2 45 s.1.toNatClampNeg))), J) r M' from w)
    · rw [if_neg hc15] at h
      refine zr_steps 1 (53, [some (.ref 38), some (.int s.1), none], [.int 0, .int s.1, .ref 51], (SH, s.2, J)) rfl ?_
      obtain ⟨hc11, h⟩ := zbifo h
      refine zr_one (bif zin s.1 4 then zN 54 [some (.ref 38), some (.int s.1), none] [] (SH, (zu s.2 51 s.1.toNatClampNeg 0), J) else none) rfl (zR_bif hc11 (zR_go ?_))
      refine zr_steps 2 (56, [some (.ref 38), some (.int s.1), some (.int 0)], [], (SH, (zu s.2 51 s.1.toNatClampNeg 0), J)) rfl ?_
      obtain ⟨s12, ho13, h⟩ := zbind h
      refine zr_hdr (ls2 := [some (.ref 38), some (.int s.1), some (.int 0)]) rfl rfl ?_
      refine ok_f49_tally_38_L56 (by omega) s.1 5000 ((0 : Int32), (zu s.2 51 s.1.toNatClampNeg 0)) s12 ho13 ?_
      show zRun X d 49 88 [some (.ref 38), some (.int s.1), none] [] (SH, s12.2, J) _ _
      refine zr_steps 6 (98, [some (.ref 38), some (.int s.1), none], [.int s.1, .ref 45, .int (s12.2 38 19), .ref 38], (SH, s12.2, J)) rfl ?_
      obtain ⟨hc14, h⟩ := zbifo h
      refine zr_one (bif zin s.1 4 then zN 99 [some (.ref 38), some (.int s.1), none] [.int (s12.2 45 s.1.toNatClampNeg), .int (s12.2 38 19), .ref 38] (SH, s12.2, J) else none) rfl (zR_bif hc14 (zR_go ?_))
      refine zr_steps 4 (21, [some (.ref 38), some (.int (s.1 + 1)), none], [], (SH, (zu s12.2 38 19 ((s12.2 38 19) - (s12.2 45 s.1.toNatClampNeg))), J)) rfl ?_
      have he := Option.some.inj h
      subst he
      exact zr_hdr (ls2 := [some (.ref 38), some (.int (s.1 + 1)), none]) rfl rfl (show zRun X d 49 21 [some (.ref 38), some (.int (s.1 + 1)), none] [] (SH, (zu s12.2 38 19 ((s12.2 38 19) - (s12.2 45 s.1.toNatClampNeg))), J) r M' from w))
set_option maxRecDepth 100000 in
set_option maxHeartbeats 4000000 in
theorem ok_f49_tally_38_L116 {X : zX} {d : Nat} {r : Option Value} {M' : zM} (hd : 2 ≤ d) {J : (Nat → Nat → Int64)} : ∀ (n : Nat) (s x : (Int32 × (Nat → Nat → Int32))), zloop f49_tally_38_L116 n s = some x → (fun (x : (Int32 × (Nat → Nat → Int32))) => zRun X d 49 163 [some (.ref 38), none, none] [] (SH, x.2, J) r M') x → (fun (s : (Int32 × (Nat → Nat → Int32))) => zRun X d 49 116 [some (.ref 38), some (.int s.1), none] [] (SH, s.2, J) r M') s := zloop_ok (B := f49_tally_38_L116) (Wh := fun (s : (Int32 × (Nat → Nat → Int32))) => zRun X d 49 116 [some (.ref 38), some (.int s.1), none] [] (SH, s.2, J) r M') (Wx := fun (x : (Int32 × (Nat → Nat → Int32))) => zRun X d 49 163 [some (.ref 38), none, none] [] (SH, x.2, J) r M') (fun s y h w => by
  unfold f49_tally_38_L116 at h
  refine zr_steps 4 (124, [some (.ref 38), some (.int s.1), none], [.int (s.2 1 0), .int s.1], (SH, s.2, J)) rfl ?_
  refine zr_one (if (s.2 1 0) ≤ s.1 then zN 163 [some (.ref 38), some (.int s.1), none] [] (SH, s.2, J) else zN 127 [some (.ref 38), some (.int s.1), none] [] (SH, s.2, J)) rfl (zR_if (fun hc22 => zR_go ?_) (fun hc22 => zR_go ?_))
  · rw [if_pos hc22] at h
    have he := Option.some.inj h
    subst he
    exact zr_hdr (ls2 := [some (.ref 38), none, none]) rfl rfl (show zRun X d 49 163 [some (.ref 38), none, none] [] (SH, s.2, J) r M' from w)
  · rw [if_neg hc22] at h
    refine zr_steps 4 (133, [some (.ref 38), some (.int s.1), none], [.int s.1, .ref 51, .ref 38], (SH, s.2, J)) rfl ?_
    obtain ⟨hc19, h⟩ := zbifo h
    refine zr_one (bif zin s.1 4 then zN 134 [some (.ref 38), some (.int s.1), none] [.int (s.2 51 s.1.toNatClampNeg), .ref 38] (SH, s.2, J) else none) rfl (zR_bif hc19 (zR_go ?_))
    refine zr_steps 4 (142, [some (.ref 38), some (.int s.1), none], [.int (s.2 38 16), .ref 51, .int (s.2 51 s.1.toNatClampNeg), .ref 38], (SH, s.2, J)) rfl ?_
    obtain ⟨hc20, h⟩ := zbifo h
    refine zr_one (bif zin (s.2 38 16) 4 then zN 143 [some (.ref 38), some (.int s.1), none] [.int (s.2 51 (s.2 38 16).toNatClampNeg), .int (s.2 51 s.1.toNatClampNeg), .ref 38] (SH, s.2, J) else none) rfl (zR_bif hc20 (zR_go ?_))
    refine zr_one (if (s.2 51 s.1.toNatClampNeg) ≤ (s.2 51 (s.2 38 16).toNatClampNeg) then zN 150 [some (.ref 38), some (.int s.1), none] [.ref 38] (SH, s.2, J) else zN 146 [some (.ref 38), some (.int s.1), none] [.ref 38] (SH, s.2, J)) rfl (zR_if (fun hc21 => zR_go ?_) (fun hc21 => zR_go ?_))
    · rw [if_pos hc21] at h
      refine zr_steps 5 (116, [some (.ref 38), some (.int (s.1 + 1)), none], [], (SH, (zu s.2 38 16 (s.2 38 16)), J)) rfl ?_
      have he := Option.some.inj h
      subst he
      exact zr_hdr (ls2 := [some (.ref 38), some (.int (s.1 + 1)), none]) rfl rfl (show zRun X d 49 116 [some (.ref 38), some (.int (s.1 + 1)), none] [] (SH, (zu s.2 38 16 (s.2 38 16)), J) r M' from w)
    · rw [if_neg hc21] at h
      refine zr_steps 5 (116, [some (.ref 38), some (.int (s.1 + 1)), none], [], (SH, (zu s.2 38 16 s.1), J)) rfl ?_
      have he := Option.some.inj h
      subst he
      exact zr_hdr (ls2 := [some (.ref 38), some (.int (s.1 + 1)), none]) rfl rfl (show zRun X d 49 116 [some (.ref 38), some (.int (s.1 + 1)), none] [] (SH, (zu s.2 38 16 s.1), J) r M' from w))
set_option maxRecDepth 100000 in
set_option maxHeartbeats 4000000 in
theorem ok_f49_tally_38_L167 {X : zX} {d : Nat} {r : Option Value} {M' : zM} (hd : 2 ≤ d) {I : (Nat → Nat → Int32)} {J : (Nat → Nat → Int64)} : ∀ (n : Nat) (s x : (Int32 × Int32)), zloop (f49_tally_38_L167 I) n s = some x → (fun (x : (Int32 × Int32)) => zRun X d 49 207 [some (.ref 38), some (.int x.1), none] [] (SH, I, J) r M') x → (fun (s : (Int32 × Int32)) => zRun X d 49 167 [some (.ref 38), some (.int s.1), some (.int s.2)] [] (SH, I, J) r M') s := zloop_ok (B := (f49_tally_38_L167 I)) (Wh := fun (s : (Int32 × Int32)) => zRun X d 49 167 [some (.ref 38), some (.int s.1), some (.int s.2)] [] (SH, I, J) r M') (Wx := fun (x : (Int32 × Int32)) => zRun X d 49 207 [some (.ref 38), some (.int x.1), none] [] (SH, I, J) r M') (fun s y h w => by
  unfold f49_tally_38_L167 at h
  refine zr_steps 4 (175, [some (.ref 38), some (.int s.1), some (.int s.2)], [.int (I 1 0), .int s.2], (SH, I, J)) rfl ?_
  refine zr_one (if (I 1 0) ≤ s.2 then zN 207 [some (.ref 38), some (.int s.1), some (.int s.2)] [] (SH, I, J) else zN 178 [some (.ref 38), some (.int s.1), some (.int s.2)] [] (SH, I, J)) rfl (zR_if (fun hc27 => zR_go ?_) (fun hc27 => zR_go ?_))
  · rw [if_pos hc27] at h
    have he := Option.some.inj h
    subst he
    exact zr_hdr (ls2 := [some (.ref 38), some (.int s.1), none]) rfl rfl (show zRun X d 49 207 [some (.ref 38), some (.int s.1), none] [] (SH, I, J) r M' from w)
  · rw [if_neg hc27] at h
    refine zr_steps 3 (183, [some (.ref 38), some (.int s.1), some (.int s.2)], [.int (I 38 16), .int s.2], (SH, I, J)) rfl ?_
    refine zr_one (if s.2 = (I 38 16) then zN 199 [some (.ref 38), some (.int s.1), some (.int s.2)] [] (SH, I, J) else zN 186 [some (.ref 38), some (.int s.1), some (.int s.2)] [] (SH, I, J)) rfl (zR_if (fun hc26 => zR_go ?_) (fun hc26 => zR_go ?_))
    · rw [if_pos hc26] at h
      refine zr_steps 4 (167, [some (.ref 38), some (.int s.1), some (.int (s.2 + 1))], [], (SH, I, J)) rfl ?_
      have he := Option.some.inj h
      subst he
      exact zr_hdr (ls2 := [some (.ref 38), some (.int s.1), some (.int (s.2 + 1))]) rfl rfl (show zRun X d 49 167 [some (.ref 38), some (.int s.1), some (.int (s.2 + 1))] [] (SH, I, J) r M' from w)
    · rw [if_neg hc26] at h
      refine zr_steps 4 (192, [some (.ref 38), some (.int s.1), some (.int s.2)], [.int s.2, .ref 51, .int s.1], (SH, I, J)) rfl ?_
      obtain ⟨hc25, h⟩ := zbifo h
      refine zr_one (bif zin s.2 4 then zN 193 [some (.ref 38), some (.int s.1), some (.int s.2)] [.int (I 51 s.2.toNatClampNeg), .int s.1] (SH, I, J) else none) rfl (zR_bif hc25 (zR_go ?_))
      refine zr_steps 5 (167, [some (.ref 38), some (.int (zmax s.1 (I 51 s.2.toNatClampNeg))), some (.int (s.2 + 1))], [], (SH, I, J)) rfl ?_
      have he := Option.some.inj h
      subst he
      exact zr_hdr (ls2 := [some (.ref 38), some (.int (zmax s.1 (I 51 s.2.toNatClampNeg))), some (.int (s.2 + 1))]) rfl rfl (show zRun X d 49 167 [some (.ref 38), some (.int (zmax s.1 (I 51 s.2.toNatClampNeg))), some (.int (s.2 + 1))] [] (SH, I, J) r M' from w))
set_option maxRecDepth 100000 in
set_option maxHeartbeats 4000000 in
theorem ok_f49_tally_38 {X : zX} {d : Nat} (hd : 2 ≤ d) {I : (Nat → Nat → Int32)} {J : (Nat → Nat → Int64)} (t : (Nat → Nat → Int32)) (h : f49_tally_38 I = some t) : zRun X d 49 0 (zent 49 [.ref 38]) [] (SH, I, J) none (SH, t, J) := by
  unfold f49_tally_38 at h
  refine zr_steps 3 (5, [some (.ref 38), none, none], [.ref 1, .ref 38], (SH, I, J)) rfl ?_
  obtain ⟨t2, hc1, h⟩ := zbind h
  refine zr_one (some (.inr (.inl (73, [.ref 1], [.ref 38], 8)))) rfl (zR_call (by omega) rfl (ok_f73_people (by omega)  _ hc1) ?_)
  refine zr_steps 7 (21, [some (.ref 38), some (.int 0), none], [], (SH, (zu I 38 19 (t2 + (I 39 3))), J)) rfl ?_
  obtain ⟨s17, ho18, h⟩ := zbind h
  refine zr_hdr (ls2 := [some (.ref 38), some (.int 0), none]) rfl rfl ?_
  refine ok_f49_tally_38_L21 (by omega) 5000 ((0 : Int32), (zu I 38 19 (t2 + (I 39 3)))) s17 ho18 ?_
  show zRun X d 49 109 [some (.ref 38), none, none] [] (SH, s17.2, J) _ _
  refine zr_steps 5 (116, [some (.ref 38), some (.int 1), none], [], (SH, (zu s17.2 38 16 0), J)) rfl ?_
  obtain ⟨s23, ho24, h⟩ := zbind h
  refine zr_hdr (ls2 := [some (.ref 38), some (.int 1), none]) rfl rfl ?_
  refine ok_f49_tally_38_L116 (by omega) 5000 ((1 : Int32), (zu s17.2 38 16 0)) s23 ho24 ?_
  show zRun X d 49 163 [some (.ref 38), none, none] [] (SH, s23.2, J) _ _
  refine zr_steps 4 (167, [some (.ref 38), some (.int 0), some (.int 0)], [], (SH, s23.2, J)) rfl ?_
  obtain ⟨s28, ho29, h⟩ := zbind h
  refine zr_hdr (ls2 := [some (.ref 38), some (.int 0), some (.int 0)]) rfl rfl ?_
  refine ok_f49_tally_38_L167 (by omega) 5000 ((0 : Int32), (0 : Int32)) s28 ho29 ?_
  show zRun X d 49 207 [some (.ref 38), some (.int s28.1), none] [] (SH, s23.2, J) _ _
  refine zr_steps 6 (219, [some (.ref 38), some (.int s28.1), none], [.int (s23.2 38 16), .ref 3, .ref 38], (SH, s23.2, J)) rfl ?_
  obtain ⟨hc30, h⟩ := zbifo h
  refine zr_one (bif zin (s23.2 38 16) 4 then zN 220 [some (.ref 38), some (.int s28.1), none] [.int (s23.2 3 (s23.2 38 16).toNatClampNeg), .ref 38] (SH, s23.2, J) else none) rfl (zR_bif hc30 (zR_go ?_))
  refine zr_steps 6 (232, [some (.ref 38), some (.int s28.1), none], [.int (s23.2 38 16), .ref 51, .ref 38], (SH, (zu s23.2 38 17 (s23.2 3 (s23.2 38 16).toNatClampNeg)), J)) rfl ?_
  obtain ⟨hc31, h⟩ := zbifo h
  refine zr_one (bif zin (s23.2 38 16) 4 then zN 233 [some (.ref 38), some (.int s28.1), none] [.int (s23.2 51 (s23.2 38 16).toNatClampNeg), .ref 38] (SH, (zu s23.2 38 17 (s23.2 3 (s23.2 38 16).toNatClampNeg)), J) else none) rfl (zR_bif hc31 (zR_go ?_))
  refine zr_steps 3 (238, [some (.ref 38), some (.int s28.1), none], [], (SH, (zu (zu s23.2 38 17 (s23.2 3 (s23.2 38 16).toNatClampNeg)) 38 18 ((s23.2 51 (s23.2 38 16).toNatClampNeg) - s28.1)), J)) rfl ?_
  have he := Option.some.inj h
  subst he
  exact zr_one (some (.inr (.inr none))) rfl (zR_ret rfl rfl)
set_option maxRecDepth 100000 in
set_option maxHeartbeats 4000000 in
theorem ok_f40_pass_38_L6 {X : zX} {d : Nat} {r : Option Value} {M' : zM} (hd : 6 ≤ d) {J : (Nat → Nat → Int64)} : ∀ (n : Nat) (s x : (Int32 × (Nat → Nat → Int32))), zloop f40_pass_38_L6 n s = some x → (fun (x : (Int32 × (Nat → Nat → Int32))) => zRun X d 40 43 [some (.ref 38), none] [] (SH, x.2, J) r M') x → (fun (s : (Int32 × (Nat → Nat → Int32))) => zRun X d 40 6 [some (.ref 38), some (.int s.1)] [] (SH, s.2, J) r M') s := zloop_ok (B := f40_pass_38_L6) (Wh := fun (s : (Int32 × (Nat → Nat → Int32))) => zRun X d 40 6 [some (.ref 38), some (.int s.1)] [] (SH, s.2, J) r M') (Wx := fun (x : (Int32 × (Nat → Nat → Int32))) => zRun X d 40 43 [some (.ref 38), none] [] (SH, x.2, J) r M') (fun s y h w => by
  unfold f40_pass_38_L6 at h
  refine zr_steps 4 (14, [some (.ref 38), some (.int s.1)], [.int (s.2 39 0), .int s.1], (SH, s.2, J)) rfl ?_
  refine zr_one (if (s.2 39 0) ≤ s.1 then zN 43 [some (.ref 38), some (.int s.1)] [] (SH, s.2, J) else zN 17 [some (.ref 38), some (.int s.1)] [] (SH, s.2, J)) rfl (zR_if (fun hc11 => zR_go ?_) (fun hc11 => zR_go ?_))
  · rw [if_pos hc11] at h
    have he := Option.some.inj h
    subst he
    exact zr_hdr (ls2 := [some (.ref 38), none]) rfl rfl (show zRun X d 40 43 [some (.ref 38), none] [] (SH, s.2, J) r M' from w)
  · rw [if_neg hc11] at h
    refine zr_steps 2 (19, [some (.ref 38), some (.int s.1)], [.int s.1, .ref 38], (SH, s.2, J)) rfl ?_
    obtain ⟨t4, hc3, h⟩ := zbind h
    refine zr_one (some (.inr (.inl (42, [.ref 38, .int s.1], [], 22)))) rfl (zR_call (by omega) rfl (ok_f42_see_38 (by omega) s.1 _ hc3) ?_)
    refine zr_steps 2 (24, [some (.ref 38), some (.int s.1)], [.int s.1, .ref 38], (SH, t4, J)) rfl ?_
    obtain ⟨t6, hc5, h⟩ := zbind h
    refine zr_one (some (.inr (.inl (44, [.ref 38, .int s.1], [], 27)))) rfl (zR_call (by omega) rfl (ok_f44_arrive_38 (by omega) s.1 _ hc5) ?_)
    refine zr_steps 2 (29, [some (.ref 38), some (.int s.1)], [.int s.1, .ref 38], (SH, t6, J)) rfl ?_
    obtain ⟨t8, hc7, h⟩ := zbind h
    refine zr_one (some (.inr (.inl (45, [.ref 38, .int s.1], [], 32)))) rfl (zR_call (by omega) rfl (ok_f45_go_38 (by omega) s.1 _ hc7) ?_)
    refine zr_steps 2 (34, [some (.ref 38), some (.int s.1)], [.int s.1, .ref 38], (SH, t8, J)) rfl ?_
    obtain ⟨t10, hc9, h⟩ := zbind h
    refine zr_one (some (.inr (.inl (48, [.ref 38, .int s.1], [], 37)))) rfl (zR_call (by omega) rfl (ok_f48_end_38 (by omega) s.1 _ hc9) ?_)
    refine zr_steps 2 (6, [some (.ref 38), some (.int (s.1 + 1))], [], (SH, t10, J)) rfl ?_
    have he := Option.some.inj h
    subst he
    exact zr_hdr (ls2 := [some (.ref 38), some (.int (s.1 + 1))]) rfl rfl (show zRun X d 40 6 [some (.ref 38), some (.int (s.1 + 1))] [] (SH, t10, J) r M' from w))
set_option maxRecDepth 100000 in
set_option maxHeartbeats 4000000 in
theorem ok_f40_pass_38 {X : zX} {d : Nat} (hd : 6 ≤ d) {I : (Nat → Nat → Int32)} {J : (Nat → Nat → Int64)} (t : (Nat → Nat → Int32)) (h : f40_pass_38 I = some t) : zRun X d 40 0 (zent 40 [.ref 38]) [] (SH, I, J) none (SH, t, J) := by
  unfold f40_pass_38 at h
  refine zr_steps 1 (1, [some (.ref 38), none], [.ref 38], (SH, I, J)) rfl ?_
  obtain ⟨t2, hc1, h⟩ := zbind h
  refine zr_one (some (.inr (.inl (41, [.ref 38], [], 4)))) rfl (zR_call (by omega) rfl (ok_f41_begin_38 (by omega)  _ hc1) ?_)
  refine zr_steps 2 (6, [some (.ref 38), some (.int 0)], [], (SH, t2, J)) rfl ?_
  obtain ⟨s12, ho13, h⟩ := zbind h
  refine zr_hdr (ls2 := [some (.ref 38), some (.int 0)]) rfl rfl ?_
  refine ok_f40_pass_38_L6 (by omega) 5000 ((0 : Int32), t2) s12 ho13 ?_
  show zRun X d 40 43 [some (.ref 38), none] [] (SH, s12.2, J) _ _
  refine zr_steps 4 (51, [some (.ref 38), none], [.int (s12.2 39 0), .ref 38], (SH, s12.2, J)) rfl ?_
  obtain ⟨t15, hc14, h⟩ := zbind h
  refine zr_one (some (.inr (.inl (44, [.ref 38, .int (s12.2 39 0)], [], 54)))) rfl (zR_call (by omega) rfl (ok_f44_arrive_38 (by omega) (s12.2 39 0) _ hc14) ?_)
  refine zr_steps 4 (62, [some (.ref 38), none], [.int (t15 39 0), .ref 38], (SH, t15, J)) rfl ?_
  obtain ⟨t17, hc16, h⟩ := zbind h
  refine zr_one (some (.inr (.inl (48, [.ref 38, .int (t15 39 0)], [], 65)))) rfl (zR_call (by omega) rfl (ok_f48_end_38 (by omega) (t15 39 0) _ hc16) ?_)
  refine zr_steps 1 (66, [some (.ref 38), none], [.ref 38], (SH, t17, J)) rfl ?_
  obtain ⟨t19, hc18, h⟩ := zbind h
  refine zr_one (some (.inr (.inl (49, [.ref 38], [], 69)))) rfl (zR_call (by omega) rfl (ok_f49_tally_38 (by omega)  _ hc18) ?_)
  have he := Option.some.inj h
  subst he
  exact zr_one (some (.inr (.inr none))) rfl (zR_ret rfl rfl)
set_option maxRecDepth 100000 in
set_option maxHeartbeats 4000000 in
theorem ok_f102_fewer {X : zX} {d : Nat} (hd : 7 ≤ d) (v1 : Int32) {I : (Nat → Nat → Int32)} {J : (Nat → Nat → Int64)} (t : (Int32 × (Nat → Nat → Int32))) (h : f102_fewer v1 I = some t) : zRun X d 102 0 (zent 102 [.ref 0, .int v1]) [] (SH, I, J) (some (.int t.1)) (SH, t.2, J) := by
  unfold f102_fewer at h
  refine zr_steps 3 (3, [some (.ref 0), some (.int v1), none], [.int 1, .int 0, .int v1], (SH, I, J)) rfl ?_
  obtain ⟨t2, hc1, h⟩ := zbind h
  refine zr_one (some (.inr (.inl (126, [.int v1, .int 0, .int 1], [], 6)))) rfl (zR_call (by omega) rfl (ok_f126_within (by omega) v1 0 1 _ hc1) ?_)
  refine zr_one (if t2 = 0 then zN 9 [some (.ref 0), some (.int v1), none] [] (SH, I, J) else zN 11 [some (.ref 0), some (.int v1), none] [] (SH, I, J)) rfl (zR_if (fun hc13 => zR_go ?_) (fun hc13 => zR_go ?_))
  · rw [if_pos hc13] at h
    refine zr_steps 1 (10, [some (.ref 0), some (.int v1), none], [.int (-1)], (SH, I, J)) rfl ?_
    have he := Option.some.inj h
    subst he
    exact zr_one (some (.inr (.inr (some (.int (-1)))))) rfl (zR_ret rfl rfl)
  · rw [if_neg hc13] at h
    refine zr_steps 2 (15, [some (.ref 0), some (.int v1), none], [.ref 1], (SH, I, J)) rfl ?_
    obtain ⟨t4, hc3, h⟩ := zbind h
    refine zr_one (some (.inr (.inl (75, [.ref 1], [], 18)))) rfl (zR_call (by omega) rfl (ok_f75_fewerWant (by omega)  _ hc3) ?_)
    refine zr_steps 2 (20, [some (.ref 0), some (.int v1), some (.int t4)], [.int v1], (SH, I, J)) rfl ?_
    refine zr_one (if v1 = 0 then zN 29 [some (.ref 0), some (.int v1), some (.int t4)] [] (SH, I, J) else zN 23 [some (.ref 0), some (.int v1), some (.int t4)] [] (SH, I, J)) rfl (zR_if (fun hc12 => zR_go ?_) (fun hc12 => zR_go ?_))
    · rw [if_pos hc12] at h
      refine zr_steps 1 (30, [some (.ref 0), some (.int v1), some (.int t4)], [.int t4], (SH, I, J)) rfl ?_
      have he := Option.some.inj h
      subst he
      exact zr_one (some (.inr (.inr (some (.int t4))))) rfl (zR_ret rfl rfl)
    · rw [if_neg hc12] at h
      refine zr_steps 2 (26, [some (.ref 0), some (.int v1), some (.int t4)], [.int (-2), .int t4], (SH, I, J)) rfl ?_
      refine zr_one (if t4 = (-2) then zN 29 [some (.ref 0), some (.int v1), some (.int t4)] [] (SH, I, J) else zN 31 [some (.ref 0), some (.int v1), some (.int t4)] [] (SH, I, J)) rfl (zR_if (fun hc11 => zR_go ?_) (fun hc11 => zR_go ?_))
      · rw [if_pos hc11] at h
        refine zr_steps 1 (30, [some (.ref 0), some (.int v1), some (.int t4)], [.int t4], (SH, I, J)) rfl ?_
        have he := Option.some.inj h
        subst he
        exact zr_one (some (.inr (.inr (some (.int t4))))) rfl (zR_ret rfl rfl)
      · rw [if_neg hc11] at h
        refine zr_steps 3 (38, [some (.ref 0), some (.int v1), some (.int t4)], [.int (I 1 0)], (SH, I, J)) rfl ?_
        refine zr_one (if (I 1 0) = 0 then zN 41 [some (.ref 0), some (.int v1), some (.int t4)] [] (SH, I, J) else zN 44 [some (.ref 0), some (.int v1), some (.int t4)] [] (SH, I, J)) rfl (zR_if (fun hc10 => zR_go ?_) (fun hc10 => zR_go ?_))
        · rw [if_pos hc10] at h
          refine zr_steps 1 (43, [some (.ref 0), some (.int v1), some (.int t4)], [.int (-5)], (SH, I, J)) rfl ?_
          have he := Option.some.inj h
          subst he
          exact zr_one (some (.inr (.inr (some (.int (-5)))))) rfl (zR_ret rfl rfl)
        · rw [if_neg hc10] at h
          refine zr_steps 5 (55, [some (.ref 0), some (.int v1), some (.int t4)], [.ref 1, .ref 39], (SH, I, J)) rfl ?_
          obtain ⟨t6, hc5, h⟩ := zbind h
          refine zr_one (some (.inr (.inl (81, [.ref 39, .ref 1], [], 58)))) rfl (zR_call (by omega) rfl (ok_f81_asIn_39 (by omega)  _ hc5) ?_)
          refine zr_steps 2 (62, [some (.ref 0), some (.int v1), some (.int t4)], [.ref 38], (SH, t6, J)) rfl ?_
          obtain ⟨t8, hc7, h⟩ := zbind h
          refine zr_one (some (.inr (.inl (40, [.ref 38], [], 65)))) rfl (zR_call (by omega) rfl (ok_f40_pass_38 (by omega)  _ hc7) ?_)
          refine zr_steps 4 (73, [some (.ref 0), some (.int v1), some (.int t4)], [.int t4, .int (t8 38 17)], (SH, t8, J)) rfl ?_
          refine zr_one (if (t8 38 17) = t4 then zN 76 [some (.ref 0), some (.int v1), some (.int t4)] [] (SH, t8, J) else zN 80 [some (.ref 0), some (.int v1), some (.int t4)] [] (SH, t8, J)) rfl (zR_if (fun hc9 => zR_go ?_) (fun hc9 => zR_go ?_))
          · rw [if_pos hc9] at h
            refine zr_steps 2 (81, [some (.ref 0), some (.int v1), some (.int t4)], [.int 1], (SH, t8, J)) rfl ?_
            have he := Option.some.inj h
            subst he
            exact zr_one (some (.inr (.inr (some (.int 1))))) rfl (zR_ret rfl rfl)
          · rw [if_neg hc9] at h
            refine zr_steps 1 (81, [some (.ref 0), some (.int v1), some (.int t4)], [.int 0], (SH, t8, J)) rfl ?_
            have he := Option.some.inj h
            subst he
            exact zr_one (some (.inr (.inr (some (.int 0))))) rfl (zR_ret rfl rfl)
