set_option maxRecDepth 100000 in
set_option maxHeartbeats 40000000 in
theorem ok_f0_law_L18 {X : zX} {d : Nat} {r : Option Value} {M' : zM} (hd : 807 ≤ d) : ∀ (n : Nat) (s : (Int32 × (Nat → Nat → Int32) × (Nat → Nat → Int64))) (t : (Int32 × (Nat → Nat → Int32) × (Nat → Nat → Int64)) ⊕ (Int32 × (Nat → Nat → Int32) × (Nat → Nat → Int64))), zloopR (f0_law_L18 X) n s = some t → zSumE (fun (x : (Int32 × (Nat → Nat → Int32) × (Nat → Nat → Int64))) => r = (some (.int x.1)) ∧ M' = (SH, x.2.1, x.2.2)) (fun (x : (Int32 × (Nat → Nat → Int32) × (Nat → Nat → Int64))) => zRun X d 0 1243 [none, none, none, none] [] (SH, x.2.1, x.2.2) r M') t → (fun (s : (Int32 × (Nat → Nat → Int32) × (Nat → Nat → Int64))) => zRun X d 0 18 [some (.ref 1000), some (.ref 0), some (.ref 73), some (.int s.1)] [] (SH, s.2.1, s.2.2) r M') s := zloopR_ok (B := (f0_law_L18 X)) (Wh := fun (s : (Int32 × (Nat → Nat → Int32) × (Nat → Nat → Int64))) => zRun X d 0 18 [some (.ref 1000), some (.ref 0), some (.ref 73), some (.int s.1)] [] (SH, s.2.1, s.2.2) r M') (Wx := fun (x : (Int32 × (Nat → Nat → Int32) × (Nat → Nat → Int64))) => zRun X d 0 1243 [none, none, none, none] [] (SH, x.2.1, x.2.2) r M') (Wr := fun (x : (Int32 × (Nat → Nat → Int32) × (Nat → Nat → Int64))) => r = (some (.int x.1)) ∧ M' = (SH, x.2.1, x.2.2)) (fun s y h w => by
  unfold f0_law_L18 at h
  refine zr_steps 5 (24, [some (.ref 1000), some (.ref 0), some (.ref 73), some (.int s.1)], [.int ((Int32.ofNat X.1) - 6), .int s.1], (SH, s.2.1, s.2.2)) rfl ?_
  refine zr_one (if ((Int32.ofNat X.1) - 6) < s.1 then zN 1243 [some (.ref 1000), some (.ref 0), some (.ref 73), some (.int s.1)] [] (SH, s.2.1, s.2.2) else zN 27 [some (.ref 1000), some (.ref 0), some (.ref 73), some (.int s.1)] [] (SH, s.2.1, s.2.2)) rfl (zR_if (fun hc324 => zR_go ?_) (fun hc324 => zR_go ?_))
  · rw [if_pos hc324] at h
    have he := Option.some.inj h
    subst he
    exact zr_hdr (ls2 := [none, none, none, none]) rfl rfl (show zRun X d 0 1243 [none, none, none, none] [] (SH, s.2.1, s.2.2) r M' from w)
  · rw [if_neg hc324] at h
    refine zr_steps 2 (29, [some (.ref 1000), some (.ref 0), some (.ref 73), some (.int s.1)], [.int s.1, .ref 1000], (SH, s.2.1, s.2.2)) rfl ?_
    obtain ⟨hc1, h⟩ := zbifo h
    refine zr_one (bif zin s.1 X.1 then zN 30 [some (.ref 1000), some (.ref 0), some (.ref 73), some (.int s.1)] [.int (X.2 s.1.toNatClampNeg)] (SH, s.2.1, s.2.2) else none) rfl (zR_bif hc1 (zR_go ?_))
    refine zr_steps 2 (33, [some (.ref 1000), some (.ref 0), some (.ref 73), some (.int s.1)], [.int ((X.2 s.1.toNatClampNeg) &&& 63)], (SH, s.2.1, s.2.2)) rfl ?_
    refine zr_one (if ((X.2 s.1.toNatClampNeg) &&& 63).toInt = 0 then zN 184 [some (.ref 1000), some (.ref 0), some (.ref 73), some (.int s.1)] [] (SH, s.2.1, s.2.2) else (if ((X.2 s.1.toNatClampNeg) &&& 63).toInt = 1 then zN 217 [some (.ref 1000), some (.ref 0), some (.ref 73), some (.int s.1)] [] (SH, s.2.1, s.2.2) else (if ((X.2 s.1.toNatClampNeg) &&& 63).toInt = 2 then zN 260 [some (.ref 1000), some (.ref 0), some (.ref 73), some (.int s.1)] [] (SH, s.2.1, s.2.2) else (if ((X.2 s.1.toNatClampNeg) &&& 63).toInt = 3 then zN 303 [some (.ref 1000), some (.ref 0), some (.ref 73), some (.int s.1)] [] (SH, s.2.1, s.2.2) else (if ((X.2 s.1.toNatClampNeg) &&& 63).toInt = 4 then zN 346 [some (.ref 1000), some (.ref 0), some (.ref 73), some (.int s.1)] [] (SH, s.2.1, s.2.2) else (if ((X.2 s.1.toNatClampNeg) &&& 63).toInt = 5 then zN 369 [some (.ref 1000), some (.ref 0), some (.ref 73), some (.int s.1)] [] (SH, s.2.1, s.2.2) else (if ((X.2 s.1.toNatClampNeg) &&& 63).toInt = 6 then zN 382 [some (.ref 1000), some (.ref 0), some (.ref 73), some (.int s.1)] [] (SH, s.2.1, s.2.2) else (if ((X.2 s.1.toNatClampNeg) &&& 63).toInt = 7 then zN 415 [some (.ref 1000), some (.ref 0), some (.ref 73), some (.int s.1)] [] (SH, s.2.1, s.2.2) else (if ((X.2 s.1.toNatClampNeg) &&& 63).toInt = 8 then zN 458 [some (.ref 1000), some (.ref 0), some (.ref 73), some (.int s.1)] [] (SH, s.2.1, s.2.2) else (if ((X.2 s.1.toNatClampNeg) &&& 63).toInt = 9 then zN 491 [some (.ref 1000), some (.ref 0), some (.ref 73), some (.int s.1)] [] (SH, s.2.1, s.2.2) else (if ((X.2 s.1.toNatClampNeg) &&& 63).toInt = 10 then zN 504 [some (.ref 1000), some (.ref 0), some (.ref 73), some (.int s.1)] [] (SH, s.2.1, s.2.2) else (if ((X.2 s.1.toNatClampNeg) &&& 63).toInt = 11 then zN 547 [some (.ref 1000), some (.ref 0), some (.ref 73), some (.int s.1)] [] (SH, s.2.1, s.2.2) else (if ((X.2 s.1.toNatClampNeg) &&& 63).toInt = 12 then zN 570 [some (.ref 1000), some (.ref 0), some (.ref 73), some (.int s.1)] [] (SH, s.2.1, s.2.2) else (if ((X.2 s.1.toNatClampNeg) &&& 63).toInt = 13 then zN 593 [some (.ref 1000), some (.ref 0), some (.ref 73), some (.int s.1)] [] (SH, s.2.1, s.2.2) else (if ((X.2 s.1.toNatClampNeg) &&& 63).toInt = 14 then zN 616 [some (.ref 1000), some (.ref 0), some (.ref 73), some (.int s.1)] [] (SH, s.2.1, s.2.2) else (if ((X.2 s.1.toNatClampNeg) &&& 63).toInt = 15 then zN 639 [some (.ref 1000), some (.ref 0), some (.ref 73), some (.int s.1)] [] (SH, s.2.1, s.2.2) else (if ((X.2 s.1.toNatClampNeg) &&& 63).toInt = 16 then zN 672 [some (.ref 1000), some (.ref 0), some (.ref 73), some (.int s.1)] [] (SH, s.2.1, s.2.2) else (if ((X.2 s.1.toNatClampNeg) &&& 63).toInt = 17 then zN 695 [some (.ref 1000), some (.ref 0), some (.ref 73), some (.int s.1)] [] (SH, s.2.1, s.2.2) else (if ((X.2 s.1.toNatClampNeg) &&& 63).toInt = 18 then zN 728 [some (.ref 1000), some (.ref 0), some (.ref 73), some (.int s.1)] [] (SH, s.2.1, s.2.2) else (if ((X.2 s.1.toNatClampNeg) &&& 63).toInt = 19 then zN 751 [some (.ref 1000), some (.ref 0), some (.ref 73), some (.int s.1)] [] (SH, s.2.1, s.2.2) else (if ((X.2 s.1.toNatClampNeg) &&& 63).toInt = 20 then zN 774 [some (.ref 1000), some (.ref 0), some (.ref 73), some (.int s.1)] [] (SH, s.2.1, s.2.2) else (if ((X.2 s.1.toNatClampNeg) &&& 63).toInt = 21 then zN 797 [some (.ref 1000), some (.ref 0), some (.ref 73), some (.int s.1)] [] (SH, s.2.1, s.2.2) else (if ((X.2 s.1.toNatClampNeg) &&& 63).toInt = 22 then zN 820 [some (.ref 1000), some (.ref 0), some (.ref 73), some (.int s.1)] [] (SH, s.2.1, s.2.2) else (if ((X.2 s.1.toNatClampNeg) &&& 63).toInt = 23 then zN 833 [some (.ref 1000), some (.ref 0), some (.ref 73), some (.int s.1)] [] (SH, s.2.1, s.2.2) else (if ((X.2 s.1.toNatClampNeg) &&& 63).toInt = 24 then zN 846 [some (.ref 1000), some (.ref 0), some (.ref 73), some (.int s.1)] [] (SH, s.2.1, s.2.2) else (if ((X.2 s.1.toNatClampNeg) &&& 63).toInt = 25 then zN 869 [some (.ref 1000), some (.ref 0), some (.ref 73), some (.int s.1)] [] (SH, s.2.1, s.2.2) else (if ((X.2 s.1.toNatClampNeg) &&& 63).toInt = 26 then zN 912 [some (.ref 1000), some (.ref 0), some (.ref 73), some (.int s.1)] [] (SH, s.2.1, s.2.2) else (if ((X.2 s.1.toNatClampNeg) &&& 63).toInt = 27 then zN 935 [some (.ref 1000), some (.ref 0), some (.ref 73), some (.int s.1)] [] (SH, s.2.1, s.2.2) else (if ((X.2 s.1.toNatClampNeg) &&& 63).toInt = 28 then zN 968 [some (.ref 1000), some (.ref 0), some (.ref 73), some (.int s.1)] [] (SH, s.2.1, s.2.2) else (if ((X.2 s.1.toNatClampNeg) &&& 63).toInt = 29 then zN 1011 [some (.ref 1000), some (.ref 0), some (.ref 73), some (.int s.1)] [] (SH, s.2.1, s.2.2) else (if ((X.2 s.1.toNatClampNeg) &&& 63).toInt = 30 then zN 1084 [some (.ref 1000), some (.ref 0), some (.ref 73), some (.int s.1)] [] (SH, s.2.1, s.2.2) else (if ((X.2 s.1.toNatClampNeg) &&& 63).toInt = 31 then zN 1118 [some (.ref 1000), some (.ref 0), some (.ref 73), some (.int s.1)] [] (SH, s.2.1, s.2.2) else (if ((X.2 s.1.toNatClampNeg) &&& 63).toInt = 32 then zN 1181 [some (.ref 1000), some (.ref 0), some (.ref 73), some (.int s.1)] [] (SH, s.2.1, s.2.2) else (if ((X.2 s.1.toNatClampNeg) &&& 63).toInt = 33 then zN 1214 [some (.ref 1000), some (.ref 0), some (.ref 73), some (.int s.1)] [] (SH, s.2.1, s.2.2) else zN 1237 [some (.ref 1000), some (.ref 0), some (.ref 73), some (.int s.1)] [] (SH, s.2.1, s.2.2))))))))))))))))))))))))))))))))))) rfl ?_
    refine zR_if (fun hc323 => zR_go ?_) (fun hc323 => ?_)
    · rw [if_pos hc323] at h
      refine zr_steps 5 (189, [some (.ref 1000), some (.ref 0), some (.ref 73), some (.int s.1)], [.int (s.1 + 1), .ref 1000, .ref 0], (SH, s.2.1, s.2.2)) rfl ?_
      obtain ⟨hc2, h⟩ := zbifo h
      refine zr_one (bif zin (s.1 + 1) X.1 then zN 190 [some (.ref 1000), some (.ref 0), some (.ref 73), some (.int s.1)] [.int (X.2 (s.1 + 1).toNatClampNeg), .ref 0] (SH, s.2.1, s.2.2) else none) rfl (zR_bif hc2 (zR_go ?_))
      refine zr_steps 4 (194, [some (.ref 1000), some (.ref 0), some (.ref 73), some (.int s.1)], [.int (s.1 + 2), .ref 1000, .int (X.2 (s.1 + 1).toNatClampNeg), .ref 0], (SH, s.2.1, s.2.2)) rfl ?_
      obtain ⟨hc3, h⟩ := zbifo h
      refine zr_one (bif zin (s.1 + 2) X.1 then zN 195 [some (.ref 1000), some (.ref 0), some (.ref 73), some (.int s.1)] [.int (X.2 (s.1 + 2).toNatClampNeg), .int (X.2 (s.1 + 1).toNatClampNeg), .ref 0] (SH, s.2.1, s.2.2) else none) rfl (zR_bif hc3 (zR_go ?_))
      obtain ⟨t5, hc4, h⟩ := zbind h
      refine zr_one (some (.inr (.inl (86, [.ref 0, .int (X.2 (s.1 + 1).toNatClampNeg), .int (X.2 (s.1 + 2).toNatClampNeg)], [], 198)))) rfl (zR_call (by omega) rfl (ok_f86_square (by omega) (X.2 (s.1 + 1).toNatClampNeg) (X.2 (s.1 + 2).toNatClampNeg) _ hc4) ?_)
      refine zr_steps 5 (203, [some (.ref 1000), some (.ref 0), some (.ref 73), some (.int s.1)], [.int (s.1 + 1), .ref 1000, .ref 73, .int t5.1], (SH, t5.2, s.2.2)) rfl ?_
      obtain ⟨hc6, h⟩ := zbifo h
      refine zr_one (bif zin (s.1 + 1) X.1 then zN 204 [some (.ref 1000), some (.ref 0), some (.ref 73), some (.int s.1)] [.int (X.2 (s.1 + 1).toNatClampNeg), .ref 73, .int t5.1] (SH, t5.2, s.2.2) else none) rfl (zR_bif hc6 (zR_go ?_))
      refine zr_steps 4 (208, [some (.ref 1000), some (.ref 0), some (.ref 73), some (.int s.1)], [.int (s.1 + 2), .ref 1000, .int (X.2 (s.1 + 1).toNatClampNeg), .ref 73, .int t5.1], (SH, t5.2, s.2.2)) rfl ?_
      obtain ⟨hc7, h⟩ := zbifo h
      refine zr_one (bif zin (s.1 + 2) X.1 then zN 209 [some (.ref 1000), some (.ref 0), some (.ref 73), some (.int s.1)] [.int (X.2 (s.1 + 2).toNatClampNeg), .int (X.2 (s.1 + 1).toNatClampNeg), .ref 73, .int t5.1] (SH, t5.2, s.2.2) else none) rfl (zR_bif hc7 (zR_go ?_))
      obtain ⟨t9, hc8, h⟩ := zbind h
      refine zr_one (some (.inr (.inl (132, [.ref 73, .int (X.2 (s.1 + 1).toNatClampNeg), .int (X.2 (s.1 + 2).toNatClampNeg)], [.int t5.1], 212)))) rfl (zR_call (by omega) rfl (ok_f132_square (by omega) (X.2 (s.1 + 1).toNatClampNeg) (X.2 (s.1 + 2).toNatClampNeg) _ hc8) ?_)
      refine zr_one (if t5.1 = t9.1 then zN 1237 [some (.ref 1000), some (.ref 0), some (.ref 73), some (.int s.1)] [] (SH, t9.2, s.2.2) else zN 215 [some (.ref 1000), some (.ref 0), some (.ref 73), some (.int s.1)] [] (SH, t9.2, s.2.2)) rfl (zR_if (fun hc10 => zR_go ?_) (fun hc10 => zR_go ?_))
      · rw [if_pos hc10] at h
        refine zr_steps 2 (18, [some (.ref 1000), some (.ref 0), some (.ref 73), some (.int (s.1 + 6))], [], (SH, t9.2, s.2.2)) rfl ?_
        have he := Option.some.inj h
        subst he
        exact zr_hdr (ls2 := [some (.ref 1000), some (.ref 0), some (.ref 73), some (.int (s.1 + 6))]) rfl rfl (show zRun X d 0 18 [some (.ref 1000), some (.ref 0), some (.ref 73), some (.int (s.1 + 6))] [] (SH, t9.2, s.2.2) r M' from w)
      · rw [if_neg hc10] at h
        refine zr_steps 1 (216, [some (.ref 1000), some (.ref 0), some (.ref 73), some (.int s.1)], [.int 0], (SH, t9.2, s.2.2)) rfl ?_
        have he := Option.some.inj h
        subst he
        obtain ⟨e1, e2⟩ := (show r = (some (.int 0)) ∧ M' = (SH, t9.2, s.2.2) from w)
        exact zr_one (if ((0 : Int32) = 0 ∨ (0 : Int32) = 1) then some (.inr (.inr (some (.int 0)))) else none) rfl (zR_pos (by decide) (zR_ret e1.symm e2.symm))
    rw [if_neg hc323] at h
    refine zR_if (fun hc322 => zR_go ?_) (fun hc322 => ?_)
    · rw [if_pos hc322] at h
      refine zr_steps 5 (222, [some (.ref 1000), some (.ref 0), some (.ref 73), some (.int s.1)], [.int (s.1 + 1), .ref 1000, .ref 0], (SH, s.2.1, s.2.2)) rfl ?_
      obtain ⟨hc11, h⟩ := zbifo h
      refine zr_one (bif zin (s.1 + 1) X.1 then zN 223 [some (.ref 1000), some (.ref 0), some (.ref 73), some (.int s.1)] [.int (X.2 (s.1 + 1).toNatClampNeg), .ref 0] (SH, s.2.1, s.2.2) else none) rfl (zR_bif hc11 (zR_go ?_))
      refine zr_steps 4 (227, [some (.ref 1000), some (.ref 0), some (.ref 73), some (.int s.1)], [.int (s.1 + 2), .ref 1000, .int (X.2 (s.1 + 1).toNatClampNeg), .ref 0], (SH, s.2.1, s.2.2)) rfl ?_
      obtain ⟨hc12, h⟩ := zbifo h
      refine zr_one (bif zin (s.1 + 2) X.1 then zN 228 [some (.ref 1000), some (.ref 0), some (.ref 73), some (.int s.1)] [.int (X.2 (s.1 + 2).toNatClampNeg), .int (X.2 (s.1 + 1).toNatClampNeg), .ref 0] (SH, s.2.1, s.2.2) else none) rfl (zR_bif hc12 (zR_go ?_))
      refine zr_steps 4 (232, [some (.ref 1000), some (.ref 0), some (.ref 73), some (.int s.1)], [.int (s.1 + 3), .ref 1000, .int (X.2 (s.1 + 2).toNatClampNeg), .int (X.2 (s.1 + 1).toNatClampNeg), .ref 0], (SH, s.2.1, s.2.2)) rfl ?_
      obtain ⟨hc13, h⟩ := zbifo h
      refine zr_one (bif zin (s.1 + 3) X.1 then zN 233 [some (.ref 1000), some (.ref 0), some (.ref 73), some (.int s.1)] [.int (X.2 (s.1 + 3).toNatClampNeg), .int (X.2 (s.1 + 2).toNatClampNeg), .int (X.2 (s.1 + 1).toNatClampNeg), .ref 0] (SH, s.2.1, s.2.2) else none) rfl (zR_bif hc13 (zR_go ?_))
      obtain ⟨t15, hc14, h⟩ := zbind h
      refine zr_one (some (.inr (.inl (87, [.ref 0, .int (X.2 (s.1 + 1).toNatClampNeg), .int (X.2 (s.1 + 2).toNatClampNeg), .int (X.2 (s.1 + 3).toNatClampNeg)], [], 236)))) rfl (zR_call (by omega) rfl (ok_f87_way (by omega) (X.2 (s.1 + 1).toNatClampNeg) (X.2 (s.1 + 2).toNatClampNeg) (X.2 (s.1 + 3).toNatClampNeg) _ hc14) ?_)
      refine zr_steps 5 (241, [some (.ref 1000), some (.ref 0), some (.ref 73), some (.int s.1)], [.int (s.1 + 1), .ref 1000, .ref 73, .int t15.1], (SH, t15.2, s.2.2)) rfl ?_
      obtain ⟨hc16, h⟩ := zbifo h
      refine zr_one (bif zin (s.1 + 1) X.1 then zN 242 [some (.ref 1000), some (.ref 0), some (.ref 73), some (.int s.1)] [.int (X.2 (s.1 + 1).toNatClampNeg), .ref 73, .int t15.1] (SH, t15.2, s.2.2) else none) rfl (zR_bif hc16 (zR_go ?_))
      refine zr_steps 4 (246, [some (.ref 1000), some (.ref 0), some (.ref 73), some (.int s.1)], [.int (s.1 + 2), .ref 1000, .int (X.2 (s.1 + 1).toNatClampNeg), .ref 73, .int t15.1], (SH, t15.2, s.2.2)) rfl ?_
      obtain ⟨hc17, h⟩ := zbifo h
      refine zr_one (bif zin (s.1 + 2) X.1 then zN 247 [some (.ref 1000), some (.ref 0), some (.ref 73), some (.int s.1)] [.int (X.2 (s.1 + 2).toNatClampNeg), .int (X.2 (s.1 + 1).toNatClampNeg), .ref 73, .int t15.1] (SH, t15.2, s.2.2) else none) rfl (zR_bif hc17 (zR_go ?_))
      refine zr_steps 4 (251, [some (.ref 1000), some (.ref 0), some (.ref 73), some (.int s.1)], [.int (s.1 + 3), .ref 1000, .int (X.2 (s.1 + 2).toNatClampNeg), .int (X.2 (s.1 + 1).toNatClampNeg), .ref 73, .int t15.1], (SH, t15.2, s.2.2)) rfl ?_
      obtain ⟨hc18, h⟩ := zbifo h
      refine zr_one (bif zin (s.1 + 3) X.1 then zN 252 [some (.ref 1000), some (.ref 0), some (.ref 73), some (.int s.1)] [.int (X.2 (s.1 + 3).toNatClampNeg), .int (X.2 (s.1 + 2).toNatClampNeg), .int (X.2 (s.1 + 1).toNatClampNeg), .ref 73, .int t15.1] (SH, t15.2, s.2.2) else none) rfl (zR_bif hc18 (zR_go ?_))
      obtain ⟨t20, hc19, h⟩ := zbind h
      refine zr_one (some (.inr (.inl (133, [.ref 73, .int (X.2 (s.1 + 1).toNatClampNeg), .int (X.2 (s.1 + 2).toNatClampNeg), .int (X.2 (s.1 + 3).toNatClampNeg)], [.int t15.1], 255)))) rfl (zR_call (by omega) rfl (ok_f133_way (by omega) (X.2 (s.1 + 1).toNatClampNeg) (X.2 (s.1 + 2).toNatClampNeg) (X.2 (s.1 + 3).toNatClampNeg) _ hc19) ?_)
      refine zr_one (if t15.1 = t20.1 then zN 1237 [some (.ref 1000), some (.ref 0), some (.ref 73), some (.int s.1)] [] (SH, t20.2, s.2.2) else zN 258 [some (.ref 1000), some (.ref 0), some (.ref 73), some (.int s.1)] [] (SH, t20.2, s.2.2)) rfl (zR_if (fun hc21 => zR_go ?_) (fun hc21 => zR_go ?_))
      · rw [if_pos hc21] at h
        refine zr_steps 2 (18, [some (.ref 1000), some (.ref 0), some (.ref 73), some (.int (s.1 + 6))], [], (SH, t20.2, s.2.2)) rfl ?_
        have he := Option.some.inj h
        subst he
        exact zr_hdr (ls2 := [some (.ref 1000), some (.ref 0), some (.ref 73), some (.int (s.1 + 6))]) rfl rfl (show zRun X d 0 18 [some (.ref 1000), some (.ref 0), some (.ref 73), some (.int (s.1 + 6))] [] (SH, t20.2, s.2.2) r M' from w)
      · rw [if_neg hc21] at h
        refine zr_steps 1 (259, [some (.ref 1000), some (.ref 0), some (.ref 73), some (.int s.1)], [.int 0], (SH, t20.2, s.2.2)) rfl ?_
        have he := Option.some.inj h
        subst he
        obtain ⟨e1, e2⟩ := (show r = (some (.int 0)) ∧ M' = (SH, t20.2, s.2.2) from w)
        exact zr_one (if ((0 : Int32) = 0 ∨ (0 : Int32) = 1) then some (.inr (.inr (some (.int 0)))) else none) rfl (zR_pos (by decide) (zR_ret e1.symm e2.symm))
    rw [if_neg hc322] at h
    refine zR_if (fun hc321 => zR_go ?_) (fun hc321 => ?_)
    · rw [if_pos hc321] at h
      refine zr_steps 5 (265, [some (.ref 1000), some (.ref 0), some (.ref 73), some (.int s.1)], [.int (s.1 + 1), .ref 1000, .ref 0], (SH, s.2.1, s.2.2)) rfl ?_
      obtain ⟨hc22, h⟩ := zbifo h
      refine zr_one (bif zin (s.1 + 1) X.1 then zN 266 [some (.ref 1000), some (.ref 0), some (.ref 73), some (.int s.1)] [.int (X.2 (s.1 + 1).toNatClampNeg), .ref 0] (SH, s.2.1, s.2.2) else none) rfl (zR_bif hc22 (zR_go ?_))
      refine zr_steps 4 (270, [some (.ref 1000), some (.ref 0), some (.ref 73), some (.int s.1)], [.int (s.1 + 2), .ref 1000, .int (X.2 (s.1 + 1).toNatClampNeg), .ref 0], (SH, s.2.1, s.2.2)) rfl ?_
      obtain ⟨hc23, h⟩ := zbifo h
      refine zr_one (bif zin (s.1 + 2) X.1 then zN 271 [some (.ref 1000), some (.ref 0), some (.ref 73), some (.int s.1)] [.int (X.2 (s.1 + 2).toNatClampNeg), .int (X.2 (s.1 + 1).toNatClampNeg), .ref 0] (SH, s.2.1, s.2.2) else none) rfl (zR_bif hc23 (zR_go ?_))
      refine zr_steps 4 (275, [some (.ref 1000), some (.ref 0), some (.ref 73), some (.int s.1)], [.int (s.1 + 3), .ref 1000, .int (X.2 (s.1 + 2).toNatClampNeg), .int (X.2 (s.1 + 1).toNatClampNeg), .ref 0], (SH, s.2.1, s.2.2)) rfl ?_
      obtain ⟨hc24, h⟩ := zbifo h
      refine zr_one (bif zin (s.1 + 3) X.1 then zN 276 [some (.ref 1000), some (.ref 0), some (.ref 73), some (.int s.1)] [.int (X.2 (s.1 + 3).toNatClampNeg), .int (X.2 (s.1 + 2).toNatClampNeg), .int (X.2 (s.1 + 1).toNatClampNeg), .ref 0] (SH, s.2.1, s.2.2) else none) rfl (zR_bif hc24 (zR_go ?_))
      obtain ⟨t26, hc25, h⟩ := zbind h
      refine zr_one (some (.inr (.inl (88, [.ref 0, .int (X.2 (s.1 + 1).toNatClampNeg), .int (X.2 (s.1 + 2).toNatClampNeg), .int (X.2 (s.1 + 3).toNatClampNeg)], [], 279)))) rfl (zR_call (by omega) rfl (ok_f88_sort (by omega) (X.2 (s.1 + 1).toNatClampNeg) (X.2 (s.1 + 2).toNatClampNeg) (X.2 (s.1 + 3).toNatClampNeg) _ hc25) ?_)
      refine zr_steps 5 (284, [some (.ref 1000), some (.ref 0), some (.ref 73), some (.int s.1)], [.int (s.1 + 1), .ref 1000, .ref 73, .int t26.1], (SH, t26.2, s.2.2)) rfl ?_
      obtain ⟨hc27, h⟩ := zbifo h
      refine zr_one (bif zin (s.1 + 1) X.1 then zN 285 [some (.ref 1000), some (.ref 0), some (.ref 73), some (.int s.1)] [.int (X.2 (s.1 + 1).toNatClampNeg), .ref 73, .int t26.1] (SH, t26.2, s.2.2) else none) rfl (zR_bif hc27 (zR_go ?_))
      refine zr_steps 4 (289, [some (.ref 1000), some (.ref 0), some (.ref 73), some (.int s.1)], [.int (s.1 + 2), .ref 1000, .int (X.2 (s.1 + 1).toNatClampNeg), .ref 73, .int t26.1], (SH, t26.2, s.2.2)) rfl ?_
      obtain ⟨hc28, h⟩ := zbifo h
      refine zr_one (bif zin (s.1 + 2) X.1 then zN 290 [some (.ref 1000), some (.ref 0), some (.ref 73), some (.int s.1)] [.int (X.2 (s.1 + 2).toNatClampNeg), .int (X.2 (s.1 + 1).toNatClampNeg), .ref 73, .int t26.1] (SH, t26.2, s.2.2) else none) rfl (zR_bif hc28 (zR_go ?_))
      refine zr_steps 4 (294, [some (.ref 1000), some (.ref 0), some (.ref 73), some (.int s.1)], [.int (s.1 + 3), .ref 1000, .int (X.2 (s.1 + 2).toNatClampNeg), .int (X.2 (s.1 + 1).toNatClampNeg), .ref 73, .int t26.1], (SH, t26.2, s.2.2)) rfl ?_
      obtain ⟨hc29, h⟩ := zbifo h
      refine zr_one (bif zin (s.1 + 3) X.1 then zN 295 [some (.ref 1000), some (.ref 0), some (.ref 73), some (.int s.1)] [.int (X.2 (s.1 + 3).toNatClampNeg), .int (X.2 (s.1 + 2).toNatClampNeg), .int (X.2 (s.1 + 1).toNatClampNeg), .ref 73, .int t26.1] (SH, t26.2, s.2.2) else none) rfl (zR_bif hc29 (zR_go ?_))
      obtain ⟨t31, hc30, h⟩ := zbind h
      refine zr_one (some (.inr (.inl (136, [.ref 73, .int (X.2 (s.1 + 1).toNatClampNeg), .int (X.2 (s.1 + 2).toNatClampNeg), .int (X.2 (s.1 + 3).toNatClampNeg)], [.int t26.1], 298)))) rfl (zR_call (by omega) rfl (ok_f136_sort (by omega) (X.2 (s.1 + 1).toNatClampNeg) (X.2 (s.1 + 2).toNatClampNeg) (X.2 (s.1 + 3).toNatClampNeg) _ hc30) ?_)
      refine zr_one (if t26.1 = t31.1 then zN 1237 [some (.ref 1000), some (.ref 0), some (.ref 73), some (.int s.1)] [] (SH, t31.2, s.2.2) else zN 301 [some (.ref 1000), some (.ref 0), some (.ref 73), some (.int s.1)] [] (SH, t31.2, s.2.2)) rfl (zR_if (fun hc32 => zR_go ?_) (fun hc32 => zR_go ?_))
      · rw [if_pos hc32] at h
        refine zr_steps 2 (18, [some (.ref 1000), some (.ref 0), some (.ref 73), some (.int (s.1 + 6))], [], (SH, t31.2, s.2.2)) rfl ?_
        have he := Option.some.inj h
        subst he
        exact zr_hdr (ls2 := [some (.ref 1000), some (.ref 0), some (.ref 73), some (.int (s.1 + 6))]) rfl rfl (show zRun X d 0 18 [some (.ref 1000), some (.ref 0), some (.ref 73), some (.int (s.1 + 6))] [] (SH, t31.2, s.2.2) r M' from w)
      · rw [if_neg hc32] at h
        refine zr_steps 1 (302, [some (.ref 1000), some (.ref 0), some (.ref 73), some (.int s.1)], [.int 0], (SH, t31.2, s.2.2)) rfl ?_
        have he := Option.some.inj h
        subst he
        obtain ⟨e1, e2⟩ := (show r = (some (.int 0)) ∧ M' = (SH, t31.2, s.2.2) from w)
        exact zr_one (if ((0 : Int32) = 0 ∨ (0 : Int32) = 1) then some (.inr (.inr (some (.int 0)))) else none) rfl (zR_pos (by decide) (zR_ret e1.symm e2.symm))
    rw [if_neg hc321] at h
    refine zR_if (fun hc320 => zR_go ?_) (fun hc320 => ?_)
    · rw [if_pos hc320] at h
      refine zr_steps 5 (308, [some (.ref 1000), some (.ref 0), some (.ref 73), some (.int s.1)], [.int (s.1 + 1), .ref 1000, .ref 0], (SH, s.2.1, s.2.2)) rfl ?_
      obtain ⟨hc33, h⟩ := zbifo h
      refine zr_one (bif zin (s.1 + 1) X.1 then zN 309 [some (.ref 1000), some (.ref 0), some (.ref 73), some (.int s.1)] [.int (X.2 (s.1 + 1).toNatClampNeg), .ref 0] (SH, s.2.1, s.2.2) else none) rfl (zR_bif hc33 (zR_go ?_))
      refine zr_steps 4 (313, [some (.ref 1000), some (.ref 0), some (.ref 73), some (.int s.1)], [.int (s.1 + 2), .ref 1000, .int (X.2 (s.1 + 1).toNatClampNeg), .ref 0], (SH, s.2.1, s.2.2)) rfl ?_
      obtain ⟨hc34, h⟩ := zbifo h
      refine zr_one (bif zin (s.1 + 2) X.1 then zN 314 [some (.ref 1000), some (.ref 0), some (.ref 73), some (.int s.1)] [.int (X.2 (s.1 + 2).toNatClampNeg), .int (X.2 (s.1 + 1).toNatClampNeg), .ref 0] (SH, s.2.1, s.2.2) else none) rfl (zR_bif hc34 (zR_go ?_))
      refine zr_steps 4 (318, [some (.ref 1000), some (.ref 0), some (.ref 73), some (.int s.1)], [.int (s.1 + 3), .ref 1000, .int (X.2 (s.1 + 2).toNatClampNeg), .int (X.2 (s.1 + 1).toNatClampNeg), .ref 0], (SH, s.2.1, s.2.2)) rfl ?_
      obtain ⟨hc35, h⟩ := zbifo h
      refine zr_one (bif zin (s.1 + 3) X.1 then zN 319 [some (.ref 1000), some (.ref 0), some (.ref 73), some (.int s.1)] [.int (X.2 (s.1 + 3).toNatClampNeg), .int (X.2 (s.1 + 2).toNatClampNeg), .int (X.2 (s.1 + 1).toNatClampNeg), .ref 0] (SH, s.2.1, s.2.2) else none) rfl (zR_bif hc35 (zR_go ?_))
      obtain ⟨t37, hc36, h⟩ := zbind h
      refine zr_one (some (.inr (.inl (89, [.ref 0, .int (X.2 (s.1 + 1).toNatClampNeg), .int (X.2 (s.1 + 2).toNatClampNeg), .int (X.2 (s.1 + 3).toNatClampNeg)], [], 322)))) rfl (zR_call (by omega) rfl (ok_f89_sorts (by omega) (X.2 (s.1 + 1).toNatClampNeg) (X.2 (s.1 + 2).toNatClampNeg) (X.2 (s.1 + 3).toNatClampNeg) _ hc36) ?_)
      refine zr_steps 5 (327, [some (.ref 1000), some (.ref 0), some (.ref 73), some (.int s.1)], [.int (s.1 + 1), .ref 1000, .ref 73, .int t37.1], (SH, t37.2, s.2.2)) rfl ?_
      obtain ⟨hc38, h⟩ := zbifo h
      refine zr_one (bif zin (s.1 + 1) X.1 then zN 328 [some (.ref 1000), some (.ref 0), some (.ref 73), some (.int s.1)] [.int (X.2 (s.1 + 1).toNatClampNeg), .ref 73, .int t37.1] (SH, t37.2, s.2.2) else none) rfl (zR_bif hc38 (zR_go ?_))
      refine zr_steps 4 (332, [some (.ref 1000), some (.ref 0), some (.ref 73), some (.int s.1)], [.int (s.1 + 2), .ref 1000, .int (X.2 (s.1 + 1).toNatClampNeg), .ref 73, .int t37.1], (SH, t37.2, s.2.2)) rfl ?_
      obtain ⟨hc39, h⟩ := zbifo h
      refine zr_one (bif zin (s.1 + 2) X.1 then zN 333 [some (.ref 1000), some (.ref 0), some (.ref 73), some (.int s.1)] [.int (X.2 (s.1 + 2).toNatClampNeg), .int (X.2 (s.1 + 1).toNatClampNeg), .ref 73, .int t37.1] (SH, t37.2, s.2.2) else none) rfl (zR_bif hc39 (zR_go ?_))
      refine zr_steps 4 (337, [some (.ref 1000), some (.ref 0), some (.ref 73), some (.int s.1)], [.int (s.1 + 3), .ref 1000, .int (X.2 (s.1 + 2).toNatClampNeg), .int (X.2 (s.1 + 1).toNatClampNeg), .ref 73, .int t37.1], (SH, t37.2, s.2.2)) rfl ?_
      obtain ⟨hc40, h⟩ := zbifo h
      refine zr_one (bif zin (s.1 + 3) X.1 then zN 338 [some (.ref 1000), some (.ref 0), some (.ref 73), some (.int s.1)] [.int (X.2 (s.1 + 3).toNatClampNeg), .int (X.2 (s.1 + 2).toNatClampNeg), .int (X.2 (s.1 + 1).toNatClampNeg), .ref 73, .int t37.1] (SH, t37.2, s.2.2) else none) rfl (zR_bif hc40 (zR_go ?_))
      obtain ⟨t42, hc41, h⟩ := zbind h
      refine zr_one (some (.inr (.inl (137, [.ref 73, .int (X.2 (s.1 + 1).toNatClampNeg), .int (X.2 (s.1 + 2).toNatClampNeg), .int (X.2 (s.1 + 3).toNatClampNeg)], [.int t37.1], 341)))) rfl (zR_call (by omega) rfl (ok_f137_sorts (by omega) (X.2 (s.1 + 1).toNatClampNeg) (X.2 (s.1 + 2).toNatClampNeg) (X.2 (s.1 + 3).toNatClampNeg) _ hc41) ?_)
      refine zr_one (if t37.1 = t42.1 then zN 1237 [some (.ref 1000), some (.ref 0), some (.ref 73), some (.int s.1)] [] (SH, t42.2, s.2.2) else zN 344 [some (.ref 1000), some (.ref 0), some (.ref 73), some (.int s.1)] [] (SH, t42.2, s.2.2)) rfl (zR_if (fun hc43 => zR_go ?_) (fun hc43 => zR_go ?_))
      · rw [if_pos hc43] at h
        refine zr_steps 2 (18, [some (.ref 1000), some (.ref 0), some (.ref 73), some (.int (s.1 + 6))], [], (SH, t42.2, s.2.2)) rfl ?_
        have he := Option.some.inj h
        subst he
        exact zr_hdr (ls2 := [some (.ref 1000), some (.ref 0), some (.ref 73), some (.int (s.1 + 6))]) rfl rfl (show zRun X d 0 18 [some (.ref 1000), some (.ref 0), some (.ref 73), some (.int (s.1 + 6))] [] (SH, t42.2, s.2.2) r M' from w)
      · rw [if_neg hc43] at h
        refine zr_steps 1 (345, [some (.ref 1000), some (.ref 0), some (.ref 73), some (.int s.1)], [.int 0], (SH, t42.2, s.2.2)) rfl ?_
        have he := Option.some.inj h
        subst he
        obtain ⟨e1, e2⟩ := (show r = (some (.int 0)) ∧ M' = (SH, t42.2, s.2.2) from w)
        exact zr_one (if ((0 : Int32) = 0 ∨ (0 : Int32) = 1) then some (.inr (.inr (some (.int 0)))) else none) rfl (zR_pos (by decide) (zR_ret e1.symm e2.symm))
    rw [if_neg hc320] at h
    refine zR_if (fun hc319 => zR_go ?_) (fun hc319 => ?_)
    · rw [if_pos hc319] at h
      refine zr_steps 5 (351, [some (.ref 1000), some (.ref 0), some (.ref 73), some (.int s.1)], [.int (s.1 + 1), .ref 1000, .ref 0], (SH, s.2.1, s.2.2)) rfl ?_
      obtain ⟨hc44, h⟩ := zbifo h
      refine zr_one (bif zin (s.1 + 1) X.1 then zN 352 [some (.ref 1000), some (.ref 0), some (.ref 73), some (.int s.1)] [.int (X.2 (s.1 + 1).toNatClampNeg), .ref 0] (SH, s.2.1, s.2.2) else none) rfl (zR_bif hc44 (zR_go ?_))
      obtain ⟨t46, hc45, h⟩ := zbind h
      refine zr_one (some (.inr (.inl (91, [.ref 0, .int (X.2 (s.1 + 1).toNatClampNeg)], [], 355)))) rfl (zR_call (by omega) rfl (ok_f91_feed (by omega) (X.2 (s.1 + 1).toNatClampNeg) _ hc45) ?_)
      refine zr_steps 5 (360, [some (.ref 1000), some (.ref 0), some (.ref 73), some (.int s.1)], [.int (s.1 + 1), .ref 1000, .ref 73, .int t46.1], (SH, t46.2, s.2.2)) rfl ?_
      obtain ⟨hc47, h⟩ := zbifo h
      refine zr_one (bif zin (s.1 + 1) X.1 then zN 361 [some (.ref 1000), some (.ref 0), some (.ref 73), some (.int s.1)] [.int (X.2 (s.1 + 1).toNatClampNeg), .ref 73, .int t46.1] (SH, t46.2, s.2.2) else none) rfl (zR_bif hc47 (zR_go ?_))
      obtain ⟨t49, hc48, h⟩ := zbind h
      refine zr_one (some (.inr (.inl (138, [.ref 73, .int (X.2 (s.1 + 1).toNatClampNeg)], [.int t46.1], 364)))) rfl (zR_call (by omega) rfl (ok_f138_feed (by omega) (X.2 (s.1 + 1).toNatClampNeg) _ hc48) ?_)
      refine zr_one (if t46.1 = t49.1 then zN 1237 [some (.ref 1000), some (.ref 0), some (.ref 73), some (.int s.1)] [] (SH, t49.2, s.2.2) else zN 367 [some (.ref 1000), some (.ref 0), some (.ref 73), some (.int s.1)] [] (SH, t49.2, s.2.2)) rfl (zR_if (fun hc50 => zR_go ?_) (fun hc50 => zR_go ?_))
      · rw [if_pos hc50] at h
        refine zr_steps 2 (18, [some (.ref 1000), some (.ref 0), some (.ref 73), some (.int (s.1 + 6))], [], (SH, t49.2, s.2.2)) rfl ?_
        have he := Option.some.inj h
        subst he
        exact zr_hdr (ls2 := [some (.ref 1000), some (.ref 0), some (.ref 73), some (.int (s.1 + 6))]) rfl rfl (show zRun X d 0 18 [some (.ref 1000), some (.ref 0), some (.ref 73), some (.int (s.1 + 6))] [] (SH, t49.2, s.2.2) r M' from w)
      · rw [if_neg hc50] at h
        refine zr_steps 1 (368, [some (.ref 1000), some (.ref 0), some (.ref 73), some (.int s.1)], [.int 0], (SH, t49.2, s.2.2)) rfl ?_
        have he := Option.some.inj h
        subst he
        obtain ⟨e1, e2⟩ := (show r = (some (.int 0)) ∧ M' = (SH, t49.2, s.2.2) from w)
        exact zr_one (if ((0 : Int32) = 0 ∨ (0 : Int32) = 1) then some (.inr (.inr (some (.int 0)))) else none) rfl (zR_pos (by decide) (zR_ret e1.symm e2.symm))
    rw [if_neg hc319] at h
    refine zR_if (fun hc318 => zR_go ?_) (fun hc318 => ?_)
    · rw [if_pos hc318] at h
      refine zr_steps 1 (370, [some (.ref 1000), some (.ref 0), some (.ref 73), some (.int s.1)], [.ref 0], (SH, s.2.1, s.2.2)) rfl ?_
      obtain ⟨t52, hc51, h⟩ := zbind h
      refine zr_one (some (.inr (.inl (92, [.ref 0], [], 373)))) rfl (zR_call (by omega) rfl (ok_f92_law (by omega)  _ hc51) ?_)
      refine zr_steps 1 (374, [some (.ref 1000), some (.ref 0), some (.ref 73), some (.int s.1)], [.ref 73, .int t52.1], (SH, t52.2, s.2.2)) rfl ?_
      obtain ⟨t54, hc53, h⟩ := zbind h
      refine zr_one (some (.inr (.inl (157, [.ref 73], [.int t52.1], 377)))) rfl (zR_call (by omega) rfl (ok_f157_law (by omega)  _ hc53) ?_)
      refine zr_one (if t52.1 = t54.1 then zN 1237 [some (.ref 1000), some (.ref 0), some (.ref 73), some (.int s.1)] [] (SH, t54.2, s.2.2) else zN 380 [some (.ref 1000), some (.ref 0), some (.ref 73), some (.int s.1)] [] (SH, t54.2, s.2.2)) rfl (zR_if (fun hc55 => zR_go ?_) (fun hc55 => zR_go ?_))
      · rw [if_pos hc55] at h
        refine zr_steps 2 (18, [some (.ref 1000), some (.ref 0), some (.ref 73), some (.int (s.1 + 6))], [], (SH, t54.2, s.2.2)) rfl ?_
        have he := Option.some.inj h
        subst he
        exact zr_hdr (ls2 := [some (.ref 1000), some (.ref 0), some (.ref 73), some (.int (s.1 + 6))]) rfl rfl (show zRun X d 0 18 [some (.ref 1000), some (.ref 0), some (.ref 73), some (.int (s.1 + 6))] [] (SH, t54.2, s.2.2) r M' from w)
      · rw [if_neg hc55] at h
        refine zr_steps 1 (381, [some (.ref 1000), some (.ref 0), some (.ref 73), some (.int s.1)], [.int 0], (SH, t54.2, s.2.2)) rfl ?_
        have he := Option.some.inj h
        subst he
        obtain ⟨e1, e2⟩ := (show r = (some (.int 0)) ∧ M' = (SH, t54.2, s.2.2) from w)
        exact zr_one (if ((0 : Int32) = 0 ∨ (0 : Int32) = 1) then some (.inr (.inr (some (.int 0)))) else none) rfl (zR_pos (by decide) (zR_ret e1.symm e2.symm))
    rw [if_neg hc318] at h
    refine zR_if (fun hc317 => zR_go ?_) (fun hc317 => ?_)
    · rw [if_pos hc317] at h
      refine zr_steps 5 (387, [some (.ref 1000), some (.ref 0), some (.ref 73), some (.int s.1)], [.int (s.1 + 1), .ref 1000, .ref 0], (SH, s.2.1, s.2.2)) rfl ?_
      obtain ⟨hc56, h⟩ := zbifo h
      refine zr_one (bif zin (s.1 + 1) X.1 then zN 388 [some (.ref 1000), some (.ref 0), some (.ref 73), some (.int s.1)] [.int (X.2 (s.1 + 1).toNatClampNeg), .ref 0] (SH, s.2.1, s.2.2) else none) rfl (zR_bif hc56 (zR_go ?_))
      refine zr_steps 4 (392, [some (.ref 1000), some (.ref 0), some (.ref 73), some (.int s.1)], [.int (s.1 + 2), .ref 1000, .int (X.2 (s.1 + 1).toNatClampNeg), .ref 0], (SH, s.2.1, s.2.2)) rfl ?_
      obtain ⟨hc57, h⟩ := zbifo h
      refine zr_one (bif zin (s.1 + 2) X.1 then zN 393 [some (.ref 1000), some (.ref 0), some (.ref 73), some (.int s.1)] [.int (X.2 (s.1 + 2).toNatClampNeg), .int (X.2 (s.1 + 1).toNatClampNeg), .ref 0] (SH, s.2.1, s.2.2) else none) rfl (zR_bif hc57 (zR_go ?_))
      obtain ⟨t59, hc58, h⟩ := zbind h
      refine zr_one (some (.inr (.inl (93, [.ref 0, .int (X.2 (s.1 + 1).toNatClampNeg), .int (X.2 (s.1 + 2).toNatClampNeg)], [], 396)))) rfl (zR_call (by omega) rfl (ok_f93_set (by omega) (X.2 (s.1 + 1).toNatClampNeg) (X.2 (s.1 + 2).toNatClampNeg) _ hc58) ?_)
      refine zr_steps 5 (401, [some (.ref 1000), some (.ref 0), some (.ref 73), some (.int s.1)], [.int (s.1 + 1), .ref 1000, .ref 73, .int t59.1], (SH, t59.2, s.2.2)) rfl ?_
      obtain ⟨hc60, h⟩ := zbifo h
      refine zr_one (bif zin (s.1 + 1) X.1 then zN 402 [some (.ref 1000), some (.ref 0), some (.ref 73), some (.int s.1)] [.int (X.2 (s.1 + 1).toNatClampNeg), .ref 73, .int t59.1] (SH, t59.2, s.2.2) else none) rfl (zR_bif hc60 (zR_go ?_))
      refine zr_steps 4 (406, [some (.ref 1000), some (.ref 0), some (.ref 73), some (.int s.1)], [.int (s.1 + 2), .ref 1000, .int (X.2 (s.1 + 1).toNatClampNeg), .ref 73, .int t59.1], (SH, t59.2, s.2.2)) rfl ?_
      obtain ⟨hc61, h⟩ := zbifo h
      refine zr_one (bif zin (s.1 + 2) X.1 then zN 407 [some (.ref 1000), some (.ref 0), some (.ref 73), some (.int s.1)] [.int (X.2 (s.1 + 2).toNatClampNeg), .int (X.2 (s.1 + 1).toNatClampNeg), .ref 73, .int t59.1] (SH, t59.2, s.2.2) else none) rfl (zR_bif hc61 (zR_go ?_))
      obtain ⟨t63, hc62, h⟩ := zbind h
      refine zr_one (some (.inr (.inl (158, [.ref 73, .int (X.2 (s.1 + 1).toNatClampNeg), .int (X.2 (s.1 + 2).toNatClampNeg)], [.int t59.1], 410)))) rfl (zR_call (by omega) rfl (ok_f158_set (by omega) (X.2 (s.1 + 1).toNatClampNeg) (X.2 (s.1 + 2).toNatClampNeg) _ hc62) ?_)
      refine zr_one (if t59.1 = t63.1 then zN 1237 [some (.ref 1000), some (.ref 0), some (.ref 73), some (.int s.1)] [] (SH, t63.2, s.2.2) else zN 413 [some (.ref 1000), some (.ref 0), some (.ref 73), some (.int s.1)] [] (SH, t63.2, s.2.2)) rfl (zR_if (fun hc64 => zR_go ?_) (fun hc64 => zR_go ?_))
      · rw [if_pos hc64] at h
        refine zr_steps 2 (18, [some (.ref 1000), some (.ref 0), some (.ref 73), some (.int (s.1 + 6))], [], (SH, t63.2, s.2.2)) rfl ?_
        have he := Option.some.inj h
        subst he
        exact zr_hdr (ls2 := [some (.ref 1000), some (.ref 0), some (.ref 73), some (.int (s.1 + 6))]) rfl rfl (show zRun X d 0 18 [some (.ref 1000), some (.ref 0), some (.ref 73), some (.int (s.1 + 6))] [] (SH, t63.2, s.2.2) r M' from w)
      · rw [if_neg hc64] at h
        refine zr_steps 1 (414, [some (.ref 1000), some (.ref 0), some (.ref 73), some (.int s.1)], [.int 0], (SH, t63.2, s.2.2)) rfl ?_
        have he := Option.some.inj h
        subst he
        obtain ⟨e1, e2⟩ := (show r = (some (.int 0)) ∧ M' = (SH, t63.2, s.2.2) from w)
        exact zr_one (if ((0 : Int32) = 0 ∨ (0 : Int32) = 1) then some (.inr (.inr (some (.int 0)))) else none) rfl (zR_pos (by decide) (zR_ret e1.symm e2.symm))
    rw [if_neg hc317] at h
    refine zR_if (fun hc316 => zR_go ?_) (fun hc316 => ?_)
    · rw [if_pos hc316] at h
      refine zr_steps 5 (420, [some (.ref 1000), some (.ref 0), some (.ref 73), some (.int s.1)], [.int (s.1 + 1), .ref 1000, .ref 0], (SH, s.2.1, s.2.2)) rfl ?_
      obtain ⟨hc65, h⟩ := zbifo h
      refine zr_one (bif zin (s.1 + 1) X.1 then zN 421 [some (.ref 1000), some (.ref 0), some (.ref 73), some (.int s.1)] [.int (X.2 (s.1 + 1).toNatClampNeg), .ref 0] (SH, s.2.1, s.2.2) else none) rfl (zR_bif hc65 (zR_go ?_))
      refine zr_steps 4 (425, [some (.ref 1000), some (.ref 0), some (.ref 73), some (.int s.1)], [.int (s.1 + 2), .ref 1000, .int (X.2 (s.1 + 1).toNatClampNeg), .ref 0], (SH, s.2.1, s.2.2)) rfl ?_
      obtain ⟨hc66, h⟩ := zbifo h
      refine zr_one (bif zin (s.1 + 2) X.1 then zN 426 [some (.ref 1000), some (.ref 0), some (.ref 73), some (.int s.1)] [.int (X.2 (s.1 + 2).toNatClampNeg), .int (X.2 (s.1 + 1).toNatClampNeg), .ref 0] (SH, s.2.1, s.2.2) else none) rfl (zR_bif hc66 (zR_go ?_))
      refine zr_steps 4 (430, [some (.ref 1000), some (.ref 0), some (.ref 73), some (.int s.1)], [.int (s.1 + 3), .ref 1000, .int (X.2 (s.1 + 2).toNatClampNeg), .int (X.2 (s.1 + 1).toNatClampNeg), .ref 0], (SH, s.2.1, s.2.2)) rfl ?_
      obtain ⟨hc67, h⟩ := zbifo h
      refine zr_one (bif zin (s.1 + 3) X.1 then zN 431 [some (.ref 1000), some (.ref 0), some (.ref 73), some (.int s.1)] [.int (X.2 (s.1 + 3).toNatClampNeg), .int (X.2 (s.1 + 2).toNatClampNeg), .int (X.2 (s.1 + 1).toNatClampNeg), .ref 0] (SH, s.2.1, s.2.2) else none) rfl (zR_bif hc67 (zR_go ?_))
      obtain ⟨t69, hc68, h⟩ := zbind h
      refine zr_one (some (.inr (.inl (94, [.ref 0, .int (X.2 (s.1 + 1).toNatClampNeg), .int (X.2 (s.1 + 2).toNatClampNeg), .int (X.2 (s.1 + 3).toNatClampNeg)], [], 434)))) rfl (zR_call (by omega) rfl (ok_f94_mend (by omega) (X.2 (s.1 + 1).toNatClampNeg) (X.2 (s.1 + 2).toNatClampNeg) (X.2 (s.1 + 3).toNatClampNeg) _ hc68) ?_)
      refine zr_steps 5 (439, [some (.ref 1000), some (.ref 0), some (.ref 73), some (.int s.1)], [.int (s.1 + 1), .ref 1000, .ref 73, .int t69.1], (SH, t69.2, s.2.2)) rfl ?_
      obtain ⟨hc70, h⟩ := zbifo h
      refine zr_one (bif zin (s.1 + 1) X.1 then zN 440 [some (.ref 1000), some (.ref 0), some (.ref 73), some (.int s.1)] [.int (X.2 (s.1 + 1).toNatClampNeg), .ref 73, .int t69.1] (SH, t69.2, s.2.2) else none) rfl (zR_bif hc70 (zR_go ?_))
      refine zr_steps 4 (444, [some (.ref 1000), some (.ref 0), some (.ref 73), some (.int s.1)], [.int (s.1 + 2), .ref 1000, .int (X.2 (s.1 + 1).toNatClampNeg), .ref 73, .int t69.1], (SH, t69.2, s.2.2)) rfl ?_
      obtain ⟨hc71, h⟩ := zbifo h
      refine zr_one (bif zin (s.1 + 2) X.1 then zN 445 [some (.ref 1000), some (.ref 0), some (.ref 73), some (.int s.1)] [.int (X.2 (s.1 + 2).toNatClampNeg), .int (X.2 (s.1 + 1).toNatClampNeg), .ref 73, .int t69.1] (SH, t69.2, s.2.2) else none) rfl (zR_bif hc71 (zR_go ?_))
      refine zr_steps 4 (449, [some (.ref 1000), some (.ref 0), some (.ref 73), some (.int s.1)], [.int (s.1 + 3), .ref 1000, .int (X.2 (s.1 + 2).toNatClampNeg), .int (X.2 (s.1 + 1).toNatClampNeg), .ref 73, .int t69.1], (SH, t69.2, s.2.2)) rfl ?_
      obtain ⟨hc72, h⟩ := zbifo h
      refine zr_one (bif zin (s.1 + 3) X.1 then zN 450 [some (.ref 1000), some (.ref 0), some (.ref 73), some (.int s.1)] [.int (X.2 (s.1 + 3).toNatClampNeg), .int (X.2 (s.1 + 2).toNatClampNeg), .int (X.2 (s.1 + 1).toNatClampNeg), .ref 73, .int t69.1] (SH, t69.2, s.2.2) else none) rfl (zR_bif hc72 (zR_go ?_))
      obtain ⟨t74, hc73, h⟩ := zbind h
      refine zr_one (some (.inr (.inl (164, [.ref 73, .int (X.2 (s.1 + 1).toNatClampNeg), .int (X.2 (s.1 + 2).toNatClampNeg), .int (X.2 (s.1 + 3).toNatClampNeg)], [.int t69.1], 453)))) rfl (zR_call (by omega) rfl (ok_f164_mend (by omega) (X.2 (s.1 + 1).toNatClampNeg) (X.2 (s.1 + 2).toNatClampNeg) (X.2 (s.1 + 3).toNatClampNeg) _ hc73) ?_)
      refine zr_one (if t69.1 = t74.1 then zN 1237 [some (.ref 1000), some (.ref 0), some (.ref 73), some (.int s.1)] [] (SH, t74.2, s.2.2) else zN 456 [some (.ref 1000), some (.ref 0), some (.ref 73), some (.int s.1)] [] (SH, t74.2, s.2.2)) rfl (zR_if (fun hc75 => zR_go ?_) (fun hc75 => zR_go ?_))
      · rw [if_pos hc75] at h
        refine zr_steps 2 (18, [some (.ref 1000), some (.ref 0), some (.ref 73), some (.int (s.1 + 6))], [], (SH, t74.2, s.2.2)) rfl ?_
        have he := Option.some.inj h
        subst he
        exact zr_hdr (ls2 := [some (.ref 1000), some (.ref 0), some (.ref 73), some (.int (s.1 + 6))]) rfl rfl (show zRun X d 0 18 [some (.ref 1000), some (.ref 0), some (.ref 73), some (.int (s.1 + 6))] [] (SH, t74.2, s.2.2) r M' from w)
      · rw [if_neg hc75] at h
        refine zr_steps 1 (457, [some (.ref 1000), some (.ref 0), some (.ref 73), some (.int s.1)], [.int 0], (SH, t74.2, s.2.2)) rfl ?_
        have he := Option.some.inj h
        subst he
        obtain ⟨e1, e2⟩ := (show r = (some (.int 0)) ∧ M' = (SH, t74.2, s.2.2) from w)
        exact zr_one (if ((0 : Int32) = 0 ∨ (0 : Int32) = 1) then some (.inr (.inr (some (.int 0)))) else none) rfl (zR_pos (by decide) (zR_ret e1.symm e2.symm))
    rw [if_neg hc316] at h
    refine zR_if (fun hc315 => zR_go ?_) (fun hc315 => ?_)
    · rw [if_pos hc315] at h
      refine zr_steps 5 (463, [some (.ref 1000), some (.ref 0), some (.ref 73), some (.int s.1)], [.int (s.1 + 1), .ref 1000, .ref 0], (SH, s.2.1, s.2.2)) rfl ?_
      obtain ⟨hc76, h⟩ := zbifo h
      refine zr_one (bif zin (s.1 + 1) X.1 then zN 464 [some (.ref 1000), some (.ref 0), some (.ref 73), some (.int s.1)] [.int (X.2 (s.1 + 1).toNatClampNeg), .ref 0] (SH, s.2.1, s.2.2) else none) rfl (zR_bif hc76 (zR_go ?_))
      refine zr_steps 4 (468, [some (.ref 1000), some (.ref 0), some (.ref 73), some (.int s.1)], [.int (s.1 + 2), .ref 1000, .int (X.2 (s.1 + 1).toNatClampNeg), .ref 0], (SH, s.2.1, s.2.2)) rfl ?_
      obtain ⟨hc77, h⟩ := zbifo h
      refine zr_one (bif zin (s.1 + 2) X.1 then zN 469 [some (.ref 1000), some (.ref 0), some (.ref 73), some (.int s.1)] [.int (X.2 (s.1 + 2).toNatClampNeg), .int (X.2 (s.1 + 1).toNatClampNeg), .ref 0] (SH, s.2.1, s.2.2) else none) rfl (zR_bif hc77 (zR_go ?_))
      obtain ⟨t79, hc78, h⟩ := zbind h
      refine zr_one (some (.inr (.inl (95, [.ref 0, .int (X.2 (s.1 + 1).toNatClampNeg), .int (X.2 (s.1 + 2).toNatClampNeg)], [], 472)))) rfl (zR_call (by omega) rfl (ok_f95_of (by omega) (X.2 (s.1 + 1).toNatClampNeg) (X.2 (s.1 + 2).toNatClampNeg) _ hc78) ?_)
      refine zr_steps 5 (477, [some (.ref 1000), some (.ref 0), some (.ref 73), some (.int s.1)], [.int (s.1 + 1), .ref 1000, .ref 73, .int t79], (SH, s.2.1, s.2.2)) rfl ?_
      obtain ⟨hc80, h⟩ := zbifo h
      refine zr_one (bif zin (s.1 + 1) X.1 then zN 478 [some (.ref 1000), some (.ref 0), some (.ref 73), some (.int s.1)] [.int (X.2 (s.1 + 1).toNatClampNeg), .ref 73, .int t79] (SH, s.2.1, s.2.2) else none) rfl (zR_bif hc80 (zR_go ?_))
      refine zr_steps 4 (482, [some (.ref 1000), some (.ref 0), some (.ref 73), some (.int s.1)], [.int (s.1 + 2), .ref 1000, .int (X.2 (s.1 + 1).toNatClampNeg), .ref 73, .int t79], (SH, s.2.1, s.2.2)) rfl ?_
      obtain ⟨hc81, h⟩ := zbifo h
      refine zr_one (bif zin (s.1 + 2) X.1 then zN 483 [some (.ref 1000), some (.ref 0), some (.ref 73), some (.int s.1)] [.int (X.2 (s.1 + 2).toNatClampNeg), .int (X.2 (s.1 + 1).toNatClampNeg), .ref 73, .int t79] (SH, s.2.1, s.2.2) else none) rfl (zR_bif hc81 (zR_go ?_))
      obtain ⟨t83, hc82, h⟩ := zbind h
      refine zr_one (some (.inr (.inl (165, [.ref 73, .int (X.2 (s.1 + 1).toNatClampNeg), .int (X.2 (s.1 + 2).toNatClampNeg)], [.int t79], 486)))) rfl (zR_call (by omega) rfl (ok_f165_of (by omega) (X.2 (s.1 + 1).toNatClampNeg) (X.2 (s.1 + 2).toNatClampNeg) _ hc82) ?_)
      refine zr_one (if t79 = t83 then zN 1237 [some (.ref 1000), some (.ref 0), some (.ref 73), some (.int s.1)] [] (SH, s.2.1, s.2.2) else zN 489 [some (.ref 1000), some (.ref 0), some (.ref 73), some (.int s.1)] [] (SH, s.2.1, s.2.2)) rfl (zR_if (fun hc84 => zR_go ?_) (fun hc84 => zR_go ?_))
      · rw [if_pos hc84] at h
        refine zr_steps 2 (18, [some (.ref 1000), some (.ref 0), some (.ref 73), some (.int (s.1 + 6))], [], (SH, s.2.1, s.2.2)) rfl ?_
        have he := Option.some.inj h
        subst he
        exact zr_hdr (ls2 := [some (.ref 1000), some (.ref 0), some (.ref 73), some (.int (s.1 + 6))]) rfl rfl (show zRun X d 0 18 [some (.ref 1000), some (.ref 0), some (.ref 73), some (.int (s.1 + 6))] [] (SH, s.2.1, s.2.2) r M' from w)
      · rw [if_neg hc84] at h
        refine zr_steps 1 (490, [some (.ref 1000), some (.ref 0), some (.ref 73), some (.int s.1)], [.int 0], (SH, s.2.1, s.2.2)) rfl ?_
        have he := Option.some.inj h
        subst he
        obtain ⟨e1, e2⟩ := (show r = (some (.int 0)) ∧ M' = (SH, s.2.1, s.2.2) from w)
        exact zr_one (if ((0 : Int32) = 0 ∨ (0 : Int32) = 1) then some (.inr (.inr (some (.int 0)))) else none) rfl (zR_pos (by decide) (zR_ret e1.symm e2.symm))
    rw [if_neg hc315] at h
    refine zR_if (fun hc314 => zR_go ?_) (fun hc314 => ?_)
    · rw [if_pos hc314] at h
      refine zr_steps 1 (492, [some (.ref 1000), some (.ref 0), some (.ref 73), some (.int s.1)], [.ref 0], (SH, s.2.1, s.2.2)) rfl ?_
      obtain ⟨t86, hc85, h⟩ := zbind h
      refine zr_one (some (.inr (.inl (96, [.ref 0], [], 495)))) rfl (zR_call (by omega) rfl (ok_f96_run (by omega)  _ hc85) ?_)
      refine zr_steps 1 (496, [some (.ref 1000), some (.ref 0), some (.ref 73), some (.int s.1)], [.ref 73, .int t86.1], (SH, t86.2, s.2.2)) rfl ?_
      obtain ⟨t88, hc87, h⟩ := zbind h
      refine zr_one (some (.inr (.inl (174, [.ref 73], [.int t86.1], 499)))) rfl (zR_call (by omega) rfl (ok_f174_run (by omega)  _ hc87) ?_)
      refine zr_one (if t86.1 = t88.1 then zN 1237 [some (.ref 1000), some (.ref 0), some (.ref 73), some (.int s.1)] [] (SH, t88.2, s.2.2) else zN 502 [some (.ref 1000), some (.ref 0), some (.ref 73), some (.int s.1)] [] (SH, t88.2, s.2.2)) rfl (zR_if (fun hc89 => zR_go ?_) (fun hc89 => zR_go ?_))
      · rw [if_pos hc89] at h
        refine zr_steps 2 (18, [some (.ref 1000), some (.ref 0), some (.ref 73), some (.int (s.1 + 6))], [], (SH, t88.2, s.2.2)) rfl ?_
        have he := Option.some.inj h
        subst he
        exact zr_hdr (ls2 := [some (.ref 1000), some (.ref 0), some (.ref 73), some (.int (s.1 + 6))]) rfl rfl (show zRun X d 0 18 [some (.ref 1000), some (.ref 0), some (.ref 73), some (.int (s.1 + 6))] [] (SH, t88.2, s.2.2) r M' from w)
      · rw [if_neg hc89] at h
        refine zr_steps 1 (503, [some (.ref 1000), some (.ref 0), some (.ref 73), some (.int s.1)], [.int 0], (SH, t88.2, s.2.2)) rfl ?_
        have he := Option.some.inj h
        subst he
        obtain ⟨e1, e2⟩ := (show r = (some (.int 0)) ∧ M' = (SH, t88.2, s.2.2) from w)
        exact zr_one (if ((0 : Int32) = 0 ∨ (0 : Int32) = 1) then some (.inr (.inr (some (.int 0)))) else none) rfl (zR_pos (by decide) (zR_ret e1.symm e2.symm))
    rw [if_neg hc314] at h
    refine zR_if (fun hc313 => zR_go ?_) (fun hc313 => ?_)
    · rw [if_pos hc313] at h
      refine zr_steps 5 (509, [some (.ref 1000), some (.ref 0), some (.ref 73), some (.int s.1)], [.int (s.1 + 1), .ref 1000, .ref 0], (SH, s.2.1, s.2.2)) rfl ?_
      obtain ⟨hc90, h⟩ := zbifo h
      refine zr_one (bif zin (s.1 + 1) X.1 then zN 510 [some (.ref 1000), some (.ref 0), some (.ref 73), some (.int s.1)] [.int (X.2 (s.1 + 1).toNatClampNeg), .ref 0] (SH, s.2.1, s.2.2) else none) rfl (zR_bif hc90 (zR_go ?_))
      refine zr_steps 4 (514, [some (.ref 1000), some (.ref 0), some (.ref 73), some (.int s.1)], [.int (s.1 + 2), .ref 1000, .int (X.2 (s.1 + 1).toNatClampNeg), .ref 0], (SH, s.2.1, s.2.2)) rfl ?_
      obtain ⟨hc91, h⟩ := zbifo h
      refine zr_one (bif zin (s.1 + 2) X.1 then zN 515 [some (.ref 1000), some (.ref 0), some (.ref 73), some (.int s.1)] [.int (X.2 (s.1 + 2).toNatClampNeg), .int (X.2 (s.1 + 1).toNatClampNeg), .ref 0] (SH, s.2.1, s.2.2) else none) rfl (zR_bif hc91 (zR_go ?_))
      refine zr_steps 4 (519, [some (.ref 1000), some (.ref 0), some (.ref 73), some (.int s.1)], [.int (s.1 + 3), .ref 1000, .int (X.2 (s.1 + 2).toNatClampNeg), .int (X.2 (s.1 + 1).toNatClampNeg), .ref 0], (SH, s.2.1, s.2.2)) rfl ?_
      obtain ⟨hc92, h⟩ := zbifo h
      refine zr_one (bif zin (s.1 + 3) X.1 then zN 520 [some (.ref 1000), some (.ref 0), some (.ref 73), some (.int s.1)] [.int (X.2 (s.1 + 3).toNatClampNeg), .int (X.2 (s.1 + 2).toNatClampNeg), .int (X.2 (s.1 + 1).toNatClampNeg), .ref 0] (SH, s.2.1, s.2.2) else none) rfl (zR_bif hc92 (zR_go ?_))
      obtain ⟨t94, hc93, h⟩ := zbind h
      refine zr_one (some (.inr (.inl (97, [.ref 0, .int (X.2 (s.1 + 1).toNatClampNeg), .int (X.2 (s.1 + 2).toNatClampNeg), .int (X.2 (s.1 + 3).toNatClampNeg)], [], 523)))) rfl (zR_call (by omega) rfl (ok_f97_led (by omega) (X.2 (s.1 + 1).toNatClampNeg) (X.2 (s.1 + 2).toNatClampNeg) (X.2 (s.1 + 3).toNatClampNeg) _ hc93) ?_)
      refine zr_steps 5 (528, [some (.ref 1000), some (.ref 0), some (.ref 73), some (.int s.1)], [.int (s.1 + 1), .ref 1000, .ref 73, .int t94], (SH, s.2.1, s.2.2)) rfl ?_
      obtain ⟨hc95, h⟩ := zbifo h
      refine zr_one (bif zin (s.1 + 1) X.1 then zN 529 [some (.ref 1000), some (.ref 0), some (.ref 73), some (.int s.1)] [.int (X.2 (s.1 + 1).toNatClampNeg), .ref 73, .int t94] (SH, s.2.1, s.2.2) else none) rfl (zR_bif hc95 (zR_go ?_))
      refine zr_steps 4 (533, [some (.ref 1000), some (.ref 0), some (.ref 73), some (.int s.1)], [.int (s.1 + 2), .ref 1000, .int (X.2 (s.1 + 1).toNatClampNeg), .ref 73, .int t94], (SH, s.2.1, s.2.2)) rfl ?_
      obtain ⟨hc96, h⟩ := zbifo h
      refine zr_one (bif zin (s.1 + 2) X.1 then zN 534 [some (.ref 1000), some (.ref 0), some (.ref 73), some (.int s.1)] [.int (X.2 (s.1 + 2).toNatClampNeg), .int (X.2 (s.1 + 1).toNatClampNeg), .ref 73, .int t94] (SH, s.2.1, s.2.2) else none) rfl (zR_bif hc96 (zR_go ?_))
      refine zr_steps 4 (538, [some (.ref 1000), some (.ref 0), some (.ref 73), some (.int s.1)], [.int (s.1 + 3), .ref 1000, .int (X.2 (s.1 + 2).toNatClampNeg), .int (X.2 (s.1 + 1).toNatClampNeg), .ref 73, .int t94], (SH, s.2.1, s.2.2)) rfl ?_
      obtain ⟨hc97, h⟩ := zbifo h
      refine zr_one (bif zin (s.1 + 3) X.1 then zN 539 [some (.ref 1000), some (.ref 0), some (.ref 73), some (.int s.1)] [.int (X.2 (s.1 + 3).toNatClampNeg), .int (X.2 (s.1 + 2).toNatClampNeg), .int (X.2 (s.1 + 1).toNatClampNeg), .ref 73, .int t94] (SH, s.2.1, s.2.2) else none) rfl (zR_bif hc97 (zR_go ?_))
      obtain ⟨t99, hc98, h⟩ := zbind h
      refine zr_one (some (.inr (.inl (175, [.ref 73, .int (X.2 (s.1 + 1).toNatClampNeg), .int (X.2 (s.1 + 2).toNatClampNeg), .int (X.2 (s.1 + 3).toNatClampNeg)], [.int t94], 542)))) rfl (zR_call (by omega) rfl (ok_f175_led (by omega) (X.2 (s.1 + 1).toNatClampNeg) (X.2 (s.1 + 2).toNatClampNeg) (X.2 (s.1 + 3).toNatClampNeg) _ hc98) ?_)
      refine zr_one (if t94 = t99 then zN 1237 [some (.ref 1000), some (.ref 0), some (.ref 73), some (.int s.1)] [] (SH, s.2.1, s.2.2) else zN 545 [some (.ref 1000), some (.ref 0), some (.ref 73), some (.int s.1)] [] (SH, s.2.1, s.2.2)) rfl (zR_if (fun hc100 => zR_go ?_) (fun hc100 => zR_go ?_))
      · rw [if_pos hc100] at h
        refine zr_steps 2 (18, [some (.ref 1000), some (.ref 0), some (.ref 73), some (.int (s.1 + 6))], [], (SH, s.2.1, s.2.2)) rfl ?_
        have he := Option.some.inj h
        subst he
        exact zr_hdr (ls2 := [some (.ref 1000), some (.ref 0), some (.ref 73), some (.int (s.1 + 6))]) rfl rfl (show zRun X d 0 18 [some (.ref 1000), some (.ref 0), some (.ref 73), some (.int (s.1 + 6))] [] (SH, s.2.1, s.2.2) r M' from w)
      · rw [if_neg hc100] at h
        refine zr_steps 1 (546, [some (.ref 1000), some (.ref 0), some (.ref 73), some (.int s.1)], [.int 0], (SH, s.2.1, s.2.2)) rfl ?_
        have he := Option.some.inj h
        subst he
        obtain ⟨e1, e2⟩ := (show r = (some (.int 0)) ∧ M' = (SH, s.2.1, s.2.2) from w)
        exact zr_one (if ((0 : Int32) = 0 ∨ (0 : Int32) = 1) then some (.inr (.inr (some (.int 0)))) else none) rfl (zR_pos (by decide) (zR_ret e1.symm e2.symm))
    rw [if_neg hc313] at h
    refine zR_if (fun hc312 => zR_go ?_) (fun hc312 => ?_)
    · rw [if_pos hc312] at h
      refine zr_steps 5 (552, [some (.ref 1000), some (.ref 0), some (.ref 73), some (.int s.1)], [.int (s.1 + 1), .ref 1000, .ref 0], (SH, s.2.1, s.2.2)) rfl ?_
      obtain ⟨hc101, h⟩ := zbifo h
      refine zr_one (bif zin (s.1 + 1) X.1 then zN 553 [some (.ref 1000), some (.ref 0), some (.ref 73), some (.int s.1)] [.int (X.2 (s.1 + 1).toNatClampNeg), .ref 0] (SH, s.2.1, s.2.2) else none) rfl (zR_bif hc101 (zR_go ?_))
      obtain ⟨t103, hc102, h⟩ := zbind h
      refine zr_one (some (.inr (.inl (98, [.ref 0, .int (X.2 (s.1 + 1).toNatClampNeg)], [], 556)))) rfl (zR_call (by omega) rfl (ok_f98_told (by omega) (X.2 (s.1 + 1).toNatClampNeg) _ hc102) ?_)
      refine zr_steps 5 (561, [some (.ref 1000), some (.ref 0), some (.ref 73), some (.int s.1)], [.int (s.1 + 1), .ref 1000, .ref 73, .int t103], (SH, s.2.1, s.2.2)) rfl ?_
      obtain ⟨hc104, h⟩ := zbifo h
      refine zr_one (bif zin (s.1 + 1) X.1 then zN 562 [some (.ref 1000), some (.ref 0), some (.ref 73), some (.int s.1)] [.int (X.2 (s.1 + 1).toNatClampNeg), .ref 73, .int t103] (SH, s.2.1, s.2.2) else none) rfl (zR_bif hc104 (zR_go ?_))
      obtain ⟨t106, hc105, h⟩ := zbind h
      refine zr_one (some (.inr (.inl (176, [.ref 73, .int (X.2 (s.1 + 1).toNatClampNeg)], [.int t103], 565)))) rfl (zR_call (by omega) rfl (ok_f176_told (by omega) (X.2 (s.1 + 1).toNatClampNeg) _ hc105) ?_)
      refine zr_one (if t103 = t106 then zN 1237 [some (.ref 1000), some (.ref 0), some (.ref 73), some (.int s.1)] [] (SH, s.2.1, s.2.2) else zN 568 [some (.ref 1000), some (.ref 0), some (.ref 73), some (.int s.1)] [] (SH, s.2.1, s.2.2)) rfl (zR_if (fun hc107 => zR_go ?_) (fun hc107 => zR_go ?_))
      · rw [if_pos hc107] at h
        refine zr_steps 2 (18, [some (.ref 1000), some (.ref 0), some (.ref 73), some (.int (s.1 + 6))], [], (SH, s.2.1, s.2.2)) rfl ?_
        have he := Option.some.inj h
        subst he
        exact zr_hdr (ls2 := [some (.ref 1000), some (.ref 0), some (.ref 73), some (.int (s.1 + 6))]) rfl rfl (show zRun X d 0 18 [some (.ref 1000), some (.ref 0), some (.ref 73), some (.int (s.1 + 6))] [] (SH, s.2.1, s.2.2) r M' from w)
      · rw [if_neg hc107] at h
        refine zr_steps 1 (569, [some (.ref 1000), some (.ref 0), some (.ref 73), some (.int s.1)], [.int 0], (SH, s.2.1, s.2.2)) rfl ?_
        have he := Option.some.inj h
        subst he
        obtain ⟨e1, e2⟩ := (show r = (some (.int 0)) ∧ M' = (SH, s.2.1, s.2.2) from w)
        exact zr_one (if ((0 : Int32) = 0 ∨ (0 : Int32) = 1) then some (.inr (.inr (some (.int 0)))) else none) rfl (zR_pos (by decide) (zR_ret e1.symm e2.symm))
    rw [if_neg hc312] at h
    refine zR_if (fun hc311 => zR_go ?_) (fun hc311 => ?_)
    · rw [if_pos hc311] at h
      refine zr_steps 5 (575, [some (.ref 1000), some (.ref 0), some (.ref 73), some (.int s.1)], [.int (s.1 + 1), .ref 1000, .ref 0], (SH, s.2.1, s.2.2)) rfl ?_
      obtain ⟨hc108, h⟩ := zbifo h
      refine zr_one (bif zin (s.1 + 1) X.1 then zN 576 [some (.ref 1000), some (.ref 0), some (.ref 73), some (.int s.1)] [.int (X.2 (s.1 + 1).toNatClampNeg), .ref 0] (SH, s.2.1, s.2.2) else none) rfl (zR_bif hc108 (zR_go ?_))
      obtain ⟨t110, hc109, h⟩ := zbind h
      refine zr_one (some (.inr (.inl (99, [.ref 0, .int (X.2 (s.1 + 1).toNatClampNeg)], [], 579)))) rfl (zR_call (by omega) rfl (ok_f99_last (by omega) (X.2 (s.1 + 1).toNatClampNeg) _ hc109) ?_)
      refine zr_steps 5 (584, [some (.ref 1000), some (.ref 0), some (.ref 73), some (.int s.1)], [.int (s.1 + 1), .ref 1000, .ref 73, .int t110], (SH, s.2.1, s.2.2)) rfl ?_
      obtain ⟨hc111, h⟩ := zbifo h
      refine zr_one (bif zin (s.1 + 1) X.1 then zN 585 [some (.ref 1000), some (.ref 0), some (.ref 73), some (.int s.1)] [.int (X.2 (s.1 + 1).toNatClampNeg), .ref 73, .int t110] (SH, s.2.1, s.2.2) else none) rfl (zR_bif hc111 (zR_go ?_))
      obtain ⟨t113, hc112, h⟩ := zbind h
      refine zr_one (some (.inr (.inl (181, [.ref 73, .int (X.2 (s.1 + 1).toNatClampNeg)], [.int t110], 588)))) rfl (zR_call (by omega) rfl (ok_f181_last (by omega) (X.2 (s.1 + 1).toNatClampNeg) _ hc112) ?_)
      refine zr_one (if t110 = t113.1 then zN 1237 [some (.ref 1000), some (.ref 0), some (.ref 73), some (.int s.1)] [] (SH, t113.2, s.2.2) else zN 591 [some (.ref 1000), some (.ref 0), some (.ref 73), some (.int s.1)] [] (SH, t113.2, s.2.2)) rfl (zR_if (fun hc114 => zR_go ?_) (fun hc114 => zR_go ?_))
      · rw [if_pos hc114] at h
        refine zr_steps 2 (18, [some (.ref 1000), some (.ref 0), some (.ref 73), some (.int (s.1 + 6))], [], (SH, t113.2, s.2.2)) rfl ?_
        have he := Option.some.inj h
        subst he
        exact zr_hdr (ls2 := [some (.ref 1000), some (.ref 0), some (.ref 73), some (.int (s.1 + 6))]) rfl rfl (show zRun X d 0 18 [some (.ref 1000), some (.ref 0), some (.ref 73), some (.int (s.1 + 6))] [] (SH, t113.2, s.2.2) r M' from w)
      · rw [if_neg hc114] at h
        refine zr_steps 1 (592, [some (.ref 1000), some (.ref 0), some (.ref 73), some (.int s.1)], [.int 0], (SH, t113.2, s.2.2)) rfl ?_
        have he := Option.some.inj h
        subst he
        obtain ⟨e1, e2⟩ := (show r = (some (.int 0)) ∧ M' = (SH, t113.2, s.2.2) from w)
        exact zr_one (if ((0 : Int32) = 0 ∨ (0 : Int32) = 1) then some (.inr (.inr (some (.int 0)))) else none) rfl (zR_pos (by decide) (zR_ret e1.symm e2.symm))
    rw [if_neg hc311] at h
    refine zR_if (fun hc310 => zR_go ?_) (fun hc310 => ?_)
    · rw [if_pos hc310] at h
      refine zr_steps 5 (598, [some (.ref 1000), some (.ref 0), some (.ref 73), some (.int s.1)], [.int (s.1 + 1), .ref 1000, .ref 0], (SH, s.2.1, s.2.2)) rfl ?_
      obtain ⟨hc115, h⟩ := zbifo h
      refine zr_one (bif zin (s.1 + 1) X.1 then zN 599 [some (.ref 1000), some (.ref 0), some (.ref 73), some (.int s.1)] [.int (X.2 (s.1 + 1).toNatClampNeg), .ref 0] (SH, s.2.1, s.2.2) else none) rfl (zR_bif hc115 (zR_go ?_))
      obtain ⟨t117, hc116, h⟩ := zbind h
      refine zr_one (some (.inr (.inl (100, [.ref 0, .int (X.2 (s.1 + 1).toNatClampNeg)], [], 602)))) rfl (zR_call (by omega) rfl (ok_f100_flow (by omega) (X.2 (s.1 + 1).toNatClampNeg) _ hc116) ?_)
      refine zr_steps 5 (607, [some (.ref 1000), some (.ref 0), some (.ref 73), some (.int s.1)], [.int (s.1 + 1), .ref 1000, .ref 73, .int t117], (SH, s.2.1, s.2.2)) rfl ?_
      obtain ⟨hc118, h⟩ := zbifo h
      refine zr_one (bif zin (s.1 + 1) X.1 then zN 608 [some (.ref 1000), some (.ref 0), some (.ref 73), some (.int s.1)] [.int (X.2 (s.1 + 1).toNatClampNeg), .ref 73, .int t117] (SH, s.2.1, s.2.2) else none) rfl (zR_bif hc118 (zR_go ?_))
      obtain ⟨t120, hc119, h⟩ := zbind h
      refine zr_one (some (.inr (.inl (182, [.ref 73, .int (X.2 (s.1 + 1).toNatClampNeg)], [.int t117], 611)))) rfl (zR_call (by omega) rfl (ok_f182_flow (by omega) (X.2 (s.1 + 1).toNatClampNeg) _ hc119) ?_)
      refine zr_one (if t117 = t120 then zN 1237 [some (.ref 1000), some (.ref 0), some (.ref 73), some (.int s.1)] [] (SH, s.2.1, s.2.2) else zN 614 [some (.ref 1000), some (.ref 0), some (.ref 73), some (.int s.1)] [] (SH, s.2.1, s.2.2)) rfl (zR_if (fun hc121 => zR_go ?_) (fun hc121 => zR_go ?_))
      · rw [if_pos hc121] at h
        refine zr_steps 2 (18, [some (.ref 1000), some (.ref 0), some (.ref 73), some (.int (s.1 + 6))], [], (SH, s.2.1, s.2.2)) rfl ?_
        have he := Option.some.inj h
        subst he
        exact zr_hdr (ls2 := [some (.ref 1000), some (.ref 0), some (.ref 73), some (.int (s.1 + 6))]) rfl rfl (show zRun X d 0 18 [some (.ref 1000), some (.ref 0), some (.ref 73), some (.int (s.1 + 6))] [] (SH, s.2.1, s.2.2) r M' from w)
      · rw [if_neg hc121] at h
        refine zr_steps 1 (615, [some (.ref 1000), some (.ref 0), some (.ref 73), some (.int s.1)], [.int 0], (SH, s.2.1, s.2.2)) rfl ?_
        have he := Option.some.inj h
        subst he
        obtain ⟨e1, e2⟩ := (show r = (some (.int 0)) ∧ M' = (SH, s.2.1, s.2.2) from w)
        exact zr_one (if ((0 : Int32) = 0 ∨ (0 : Int32) = 1) then some (.inr (.inr (some (.int 0)))) else none) rfl (zR_pos (by decide) (zR_ret e1.symm e2.symm))
    rw [if_neg hc310] at h
    refine zR_if (fun hc309 => zR_go ?_) (fun hc309 => ?_)
    · rw [if_pos hc309] at h
      refine zr_steps 5 (621, [some (.ref 1000), some (.ref 0), some (.ref 73), some (.int s.1)], [.int (s.1 + 1), .ref 1000, .ref 0], (SH, s.2.1, s.2.2)) rfl ?_
      obtain ⟨hc122, h⟩ := zbifo h
      refine zr_one (bif zin (s.1 + 1) X.1 then zN 622 [some (.ref 1000), some (.ref 0), some (.ref 73), some (.int s.1)] [.int (X.2 (s.1 + 1).toNatClampNeg), .ref 0] (SH, s.2.1, s.2.2) else none) rfl (zR_bif hc122 (zR_go ?_))
      obtain ⟨t124, hc123, h⟩ := zbind h
      refine zr_one (some (.inr (.inl (102, [.ref 0, .int (X.2 (s.1 + 1).toNatClampNeg)], [], 625)))) rfl (zR_call (by omega) rfl (ok_f102_fewer (by omega) (X.2 (s.1 + 1).toNatClampNeg) _ hc123) ?_)
      refine zr_steps 5 (630, [some (.ref 1000), some (.ref 0), some (.ref 73), some (.int s.1)], [.int (s.1 + 1), .ref 1000, .ref 73, .int t124.1], (SH, t124.2, s.2.2)) rfl ?_
      obtain ⟨hc125, h⟩ := zbifo h
      refine zr_one (bif zin (s.1 + 1) X.1 then zN 631 [some (.ref 1000), some (.ref 0), some (.ref 73), some (.int s.1)] [.int (X.2 (s.1 + 1).toNatClampNeg), .ref 73, .int t124.1] (SH, t124.2, s.2.2) else none) rfl (zR_bif hc125 (zR_go ?_))
      obtain ⟨t127, hc126, h⟩ := zbind h
      refine zr_one (some (.inr (.inl (184, [.ref 73, .int (X.2 (s.1 + 1).toNatClampNeg)], [.int t124.1], 634)))) rfl (zR_call (by omega) rfl (ok_f184_fewer (by omega) (X.2 (s.1 + 1).toNatClampNeg) _ hc126) ?_)
      refine zr_one (if t124.1 = t127.1 then zN 1237 [some (.ref 1000), some (.ref 0), some (.ref 73), some (.int s.1)] [] (SH, t127.2, s.2.2) else zN 637 [some (.ref 1000), some (.ref 0), some (.ref 73), some (.int s.1)] [] (SH, t127.2, s.2.2)) rfl (zR_if (fun hc128 => zR_go ?_) (fun hc128 => zR_go ?_))
      · rw [if_pos hc128] at h
        refine zr_steps 2 (18, [some (.ref 1000), some (.ref 0), some (.ref 73), some (.int (s.1 + 6))], [], (SH, t127.2, s.2.2)) rfl ?_
        have he := Option.some.inj h
        subst he
        exact zr_hdr (ls2 := [some (.ref 1000), some (.ref 0), some (.ref 73), some (.int (s.1 + 6))]) rfl rfl (show zRun X d 0 18 [some (.ref 1000), some (.ref 0), some (.ref 73), some (.int (s.1 + 6))] [] (SH, t127.2, s.2.2) r M' from w)
      · rw [if_neg hc128] at h
        refine zr_steps 1 (638, [some (.ref 1000), some (.ref 0), some (.ref 73), some (.int s.1)], [.int 0], (SH, t127.2, s.2.2)) rfl ?_
        have he := Option.some.inj h
        subst he
        obtain ⟨e1, e2⟩ := (show r = (some (.int 0)) ∧ M' = (SH, t127.2, s.2.2) from w)
        exact zr_one (if ((0 : Int32) = 0 ∨ (0 : Int32) = 1) then some (.inr (.inr (some (.int 0)))) else none) rfl (zR_pos (by decide) (zR_ret e1.symm e2.symm))
    rw [if_neg hc309] at h
    refine zR_if (fun hc308 => zR_go ?_) (fun hc308 => ?_)
    · rw [if_pos hc308] at h
      refine zr_steps 5 (644, [some (.ref 1000), some (.ref 0), some (.ref 73), some (.int s.1)], [.int (s.1 + 1), .ref 1000, .ref 0], (SH, s.2.1, s.2.2)) rfl ?_
      obtain ⟨hc129, h⟩ := zbifo h
      refine zr_one (bif zin (s.1 + 1) X.1 then zN 645 [some (.ref 1000), some (.ref 0), some (.ref 73), some (.int s.1)] [.int (X.2 (s.1 + 1).toNatClampNeg), .ref 0] (SH, s.2.1, s.2.2) else none) rfl (zR_bif hc129 (zR_go ?_))
      refine zr_steps 4 (649, [some (.ref 1000), some (.ref 0), some (.ref 73), some (.int s.1)], [.int (s.1 + 2), .ref 1000, .int (X.2 (s.1 + 1).toNatClampNeg), .ref 0], (SH, s.2.1, s.2.2)) rfl ?_
      obtain ⟨hc130, h⟩ := zbifo h
      refine zr_one (bif zin (s.1 + 2) X.1 then zN 650 [some (.ref 1000), some (.ref 0), some (.ref 73), some (.int s.1)] [.int (X.2 (s.1 + 2).toNatClampNeg), .int (X.2 (s.1 + 1).toNatClampNeg), .ref 0] (SH, s.2.1, s.2.2) else none) rfl (zR_bif hc130 (zR_go ?_))
      obtain ⟨t132, hc131, h⟩ := zbind h
      refine zr_one (some (.inr (.inl (103, [.ref 0, .int (X.2 (s.1 + 1).toNatClampNeg), .int (X.2 (s.1 + 2).toNatClampNeg)], [], 653)))) rfl (zR_call (by omega) rfl (ok_f103_often (by omega) (X.2 (s.1 + 1).toNatClampNeg) (X.2 (s.1 + 2).toNatClampNeg) _ hc131) ?_)
      refine zr_steps 5 (658, [some (.ref 1000), some (.ref 0), some (.ref 73), some (.int s.1)], [.int (s.1 + 1), .ref 1000, .ref 73, .int t132.1], (SH, t132.2, s.2.2)) rfl ?_
      obtain ⟨hc133, h⟩ := zbifo h
      refine zr_one (bif zin (s.1 + 1) X.1 then zN 659 [some (.ref 1000), some (.ref 0), some (.ref 73), some (.int s.1)] [.int (X.2 (s.1 + 1).toNatClampNeg), .ref 73, .int t132.1] (SH, t132.2, s.2.2) else none) rfl (zR_bif hc133 (zR_go ?_))
      refine zr_steps 4 (663, [some (.ref 1000), some (.ref 0), some (.ref 73), some (.int s.1)], [.int (s.1 + 2), .ref 1000, .int (X.2 (s.1 + 1).toNatClampNeg), .ref 73, .int t132.1], (SH, t132.2, s.2.2)) rfl ?_
      obtain ⟨hc134, h⟩ := zbifo h
      refine zr_one (bif zin (s.1 + 2) X.1 then zN 664 [some (.ref 1000), some (.ref 0), some (.ref 73), some (.int s.1)] [.int (X.2 (s.1 + 2).toNatClampNeg), .int (X.2 (s.1 + 1).toNatClampNeg), .ref 73, .int t132.1] (SH, t132.2, s.2.2) else none) rfl (zR_bif hc134 (zR_go ?_))
      obtain ⟨t136, hc135, h⟩ := zbind h
      refine zr_one (some (.inr (.inl (185, [.ref 73, .int (X.2 (s.1 + 1).toNatClampNeg), .int (X.2 (s.1 + 2).toNatClampNeg)], [.int t132.1], 667)))) rfl (zR_call (by omega) rfl (ok_f185_often (by omega) (X.2 (s.1 + 1).toNatClampNeg) (X.2 (s.1 + 2).toNatClampNeg) _ hc135) ?_)
      refine zr_one (if t132.1 = t136.1 then zN 1237 [some (.ref 1000), some (.ref 0), some (.ref 73), some (.int s.1)] [] (SH, t136.2, s.2.2) else zN 670 [some (.ref 1000), some (.ref 0), some (.ref 73), some (.int s.1)] [] (SH, t136.2, s.2.2)) rfl (zR_if (fun hc137 => zR_go ?_) (fun hc137 => zR_go ?_))
      · rw [if_pos hc137] at h
        refine zr_steps 2 (18, [some (.ref 1000), some (.ref 0), some (.ref 73), some (.int (s.1 + 6))], [], (SH, t136.2, s.2.2)) rfl ?_
        have he := Option.some.inj h
        subst he
        exact zr_hdr (ls2 := [some (.ref 1000), some (.ref 0), some (.ref 73), some (.int (s.1 + 6))]) rfl rfl (show zRun X d 0 18 [some (.ref 1000), some (.ref 0), some (.ref 73), some (.int (s.1 + 6))] [] (SH, t136.2, s.2.2) r M' from w)
      · rw [if_neg hc137] at h
        refine zr_steps 1 (671, [some (.ref 1000), some (.ref 0), some (.ref 73), some (.int s.1)], [.int 0], (SH, t136.2, s.2.2)) rfl ?_
        have he := Option.some.inj h
        subst he
        obtain ⟨e1, e2⟩ := (show r = (some (.int 0)) ∧ M' = (SH, t136.2, s.2.2) from w)
        exact zr_one (if ((0 : Int32) = 0 ∨ (0 : Int32) = 1) then some (.inr (.inr (some (.int 0)))) else none) rfl (zR_pos (by decide) (zR_ret e1.symm e2.symm))
    rw [if_neg hc308] at h
    refine zR_if (fun hc307 => zR_go ?_) (fun hc307 => ?_)
    · rw [if_pos hc307] at h
      refine zr_steps 5 (677, [some (.ref 1000), some (.ref 0), some (.ref 73), some (.int s.1)], [.int (s.1 + 1), .ref 1000, .ref 0], (SH, s.2.1, s.2.2)) rfl ?_
      obtain ⟨hc138, h⟩ := zbifo h
      refine zr_one (bif zin (s.1 + 1) X.1 then zN 678 [some (.ref 1000), some (.ref 0), some (.ref 73), some (.int s.1)] [.int (X.2 (s.1 + 1).toNatClampNeg), .ref 0] (SH, s.2.1, s.2.2) else none) rfl (zR_bif hc138 (zR_go ?_))
      obtain ⟨t140, hc139, h⟩ := zbind h
      refine zr_one (some (.inr (.inl (104, [.ref 0, .int (X.2 (s.1 + 1).toNatClampNeg)], [], 681)))) rfl (zR_call (by omega) rfl (ok_f104_sooner (by omega) (X.2 (s.1 + 1).toNatClampNeg) _ hc139) ?_)
      refine zr_steps 5 (686, [some (.ref 1000), some (.ref 0), some (.ref 73), some (.int s.1)], [.int (s.1 + 1), .ref 1000, .ref 73, .int t140.1], (SH, t140.2, s.2.2)) rfl ?_
      obtain ⟨hc141, h⟩ := zbifo h
      refine zr_one (bif zin (s.1 + 1) X.1 then zN 687 [some (.ref 1000), some (.ref 0), some (.ref 73), some (.int s.1)] [.int (X.2 (s.1 + 1).toNatClampNeg), .ref 73, .int t140.1] (SH, t140.2, s.2.2) else none) rfl (zR_bif hc141 (zR_go ?_))
      obtain ⟨t143, hc142, h⟩ := zbind h
      refine zr_one (some (.inr (.inl (186, [.ref 73, .int (X.2 (s.1 + 1).toNatClampNeg)], [.int t140.1], 690)))) rfl (zR_call (by omega) rfl (ok_f186_sooner (by omega) (X.2 (s.1 + 1).toNatClampNeg) _ hc142) ?_)
      refine zr_one (if t140.1 = t143.1 then zN 1237 [some (.ref 1000), some (.ref 0), some (.ref 73), some (.int s.1)] [] (SH, t143.2, s.2.2) else zN 693 [some (.ref 1000), some (.ref 0), some (.ref 73), some (.int s.1)] [] (SH, t143.2, s.2.2)) rfl (zR_if (fun hc144 => zR_go ?_) (fun hc144 => zR_go ?_))
      · rw [if_pos hc144] at h
        refine zr_steps 2 (18, [some (.ref 1000), some (.ref 0), some (.ref 73), some (.int (s.1 + 6))], [], (SH, t143.2, s.2.2)) rfl ?_
        have he := Option.some.inj h
        subst he
        exact zr_hdr (ls2 := [some (.ref 1000), some (.ref 0), some (.ref 73), some (.int (s.1 + 6))]) rfl rfl (show zRun X d 0 18 [some (.ref 1000), some (.ref 0), some (.ref 73), some (.int (s.1 + 6))] [] (SH, t143.2, s.2.2) r M' from w)
      · rw [if_neg hc144] at h
        refine zr_steps 1 (694, [some (.ref 1000), some (.ref 0), some (.ref 73), some (.int s.1)], [.int 0], (SH, t143.2, s.2.2)) rfl ?_
        have he := Option.some.inj h
        subst he
        obtain ⟨e1, e2⟩ := (show r = (some (.int 0)) ∧ M' = (SH, t143.2, s.2.2) from w)
        exact zr_one (if ((0 : Int32) = 0 ∨ (0 : Int32) = 1) then some (.inr (.inr (some (.int 0)))) else none) rfl (zR_pos (by decide) (zR_ret e1.symm e2.symm))
    rw [if_neg hc307] at h
    refine zR_if (fun hc306 => zR_go ?_) (fun hc306 => ?_)
    · rw [if_pos hc306] at h
      refine zr_steps 5 (700, [some (.ref 1000), some (.ref 0), some (.ref 73), some (.int s.1)], [.int (s.1 + 1), .ref 1000, .ref 0], (SH, s.2.1, s.2.2)) rfl ?_
      obtain ⟨hc145, h⟩ := zbifo h
      refine zr_one (bif zin (s.1 + 1) X.1 then zN 701 [some (.ref 1000), some (.ref 0), some (.ref 73), some (.int s.1)] [.int (X.2 (s.1 + 1).toNatClampNeg), .ref 0] (SH, s.2.1, s.2.2) else none) rfl (zR_bif hc145 (zR_go ?_))
      refine zr_steps 4 (705, [some (.ref 1000), some (.ref 0), some (.ref 73), some (.int s.1)], [.int (s.1 + 2), .ref 1000, .int (X.2 (s.1 + 1).toNatClampNeg), .ref 0], (SH, s.2.1, s.2.2)) rfl ?_
      obtain ⟨hc146, h⟩ := zbifo h
      refine zr_one (bif zin (s.1 + 2) X.1 then zN 706 [some (.ref 1000), some (.ref 0), some (.ref 73), some (.int s.1)] [.int (X.2 (s.1 + 2).toNatClampNeg), .int (X.2 (s.1 + 1).toNatClampNeg), .ref 0] (SH, s.2.1, s.2.2) else none) rfl (zR_bif hc146 (zR_go ?_))
      obtain ⟨t148, hc147, h⟩ := zbind h
      refine zr_one (some (.inr (.inl (105, [.ref 0, .int (X.2 (s.1 + 1).toNatClampNeg), .int (X.2 (s.1 + 2).toNatClampNeg)], [], 709)))) rfl (zR_call (by omega) rfl (ok_f105_bell (by omega) (X.2 (s.1 + 1).toNatClampNeg) (X.2 (s.1 + 2).toNatClampNeg) _ hc147) ?_)
      refine zr_steps 5 (714, [some (.ref 1000), some (.ref 0), some (.ref 73), some (.int s.1)], [.int (s.1 + 1), .ref 1000, .ref 73, .int t148.1], (SH, t148.2, s.2.2)) rfl ?_
      obtain ⟨hc149, h⟩ := zbifo h
      refine zr_one (bif zin (s.1 + 1) X.1 then zN 715 [some (.ref 1000), some (.ref 0), some (.ref 73), some (.int s.1)] [.int (X.2 (s.1 + 1).toNatClampNeg), .ref 73, .int t148.1] (SH, t148.2, s.2.2) else none) rfl (zR_bif hc149 (zR_go ?_))
      refine zr_steps 4 (719, [some (.ref 1000), some (.ref 0), some (.ref 73), some (.int s.1)], [.int (s.1 + 2), .ref 1000, .int (X.2 (s.1 + 1).toNatClampNeg), .ref 73, .int t148.1], (SH, t148.2, s.2.2)) rfl ?_
      obtain ⟨hc150, h⟩ := zbifo h
      refine zr_one (bif zin (s.1 + 2) X.1 then zN 720 [some (.ref 1000), some (.ref 0), some (.ref 73), some (.int s.1)] [.int (X.2 (s.1 + 2).toNatClampNeg), .int (X.2 (s.1 + 1).toNatClampNeg), .ref 73, .int t148.1] (SH, t148.2, s.2.2) else none) rfl (zR_bif hc150 (zR_go ?_))
      obtain ⟨t152, hc151, h⟩ := zbind h
      refine zr_one (some (.inr (.inl (187, [.ref 73, .int (X.2 (s.1 + 1).toNatClampNeg), .int (X.2 (s.1 + 2).toNatClampNeg)], [.int t148.1], 723)))) rfl (zR_call (by omega) rfl (ok_f187_bell (by omega) (X.2 (s.1 + 1).toNatClampNeg) (X.2 (s.1 + 2).toNatClampNeg) _ hc151) ?_)
      refine zr_one (if t148.1 = t152.1 then zN 1237 [some (.ref 1000), some (.ref 0), some (.ref 73), some (.int s.1)] [] (SH, t152.2, s.2.2) else zN 726 [some (.ref 1000), some (.ref 0), some (.ref 73), some (.int s.1)] [] (SH, t152.2, s.2.2)) rfl (zR_if (fun hc153 => zR_go ?_) (fun hc153 => zR_go ?_))
      · rw [if_pos hc153] at h
        refine zr_steps 2 (18, [some (.ref 1000), some (.ref 0), some (.ref 73), some (.int (s.1 + 6))], [], (SH, t152.2, s.2.2)) rfl ?_
        have he := Option.some.inj h
        subst he
        exact zr_hdr (ls2 := [some (.ref 1000), some (.ref 0), some (.ref 73), some (.int (s.1 + 6))]) rfl rfl (show zRun X d 0 18 [some (.ref 1000), some (.ref 0), some (.ref 73), some (.int (s.1 + 6))] [] (SH, t152.2, s.2.2) r M' from w)
      · rw [if_neg hc153] at h
        refine zr_steps 1 (727, [some (.ref 1000), some (.ref 0), some (.ref 73), some (.int s.1)], [.int 0], (SH, t152.2, s.2.2)) rfl ?_
        have he := Option.some.inj h
        subst he
        obtain ⟨e1, e2⟩ := (show r = (some (.int 0)) ∧ M' = (SH, t152.2, s.2.2) from w)
        exact zr_one (if ((0 : Int32) = 0 ∨ (0 : Int32) = 1) then some (.inr (.inr (some (.int 0)))) else none) rfl (zR_pos (by decide) (zR_ret e1.symm e2.symm))
    rw [if_neg hc306] at h
    refine zR_if (fun hc305 => zR_go ?_) (fun hc305 => ?_)
    · rw [if_pos hc305] at h
      refine zr_steps 5 (733, [some (.ref 1000), some (.ref 0), some (.ref 73), some (.int s.1)], [.int (s.1 + 1), .ref 1000, .ref 0], (SH, s.2.1, s.2.2)) rfl ?_
      obtain ⟨hc154, h⟩ := zbifo h
      refine zr_one (bif zin (s.1 + 1) X.1 then zN 734 [some (.ref 1000), some (.ref 0), some (.ref 73), some (.int s.1)] [.int (X.2 (s.1 + 1).toNatClampNeg), .ref 0] (SH, s.2.1, s.2.2) else none) rfl (zR_bif hc154 (zR_go ?_))
      obtain ⟨t156, hc155, h⟩ := zbind h
      refine zr_one (some (.inr (.inl (108, [.ref 0, .int (X.2 (s.1 + 1).toNatClampNeg)], [], 737)))) rfl (zR_call (by omega) rfl (ok_f108_paid (by omega) (X.2 (s.1 + 1).toNatClampNeg) _ hc155) ?_)
      refine zr_steps 5 (742, [some (.ref 1000), some (.ref 0), some (.ref 73), some (.int s.1)], [.int (s.1 + 1), .ref 1000, .ref 73, .int t156.1], (SH, t156.2, s.2.2)) rfl ?_
      obtain ⟨hc157, h⟩ := zbifo h
      refine zr_one (bif zin (s.1 + 1) X.1 then zN 743 [some (.ref 1000), some (.ref 0), some (.ref 73), some (.int s.1)] [.int (X.2 (s.1 + 1).toNatClampNeg), .ref 73, .int t156.1] (SH, t156.2, s.2.2) else none) rfl (zR_bif hc157 (zR_go ?_))
      obtain ⟨t159, hc158, h⟩ := zbind h
      refine zr_one (some (.inr (.inl (188, [.ref 73, .int (X.2 (s.1 + 1).toNatClampNeg)], [.int t156.1], 746)))) rfl (zR_call (by omega) rfl (ok_f188_paid (by omega) (X.2 (s.1 + 1).toNatClampNeg) _ hc158) ?_)
      refine zr_one (if t156.1 = t159.1 then zN 1237 [some (.ref 1000), some (.ref 0), some (.ref 73), some (.int s.1)] [] (SH, t159.2, s.2.2) else zN 749 [some (.ref 1000), some (.ref 0), some (.ref 73), some (.int s.1)] [] (SH, t159.2, s.2.2)) rfl (zR_if (fun hc160 => zR_go ?_) (fun hc160 => zR_go ?_))
      · rw [if_pos hc160] at h
        refine zr_steps 2 (18, [some (.ref 1000), some (.ref 0), some (.ref 73), some (.int (s.1 + 6))], [], (SH, t159.2, s.2.2)) rfl ?_
        have he := Option.some.inj h
        subst he
        exact zr_hdr (ls2 := [some (.ref 1000), some (.ref 0), some (.ref 73), some (.int (s.1 + 6))]) rfl rfl (show zRun X d 0 18 [some (.ref 1000), some (.ref 0), some (.ref 73), some (.int (s.1 + 6))] [] (SH, t159.2, s.2.2) r M' from w)
      · rw [if_neg hc160] at h
        refine zr_steps 1 (750, [some (.ref 1000), some (.ref 0), some (.ref 73), some (.int s.1)], [.int 0], (SH, t159.2, s.2.2)) rfl ?_
        have he := Option.some.inj h
        subst he
        obtain ⟨e1, e2⟩ := (show r = (some (.int 0)) ∧ M' = (SH, t159.2, s.2.2) from w)
        exact zr_one (if ((0 : Int32) = 0 ∨ (0 : Int32) = 1) then some (.inr (.inr (some (.int 0)))) else none) rfl (zR_pos (by decide) (zR_ret e1.symm e2.symm))
    rw [if_neg hc305] at h
    refine zR_if (fun hc304 => zR_go ?_) (fun hc304 => ?_)
    · rw [if_pos hc304] at h
      refine zr_steps 5 (756, [some (.ref 1000), some (.ref 0), some (.ref 73), some (.int s.1)], [.int (s.1 + 1), .ref 1000, .ref 0], (SH, s.2.1, s.2.2)) rfl ?_
      obtain ⟨hc161, h⟩ := zbifo h
      refine zr_one (bif zin (s.1 + 1) X.1 then zN 757 [some (.ref 1000), some (.ref 0), some (.ref 73), some (.int s.1)] [.int (X.2 (s.1 + 1).toNatClampNeg), .ref 0] (SH, s.2.1, s.2.2) else none) rfl (zR_bif hc161 (zR_go ?_))
      obtain ⟨t163, hc162, h⟩ := zbind h
      refine zr_one (some (.inr (.inl (109, [.ref 0, .int (X.2 (s.1 + 1).toNatClampNeg)], [], 760)))) rfl (zR_call (by omega) rfl (ok_f109_lead (by omega) (X.2 (s.1 + 1).toNatClampNeg) _ hc162) ?_)
      refine zr_steps 5 (765, [some (.ref 1000), some (.ref 0), some (.ref 73), some (.int s.1)], [.int (s.1 + 1), .ref 1000, .ref 73, .int t163.1], (SH, t163.2, s.2.2)) rfl ?_
      obtain ⟨hc164, h⟩ := zbifo h
      refine zr_one (bif zin (s.1 + 1) X.1 then zN 766 [some (.ref 1000), some (.ref 0), some (.ref 73), some (.int s.1)] [.int (X.2 (s.1 + 1).toNatClampNeg), .ref 73, .int t163.1] (SH, t163.2, s.2.2) else none) rfl (zR_bif hc164 (zR_go ?_))
      obtain ⟨t166, hc165, h⟩ := zbind h
      refine zr_one (some (.inr (.inl (189, [.ref 73, .int (X.2 (s.1 + 1).toNatClampNeg)], [.int t163.1], 769)))) rfl (zR_call (by omega) rfl (ok_f189_lead (by omega) (X.2 (s.1 + 1).toNatClampNeg) _ hc165) ?_)
      refine zr_one (if t163.1 = t166.1 then zN 1237 [some (.ref 1000), some (.ref 0), some (.ref 73), some (.int s.1)] [] (SH, t166.2, s.2.2) else zN 772 [some (.ref 1000), some (.ref 0), some (.ref 73), some (.int s.1)] [] (SH, t166.2, s.2.2)) rfl (zR_if (fun hc167 => zR_go ?_) (fun hc167 => zR_go ?_))
      · rw [if_pos hc167] at h
        refine zr_steps 2 (18, [some (.ref 1000), some (.ref 0), some (.ref 73), some (.int (s.1 + 6))], [], (SH, t166.2, s.2.2)) rfl ?_
        have he := Option.some.inj h
        subst he
        exact zr_hdr (ls2 := [some (.ref 1000), some (.ref 0), some (.ref 73), some (.int (s.1 + 6))]) rfl rfl (show zRun X d 0 18 [some (.ref 1000), some (.ref 0), some (.ref 73), some (.int (s.1 + 6))] [] (SH, t166.2, s.2.2) r M' from w)
      · rw [if_neg hc167] at h
        refine zr_steps 1 (773, [some (.ref 1000), some (.ref 0), some (.ref 73), some (.int s.1)], [.int 0], (SH, t166.2, s.2.2)) rfl ?_
        have he := Option.some.inj h
        subst he
        obtain ⟨e1, e2⟩ := (show r = (some (.int 0)) ∧ M' = (SH, t166.2, s.2.2) from w)
        exact zr_one (if ((0 : Int32) = 0 ∨ (0 : Int32) = 1) then some (.inr (.inr (some (.int 0)))) else none) rfl (zR_pos (by decide) (zR_ret e1.symm e2.symm))
    rw [if_neg hc304] at h
    refine zR_if (fun hc303 => zR_go ?_) (fun hc303 => ?_)
    · rw [if_pos hc303] at h
      refine zr_steps 5 (779, [some (.ref 1000), some (.ref 0), some (.ref 73), some (.int s.1)], [.int (s.1 + 1), .ref 1000, .ref 0], (SH, s.2.1, s.2.2)) rfl ?_
      obtain ⟨hc168, h⟩ := zbifo h
      refine zr_one (bif zin (s.1 + 1) X.1 then zN 780 [some (.ref 1000), some (.ref 0), some (.ref 73), some (.int s.1)] [.int (X.2 (s.1 + 1).toNatClampNeg), .ref 0] (SH, s.2.1, s.2.2) else none) rfl (zR_bif hc168 (zR_go ?_))
      obtain ⟨t170, hc169, h⟩ := zbind h
      refine zr_one (some (.inr (.inl (110, [.ref 0, .int (X.2 (s.1 + 1).toNatClampNeg)], [], 783)))) rfl (zR_call (by omega) rfl (ok_f110_serves (by omega) (X.2 (s.1 + 1).toNatClampNeg) _ hc169) ?_)
      refine zr_steps 5 (788, [some (.ref 1000), some (.ref 0), some (.ref 73), some (.int s.1)], [.int (s.1 + 1), .ref 1000, .ref 73, .int t170.1], (SH, t170.2, s.2.2)) rfl ?_
      obtain ⟨hc171, h⟩ := zbifo h
      refine zr_one (bif zin (s.1 + 1) X.1 then zN 789 [some (.ref 1000), some (.ref 0), some (.ref 73), some (.int s.1)] [.int (X.2 (s.1 + 1).toNatClampNeg), .ref 73, .int t170.1] (SH, t170.2, s.2.2) else none) rfl (zR_bif hc171 (zR_go ?_))
      obtain ⟨t173, hc172, h⟩ := zbind h
      refine zr_one (some (.inr (.inl (190, [.ref 73, .int (X.2 (s.1 + 1).toNatClampNeg)], [.int t170.1], 792)))) rfl (zR_call (by omega) rfl (ok_f190_serves (by omega) (X.2 (s.1 + 1).toNatClampNeg) _ hc172) ?_)
      refine zr_one (if t170.1 = t173.1 then zN 1237 [some (.ref 1000), some (.ref 0), some (.ref 73), some (.int s.1)] [] (SH, t173.2, s.2.2) else zN 795 [some (.ref 1000), some (.ref 0), some (.ref 73), some (.int s.1)] [] (SH, t173.2, s.2.2)) rfl (zR_if (fun hc174 => zR_go ?_) (fun hc174 => zR_go ?_))
      · rw [if_pos hc174] at h
        refine zr_steps 2 (18, [some (.ref 1000), some (.ref 0), some (.ref 73), some (.int (s.1 + 6))], [], (SH, t173.2, s.2.2)) rfl ?_
        have he := Option.some.inj h
        subst he
        exact zr_hdr (ls2 := [some (.ref 1000), some (.ref 0), some (.ref 73), some (.int (s.1 + 6))]) rfl rfl (show zRun X d 0 18 [some (.ref 1000), some (.ref 0), some (.ref 73), some (.int (s.1 + 6))] [] (SH, t173.2, s.2.2) r M' from w)
      · rw [if_neg hc174] at h
        refine zr_steps 1 (796, [some (.ref 1000), some (.ref 0), some (.ref 73), some (.int s.1)], [.int 0], (SH, t173.2, s.2.2)) rfl ?_
        have he := Option.some.inj h
        subst he
        obtain ⟨e1, e2⟩ := (show r = (some (.int 0)) ∧ M' = (SH, t173.2, s.2.2) from w)
        exact zr_one (if ((0 : Int32) = 0 ∨ (0 : Int32) = 1) then some (.inr (.inr (some (.int 0)))) else none) rfl (zR_pos (by decide) (zR_ret e1.symm e2.symm))
    rw [if_neg hc303] at h
    refine zR_if (fun hc302 => zR_go ?_) (fun hc302 => ?_)
    · rw [if_pos hc302] at h
      refine zr_steps 5 (802, [some (.ref 1000), some (.ref 0), some (.ref 73), some (.int s.1)], [.int (s.1 + 1), .ref 1000, .ref 0], (SH, s.2.1, s.2.2)) rfl ?_
      obtain ⟨hc175, h⟩ := zbifo h
      refine zr_one (bif zin (s.1 + 1) X.1 then zN 803 [some (.ref 1000), some (.ref 0), some (.ref 73), some (.int s.1)] [.int (X.2 (s.1 + 1).toNatClampNeg), .ref 0] (SH, s.2.1, s.2.2) else none) rfl (zR_bif hc175 (zR_go ?_))
      obtain ⟨t177, hc176, h⟩ := zbind h
      refine zr_one (some (.inr (.inl (111, [.ref 0, .int (X.2 (s.1 + 1).toNatClampNeg)], [], 806)))) rfl (zR_call (by omega) rfl (ok_f111_judge (by omega) (X.2 (s.1 + 1).toNatClampNeg) _ hc176) ?_)
      refine zr_steps 5 (811, [some (.ref 1000), some (.ref 0), some (.ref 73), some (.int s.1)], [.int (s.1 + 1), .ref 1000, .ref 73, .int t177], (SH, s.2.1, s.2.2)) rfl ?_
      obtain ⟨hc178, h⟩ := zbifo h
      refine zr_one (bif zin (s.1 + 1) X.1 then zN 812 [some (.ref 1000), some (.ref 0), some (.ref 73), some (.int s.1)] [.int (X.2 (s.1 + 1).toNatClampNeg), .ref 73, .int t177] (SH, s.2.1, s.2.2) else none) rfl (zR_bif hc178 (zR_go ?_))
      obtain ⟨t180, hc179, h⟩ := zbind h
      refine zr_one (some (.inr (.inl (191, [.ref 73, .int (X.2 (s.1 + 1).toNatClampNeg)], [.int t177], 815)))) rfl (zR_call (by omega) rfl (ok_f191_judge (by omega) (X.2 (s.1 + 1).toNatClampNeg) _ hc179) ?_)
      refine zr_one (if t177 = t180.1 then zN 1237 [some (.ref 1000), some (.ref 0), some (.ref 73), some (.int s.1)] [] (SH, t180.2, s.2.2) else zN 818 [some (.ref 1000), some (.ref 0), some (.ref 73), some (.int s.1)] [] (SH, t180.2, s.2.2)) rfl (zR_if (fun hc181 => zR_go ?_) (fun hc181 => zR_go ?_))
      · rw [if_pos hc181] at h
        refine zr_steps 2 (18, [some (.ref 1000), some (.ref 0), some (.ref 73), some (.int (s.1 + 6))], [], (SH, t180.2, s.2.2)) rfl ?_
        have he := Option.some.inj h
        subst he
        exact zr_hdr (ls2 := [some (.ref 1000), some (.ref 0), some (.ref 73), some (.int (s.1 + 6))]) rfl rfl (show zRun X d 0 18 [some (.ref 1000), some (.ref 0), some (.ref 73), some (.int (s.1 + 6))] [] (SH, t180.2, s.2.2) r M' from w)
      · rw [if_neg hc181] at h
        refine zr_steps 1 (819, [some (.ref 1000), some (.ref 0), some (.ref 73), some (.int s.1)], [.int 0], (SH, t180.2, s.2.2)) rfl ?_
        have he := Option.some.inj h
        subst he
        obtain ⟨e1, e2⟩ := (show r = (some (.int 0)) ∧ M' = (SH, t180.2, s.2.2) from w)
        exact zr_one (if ((0 : Int32) = 0 ∨ (0 : Int32) = 1) then some (.inr (.inr (some (.int 0)))) else none) rfl (zR_pos (by decide) (zR_ret e1.symm e2.symm))
    rw [if_neg hc302] at h
    refine zR_if (fun hc301 => zR_go ?_) (fun hc301 => ?_)
    · rw [if_pos hc301] at h
      refine zr_steps 1 (821, [some (.ref 1000), some (.ref 0), some (.ref 73), some (.int s.1)], [.ref 0], (SH, s.2.1, s.2.2)) rfl ?_
      obtain ⟨t183, hc182, h⟩ := zbind h
      refine zr_one (some (.inr (.inl (113, [.ref 0], [], 824)))) rfl (zR_call (by omega) rfl (ok_f113_undo (by omega)  _ hc182) ?_)
      refine zr_steps 1 (825, [some (.ref 1000), some (.ref 0), some (.ref 73), some (.int s.1)], [.ref 73, .int t183.1], (SH, t183.2, s.2.2)) rfl ?_
      obtain ⟨t185, hc184, h⟩ := zbind h
      refine zr_one (some (.inr (.inl (162, [.ref 73], [.int t183.1], 828)))) rfl (zR_call (by omega) rfl (ok_f162_undo (by omega)  _ hc184) ?_)
      refine zr_one (if t183.1 = t185.1 then zN 1237 [some (.ref 1000), some (.ref 0), some (.ref 73), some (.int s.1)] [] (SH, t185.2, s.2.2) else zN 831 [some (.ref 1000), some (.ref 0), some (.ref 73), some (.int s.1)] [] (SH, t185.2, s.2.2)) rfl (zR_if (fun hc186 => zR_go ?_) (fun hc186 => zR_go ?_))
      · rw [if_pos hc186] at h
        refine zr_steps 2 (18, [some (.ref 1000), some (.ref 0), some (.ref 73), some (.int (s.1 + 6))], [], (SH, t185.2, s.2.2)) rfl ?_
        have he := Option.some.inj h
        subst he
        exact zr_hdr (ls2 := [some (.ref 1000), some (.ref 0), some (.ref 73), some (.int (s.1 + 6))]) rfl rfl (show zRun X d 0 18 [some (.ref 1000), some (.ref 0), some (.ref 73), some (.int (s.1 + 6))] [] (SH, t185.2, s.2.2) r M' from w)
      · rw [if_neg hc186] at h
        refine zr_steps 1 (832, [some (.ref 1000), some (.ref 0), some (.ref 73), some (.int s.1)], [.int 0], (SH, t185.2, s.2.2)) rfl ?_
        have he := Option.some.inj h
        subst he
        obtain ⟨e1, e2⟩ := (show r = (some (.int 0)) ∧ M' = (SH, t185.2, s.2.2) from w)
        exact zr_one (if ((0 : Int32) = 0 ∨ (0 : Int32) = 1) then some (.inr (.inr (some (.int 0)))) else none) rfl (zR_pos (by decide) (zR_ret e1.symm e2.symm))
    rw [if_neg hc301] at h
    refine zR_if (fun hc300 => zR_go ?_) (fun hc300 => ?_)
    · rw [if_pos hc300] at h
      refine zr_steps 1 (834, [some (.ref 1000), some (.ref 0), some (.ref 73), some (.int s.1)], [.ref 0], (SH, s.2.1, s.2.2)) rfl ?_
      obtain ⟨t188, hc187, h⟩ := zbind h
      refine zr_one (some (.inr (.inl (114, [.ref 0], [], 837)))) rfl (zR_call (by omega) rfl (ok_f114_redo (by omega)  _ hc187) ?_)
      refine zr_steps 1 (838, [some (.ref 1000), some (.ref 0), some (.ref 73), some (.int s.1)], [.ref 73, .int t188.1], (SH, t188.2, s.2.2)) rfl ?_
      obtain ⟨t190, hc189, h⟩ := zbind h
      refine zr_one (some (.inr (.inl (163, [.ref 73], [.int t188.1], 841)))) rfl (zR_call (by omega) rfl (ok_f163_redo (by omega)  _ hc189) ?_)
      refine zr_one (if t188.1 = t190.1 then zN 1237 [some (.ref 1000), some (.ref 0), some (.ref 73), some (.int s.1)] [] (SH, t190.2, s.2.2) else zN 844 [some (.ref 1000), some (.ref 0), some (.ref 73), some (.int s.1)] [] (SH, t190.2, s.2.2)) rfl (zR_if (fun hc191 => zR_go ?_) (fun hc191 => zR_go ?_))
      · rw [if_pos hc191] at h
        refine zr_steps 2 (18, [some (.ref 1000), some (.ref 0), some (.ref 73), some (.int (s.1 + 6))], [], (SH, t190.2, s.2.2)) rfl ?_
        have he := Option.some.inj h
        subst he
        exact zr_hdr (ls2 := [some (.ref 1000), some (.ref 0), some (.ref 73), some (.int (s.1 + 6))]) rfl rfl (show zRun X d 0 18 [some (.ref 1000), some (.ref 0), some (.ref 73), some (.int (s.1 + 6))] [] (SH, t190.2, s.2.2) r M' from w)
      · rw [if_neg hc191] at h
        refine zr_steps 1 (845, [some (.ref 1000), some (.ref 0), some (.ref 73), some (.int s.1)], [.int 0], (SH, t190.2, s.2.2)) rfl ?_
        have he := Option.some.inj h
        subst he
        obtain ⟨e1, e2⟩ := (show r = (some (.int 0)) ∧ M' = (SH, t190.2, s.2.2) from w)
        exact zr_one (if ((0 : Int32) = 0 ∨ (0 : Int32) = 1) then some (.inr (.inr (some (.int 0)))) else none) rfl (zR_pos (by decide) (zR_ret e1.symm e2.symm))
    rw [if_neg hc300] at h
    refine zR_if (fun hc299 => zR_go ?_) (fun hc299 => ?_)
    · rw [if_pos hc299] at h
      refine zr_steps 5 (851, [some (.ref 1000), some (.ref 0), some (.ref 73), some (.int s.1)], [.int (s.1 + 1), .ref 1000, .ref 0], (SH, s.2.1, s.2.2)) rfl ?_
      obtain ⟨hc192, h⟩ := zbifo h
      refine zr_one (bif zin (s.1 + 1) X.1 then zN 852 [some (.ref 1000), some (.ref 0), some (.ref 73), some (.int s.1)] [.int (X.2 (s.1 + 1).toNatClampNeg), .ref 0] (SH, s.2.1, s.2.2) else none) rfl (zR_bif hc192 (zR_go ?_))
      obtain ⟨t194, hc193, h⟩ := zbind h
      refine zr_one (some (.inr (.inl (115, [.ref 0, .int (X.2 (s.1 + 1).toNatClampNeg)], [], 855)))) rfl (zR_call (by omega) rfl (ok_f115_body (by omega) (X.2 (s.1 + 1).toNatClampNeg) _ hc193) ?_)
      refine zr_steps 5 (860, [some (.ref 1000), some (.ref 0), some (.ref 73), some (.int s.1)], [.int (s.1 + 1), .ref 1000, .ref 73, .int t194.1], (SH, t194.2, s.2.2)) rfl ?_
      obtain ⟨hc195, h⟩ := zbifo h
      refine zr_one (bif zin (s.1 + 1) X.1 then zN 861 [some (.ref 1000), some (.ref 0), some (.ref 73), some (.int s.1)] [.int (X.2 (s.1 + 1).toNatClampNeg), .ref 73, .int t194.1] (SH, t194.2, s.2.2) else none) rfl (zR_bif hc195 (zR_go ?_))
      obtain ⟨t197, hc196, h⟩ := zbind h
      refine zr_one (some (.inr (.inl (195, [.ref 73, .int (X.2 (s.1 + 1).toNatClampNeg)], [.int t194.1], 864)))) rfl (zR_call (by omega) rfl (ok_f195_body (by omega) (X.2 (s.1 + 1).toNatClampNeg) _ hc196) ?_)
      refine zr_one (if t194.1 = t197.1 then zN 1237 [some (.ref 1000), some (.ref 0), some (.ref 73), some (.int s.1)] [] (SH, t197.2, s.2.2) else zN 867 [some (.ref 1000), some (.ref 0), some (.ref 73), some (.int s.1)] [] (SH, t197.2, s.2.2)) rfl (zR_if (fun hc198 => zR_go ?_) (fun hc198 => zR_go ?_))
      · rw [if_pos hc198] at h
        refine zr_steps 2 (18, [some (.ref 1000), some (.ref 0), some (.ref 73), some (.int (s.1 + 6))], [], (SH, t197.2, s.2.2)) rfl ?_
        have he := Option.some.inj h
        subst he
        exact zr_hdr (ls2 := [some (.ref 1000), some (.ref 0), some (.ref 73), some (.int (s.1 + 6))]) rfl rfl (show zRun X d 0 18 [some (.ref 1000), some (.ref 0), some (.ref 73), some (.int (s.1 + 6))] [] (SH, t197.2, s.2.2) r M' from w)
      · rw [if_neg hc198] at h
        refine zr_steps 1 (868, [some (.ref 1000), some (.ref 0), some (.ref 73), some (.int s.1)], [.int 0], (SH, t197.2, s.2.2)) rfl ?_
        have he := Option.some.inj h
        subst he
        obtain ⟨e1, e2⟩ := (show r = (some (.int 0)) ∧ M' = (SH, t197.2, s.2.2) from w)
        exact zr_one (if ((0 : Int32) = 0 ∨ (0 : Int32) = 1) then some (.inr (.inr (some (.int 0)))) else none) rfl (zR_pos (by decide) (zR_ret e1.symm e2.symm))
    rw [if_neg hc299] at h
    refine zR_if (fun hc298 => zR_go ?_) (fun hc298 => ?_)
    · rw [if_pos hc298] at h
      refine zr_steps 5 (874, [some (.ref 1000), some (.ref 0), some (.ref 73), some (.int s.1)], [.int (s.1 + 1), .ref 1000, .ref 0], (SH, s.2.1, s.2.2)) rfl ?_
      obtain ⟨hc199, h⟩ := zbifo h
      refine zr_one (bif zin (s.1 + 1) X.1 then zN 875 [some (.ref 1000), some (.ref 0), some (.ref 73), some (.int s.1)] [.int (X.2 (s.1 + 1).toNatClampNeg), .ref 0] (SH, s.2.1, s.2.2) else none) rfl (zR_bif hc199 (zR_go ?_))
      refine zr_steps 4 (879, [some (.ref 1000), some (.ref 0), some (.ref 73), some (.int s.1)], [.int (s.1 + 2), .ref 1000, .int (X.2 (s.1 + 1).toNatClampNeg), .ref 0], (SH, s.2.1, s.2.2)) rfl ?_
      obtain ⟨hc200, h⟩ := zbifo h
      refine zr_one (bif zin (s.1 + 2) X.1 then zN 880 [some (.ref 1000), some (.ref 0), some (.ref 73), some (.int s.1)] [.int (X.2 (s.1 + 2).toNatClampNeg), .int (X.2 (s.1 + 1).toNatClampNeg), .ref 0] (SH, s.2.1, s.2.2) else none) rfl (zR_bif hc200 (zR_go ?_))
      refine zr_steps 4 (884, [some (.ref 1000), some (.ref 0), some (.ref 73), some (.int s.1)], [.int (s.1 + 3), .ref 1000, .int (X.2 (s.1 + 2).toNatClampNeg), .int (X.2 (s.1 + 1).toNatClampNeg), .ref 0], (SH, s.2.1, s.2.2)) rfl ?_
      obtain ⟨hc201, h⟩ := zbifo h
      refine zr_one (bif zin (s.1 + 3) X.1 then zN 885 [some (.ref 1000), some (.ref 0), some (.ref 73), some (.int s.1)] [.int (X.2 (s.1 + 3).toNatClampNeg), .int (X.2 (s.1 + 2).toNatClampNeg), .int (X.2 (s.1 + 1).toNatClampNeg), .ref 0] (SH, s.2.1, s.2.2) else none) rfl (zR_bif hc201 (zR_go ?_))
      obtain ⟨t203, hc202, h⟩ := zbind h
      refine zr_one (some (.inr (.inl (116, [.ref 0, .int (X.2 (s.1 + 1).toNatClampNeg), .int (X.2 (s.1 + 2).toNatClampNeg), .int (X.2 (s.1 + 3).toNatClampNeg)], [], 888)))) rfl (zR_call (by omega) rfl (ok_f116_act (by omega) (X.2 (s.1 + 1).toNatClampNeg) (X.2 (s.1 + 2).toNatClampNeg) (X.2 (s.1 + 3).toNatClampNeg) _ hc202) ?_)
      refine zr_steps 5 (893, [some (.ref 1000), some (.ref 0), some (.ref 73), some (.int s.1)], [.int (s.1 + 1), .ref 1000, .ref 73, .int t203.1], (SH, t203.2, s.2.2)) rfl ?_
      obtain ⟨hc204, h⟩ := zbifo h
      refine zr_one (bif zin (s.1 + 1) X.1 then zN 894 [some (.ref 1000), some (.ref 0), some (.ref 73), some (.int s.1)] [.int (X.2 (s.1 + 1).toNatClampNeg), .ref 73, .int t203.1] (SH, t203.2, s.2.2) else none) rfl (zR_bif hc204 (zR_go ?_))
      refine zr_steps 4 (898, [some (.ref 1000), some (.ref 0), some (.ref 73), some (.int s.1)], [.int (s.1 + 2), .ref 1000, .int (X.2 (s.1 + 1).toNatClampNeg), .ref 73, .int t203.1], (SH, t203.2, s.2.2)) rfl ?_
      obtain ⟨hc205, h⟩ := zbifo h
      refine zr_one (bif zin (s.1 + 2) X.1 then zN 899 [some (.ref 1000), some (.ref 0), some (.ref 73), some (.int s.1)] [.int (X.2 (s.1 + 2).toNatClampNeg), .int (X.2 (s.1 + 1).toNatClampNeg), .ref 73, .int t203.1] (SH, t203.2, s.2.2) else none) rfl (zR_bif hc205 (zR_go ?_))
      refine zr_steps 4 (903, [some (.ref 1000), some (.ref 0), some (.ref 73), some (.int s.1)], [.int (s.1 + 3), .ref 1000, .int (X.2 (s.1 + 2).toNatClampNeg), .int (X.2 (s.1 + 1).toNatClampNeg), .ref 73, .int t203.1], (SH, t203.2, s.2.2)) rfl ?_
      obtain ⟨hc206, h⟩ := zbifo h
      refine zr_one (bif zin (s.1 + 3) X.1 then zN 904 [some (.ref 1000), some (.ref 0), some (.ref 73), some (.int s.1)] [.int (X.2 (s.1 + 3).toNatClampNeg), .int (X.2 (s.1 + 2).toNatClampNeg), .int (X.2 (s.1 + 1).toNatClampNeg), .ref 73, .int t203.1] (SH, t203.2, s.2.2) else none) rfl (zR_bif hc206 (zR_go ?_))
      obtain ⟨t208, hc207, h⟩ := zbind h
      refine zr_one (some (.inr (.inl (208, [.ref 73, .int (X.2 (s.1 + 1).toNatClampNeg), .int (X.2 (s.1 + 2).toNatClampNeg), .int (X.2 (s.1 + 3).toNatClampNeg)], [.int t203.1], 907)))) rfl (zR_call (by omega) rfl (ok_f208_act (by omega) (X.2 (s.1 + 1).toNatClampNeg) (X.2 (s.1 + 2).toNatClampNeg) (X.2 (s.1 + 3).toNatClampNeg) _ hc207) ?_)
      refine zr_one (if t203.1 = t208.1 then zN 1237 [some (.ref 1000), some (.ref 0), some (.ref 73), some (.int s.1)] [] (SH, t208.2, s.2.2) else zN 910 [some (.ref 1000), some (.ref 0), some (.ref 73), some (.int s.1)] [] (SH, t208.2, s.2.2)) rfl (zR_if (fun hc209 => zR_go ?_) (fun hc209 => zR_go ?_))
      · rw [if_pos hc209] at h
        refine zr_steps 2 (18, [some (.ref 1000), some (.ref 0), some (.ref 73), some (.int (s.1 + 6))], [], (SH, t208.2, s.2.2)) rfl ?_
        have he := Option.some.inj h
        subst he
        exact zr_hdr (ls2 := [some (.ref 1000), some (.ref 0), some (.ref 73), some (.int (s.1 + 6))]) rfl rfl (show zRun X d 0 18 [some (.ref 1000), some (.ref 0), some (.ref 73), some (.int (s.1 + 6))] [] (SH, t208.2, s.2.2) r M' from w)
      · rw [if_neg hc209] at h
        refine zr_steps 1 (911, [some (.ref 1000), some (.ref 0), some (.ref 73), some (.int s.1)], [.int 0], (SH, t208.2, s.2.2)) rfl ?_
        have he := Option.some.inj h
        subst he
        obtain ⟨e1, e2⟩ := (show r = (some (.int 0)) ∧ M' = (SH, t208.2, s.2.2) from w)
        exact zr_one (if ((0 : Int32) = 0 ∨ (0 : Int32) = 1) then some (.inr (.inr (some (.int 0)))) else none) rfl (zR_pos (by decide) (zR_ret e1.symm e2.symm))
    rw [if_neg hc298] at h
    refine zR_if (fun hc297 => zR_go ?_) (fun hc297 => ?_)
    · rw [if_pos hc297] at h
      refine zr_steps 5 (917, [some (.ref 1000), some (.ref 0), some (.ref 73), some (.int s.1)], [.int (s.1 + 1), .ref 1000, .ref 0], (SH, s.2.1, s.2.2)) rfl ?_
      obtain ⟨hc210, h⟩ := zbifo h
      refine zr_one (bif zin (s.1 + 1) X.1 then zN 918 [some (.ref 1000), some (.ref 0), some (.ref 73), some (.int s.1)] [.int (X.2 (s.1 + 1).toNatClampNeg), .ref 0] (SH, s.2.1, s.2.2) else none) rfl (zR_bif hc210 (zR_go ?_))
      obtain ⟨t212, hc211, h⟩ := zbind h
      refine zr_one (some (.inr (.inl (117, [.ref 0, .int (X.2 (s.1 + 1).toNatClampNeg)], [], 921)))) rfl (zR_call (by omega) rfl (ok_f117_trace (by omega) (X.2 (s.1 + 1).toNatClampNeg) _ hc211) ?_)
      refine zr_steps 5 (926, [some (.ref 1000), some (.ref 0), some (.ref 73), some (.int s.1)], [.int (s.1 + 1), .ref 1000, .ref 73, .int t212], (SH, s.2.1, s.2.2)) rfl ?_
      obtain ⟨hc213, h⟩ := zbifo h
      refine zr_one (bif zin (s.1 + 1) X.1 then zN 927 [some (.ref 1000), some (.ref 0), some (.ref 73), some (.int s.1)] [.int (X.2 (s.1 + 1).toNatClampNeg), .ref 73, .int t212] (SH, s.2.1, s.2.2) else none) rfl (zR_bif hc213 (zR_go ?_))
      obtain ⟨t215, hc214, h⟩ := zbind h
      refine zr_one (some (.inr (.inl (194, [.ref 73, .int (X.2 (s.1 + 1).toNatClampNeg)], [.int t212], 930)))) rfl (zR_call (by omega) rfl (ok_f194_trace (by omega) (X.2 (s.1 + 1).toNatClampNeg) _ hc214) ?_)
      refine zr_one (if t212 = t215 then zN 1237 [some (.ref 1000), some (.ref 0), some (.ref 73), some (.int s.1)] [] (SH, s.2.1, s.2.2) else zN 933 [some (.ref 1000), some (.ref 0), some (.ref 73), some (.int s.1)] [] (SH, s.2.1, s.2.2)) rfl (zR_if (fun hc216 => zR_go ?_) (fun hc216 => zR_go ?_))
      · rw [if_pos hc216] at h
        refine zr_steps 2 (18, [some (.ref 1000), some (.ref 0), some (.ref 73), some (.int (s.1 + 6))], [], (SH, s.2.1, s.2.2)) rfl ?_
        have he := Option.some.inj h
        subst he
        exact zr_hdr (ls2 := [some (.ref 1000), some (.ref 0), some (.ref 73), some (.int (s.1 + 6))]) rfl rfl (show zRun X d 0 18 [some (.ref 1000), some (.ref 0), some (.ref 73), some (.int (s.1 + 6))] [] (SH, s.2.1, s.2.2) r M' from w)
      · rw [if_neg hc216] at h
        refine zr_steps 1 (934, [some (.ref 1000), some (.ref 0), some (.ref 73), some (.int s.1)], [.int 0], (SH, s.2.1, s.2.2)) rfl ?_
        have he := Option.some.inj h
        subst he
        obtain ⟨e1, e2⟩ := (show r = (some (.int 0)) ∧ M' = (SH, s.2.1, s.2.2) from w)
        exact zr_one (if ((0 : Int32) = 0 ∨ (0 : Int32) = 1) then some (.inr (.inr (some (.int 0)))) else none) rfl (zR_pos (by decide) (zR_ret e1.symm e2.symm))
    rw [if_neg hc297] at h
    refine zR_if (fun hc296 => zR_go ?_) (fun hc296 => ?_)
    · rw [if_pos hc296] at h
      refine zr_steps 5 (940, [some (.ref 1000), some (.ref 0), some (.ref 73), some (.int s.1)], [.int (s.1 + 1), .ref 1000, .ref 0], (SH, s.2.1, s.2.2)) rfl ?_
      obtain ⟨hc217, h⟩ := zbifo h
      refine zr_one (bif zin (s.1 + 1) X.1 then zN 941 [some (.ref 1000), some (.ref 0), some (.ref 73), some (.int s.1)] [.int (X.2 (s.1 + 1).toNatClampNeg), .ref 0] (SH, s.2.1, s.2.2) else none) rfl (zR_bif hc217 (zR_go ?_))
      refine zr_steps 4 (945, [some (.ref 1000), some (.ref 0), some (.ref 73), some (.int s.1)], [.int (s.1 + 2), .ref 1000, .int (X.2 (s.1 + 1).toNatClampNeg), .ref 0], (SH, s.2.1, s.2.2)) rfl ?_
      obtain ⟨hc218, h⟩ := zbifo h
      refine zr_one (bif zin (s.1 + 2) X.1 then zN 946 [some (.ref 1000), some (.ref 0), some (.ref 73), some (.int s.1)] [.int (X.2 (s.1 + 2).toNatClampNeg), .int (X.2 (s.1 + 1).toNatClampNeg), .ref 0] (SH, s.2.1, s.2.2) else none) rfl (zR_bif hc218 (zR_go ?_))
      obtain ⟨t220, hc219, h⟩ := zbind h
      refine zr_one (some (.inr (.inl (118, [.ref 0, .int (X.2 (s.1 + 1).toNatClampNeg), .int (X.2 (s.1 + 2).toNatClampNeg)], [], 949)))) rfl (zR_call (by omega) rfl (ok_f118_keep (by omega) (X.2 (s.1 + 1).toNatClampNeg) (X.2 (s.1 + 2).toNatClampNeg) _ hc219) ?_)
      refine zr_steps 5 (954, [some (.ref 1000), some (.ref 0), some (.ref 73), some (.int s.1)], [.int (s.1 + 1), .ref 1000, .ref 73, .int t220.1], (SH, t220.2, s.2.2)) rfl ?_
      obtain ⟨hc221, h⟩ := zbifo h
      refine zr_one (bif zin (s.1 + 1) X.1 then zN 955 [some (.ref 1000), some (.ref 0), some (.ref 73), some (.int s.1)] [.int (X.2 (s.1 + 1).toNatClampNeg), .ref 73, .int t220.1] (SH, t220.2, s.2.2) else none) rfl (zR_bif hc221 (zR_go ?_))
      refine zr_steps 4 (959, [some (.ref 1000), some (.ref 0), some (.ref 73), some (.int s.1)], [.int (s.1 + 2), .ref 1000, .int (X.2 (s.1 + 1).toNatClampNeg), .ref 73, .int t220.1], (SH, t220.2, s.2.2)) rfl ?_
      obtain ⟨hc222, h⟩ := zbifo h
      refine zr_one (bif zin (s.1 + 2) X.1 then zN 960 [some (.ref 1000), some (.ref 0), some (.ref 73), some (.int s.1)] [.int (X.2 (s.1 + 2).toNatClampNeg), .int (X.2 (s.1 + 1).toNatClampNeg), .ref 73, .int t220.1] (SH, t220.2, s.2.2) else none) rfl (zR_bif hc222 (zR_go ?_))
      obtain ⟨t224, hc223, h⟩ := zbind h
      refine zr_one (some (.inr (.inl (211, [.ref 73, .int (X.2 (s.1 + 1).toNatClampNeg), .int (X.2 (s.1 + 2).toNatClampNeg)], [.int t220.1], 963)))) rfl (zR_call (by omega) rfl (ok_f211_keep (by omega) (X.2 (s.1 + 1).toNatClampNeg) (X.2 (s.1 + 2).toNatClampNeg) _ hc223) ?_)
      refine zr_one (if t220.1 = t224.1 then zN 1237 [some (.ref 1000), some (.ref 0), some (.ref 73), some (.int s.1)] [] (SH, t224.2, s.2.2) else zN 966 [some (.ref 1000), some (.ref 0), some (.ref 73), some (.int s.1)] [] (SH, t224.2, s.2.2)) rfl (zR_if (fun hc225 => zR_go ?_) (fun hc225 => zR_go ?_))
      · rw [if_pos hc225] at h
        refine zr_steps 2 (18, [some (.ref 1000), some (.ref 0), some (.ref 73), some (.int (s.1 + 6))], [], (SH, t224.2, s.2.2)) rfl ?_
        have he := Option.some.inj h
        subst he
        exact zr_hdr (ls2 := [some (.ref 1000), some (.ref 0), some (.ref 73), some (.int (s.1 + 6))]) rfl rfl (show zRun X d 0 18 [some (.ref 1000), some (.ref 0), some (.ref 73), some (.int (s.1 + 6))] [] (SH, t224.2, s.2.2) r M' from w)
      · rw [if_neg hc225] at h
        refine zr_steps 1 (967, [some (.ref 1000), some (.ref 0), some (.ref 73), some (.int s.1)], [.int 0], (SH, t224.2, s.2.2)) rfl ?_
        have he := Option.some.inj h
        subst he
        obtain ⟨e1, e2⟩ := (show r = (some (.int 0)) ∧ M' = (SH, t224.2, s.2.2) from w)
        exact zr_one (if ((0 : Int32) = 0 ∨ (0 : Int32) = 1) then some (.inr (.inr (some (.int 0)))) else none) rfl (zR_pos (by decide) (zR_ret e1.symm e2.symm))
    rw [if_neg hc296] at h
    refine zR_if (fun hc295 => zR_go ?_) (fun hc295 => ?_)
    · rw [if_pos hc295] at h
      refine zr_steps 5 (973, [some (.ref 1000), some (.ref 0), some (.ref 73), some (.int s.1)], [.int (s.1 + 1), .ref 1000, .ref 0], (SH, s.2.1, s.2.2)) rfl ?_
      obtain ⟨hc226, h⟩ := zbifo h
      refine zr_one (bif zin (s.1 + 1) X.1 then zN 974 [some (.ref 1000), some (.ref 0), some (.ref 73), some (.int s.1)] [.int (X.2 (s.1 + 1).toNatClampNeg), .ref 0] (SH, s.2.1, s.2.2) else none) rfl (zR_bif hc226 (zR_go ?_))
      refine zr_steps 4 (978, [some (.ref 1000), some (.ref 0), some (.ref 73), some (.int s.1)], [.int (s.1 + 2), .ref 1000, .int (X.2 (s.1 + 1).toNatClampNeg), .ref 0], (SH, s.2.1, s.2.2)) rfl ?_
      obtain ⟨hc227, h⟩ := zbifo h
      refine zr_one (bif zin (s.1 + 2) X.1 then zN 979 [some (.ref 1000), some (.ref 0), some (.ref 73), some (.int s.1)] [.int (X.2 (s.1 + 2).toNatClampNeg), .int (X.2 (s.1 + 1).toNatClampNeg), .ref 0] (SH, s.2.1, s.2.2) else none) rfl (zR_bif hc227 (zR_go ?_))
      refine zr_steps 4 (983, [some (.ref 1000), some (.ref 0), some (.ref 73), some (.int s.1)], [.int (s.1 + 3), .ref 1000, .int (X.2 (s.1 + 2).toNatClampNeg), .int (X.2 (s.1 + 1).toNatClampNeg), .ref 0], (SH, s.2.1, s.2.2)) rfl ?_
      obtain ⟨hc228, h⟩ := zbifo h
      refine zr_one (bif zin (s.1 + 3) X.1 then zN 984 [some (.ref 1000), some (.ref 0), some (.ref 73), some (.int s.1)] [.int (X.2 (s.1 + 3).toNatClampNeg), .int (X.2 (s.1 + 2).toNatClampNeg), .int (X.2 (s.1 + 1).toNatClampNeg), .ref 0] (SH, s.2.1, s.2.2) else none) rfl (zR_bif hc228 (zR_go ?_))
      obtain ⟨t230, hc229, h⟩ := zbind h
      refine zr_one (some (.inr (.inl (119, [.ref 0, .int (X.2 (s.1 + 1).toNatClampNeg), .int (X.2 (s.1 + 2).toNatClampNeg), .int (X.2 (s.1 + 3).toNatClampNeg)], [], 987)))) rfl (zR_call (by omega) rfl (ok_f119_row (by omega) (X.2 (s.1 + 1).toNatClampNeg) (X.2 (s.1 + 2).toNatClampNeg) (X.2 (s.1 + 3).toNatClampNeg) _ hc229) ?_)
      refine zr_steps 5 (992, [some (.ref 1000), some (.ref 0), some (.ref 73), some (.int s.1)], [.int (s.1 + 1), .ref 1000, .ref 73, .int t230.1], (SH, t230.2.1, t230.2.2)) rfl ?_
      obtain ⟨hc231, h⟩ := zbifo h
      refine zr_one (bif zin (s.1 + 1) X.1 then zN 993 [some (.ref 1000), some (.ref 0), some (.ref 73), some (.int s.1)] [.int (X.2 (s.1 + 1).toNatClampNeg), .ref 73, .int t230.1] (SH, t230.2.1, t230.2.2) else none) rfl (zR_bif hc231 (zR_go ?_))
      refine zr_steps 4 (997, [some (.ref 1000), some (.ref 0), some (.ref 73), some (.int s.1)], [.int (s.1 + 2), .ref 1000, .int (X.2 (s.1 + 1).toNatClampNeg), .ref 73, .int t230.1], (SH, t230.2.1, t230.2.2)) rfl ?_
      obtain ⟨hc232, h⟩ := zbifo h
      refine zr_one (bif zin (s.1 + 2) X.1 then zN 998 [some (.ref 1000), some (.ref 0), some (.ref 73), some (.int s.1)] [.int (X.2 (s.1 + 2).toNatClampNeg), .int (X.2 (s.1 + 1).toNatClampNeg), .ref 73, .int t230.1] (SH, t230.2.1, t230.2.2) else none) rfl (zR_bif hc232 (zR_go ?_))
      refine zr_steps 4 (1002, [some (.ref 1000), some (.ref 0), some (.ref 73), some (.int s.1)], [.int (s.1 + 3), .ref 1000, .int (X.2 (s.1 + 2).toNatClampNeg), .int (X.2 (s.1 + 1).toNatClampNeg), .ref 73, .int t230.1], (SH, t230.2.1, t230.2.2)) rfl ?_
      obtain ⟨hc233, h⟩ := zbifo h
      refine zr_one (bif zin (s.1 + 3) X.1 then zN 1003 [some (.ref 1000), some (.ref 0), some (.ref 73), some (.int s.1)] [.int (X.2 (s.1 + 3).toNatClampNeg), .int (X.2 (s.1 + 2).toNatClampNeg), .int (X.2 (s.1 + 1).toNatClampNeg), .ref 73, .int t230.1] (SH, t230.2.1, t230.2.2) else none) rfl (zR_bif hc233 (zR_go ?_))
      obtain ⟨t235, hc234, h⟩ := zbind h
      refine zr_one (some (.inr (.inl (212, [.ref 73, .int (X.2 (s.1 + 1).toNatClampNeg), .int (X.2 (s.1 + 2).toNatClampNeg), .int (X.2 (s.1 + 3).toNatClampNeg)], [.int t230.1], 1006)))) rfl (zR_call (by omega) rfl (ok_f212_row (by omega) (X.2 (s.1 + 1).toNatClampNeg) (X.2 (s.1 + 2).toNatClampNeg) (X.2 (s.1 + 3).toNatClampNeg) _ hc234) ?_)
      refine zr_one (if t230.1 = t235.1 then zN 1237 [some (.ref 1000), some (.ref 0), some (.ref 73), some (.int s.1)] [] (SH, t235.2.1, t235.2.2) else zN 1009 [some (.ref 1000), some (.ref 0), some (.ref 73), some (.int s.1)] [] (SH, t235.2.1, t235.2.2)) rfl (zR_if (fun hc236 => zR_go ?_) (fun hc236 => zR_go ?_))
      · rw [if_pos hc236] at h
        refine zr_steps 2 (18, [some (.ref 1000), some (.ref 0), some (.ref 73), some (.int (s.1 + 6))], [], (SH, t235.2.1, t235.2.2)) rfl ?_
        have he := Option.some.inj h
        subst he
        exact zr_hdr (ls2 := [some (.ref 1000), some (.ref 0), some (.ref 73), some (.int (s.1 + 6))]) rfl rfl (show zRun X d 0 18 [some (.ref 1000), some (.ref 0), some (.ref 73), some (.int (s.1 + 6))] [] (SH, t235.2.1, t235.2.2) r M' from w)
      · rw [if_neg hc236] at h
        refine zr_steps 1 (1010, [some (.ref 1000), some (.ref 0), some (.ref 73), some (.int s.1)], [.int 0], (SH, t235.2.1, t235.2.2)) rfl ?_
        have he := Option.some.inj h
        subst he
        obtain ⟨e1, e2⟩ := (show r = (some (.int 0)) ∧ M' = (SH, t235.2.1, t235.2.2) from w)
        exact zr_one (if ((0 : Int32) = 0 ∨ (0 : Int32) = 1) then some (.inr (.inr (some (.int 0)))) else none) rfl (zR_pos (by decide) (zR_ret e1.symm e2.symm))
    rw [if_neg hc295] at h
    refine zR_if (fun hc294 => zR_go ?_) (fun hc294 => ?_)
    · rw [if_pos hc294] at h
      refine zr_steps 5 (1016, [some (.ref 1000), some (.ref 0), some (.ref 73), some (.int s.1)], [.int (s.1 + 1), .ref 1000, .ref 0], (SH, s.2.1, s.2.2)) rfl ?_
      obtain ⟨hc237, h⟩ := zbifo h
      refine zr_one (bif zin (s.1 + 1) X.1 then zN 1017 [some (.ref 1000), some (.ref 0), some (.ref 73), some (.int s.1)] [.int (X.2 (s.1 + 1).toNatClampNeg), .ref 0] (SH, s.2.1, s.2.2) else none) rfl (zR_bif hc237 (zR_go ?_))
      refine zr_steps 4 (1021, [some (.ref 1000), some (.ref 0), some (.ref 73), some (.int s.1)], [.int (s.1 + 2), .ref 1000, .int (X.2 (s.1 + 1).toNatClampNeg), .ref 0], (SH, s.2.1, s.2.2)) rfl ?_
      obtain ⟨hc238, h⟩ := zbifo h
      refine zr_one (bif zin (s.1 + 2) X.1 then zN 1022 [some (.ref 1000), some (.ref 0), some (.ref 73), some (.int s.1)] [.int (X.2 (s.1 + 2).toNatClampNeg), .int (X.2 (s.1 + 1).toNatClampNeg), .ref 0] (SH, s.2.1, s.2.2) else none) rfl (zR_bif hc238 (zR_go ?_))
      refine zr_steps 4 (1026, [some (.ref 1000), some (.ref 0), some (.ref 73), some (.int s.1)], [.int (s.1 + 3), .ref 1000, .int (X.2 (s.1 + 2).toNatClampNeg), .int (X.2 (s.1 + 1).toNatClampNeg), .ref 0], (SH, s.2.1, s.2.2)) rfl ?_
      obtain ⟨hc239, h⟩ := zbifo h
      refine zr_one (bif zin (s.1 + 3) X.1 then zN 1027 [some (.ref 1000), some (.ref 0), some (.ref 73), some (.int s.1)] [.int (X.2 (s.1 + 3).toNatClampNeg), .int (X.2 (s.1 + 2).toNatClampNeg), .int (X.2 (s.1 + 1).toNatClampNeg), .ref 0] (SH, s.2.1, s.2.2) else none) rfl (zR_bif hc239 (zR_go ?_))
      refine zr_steps 7 (1035, [some (.ref 1000), some (.ref 0), some (.ref 73), some (.int s.1)], [.int (s.1 + 4), .ref 1000, .long ((X.2 (s.1 + 3).toNatClampNeg).toInt64 <<< ((32 : Int32).toInt64 &&& 63)), .int (X.2 (s.1 + 2).toNatClampNeg), .int (X.2 (s.1 + 1).toNatClampNeg), .ref 0], (SH, s.2.1, s.2.2)) rfl ?_
      obtain ⟨hc240, h⟩ := zbifo h
      refine zr_one (bif zin (s.1 + 4) X.1 then zN 1036 [some (.ref 1000), some (.ref 0), some (.ref 73), some (.int s.1)] [.int (X.2 (s.1 + 4).toNatClampNeg), .long ((X.2 (s.1 + 3).toNatClampNeg).toInt64 <<< ((32 : Int32).toInt64 &&& 63)), .int (X.2 (s.1 + 2).toNatClampNeg), .int (X.2 (s.1 + 1).toNatClampNeg), .ref 0] (SH, s.2.1, s.2.2) else none) rfl (zR_bif hc240 (zR_go ?_))
      refine zr_steps 4 (1042, [some (.ref 1000), some (.ref 0), some (.ref 73), some (.int s.1)], [.long (((X.2 (s.1 + 3).toNatClampNeg).toInt64 <<< ((32 : Int32).toInt64 &&& 63)) ||| ((X.2 (s.1 + 4).toNatClampNeg).toInt64 &&& 4294967295)), .int (X.2 (s.1 + 2).toNatClampNeg), .int (X.2 (s.1 + 1).toNatClampNeg), .ref 0], (SH, s.2.1, s.2.2)) rfl ?_
      obtain ⟨t242, hc241, h⟩ := zbind h
      refine zr_one (some (.inr (.inl (120, [.ref 0, .int (X.2 (s.1 + 1).toNatClampNeg), .int (X.2 (s.1 + 2).toNatClampNeg), .long (((X.2 (s.1 + 3).toNatClampNeg).toInt64 <<< ((32 : Int32).toInt64 &&& 63)) ||| ((X.2 (s.1 + 4).toNatClampNeg).toInt64 &&& 4294967295))], [], 1045)))) rfl (zR_call (by omega) rfl (ok_f120_put (by omega) (X.2 (s.1 + 1).toNatClampNeg) (X.2 (s.1 + 2).toNatClampNeg) (((X.2 (s.1 + 3).toNatClampNeg).toInt64 <<< ((32 : Int32).toInt64 &&& 63)) ||| ((X.2 (s.1 + 4).toNatClampNeg).toInt64 &&& 4294967295)) _ hc241) ?_)
      refine zr_steps 5 (1050, [some (.ref 1000), some (.ref 0), some (.ref 73), some (.int s.1)], [.int (s.1 + 1), .ref 1000, .ref 73, .int t242.1], (SH, s.2.1, t242.2)) rfl ?_
      obtain ⟨hc243, h⟩ := zbifo h
      refine zr_one (bif zin (s.1 + 1) X.1 then zN 1051 [some (.ref 1000), some (.ref 0), some (.ref 73), some (.int s.1)] [.int (X.2 (s.1 + 1).toNatClampNeg), .ref 73, .int t242.1] (SH, s.2.1, t242.2) else none) rfl (zR_bif hc243 (zR_go ?_))
      refine zr_steps 4 (1055, [some (.ref 1000), some (.ref 0), some (.ref 73), some (.int s.1)], [.int (s.1 + 2), .ref 1000, .int (X.2 (s.1 + 1).toNatClampNeg), .ref 73, .int t242.1], (SH, s.2.1, t242.2)) rfl ?_
      obtain ⟨hc244, h⟩ := zbifo h
      refine zr_one (bif zin (s.1 + 2) X.1 then zN 1056 [some (.ref 1000), some (.ref 0), some (.ref 73), some (.int s.1)] [.int (X.2 (s.1 + 2).toNatClampNeg), .int (X.2 (s.1 + 1).toNatClampNeg), .ref 73, .int t242.1] (SH, s.2.1, t242.2) else none) rfl (zR_bif hc244 (zR_go ?_))
      refine zr_steps 4 (1060, [some (.ref 1000), some (.ref 0), some (.ref 73), some (.int s.1)], [.int (s.1 + 3), .ref 1000, .int (X.2 (s.1 + 2).toNatClampNeg), .int (X.2 (s.1 + 1).toNatClampNeg), .ref 73, .int t242.1], (SH, s.2.1, t242.2)) rfl ?_
      obtain ⟨hc245, h⟩ := zbifo h
      refine zr_one (bif zin (s.1 + 3) X.1 then zN 1061 [some (.ref 1000), some (.ref 0), some (.ref 73), some (.int s.1)] [.int (X.2 (s.1 + 3).toNatClampNeg), .int (X.2 (s.1 + 2).toNatClampNeg), .int (X.2 (s.1 + 1).toNatClampNeg), .ref 73, .int t242.1] (SH, s.2.1, t242.2) else none) rfl (zR_bif hc245 (zR_go ?_))
      refine zr_steps 7 (1069, [some (.ref 1000), some (.ref 0), some (.ref 73), some (.int s.1)], [.int (s.1 + 4), .ref 1000, .long ((X.2 (s.1 + 3).toNatClampNeg).toInt64 <<< ((32 : Int32).toInt64 &&& 63)), .int (X.2 (s.1 + 2).toNatClampNeg), .int (X.2 (s.1 + 1).toNatClampNeg), .ref 73, .int t242.1], (SH, s.2.1, t242.2)) rfl ?_
      obtain ⟨hc246, h⟩ := zbifo h
      refine zr_one (bif zin (s.1 + 4) X.1 then zN 1070 [some (.ref 1000), some (.ref 0), some (.ref 73), some (.int s.1)] [.int (X.2 (s.1 + 4).toNatClampNeg), .long ((X.2 (s.1 + 3).toNatClampNeg).toInt64 <<< ((32 : Int32).toInt64 &&& 63)), .int (X.2 (s.1 + 2).toNatClampNeg), .int (X.2 (s.1 + 1).toNatClampNeg), .ref 73, .int t242.1] (SH, s.2.1, t242.2) else none) rfl (zR_bif hc246 (zR_go ?_))
      refine zr_steps 4 (1076, [some (.ref 1000), some (.ref 0), some (.ref 73), some (.int s.1)], [.long (((X.2 (s.1 + 3).toNatClampNeg).toInt64 <<< ((32 : Int32).toInt64 &&& 63)) ||| ((X.2 (s.1 + 4).toNatClampNeg).toInt64 &&& 4294967295)), .int (X.2 (s.1 + 2).toNatClampNeg), .int (X.2 (s.1 + 1).toNatClampNeg), .ref 73, .int t242.1], (SH, s.2.1, t242.2)) rfl ?_
      obtain ⟨t248, hc247, h⟩ := zbind h
      refine zr_one (some (.inr (.inl (214, [.ref 73, .int (X.2 (s.1 + 1).toNatClampNeg), .int (X.2 (s.1 + 2).toNatClampNeg), .long (((X.2 (s.1 + 3).toNatClampNeg).toInt64 <<< ((32 : Int32).toInt64 &&& 63)) ||| ((X.2 (s.1 + 4).toNatClampNeg).toInt64 &&& 4294967295))], [.int t242.1], 1079)))) rfl (zR_call (by omega) rfl (ok_f214_put (by omega) (X.2 (s.1 + 1).toNatClampNeg) (X.2 (s.1 + 2).toNatClampNeg) (((X.2 (s.1 + 3).toNatClampNeg).toInt64 <<< ((32 : Int32).toInt64 &&& 63)) ||| ((X.2 (s.1 + 4).toNatClampNeg).toInt64 &&& 4294967295)) _ hc247) ?_)
      refine zr_one (if t242.1 = t248.1 then zN 1237 [some (.ref 1000), some (.ref 0), some (.ref 73), some (.int s.1)] [] (SH, s.2.1, t248.2) else zN 1082 [some (.ref 1000), some (.ref 0), some (.ref 73), some (.int s.1)] [] (SH, s.2.1, t248.2)) rfl (zR_if (fun hc249 => zR_go ?_) (fun hc249 => zR_go ?_))
      · rw [if_pos hc249] at h
        refine zr_steps 2 (18, [some (.ref 1000), some (.ref 0), some (.ref 73), some (.int (s.1 + 6))], [], (SH, s.2.1, t248.2)) rfl ?_
        have he := Option.some.inj h
        subst he
        exact zr_hdr (ls2 := [some (.ref 1000), some (.ref 0), some (.ref 73), some (.int (s.1 + 6))]) rfl rfl (show zRun X d 0 18 [some (.ref 1000), some (.ref 0), some (.ref 73), some (.int (s.1 + 6))] [] (SH, s.2.1, t248.2) r M' from w)
      · rw [if_neg hc249] at h
        refine zr_steps 1 (1083, [some (.ref 1000), some (.ref 0), some (.ref 73), some (.int s.1)], [.int 0], (SH, s.2.1, t248.2)) rfl ?_
        have he := Option.some.inj h
        subst he
        obtain ⟨e1, e2⟩ := (show r = (some (.int 0)) ∧ M' = (SH, s.2.1, t248.2) from w)
        exact zr_one (if ((0 : Int32) = 0 ∨ (0 : Int32) = 1) then some (.inr (.inr (some (.int 0)))) else none) rfl (zR_pos (by decide) (zR_ret e1.symm e2.symm))
    rw [if_neg hc294] at h
    refine zR_if (fun hc293 => zR_go ?_) (fun hc293 => ?_)
    · rw [if_pos hc293] at h
      refine zr_steps 5 (1089, [some (.ref 1000), some (.ref 0), some (.ref 73), some (.int s.1)], [.int (s.1 + 1), .ref 1000, .ref 0], (SH, s.2.1, s.2.2)) rfl ?_
      obtain ⟨hc250, h⟩ := zbifo h
      refine zr_one (bif zin (s.1 + 1) X.1 then zN 1090 [some (.ref 1000), some (.ref 0), some (.ref 73), some (.int s.1)] [.int (X.2 (s.1 + 1).toNatClampNeg), .ref 0] (SH, s.2.1, s.2.2) else none) rfl (zR_bif hc250 (zR_go ?_))
      refine zr_steps 4 (1094, [some (.ref 1000), some (.ref 0), some (.ref 73), some (.int s.1)], [.int (s.1 + 2), .ref 1000, .int (X.2 (s.1 + 1).toNatClampNeg), .ref 0], (SH, s.2.1, s.2.2)) rfl ?_
      obtain ⟨hc251, h⟩ := zbifo h
      refine zr_one (bif zin (s.1 + 2) X.1 then zN 1095 [some (.ref 1000), some (.ref 0), some (.ref 73), some (.int s.1)] [.int (X.2 (s.1 + 2).toNatClampNeg), .int (X.2 (s.1 + 1).toNatClampNeg), .ref 0] (SH, s.2.1, s.2.2) else none) rfl (zR_bif hc251 (zR_go ?_))
      obtain ⟨t253, hc252, h⟩ := zbind h
      refine zr_one (some (.inr (.inl (121, [.ref 0, .int (X.2 (s.1 + 1).toNatClampNeg), .int (X.2 (s.1 + 2).toNatClampNeg)], [], 1098)))) rfl (zR_call (by omega) rfl (ok_f121_element (by omega) (X.2 (s.1 + 1).toNatClampNeg) (X.2 (s.1 + 2).toNatClampNeg) _ hc252) ?_)
      refine zr_steps 5 (1103, [some (.ref 1000), some (.ref 0), some (.ref 73), some (.int s.1)], [.int (s.1 + 1), .ref 1000, .ref 73, .long t253], (SH, s.2.1, s.2.2)) rfl ?_
      obtain ⟨hc254, h⟩ := zbifo h
      refine zr_one (bif zin (s.1 + 1) X.1 then zN 1104 [some (.ref 1000), some (.ref 0), some (.ref 73), some (.int s.1)] [.int (X.2 (s.1 + 1).toNatClampNeg), .ref 73, .long t253] (SH, s.2.1, s.2.2) else none) rfl (zR_bif hc254 (zR_go ?_))
      refine zr_steps 4 (1108, [some (.ref 1000), some (.ref 0), some (.ref 73), some (.int s.1)], [.int (s.1 + 2), .ref 1000, .int (X.2 (s.1 + 1).toNatClampNeg), .ref 73, .long t253], (SH, s.2.1, s.2.2)) rfl ?_
      obtain ⟨hc255, h⟩ := zbifo h
      refine zr_one (bif zin (s.1 + 2) X.1 then zN 1109 [some (.ref 1000), some (.ref 0), some (.ref 73), some (.int s.1)] [.int (X.2 (s.1 + 2).toNatClampNeg), .int (X.2 (s.1 + 1).toNatClampNeg), .ref 73, .long t253] (SH, s.2.1, s.2.2) else none) rfl (zR_bif hc255 (zR_go ?_))
      obtain ⟨t257, hc256, h⟩ := zbind h
      refine zr_one (some (.inr (.inl (215, [.ref 73, .int (X.2 (s.1 + 1).toNatClampNeg), .int (X.2 (s.1 + 2).toNatClampNeg)], [.long t253], 1112)))) rfl (zR_call (by omega) rfl (ok_f215_element (by omega) (X.2 (s.1 + 1).toNatClampNeg) (X.2 (s.1 + 2).toNatClampNeg) _ hc256) ?_)
      refine zr_steps 1 (1113, [some (.ref 1000), some (.ref 0), some (.ref 73), some (.int s.1)], [.int (lg_cmp t253 t257)], (SH, s.2.1, s.2.2)) rfl ?_
      refine zr_one (if (lg_cmp t253 t257) = 0 then zN 1237 [some (.ref 1000), some (.ref 0), some (.ref 73), some (.int s.1)] [] (SH, s.2.1, s.2.2) else zN 1116 [some (.ref 1000), some (.ref 0), some (.ref 73), some (.int s.1)] [] (SH, s.2.1, s.2.2)) rfl (zR_if (fun hc258 => zR_go ?_) (fun hc258 => zR_go ?_))
      · rw [if_pos hc258] at h
        refine zr_steps 2 (18, [some (.ref 1000), some (.ref 0), some (.ref 73), some (.int (s.1 + 6))], [], (SH, s.2.1, s.2.2)) rfl ?_
        have he := Option.some.inj h
        subst he
        exact zr_hdr (ls2 := [some (.ref 1000), some (.ref 0), some (.ref 73), some (.int (s.1 + 6))]) rfl rfl (show zRun X d 0 18 [some (.ref 1000), some (.ref 0), some (.ref 73), some (.int (s.1 + 6))] [] (SH, s.2.1, s.2.2) r M' from w)
      · rw [if_neg hc258] at h
        refine zr_steps 1 (1117, [some (.ref 1000), some (.ref 0), some (.ref 73), some (.int s.1)], [.int 0], (SH, s.2.1, s.2.2)) rfl ?_
        have he := Option.some.inj h
        subst he
        obtain ⟨e1, e2⟩ := (show r = (some (.int 0)) ∧ M' = (SH, s.2.1, s.2.2) from w)
        exact zr_one (if ((0 : Int32) = 0 ∨ (0 : Int32) = 1) then some (.inr (.inr (some (.int 0)))) else none) rfl (zR_pos (by decide) (zR_ret e1.symm e2.symm))
    rw [if_neg hc293] at h
    refine zR_if (fun hc292 => zR_go ?_) (fun hc292 => ?_)
    · rw [if_pos hc292] at h
      refine zr_steps 5 (1123, [some (.ref 1000), some (.ref 0), some (.ref 73), some (.int s.1)], [.int (s.1 + 1), .ref 1000, .ref 0], (SH, s.2.1, s.2.2)) rfl ?_
      obtain ⟨hc259, h⟩ := zbifo h
      refine zr_one (bif zin (s.1 + 1) X.1 then zN 1124 [some (.ref 1000), some (.ref 0), some (.ref 73), some (.int s.1)] [.int (X.2 (s.1 + 1).toNatClampNeg), .ref 0] (SH, s.2.1, s.2.2) else none) rfl (zR_bif hc259 (zR_go ?_))
      refine zr_steps 4 (1128, [some (.ref 1000), some (.ref 0), some (.ref 73), some (.int s.1)], [.int (s.1 + 2), .ref 1000, .int (X.2 (s.1 + 1).toNatClampNeg), .ref 0], (SH, s.2.1, s.2.2)) rfl ?_
      obtain ⟨hc260, h⟩ := zbifo h
      refine zr_one (bif zin (s.1 + 2) X.1 then zN 1129 [some (.ref 1000), some (.ref 0), some (.ref 73), some (.int s.1)] [.int (X.2 (s.1 + 2).toNatClampNeg), .int (X.2 (s.1 + 1).toNatClampNeg), .ref 0] (SH, s.2.1, s.2.2) else none) rfl (zR_bif hc260 (zR_go ?_))
      refine zr_steps 4 (1133, [some (.ref 1000), some (.ref 0), some (.ref 73), some (.int s.1)], [.int (s.1 + 3), .ref 1000, .int (X.2 (s.1 + 2).toNatClampNeg), .int (X.2 (s.1 + 1).toNatClampNeg), .ref 0], (SH, s.2.1, s.2.2)) rfl ?_
      obtain ⟨hc261, h⟩ := zbifo h
      refine zr_one (bif zin (s.1 + 3) X.1 then zN 1134 [some (.ref 1000), some (.ref 0), some (.ref 73), some (.int s.1)] [.int (X.2 (s.1 + 3).toNatClampNeg), .int (X.2 (s.1 + 2).toNatClampNeg), .int (X.2 (s.1 + 1).toNatClampNeg), .ref 0] (SH, s.2.1, s.2.2) else none) rfl (zR_bif hc261 (zR_go ?_))
      refine zr_steps 4 (1138, [some (.ref 1000), some (.ref 0), some (.ref 73), some (.int s.1)], [.int (s.1 + 4), .ref 1000, .int (X.2 (s.1 + 3).toNatClampNeg), .int (X.2 (s.1 + 2).toNatClampNeg), .int (X.2 (s.1 + 1).toNatClampNeg), .ref 0], (SH, s.2.1, s.2.2)) rfl ?_
      obtain ⟨hc262, h⟩ := zbifo h
      refine zr_one (bif zin (s.1 + 4) X.1 then zN 1139 [some (.ref 1000), some (.ref 0), some (.ref 73), some (.int s.1)] [.int (X.2 (s.1 + 4).toNatClampNeg), .int (X.2 (s.1 + 3).toNatClampNeg), .int (X.2 (s.1 + 2).toNatClampNeg), .int (X.2 (s.1 + 1).toNatClampNeg), .ref 0] (SH, s.2.1, s.2.2) else none) rfl (zR_bif hc262 (zR_go ?_))
      refine zr_steps 4 (1143, [some (.ref 1000), some (.ref 0), some (.ref 73), some (.int s.1)], [.int (s.1 + 5), .ref 1000, .int (X.2 (s.1 + 4).toNatClampNeg), .int (X.2 (s.1 + 3).toNatClampNeg), .int (X.2 (s.1 + 2).toNatClampNeg), .int (X.2 (s.1 + 1).toNatClampNeg), .ref 0], (SH, s.2.1, s.2.2)) rfl ?_
      obtain ⟨hc263, h⟩ := zbifo h
      refine zr_one (bif zin (s.1 + 5) X.1 then zN 1144 [some (.ref 1000), some (.ref 0), some (.ref 73), some (.int s.1)] [.int (X.2 (s.1 + 5).toNatClampNeg), .int (X.2 (s.1 + 4).toNatClampNeg), .int (X.2 (s.1 + 3).toNatClampNeg), .int (X.2 (s.1 + 2).toNatClampNeg), .int (X.2 (s.1 + 1).toNatClampNeg), .ref 0] (SH, s.2.1, s.2.2) else none) rfl (zR_bif hc263 (zR_go ?_))
      obtain ⟨t265, hc264, h⟩ := zbind h
      refine zr_one (some (.inr (.inl (123, [.ref 0, .int (X.2 (s.1 + 1).toNatClampNeg), .int (X.2 (s.1 + 2).toNatClampNeg), .int (X.2 (s.1 + 3).toNatClampNeg), .int (X.2 (s.1 + 4).toNatClampNeg), .int (X.2 (s.1 + 5).toNatClampNeg)], [], 1147)))) rfl (zR_call (by omega) rfl (ok_f123_shift (by omega) (X.2 (s.1 + 1).toNatClampNeg) (X.2 (s.1 + 2).toNatClampNeg) (X.2 (s.1 + 3).toNatClampNeg) (X.2 (s.1 + 4).toNatClampNeg) (X.2 (s.1 + 5).toNatClampNeg) _ hc264) ?_)
      refine zr_steps 5 (1152, [some (.ref 1000), some (.ref 0), some (.ref 73), some (.int s.1)], [.int (s.1 + 1), .ref 1000, .ref 73, .int t265.1], (SH, s.2.1, t265.2)) rfl ?_
      obtain ⟨hc266, h⟩ := zbifo h
      refine zr_one (bif zin (s.1 + 1) X.1 then zN 1153 [some (.ref 1000), some (.ref 0), some (.ref 73), some (.int s.1)] [.int (X.2 (s.1 + 1).toNatClampNeg), .ref 73, .int t265.1] (SH, s.2.1, t265.2) else none) rfl (zR_bif hc266 (zR_go ?_))
      refine zr_steps 4 (1157, [some (.ref 1000), some (.ref 0), some (.ref 73), some (.int s.1)], [.int (s.1 + 2), .ref 1000, .int (X.2 (s.1 + 1).toNatClampNeg), .ref 73, .int t265.1], (SH, s.2.1, t265.2)) rfl ?_
      obtain ⟨hc267, h⟩ := zbifo h
      refine zr_one (bif zin (s.1 + 2) X.1 then zN 1158 [some (.ref 1000), some (.ref 0), some (.ref 73), some (.int s.1)] [.int (X.2 (s.1 + 2).toNatClampNeg), .int (X.2 (s.1 + 1).toNatClampNeg), .ref 73, .int t265.1] (SH, s.2.1, t265.2) else none) rfl (zR_bif hc267 (zR_go ?_))
      refine zr_steps 4 (1162, [some (.ref 1000), some (.ref 0), some (.ref 73), some (.int s.1)], [.int (s.1 + 3), .ref 1000, .int (X.2 (s.1 + 2).toNatClampNeg), .int (X.2 (s.1 + 1).toNatClampNeg), .ref 73, .int t265.1], (SH, s.2.1, t265.2)) rfl ?_
      obtain ⟨hc268, h⟩ := zbifo h
      refine zr_one (bif zin (s.1 + 3) X.1 then zN 1163 [some (.ref 1000), some (.ref 0), some (.ref 73), some (.int s.1)] [.int (X.2 (s.1 + 3).toNatClampNeg), .int (X.2 (s.1 + 2).toNatClampNeg), .int (X.2 (s.1 + 1).toNatClampNeg), .ref 73, .int t265.1] (SH, s.2.1, t265.2) else none) rfl (zR_bif hc268 (zR_go ?_))
      refine zr_steps 4 (1167, [some (.ref 1000), some (.ref 0), some (.ref 73), some (.int s.1)], [.int (s.1 + 4), .ref 1000, .int (X.2 (s.1 + 3).toNatClampNeg), .int (X.2 (s.1 + 2).toNatClampNeg), .int (X.2 (s.1 + 1).toNatClampNeg), .ref 73, .int t265.1], (SH, s.2.1, t265.2)) rfl ?_
      obtain ⟨hc269, h⟩ := zbifo h
      refine zr_one (bif zin (s.1 + 4) X.1 then zN 1168 [some (.ref 1000), some (.ref 0), some (.ref 73), some (.int s.1)] [.int (X.2 (s.1 + 4).toNatClampNeg), .int (X.2 (s.1 + 3).toNatClampNeg), .int (X.2 (s.1 + 2).toNatClampNeg), .int (X.2 (s.1 + 1).toNatClampNeg), .ref 73, .int t265.1] (SH, s.2.1, t265.2) else none) rfl (zR_bif hc269 (zR_go ?_))
      refine zr_steps 4 (1172, [some (.ref 1000), some (.ref 0), some (.ref 73), some (.int s.1)], [.int (s.1 + 5), .ref 1000, .int (X.2 (s.1 + 4).toNatClampNeg), .int (X.2 (s.1 + 3).toNatClampNeg), .int (X.2 (s.1 + 2).toNatClampNeg), .int (X.2 (s.1 + 1).toNatClampNeg), .ref 73, .int t265.1], (SH, s.2.1, t265.2)) rfl ?_
      obtain ⟨hc270, h⟩ := zbifo h
      refine zr_one (bif zin (s.1 + 5) X.1 then zN 1173 [some (.ref 1000), some (.ref 0), some (.ref 73), some (.int s.1)] [.int (X.2 (s.1 + 5).toNatClampNeg), .int (X.2 (s.1 + 4).toNatClampNeg), .int (X.2 (s.1 + 3).toNatClampNeg), .int (X.2 (s.1 + 2).toNatClampNeg), .int (X.2 (s.1 + 1).toNatClampNeg), .ref 73, .int t265.1] (SH, s.2.1, t265.2) else none) rfl (zR_bif hc270 (zR_go ?_))
      obtain ⟨t272, hc271, h⟩ := zbind h
      refine zr_one (some (.inr (.inl (216, [.ref 73, .int (X.2 (s.1 + 1).toNatClampNeg), .int (X.2 (s.1 + 2).toNatClampNeg), .int (X.2 (s.1 + 3).toNatClampNeg), .int (X.2 (s.1 + 4).toNatClampNeg), .int (X.2 (s.1 + 5).toNatClampNeg)], [.int t265.1], 1176)))) rfl (zR_call (by omega) rfl (ok_f216_shift (by omega) (X.2 (s.1 + 1).toNatClampNeg) (X.2 (s.1 + 2).toNatClampNeg) (X.2 (s.1 + 3).toNatClampNeg) (X.2 (s.1 + 4).toNatClampNeg) (X.2 (s.1 + 5).toNatClampNeg) _ hc271) ?_)
      refine zr_one (if t265.1 = t272.1 then zN 1237 [some (.ref 1000), some (.ref 0), some (.ref 73), some (.int s.1)] [] (SH, s.2.1, t272.2) else zN 1179 [some (.ref 1000), some (.ref 0), some (.ref 73), some (.int s.1)] [] (SH, s.2.1, t272.2)) rfl (zR_if (fun hc273 => zR_go ?_) (fun hc273 => zR_go ?_))
      · rw [if_pos hc273] at h
        refine zr_steps 2 (18, [some (.ref 1000), some (.ref 0), some (.ref 73), some (.int (s.1 + 6))], [], (SH, s.2.1, t272.2)) rfl ?_
        have he := Option.some.inj h
        subst he
        exact zr_hdr (ls2 := [some (.ref 1000), some (.ref 0), some (.ref 73), some (.int (s.1 + 6))]) rfl rfl (show zRun X d 0 18 [some (.ref 1000), some (.ref 0), some (.ref 73), some (.int (s.1 + 6))] [] (SH, s.2.1, t272.2) r M' from w)
      · rw [if_neg hc273] at h
        refine zr_steps 1 (1180, [some (.ref 1000), some (.ref 0), some (.ref 73), some (.int s.1)], [.int 0], (SH, s.2.1, t272.2)) rfl ?_
        have he := Option.some.inj h
        subst he
        obtain ⟨e1, e2⟩ := (show r = (some (.int 0)) ∧ M' = (SH, s.2.1, t272.2) from w)
        exact zr_one (if ((0 : Int32) = 0 ∨ (0 : Int32) = 1) then some (.inr (.inr (some (.int 0)))) else none) rfl (zR_pos (by decide) (zR_ret e1.symm e2.symm))
    rw [if_neg hc292] at h
    refine zR_if (fun hc291 => zR_go ?_) (fun hc291 => ?_)
    · rw [if_pos hc291] at h
      refine zr_steps 5 (1186, [some (.ref 1000), some (.ref 0), some (.ref 73), some (.int s.1)], [.int (s.1 + 1), .ref 1000, .ref 0], (SH, s.2.1, s.2.2)) rfl ?_
      obtain ⟨hc274, h⟩ := zbifo h
      refine zr_one (bif zin (s.1 + 1) X.1 then zN 1187 [some (.ref 1000), some (.ref 0), some (.ref 73), some (.int s.1)] [.int (X.2 (s.1 + 1).toNatClampNeg), .ref 0] (SH, s.2.1, s.2.2) else none) rfl (zR_bif hc274 (zR_go ?_))
      refine zr_steps 4 (1191, [some (.ref 1000), some (.ref 0), some (.ref 73), some (.int s.1)], [.int (s.1 + 2), .ref 1000, .int (X.2 (s.1 + 1).toNatClampNeg), .ref 0], (SH, s.2.1, s.2.2)) rfl ?_
      obtain ⟨hc275, h⟩ := zbifo h
      refine zr_one (bif zin (s.1 + 2) X.1 then zN 1192 [some (.ref 1000), some (.ref 0), some (.ref 73), some (.int s.1)] [.int (X.2 (s.1 + 2).toNatClampNeg), .int (X.2 (s.1 + 1).toNatClampNeg), .ref 0] (SH, s.2.1, s.2.2) else none) rfl (zR_bif hc275 (zR_go ?_))
      obtain ⟨t277, hc276, h⟩ := zbind h
      refine zr_one (some (.inr (.inl (124, [.ref 0, .int (X.2 (s.1 + 1).toNatClampNeg), .int (X.2 (s.1 + 2).toNatClampNeg)], [], 1195)))) rfl (zR_call (by omega) rfl (ok_f124_taken (by omega) (X.2 (s.1 + 1).toNatClampNeg) (X.2 (s.1 + 2).toNatClampNeg) _ hc276) ?_)
      refine zr_steps 5 (1200, [some (.ref 1000), some (.ref 0), some (.ref 73), some (.int s.1)], [.int (s.1 + 1), .ref 1000, .ref 73, .int t277], (SH, s.2.1, s.2.2)) rfl ?_
      obtain ⟨hc278, h⟩ := zbifo h
      refine zr_one (bif zin (s.1 + 1) X.1 then zN 1201 [some (.ref 1000), some (.ref 0), some (.ref 73), some (.int s.1)] [.int (X.2 (s.1 + 1).toNatClampNeg), .ref 73, .int t277] (SH, s.2.1, s.2.2) else none) rfl (zR_bif hc278 (zR_go ?_))
      refine zr_steps 4 (1205, [some (.ref 1000), some (.ref 0), some (.ref 73), some (.int s.1)], [.int (s.1 + 2), .ref 1000, .int (X.2 (s.1 + 1).toNatClampNeg), .ref 73, .int t277], (SH, s.2.1, s.2.2)) rfl ?_
      obtain ⟨hc279, h⟩ := zbifo h
      refine zr_one (bif zin (s.1 + 2) X.1 then zN 1206 [some (.ref 1000), some (.ref 0), some (.ref 73), some (.int s.1)] [.int (X.2 (s.1 + 2).toNatClampNeg), .int (X.2 (s.1 + 1).toNatClampNeg), .ref 73, .int t277] (SH, s.2.1, s.2.2) else none) rfl (zR_bif hc279 (zR_go ?_))
      obtain ⟨t281, hc280, h⟩ := zbind h
      refine zr_one (some (.inr (.inl (217, [.ref 73, .int (X.2 (s.1 + 1).toNatClampNeg), .int (X.2 (s.1 + 2).toNatClampNeg)], [.int t277], 1209)))) rfl (zR_call (by omega) rfl (ok_f217_taken (by omega) (X.2 (s.1 + 1).toNatClampNeg) (X.2 (s.1 + 2).toNatClampNeg) _ hc280) ?_)
      refine zr_one (if t277 = t281 then zN 1237 [some (.ref 1000), some (.ref 0), some (.ref 73), some (.int s.1)] [] (SH, s.2.1, s.2.2) else zN 1212 [some (.ref 1000), some (.ref 0), some (.ref 73), some (.int s.1)] [] (SH, s.2.1, s.2.2)) rfl (zR_if (fun hc282 => zR_go ?_) (fun hc282 => zR_go ?_))
      · rw [if_pos hc282] at h
        refine zr_steps 2 (18, [some (.ref 1000), some (.ref 0), some (.ref 73), some (.int (s.1 + 6))], [], (SH, s.2.1, s.2.2)) rfl ?_
        have he := Option.some.inj h
        subst he
        exact zr_hdr (ls2 := [some (.ref 1000), some (.ref 0), some (.ref 73), some (.int (s.1 + 6))]) rfl rfl (show zRun X d 0 18 [some (.ref 1000), some (.ref 0), some (.ref 73), some (.int (s.1 + 6))] [] (SH, s.2.1, s.2.2) r M' from w)
      · rw [if_neg hc282] at h
        refine zr_steps 1 (1213, [some (.ref 1000), some (.ref 0), some (.ref 73), some (.int s.1)], [.int 0], (SH, s.2.1, s.2.2)) rfl ?_
        have he := Option.some.inj h
        subst he
        obtain ⟨e1, e2⟩ := (show r = (some (.int 0)) ∧ M' = (SH, s.2.1, s.2.2) from w)
        exact zr_one (if ((0 : Int32) = 0 ∨ (0 : Int32) = 1) then some (.inr (.inr (some (.int 0)))) else none) rfl (zR_pos (by decide) (zR_ret e1.symm e2.symm))
    rw [if_neg hc291] at h
    refine zR_if (fun hc290 => zR_go ?_) (fun hc290 => ?_)
    · rw [if_pos hc290] at h
      refine zr_steps 5 (1219, [some (.ref 1000), some (.ref 0), some (.ref 73), some (.int s.1)], [.int (s.1 + 1), .ref 1000, .ref 0], (SH, s.2.1, s.2.2)) rfl ?_
      obtain ⟨hc283, h⟩ := zbifo h
      refine zr_one (bif zin (s.1 + 1) X.1 then zN 1220 [some (.ref 1000), some (.ref 0), some (.ref 73), some (.int s.1)] [.int (X.2 (s.1 + 1).toNatClampNeg), .ref 0] (SH, s.2.1, s.2.2) else none) rfl (zR_bif hc283 (zR_go ?_))
      obtain ⟨t285, hc284, h⟩ := zbind h
      refine zr_one (some (.inr (.inl (125, [.ref 0, .int (X.2 (s.1 + 1).toNatClampNeg)], [], 1223)))) rfl (zR_call (by omega) rfl (ok_f125_count (by omega) (X.2 (s.1 + 1).toNatClampNeg) _ hc284) ?_)
      refine zr_steps 5 (1228, [some (.ref 1000), some (.ref 0), some (.ref 73), some (.int s.1)], [.int (s.1 + 1), .ref 1000, .ref 73, .int t285], (SH, s.2.1, s.2.2)) rfl ?_
      obtain ⟨hc286, h⟩ := zbifo h
      refine zr_one (bif zin (s.1 + 1) X.1 then zN 1229 [some (.ref 1000), some (.ref 0), some (.ref 73), some (.int s.1)] [.int (X.2 (s.1 + 1).toNatClampNeg), .ref 73, .int t285] (SH, s.2.1, s.2.2) else none) rfl (zR_bif hc286 (zR_go ?_))
      obtain ⟨t288, hc287, h⟩ := zbind h
      refine zr_one (some (.inr (.inl (209, [.ref 73, .int (X.2 (s.1 + 1).toNatClampNeg)], [.int t285], 1232)))) rfl (zR_call (by omega) rfl (ok_f209_count (by omega) (X.2 (s.1 + 1).toNatClampNeg) _ hc287) ?_)
      refine zr_one (if t285 = t288 then zN 1237 [some (.ref 1000), some (.ref 0), some (.ref 73), some (.int s.1)] [] (SH, s.2.1, s.2.2) else zN 1235 [some (.ref 1000), some (.ref 0), some (.ref 73), some (.int s.1)] [] (SH, s.2.1, s.2.2)) rfl (zR_if (fun hc289 => zR_go ?_) (fun hc289 => zR_go ?_))
      · rw [if_pos hc289] at h
        refine zr_steps 2 (18, [some (.ref 1000), some (.ref 0), some (.ref 73), some (.int (s.1 + 6))], [], (SH, s.2.1, s.2.2)) rfl ?_
        have he := Option.some.inj h
        subst he
        exact zr_hdr (ls2 := [some (.ref 1000), some (.ref 0), some (.ref 73), some (.int (s.1 + 6))]) rfl rfl (show zRun X d 0 18 [some (.ref 1000), some (.ref 0), some (.ref 73), some (.int (s.1 + 6))] [] (SH, s.2.1, s.2.2) r M' from w)
      · rw [if_neg hc289] at h
        refine zr_steps 1 (1236, [some (.ref 1000), some (.ref 0), some (.ref 73), some (.int s.1)], [.int 0], (SH, s.2.1, s.2.2)) rfl ?_
        have he := Option.some.inj h
        subst he
        obtain ⟨e1, e2⟩ := (show r = (some (.int 0)) ∧ M' = (SH, s.2.1, s.2.2) from w)
        exact zr_one (if ((0 : Int32) = 0 ∨ (0 : Int32) = 1) then some (.inr (.inr (some (.int 0)))) else none) rfl (zR_pos (by decide) (zR_ret e1.symm e2.symm))
    rw [if_neg hc290] at h
    refine zR_go ?_
    refine zr_steps 2 (18, [some (.ref 1000), some (.ref 0), some (.ref 73), some (.int (s.1 + 6))], [], (SH, s.2.1, s.2.2)) rfl ?_
    have he := Option.some.inj h
    subst he
    exact zr_hdr (ls2 := [some (.ref 1000), some (.ref 0), some (.ref 73), some (.int (s.1 + 6))]) rfl rfl (show zRun X d 0 18 [some (.ref 1000), some (.ref 0), some (.ref 73), some (.int (s.1 + 6))] [] (SH, s.2.1, s.2.2) r M' from w))
set_option maxRecDepth 100000 in
set_option maxHeartbeats 40000000 in
theorem ok_f0_law {X : zX} {d : Nat} (hd : 807 ≤ d) {I : (Nat → Nat → Int32)} {J : (Nat → Nat → Int64)} (t : (Int32 × (Nat → Nat → Int32) × (Nat → Nat → Int64))) (h : f0_law X I J = some t) : zRun X d 0 18 [some (.ref 1000), some (.ref 0), some (.ref 73), some (.int 0)] [] (SH, I, J) (some (.int t.1)) (SH, t.2.1, t.2.2) := by
  unfold f0_law at h
  obtain ⟨y327, ho326, hy⟩ := zbRe h
  refine zr_hdr (ls2 := [some (.ref 1000), some (.ref 0), some (.ref 73), some (.int 0)]) rfl rfl ?_
  refine ok_f0_law_L18 (by omega) 5000 ((0 : Int32), I, J) y327 ho326 ?_
  rcases hy with ⟨rr, rfl, h⟩ | ⟨s325, rfl, h⟩
  · have he := Option.some.inj h
    subst he
    exact ⟨rfl, rfl⟩
  · show zRun X d 0 1243 [none, none, none, none] [] (SH, s325.2.1, s325.2.2) _ _
    refine zr_steps 1 (1244, [none, none, none, none], [.int 1], (SH, s325.2.1, s325.2.2)) rfl ?_
    have he := Option.some.inj h
    subst he
    exact zr_one (if ((1 : Int32) = 0 ∨ (1 : Int32) = 1) then some (.inr (.inr (some (.int 1)))) else none) rfl (zR_pos (by decide) (zR_ret rfl rfl))
