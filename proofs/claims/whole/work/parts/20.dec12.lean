set_option maxRecDepth 100000 in
set_option maxHeartbeats 4000000 in
theorem ok_f44_arrive_38_L15 {X : zX} {d : Nat} {r : Option Value} {M' : zM} (hd : 0 ≤ d) (v1 : Int32) (v2 : Int32) {J : (Nat → Nat → Int64)} : ∀ (n : Nat) (s x : (Int32 × (Nat → Nat → Int32))), zloop (f44_arrive_38_L15 v1 v2) n s = some x → (fun (x : (Int32 × (Nat → Nat → Int32))) => zRun X d 44 129 [some (.ref 38), some (.int v1), some (.int v2), none, none, none] [] (SH, x.2, J) r M') x → (fun (s : (Int32 × (Nat → Nat → Int32))) => zRun X d 44 15 [some (.ref 38), some (.int v1), some (.int v2), some (.int s.1), none, none] [] (SH, s.2, J) r M') s := zloop_ok (B := (f44_arrive_38_L15 v1 v2)) (Wh := fun (s : (Int32 × (Nat → Nat → Int32))) => zRun X d 44 15 [some (.ref 38), some (.int v1), some (.int v2), some (.int s.1), none, none] [] (SH, s.2, J) r M') (Wx := fun (x : (Int32 × (Nat → Nat → Int32))) => zRun X d 44 129 [some (.ref 38), some (.int v1), some (.int v2), none, none, none] [] (SH, x.2, J) r M') (fun s y h w => by
  unfold f44_arrive_38_L15 at h
  refine zr_steps 4 (23, [some (.ref 38), some (.int v1), some (.int v2), some (.int s.1), none, none], [.int (s.2 1 2), .int s.1], (SH, s.2, J)) rfl ?_
  refine zr_one (if (s.2 1 2) ≤ s.1 then zN 129 [some (.ref 38), some (.int v1), some (.int v2), some (.int s.1), none, none] [] (SH, s.2, J) else zN 26 [some (.ref 38), some (.int v1), some (.int v2), some (.int s.1), none, none] [] (SH, s.2, J)) rfl (zR_if (fun hc13 => zR_go ?_) (fun hc13 => zR_go ?_))
  · rw [if_pos hc13] at h
    have he := Option.some.inj h
    subst he
    exact zr_hdr (ls2 := [some (.ref 38), some (.int v1), some (.int v2), none, none, none]) rfl rfl (show zRun X d 44 129 [some (.ref 38), some (.int v1), some (.int v2), none, none, none] [] (SH, s.2, J) r M' from w)
  · rw [if_neg hc13] at h
    refine zr_steps 10 (41, [some (.ref 38), some (.int v1), some (.int v2), some (.int s.1), some (.int ((v2 * 8) + s.1)), none], [.int ((v2 * 8) + s.1), .ref 43, .int ((v2 * 8) + s.1), .ref 43], (SH, s.2, J)) rfl ?_
    obtain ⟨hc1, h⟩ := zbifo h
    refine zr_one (bif zin ((v2 * 8) + s.1) 32 then zN 42 [some (.ref 38), some (.int v1), some (.int v2), some (.int s.1), some (.int ((v2 * 8) + s.1)), none] [.int (s.2 43 ((v2 * 8) + s.1).toNatClampNeg), .int ((v2 * 8) + s.1), .ref 43] (SH, s.2, J) else none) rfl (zR_bif hc1 (zR_go ?_))
    refine zr_steps 7 (53, [some (.ref 38), some (.int v1), some (.int v2), some (.int s.1), some (.int ((v2 * 8) + s.1)), none], [.int ((v1 * 32) + ((v2 * 8) + s.1)), .ref 46, .int (s.2 43 ((v2 * 8) + s.1).toNatClampNeg), .int ((v2 * 8) + s.1), .ref 43], (SH, s.2, J)) rfl ?_
    obtain ⟨hc2, h⟩ := zbifo h
    refine zr_one (bif zin ((v1 * 32) + ((v2 * 8) + s.1)) 1952 then zN 54 [some (.ref 38), some (.int v1), some (.int v2), some (.int s.1), some (.int ((v2 * 8) + s.1)), none] [.int (s.2 46 ((v1 * 32) + ((v2 * 8) + s.1)).toNatClampNeg), .int (s.2 43 ((v2 * 8) + s.1).toNatClampNeg), .int ((v2 * 8) + s.1), .ref 43] (SH, s.2, J) else none) rfl (zR_bif hc2 (zR_go ?_))
    refine zr_steps 1 (55, [some (.ref 38), some (.int v1), some (.int v2), some (.int s.1), some (.int ((v2 * 8) + s.1)), none], [.int ((s.2 43 ((v2 * 8) + s.1).toNatClampNeg) + (s.2 46 ((v1 * 32) + ((v2 * 8) + s.1)).toNatClampNeg)), .int ((v2 * 8) + s.1), .ref 43], (SH, s.2, J)) rfl ?_
    obtain ⟨hc3, h⟩ := zbifo h
    refine zr_one (bif zin ((v2 * 8) + s.1) 32 then zN 56 [some (.ref 38), some (.int v1), some (.int v2), some (.int s.1), some (.int ((v2 * 8) + s.1)), none] [] (SH, (zu s.2 43 ((v2 * 8) + s.1).toNatClampNeg ((s.2 43 ((v2 * 8) + s.1).toNatClampNeg) + (s.2 46 ((v1 * 32) + ((v2 * 8) + s.1)).toNatClampNeg))), J) else none) rfl (zR_bif hc3 (zR_go ?_))
    refine zr_steps 3 (62, [some (.ref 38), some (.int v1), some (.int v2), some (.int s.1), some (.int ((v2 * 8) + s.1)), none], [.int ((v2 * 8) + s.1), .ref 43], (SH, (zu s.2 43 ((v2 * 8) + s.1).toNatClampNeg ((s.2 43 ((v2 * 8) + s.1).toNatClampNeg) + (s.2 46 ((v1 * 32) + ((v2 * 8) + s.1)).toNatClampNeg))), J)) rfl ?_
    obtain ⟨hc4, h⟩ := zbifo h
    refine zr_one (bif zin ((v2 * 8) + s.1) 32 then zN 63 [some (.ref 38), some (.int v1), some (.int v2), some (.int s.1), some (.int ((v2 * 8) + s.1)), none] [.int ((zu s.2 43 ((v2 * 8) + s.1).toNatClampNeg ((s.2 43 ((v2 * 8) + s.1).toNatClampNeg) + (s.2 46 ((v1 * 32) + ((v2 * 8) + s.1)).toNatClampNeg))) 43 ((v2 * 8) + s.1).toNatClampNeg)] (SH, (zu s.2 43 ((v2 * 8) + s.1).toNatClampNeg ((s.2 43 ((v2 * 8) + s.1).toNatClampNeg) + (s.2 46 ((v1 * 32) + ((v2 * 8) + s.1)).toNatClampNeg))), J) else none) rfl (zR_bif hc4 (zR_go ?_))
    refine zr_steps 5 (72, [some (.ref 38), some (.int v1), some (.int v2), some (.int s.1), some (.int ((v2 * 8) + s.1)), none], [.int v2, .ref 2, .int 0, .int ((zu s.2 43 ((v2 * 8) + s.1).toNatClampNeg ((s.2 43 ((v2 * 8) + s.1).toNatClampNeg) + (s.2 46 ((v1 * 32) + ((v2 * 8) + s.1)).toNatClampNeg))) 43 ((v2 * 8) + s.1).toNatClampNeg)], (SH, (zu s.2 43 ((v2 * 8) + s.1).toNatClampNeg ((s.2 43 ((v2 * 8) + s.1).toNatClampNeg) + (s.2 46 ((v1 * 32) + ((v2 * 8) + s.1)).toNatClampNeg))), J)) rfl ?_
    obtain ⟨hc5, h⟩ := zbifo h
    refine zr_one (bif zin v2 4 then zN 73 [some (.ref 38), some (.int v1), some (.int v2), some (.int s.1), some (.int ((v2 * 8) + s.1)), none] [.int (s.2 2 v2.toNatClampNeg), .int 0, .int ((zu s.2 43 ((v2 * 8) + s.1).toNatClampNeg ((s.2 43 ((v2 * 8) + s.1).toNatClampNeg) + (s.2 46 ((v1 * 32) + ((v2 * 8) + s.1)).toNatClampNeg))) 43 ((v2 * 8) + s.1).toNatClampNeg)] (SH, (zu s.2 43 ((v2 * 8) + s.1).toNatClampNeg ((s.2 43 ((v2 * 8) + s.1).toNatClampNeg) + (s.2 46 ((v1 * 32) + ((v2 * 8) + s.1)).toNatClampNeg))), J) else none) rfl (zR_bif hc5 (zR_go ?_))
    refine zr_steps 3 (78, [some (.ref 38), some (.int v1), some (.int v2), some (.int s.1), some (.int ((v2 * 8) + s.1)), none], [.int v2, .ref 45, .int (s.2 2 v2.toNatClampNeg), .int 0, .int ((zu s.2 43 ((v2 * 8) + s.1).toNatClampNeg ((s.2 43 ((v2 * 8) + s.1).toNatClampNeg) + (s.2 46 ((v1 * 32) + ((v2 * 8) + s.1)).toNatClampNeg))) 43 ((v2 * 8) + s.1).toNatClampNeg)], (SH, (zu s.2 43 ((v2 * 8) + s.1).toNatClampNeg ((s.2 43 ((v2 * 8) + s.1).toNatClampNeg) + (s.2 46 ((v1 * 32) + ((v2 * 8) + s.1)).toNatClampNeg))), J)) rfl ?_
    obtain ⟨hc6, h⟩ := zbifo h
    refine zr_one (bif zin v2 4 then zN 79 [some (.ref 38), some (.int v1), some (.int v2), some (.int s.1), some (.int ((v2 * 8) + s.1)), none] [.int (s.2 45 v2.toNatClampNeg), .int (s.2 2 v2.toNatClampNeg), .int 0, .int ((zu s.2 43 ((v2 * 8) + s.1).toNatClampNeg ((s.2 43 ((v2 * 8) + s.1).toNatClampNeg) + (s.2 46 ((v1 * 32) + ((v2 * 8) + s.1)).toNatClampNeg))) 43 ((v2 * 8) + s.1).toNatClampNeg)] (SH, (zu s.2 43 ((v2 * 8) + s.1).toNatClampNeg ((s.2 43 ((v2 * 8) + s.1).toNatClampNeg) + (s.2 46 ((v1 * 32) + ((v2 * 8) + s.1)).toNatClampNeg))), J) else none) rfl (zR_bif hc6 (zR_go ?_))
    refine zr_steps 8 (95, [some (.ref 38), some (.int v1), some (.int v2), some (.int s.1), some (.int ((v2 * 8) + s.1)), some (.int (zmin ((zu s.2 43 ((v2 * 8) + s.1).toNatClampNeg ((s.2 43 ((v2 * 8) + s.1).toNatClampNeg) + (s.2 46 ((v1 * 32) + ((v2 * 8) + s.1)).toNatClampNeg))) 43 ((v2 * 8) + s.1).toNatClampNeg) (zmax 0 ((s.2 2 v2.toNatClampNeg) - (s.2 45 v2.toNatClampNeg)))))], [.int ((v2 * 8) + s.1), .ref 43, .int ((v2 * 8) + s.1), .ref 43], (SH, (zu s.2 43 ((v2 * 8) + s.1).toNatClampNeg ((s.2 43 ((v2 * 8) + s.1).toNatClampNeg) + (s.2 46 ((v1 * 32) + ((v2 * 8) + s.1)).toNatClampNeg))), J)) rfl ?_
    obtain ⟨hc7, h⟩ := zbifo h
    refine zr_one (bif zin ((v2 * 8) + s.1) 32 then zN 96 [some (.ref 38), some (.int v1), some (.int v2), some (.int s.1), some (.int ((v2 * 8) + s.1)), some (.int (zmin ((zu s.2 43 ((v2 * 8) + s.1).toNatClampNeg ((s.2 43 ((v2 * 8) + s.1).toNatClampNeg) + (s.2 46 ((v1 * 32) + ((v2 * 8) + s.1)).toNatClampNeg))) 43 ((v2 * 8) + s.1).toNatClampNeg) (zmax 0 ((s.2 2 v2.toNatClampNeg) - (s.2 45 v2.toNatClampNeg)))))] [.int ((zu s.2 43 ((v2 * 8) + s.1).toNatClampNeg ((s.2 43 ((v2 * 8) + s.1).toNatClampNeg) + (s.2 46 ((v1 * 32) + ((v2 * 8) + s.1)).toNatClampNeg))) 43 ((v2 * 8) + s.1).toNatClampNeg), .int ((v2 * 8) + s.1), .ref 43] (SH, (zu s.2 43 ((v2 * 8) + s.1).toNatClampNeg ((s.2 43 ((v2 * 8) + s.1).toNatClampNeg) + (s.2 46 ((v1 * 32) + ((v2 * 8) + s.1)).toNatClampNeg))), J) else none) rfl (zR_bif hc7 (zR_go ?_))
    refine zr_steps 2 (99, [some (.ref 38), some (.int v1), some (.int v2), some (.int s.1), some (.int ((v2 * 8) + s.1)), some (.int (zmin ((zu s.2 43 ((v2 * 8) + s.1).toNatClampNeg ((s.2 43 ((v2 * 8) + s.1).toNatClampNeg) + (s.2 46 ((v1 * 32) + ((v2 * 8) + s.1)).toNatClampNeg))) 43 ((v2 * 8) + s.1).toNatClampNeg) (zmax 0 ((s.2 2 v2.toNatClampNeg) - (s.2 45 v2.toNatClampNeg)))))], [.int (((zu s.2 43 ((v2 * 8) + s.1).toNatClampNeg ((s.2 43 ((v2 * 8) + s.1).toNatClampNeg) + (s.2 46 ((v1 * 32) + ((v2 * 8) + s.1)).toNatClampNeg))) 43 ((v2 * 8) + s.1).toNatClampNeg) - (zmin ((zu s.2 43 ((v2 * 8) + s.1).toNatClampNeg ((s.2 43 ((v2 * 8) + s.1).toNatClampNeg) + (s.2 46 ((v1 * 32) + ((v2 * 8) + s.1)).toNatClampNeg))) 43 ((v2 * 8) + s.1).toNatClampNeg) (zmax 0 ((s.2 2 v2.toNatClampNeg) - (s.2 45 v2.toNatClampNeg))))), .int ((v2 * 8) + s.1), .ref 43], (SH, (zu s.2 43 ((v2 * 8) + s.1).toNatClampNeg ((s.2 43 ((v2 * 8) + s.1).toNatClampNeg) + (s.2 46 ((v1 * 32) + ((v2 * 8) + s.1)).toNatClampNeg))), J)) rfl ?_
    obtain ⟨hc8, h⟩ := zbifo h
    refine zr_one (bif zin ((v2 * 8) + s.1) 32 then zN 100 [some (.ref 38), some (.int v1), some (.int v2), some (.int s.1), some (.int ((v2 * 8) + s.1)), some (.int (zmin ((zu s.2 43 ((v2 * 8) + s.1).toNatClampNeg ((s.2 43 ((v2 * 8) + s.1).toNatClampNeg) + (s.2 46 ((v1 * 32) + ((v2 * 8) + s.1)).toNatClampNeg))) 43 ((v2 * 8) + s.1).toNatClampNeg) (zmax 0 ((s.2 2 v2.toNatClampNeg) - (s.2 45 v2.toNatClampNeg)))))] [] (SH, (zu (zu s.2 43 ((v2 * 8) + s.1).toNatClampNeg ((s.2 43 ((v2 * 8) + s.1).toNatClampNeg) + (s.2 46 ((v1 * 32) + ((v2 * 8) + s.1)).toNatClampNeg))) 43 ((v2 * 8) + s.1).toNatClampNeg (((zu s.2 43 ((v2 * 8) + s.1).toNatClampNeg ((s.2 43 ((v2 * 8) + s.1).toNatClampNeg) + (s.2 46 ((v1 * 32) + ((v2 * 8) + s.1)).toNatClampNeg))) 43 ((v2 * 8) + s.1).toNatClampNeg) - (zmin ((zu s.2 43 ((v2 * 8) + s.1).toNatClampNeg ((s.2 43 ((v2 * 8) + s.1).toNatClampNeg) + (s.2 46 ((v1 * 32) + ((v2 * 8) + s.1)).toNatClampNeg))) 43 ((v2 * 8) + s.1).toNatClampNeg) (zmax 0 ((s.2 2 v2.toNatClampNeg) - (s.2 45 v2.toNatClampNeg)))))), J) else none) rfl (zR_bif hc8 (zR_go ?_))
    refine zr_steps 4 (107, [some (.ref 38), some (.int v1), some (.int v2), some (.int s.1), some (.int ((v2 * 8) + s.1)), some (.int (zmin ((zu s.2 43 ((v2 * 8) + s.1).toNatClampNeg ((s.2 43 ((v2 * 8) + s.1).toNatClampNeg) + (s.2 46 ((v1 * 32) + ((v2 * 8) + s.1)).toNatClampNeg))) 43 ((v2 * 8) + s.1).toNatClampNeg) (zmax 0 ((s.2 2 v2.toNatClampNeg) - (s.2 45 v2.toNatClampNeg)))))], [.int ((v2 * 8) + s.1), .ref 42, .int ((v2 * 8) + s.1), .ref 42], (SH, (zu (zu s.2 43 ((v2 * 8) + s.1).toNatClampNeg ((s.2 43 ((v2 * 8) + s.1).toNatClampNeg) + (s.2 46 ((v1 * 32) + ((v2 * 8) + s.1)).toNatClampNeg))) 43 ((v2 * 8) + s.1).toNatClampNeg (((zu s.2 43 ((v2 * 8) + s.1).toNatClampNeg ((s.2 43 ((v2 * 8) + s.1).toNatClampNeg) + (s.2 46 ((v1 * 32) + ((v2 * 8) + s.1)).toNatClampNeg))) 43 ((v2 * 8) + s.1).toNatClampNeg) - (zmin ((zu s.2 43 ((v2 * 8) + s.1).toNatClampNeg ((s.2 43 ((v2 * 8) + s.1).toNatClampNeg) + (s.2 46 ((v1 * 32) + ((v2 * 8) + s.1)).toNatClampNeg))) 43 ((v2 * 8) + s.1).toNatClampNeg) (zmax 0 ((s.2 2 v2.toNatClampNeg) - (s.2 45 v2.toNatClampNeg)))))), J)) rfl ?_
    obtain ⟨hc9, h⟩ := zbifo h
    refine zr_one (bif zin ((v2 * 8) + s.1) 32 then zN 108 [some (.ref 38), some (.int v1), some (.int v2), some (.int s.1), some (.int ((v2 * 8) + s.1)), some (.int (zmin ((zu s.2 43 ((v2 * 8) + s.1).toNatClampNeg ((s.2 43 ((v2 * 8) + s.1).toNatClampNeg) + (s.2 46 ((v1 * 32) + ((v2 * 8) + s.1)).toNatClampNeg))) 43 ((v2 * 8) + s.1).toNatClampNeg) (zmax 0 ((s.2 2 v2.toNatClampNeg) - (s.2 45 v2.toNatClampNeg)))))] [.int (s.2 42 ((v2 * 8) + s.1).toNatClampNeg), .int ((v2 * 8) + s.1), .ref 42] (SH, (zu (zu s.2 43 ((v2 * 8) + s.1).toNatClampNeg ((s.2 43 ((v2 * 8) + s.1).toNatClampNeg) + (s.2 46 ((v1 * 32) + ((v2 * 8) + s.1)).toNatClampNeg))) 43 ((v2 * 8) + s.1).toNatClampNeg (((zu s.2 43 ((v2 * 8) + s.1).toNatClampNeg ((s.2 43 ((v2 * 8) + s.1).toNatClampNeg) + (s.2 46 ((v1 * 32) + ((v2 * 8) + s.1)).toNatClampNeg))) 43 ((v2 * 8) + s.1).toNatClampNeg) - (zmin ((zu s.2 43 ((v2 * 8) + s.1).toNatClampNeg ((s.2 43 ((v2 * 8) + s.1).toNatClampNeg) + (s.2 46 ((v1 * 32) + ((v2 * 8) + s.1)).toNatClampNeg))) 43 ((v2 * 8) + s.1).toNatClampNeg) (zmax 0 ((s.2 2 v2.toNatClampNeg) - (s.2 45 v2.toNatClampNeg)))))), J) else none) rfl (zR_bif hc9 (zR_go ?_))
    refine zr_steps 2 (111, [some (.ref 38), some (.int v1), some (.int v2), some (.int s.1), some (.int ((v2 * 8) + s.1)), some (.int (zmin ((zu s.2 43 ((v2 * 8) + s.1).toNatClampNeg ((s.2 43 ((v2 * 8) + s.1).toNatClampNeg) + (s.2 46 ((v1 * 32) + ((v2 * 8) + s.1)).toNatClampNeg))) 43 ((v2 * 8) + s.1).toNatClampNeg) (zmax 0 ((s.2 2 v2.toNatClampNeg) - (s.2 45 v2.toNatClampNeg)))))], [.int ((s.2 42 ((v2 * 8) + s.1).toNatClampNeg) + (zmin ((zu s.2 43 ((v2 * 8) + s.1).toNatClampNeg ((s.2 43 ((v2 * 8) + s.1).toNatClampNeg) + (s.2 46 ((v1 * 32) + ((v2 * 8) + s.1)).toNatClampNeg))) 43 ((v2 * 8) + s.1).toNatClampNeg) (zmax 0 ((s.2 2 v2.toNatClampNeg) - (s.2 45 v2.toNatClampNeg))))), .int ((v2 * 8) + s.1), .ref 42], (SH, (zu (zu s.2 43 ((v2 * 8) + s.1).toNatClampNeg ((s.2 43 ((v2 * 8) + s.1).toNatClampNeg) + (s.2 46 ((v1 * 32) + ((v2 * 8) + s.1)).toNatClampNeg))) 43 ((v2 * 8) + s.1).toNatClampNeg (((zu s.2 43 ((v2 * 8) + s.1).toNatClampNeg ((s.2 43 ((v2 * 8) + s.1).toNatClampNeg) + (s.2 46 ((v1 * 32) + ((v2 * 8) + s.1)).toNatClampNeg))) 43 ((v2 * 8) + s.1).toNatClampNeg) - (zmin ((zu s.2 43 ((v2 * 8) + s.1).toNatClampNeg ((s.2 43 ((v2 * 8) + s.1).toNatClampNeg) + (s.2 46 ((v1 * 32) + ((v2 * 8) + s.1)).toNatClampNeg))) 43 ((v2 * 8) + s.1).toNatClampNeg) (zmax 0 ((s.2 2 v2.toNatClampNeg) - (s.2 45 v2.toNatClampNeg)))))), J)) rfl ?_
    obtain ⟨hc10, h⟩ := zbifo h
    refine zr_one (bif zin ((v2 * 8) + s.1) 32 then zN 112 [some (.ref 38), some (.int v1), some (.int v2), some (.int s.1), some (.int ((v2 * 8) + s.1)), some (.int (zmin ((zu s.2 43 ((v2 * 8) + s.1).toNatClampNeg ((s.2 43 ((v2 * 8) + s.1).toNatClampNeg) + (s.2 46 ((v1 * 32) + ((v2 * 8) + s.1)).toNatClampNeg))) 43 ((v2 * 8) + s.1).toNatClampNeg) (zmax 0 ((s.2 2 v2.toNatClampNeg) - (s.2 45 v2.toNatClampNeg)))))] [] (SH, (zu (zu (zu s.2 43 ((v2 * 8) + s.1).toNatClampNeg ((s.2 43 ((v2 * 8) + s.1).toNatClampNeg) + (s.2 46 ((v1 * 32) + ((v2 * 8) + s.1)).toNatClampNeg))) 43 ((v2 * 8) + s.1).toNatClampNeg (((zu s.2 43 ((v2 * 8) + s.1).toNatClampNeg ((s.2 43 ((v2 * 8) + s.1).toNatClampNeg) + (s.2 46 ((v1 * 32) + ((v2 * 8) + s.1)).toNatClampNeg))) 43 ((v2 * 8) + s.1).toNatClampNeg) - (zmin ((zu s.2 43 ((v2 * 8) + s.1).toNatClampNeg ((s.2 43 ((v2 * 8) + s.1).toNatClampNeg) + (s.2 46 ((v1 * 32) + ((v2 * 8) + s.1)).toNatClampNeg))) 43 ((v2 * 8) + s.1).toNatClampNeg) (zmax 0 ((s.2 2 v2.toNatClampNeg) - (s.2 45 v2.toNatClampNeg)))))) 42 ((v2 * 8) + s.1).toNatClampNeg ((s.2 42 ((v2 * 8) + s.1).toNatClampNeg) + (zmin ((zu s.2 43 ((v2 * 8) + s.1).toNatClampNeg ((s.2 43 ((v2 * 8) + s.1).toNatClampNeg) + (s.2 46 ((v1 * 32) + ((v2 * 8) + s.1)).toNatClampNeg))) 43 ((v2 * 8) + s.1).toNatClampNeg) (zmax 0 ((s.2 2 v2.toNatClampNeg) - (s.2 45 v2.toNatClampNeg)))))), J) else none) rfl (zR_bif hc10 (zR_go ?_))
    refine zr_steps 4 (118, [some (.ref 38), some (.int v1), some (.int v2), some (.int s.1), some (.int ((v2 * 8) + s.1)), some (.int (zmin ((zu s.2 43 ((v2 * 8) + s.1).toNatClampNeg ((s.2 43 ((v2 * 8) + s.1).toNatClampNeg) + (s.2 46 ((v1 * 32) + ((v2 * 8) + s.1)).toNatClampNeg))) 43 ((v2 * 8) + s.1).toNatClampNeg) (zmax 0 ((s.2 2 v2.toNatClampNeg) - (s.2 45 v2.toNatClampNeg)))))], [.int v2, .ref 45, .int v2, .ref 45], (SH, (zu (zu (zu s.2 43 ((v2 * 8) + s.1).toNatClampNeg ((s.2 43 ((v2 * 8) + s.1).toNatClampNeg) + (s.2 46 ((v1 * 32) + ((v2 * 8) + s.1)).toNatClampNeg))) 43 ((v2 * 8) + s.1).toNatClampNeg (((zu s.2 43 ((v2 * 8) + s.1).toNatClampNeg ((s.2 43 ((v2 * 8) + s.1).toNatClampNeg) + (s.2 46 ((v1 * 32) + ((v2 * 8) + s.1)).toNatClampNeg))) 43 ((v2 * 8) + s.1).toNatClampNeg) - (zmin ((zu s.2 43 ((v2 * 8) + s.1).toNatClampNeg ((s.2 43 ((v2 * 8) + s.1).toNatClampNeg) + (s.2 46 ((v1 * 32) + ((v2 * 8) + s.1)).toNatClampNeg))) 43 ((v2 * 8) + s.1).toNatClampNeg) (zmax 0 ((s.2 2 v2.toNatClampNeg) - (s.2 45 v2.toNatClampNeg)))))) 42 ((v2 * 8) + s.1).toNatClampNeg ((s.2 42 ((v2 * 8) + s.1).toNatClampNeg) + (zmin ((zu s.2 43 ((v2 * 8) + s.1).toNatClampNeg ((s.2 43 ((v2 * 8) + s.1).toNatClampNeg) + (s.2 46 ((v1 * 32) + ((v2 * 8) + s.1)).toNatClampNeg))) 43 ((v2 * 8) + s.1).toNatClampNeg) (zmax 0 ((s.2 2 v2.toNatClampNeg) - (s.2 45 v2.toNatClampNeg)))))), J)) rfl ?_
    obtain ⟨hc11, h⟩ := zbifo h
    refine zr_one (bif zin v2 4 then zN 119 [some (.ref 38), some (.int v1), some (.int v2), some (.int s.1), some (.int ((v2 * 8) + s.1)), some (.int (zmin ((zu s.2 43 ((v2 * 8) + s.1).toNatClampNeg ((s.2 43 ((v2 * 8) + s.1).toNatClampNeg) + (s.2 46 ((v1 * 32) + ((v2 * 8) + s.1)).toNatClampNeg))) 43 ((v2 * 8) + s.1).toNatClampNeg) (zmax 0 ((s.2 2 v2.toNatClampNeg) - (s.2 45 v2.toNatClampNeg)))))] [.int (s.2 45 v2.toNatClampNeg), .int v2, .ref 45] (SH, (zu (zu (zu s.2 43 ((v2 * 8) + s.1).toNatClampNeg ((s.2 43 ((v2 * 8) + s.1).toNatClampNeg) + (s.2 46 ((v1 * 32) + ((v2 * 8) + s.1)).toNatClampNeg))) 43 ((v2 * 8) + s.1).toNatClampNeg (((zu s.2 43 ((v2 * 8) + s.1).toNatClampNeg ((s.2 43 ((v2 * 8) + s.1).toNatClampNeg) + (s.2 46 ((v1 * 32) + ((v2 * 8) + s.1)).toNatClampNeg))) 43 ((v2 * 8) + s.1).toNatClampNeg) - (zmin ((zu s.2 43 ((v2 * 8) + s.1).toNatClampNeg ((s.2 43 ((v2 * 8) + s.1).toNatClampNeg) + (s.2 46 ((v1 * 32) + ((v2 * 8) + s.1)).toNatClampNeg))) 43 ((v2 * 8) + s.1).toNatClampNeg) (zmax 0 ((s.2 2 v2.toNatClampNeg) - (s.2 45 v2.toNatClampNeg)))))) 42 ((v2 * 8) + s.1).toNatClampNeg ((s.2 42 ((v2 * 8) + s.1).toNatClampNeg) + (zmin ((zu s.2 43 ((v2 * 8) + s.1).toNatClampNeg ((s.2 43 ((v2 * 8) + s.1).toNatClampNeg) + (s.2 46 ((v1 * 32) + ((v2 * 8) + s.1)).toNatClampNeg))) 43 ((v2 * 8) + s.1).toNatClampNeg) (zmax 0 ((s.2 2 v2.toNatClampNeg) - (s.2 45 v2.toNatClampNeg)))))), J) else none) rfl (zR_bif hc11 (zR_go ?_))
    refine zr_steps 2 (122, [some (.ref 38), some (.int v1), some (.int v2), some (.int s.1), some (.int ((v2 * 8) + s.1)), some (.int (zmin ((zu s.2 43 ((v2 * 8) + s.1).toNatClampNeg ((s.2 43 ((v2 * 8) + s.1).toNatClampNeg) + (s.2 46 ((v1 * 32) + ((v2 * 8) + s.1)).toNatClampNeg))) 43 ((v2 * 8) + s.1).toNatClampNeg) (zmax 0 ((s.2 2 v2.toNatClampNeg) - (s.2 45 v2.toNatClampNeg)))))], [.int ((s.2 45 v2.toNatClampNeg) + (zmin ((zu s.2 43 ((v2 * 8) + s.1).toNatClampNeg ((s.2 43 ((v2 * 8) + s.1).toNatClampNeg) + (s.2 46 ((v1 * 32) + ((v2 * 8) + s.1)).toNatClampNeg))) 43 ((v2 * 8) + s.1).toNatClampNeg) (zmax 0 ((s.2 2 v2.toNatClampNeg) - (s.2 45 v2.toNatClampNeg))))), .int v2, .ref 45], (SH, (zu (zu (zu s.2 43 ((v2 * 8) + s.1).toNatClampNeg ((s.2 43 ((v2 * 8) + s.1).toNatClampNeg) + (s.2 46 ((v1 * 32) + ((v2 * 8) + s.1)).toNatClampNeg))) 43 ((v2 * 8) + s.1).toNatClampNeg (((zu s.2 43 ((v2 * 8) + s.1).toNatClampNeg ((s.2 43 ((v2 * 8) + s.1).toNatClampNeg) + (s.2 46 ((v1 * 32) + ((v2 * 8) + s.1)).toNatClampNeg))) 43 ((v2 * 8) + s.1).toNatClampNeg) - (zmin ((zu s.2 43 ((v2 * 8) + s.1).toNatClampNeg ((s.2 43 ((v2 * 8) + s.1).toNatClampNeg) + (s.2 46 ((v1 * 32) + ((v2 * 8) + s.1)).toNatClampNeg))) 43 ((v2 * 8) + s.1).toNatClampNeg) (zmax 0 ((s.2 2 v2.toNatClampNeg) - (s.2 45 v2.toNatClampNeg)))))) 42 ((v2 * 8) + s.1).toNatClampNeg ((s.2 42 ((v2 * 8) + s.1).toNatClampNeg) + (zmin ((zu s.2 43 ((v2 * 8) + s.1).toNatClampNeg ((s.2 43 ((v2 * 8) + s.1).toNatClampNeg) + (s.2 46 ((v1 * 32) + ((v2 * 8) + s.1)).toNatClampNeg))) 43 ((v2 * 8) + s.1).toNatClampNeg) (zmax 0 ((s.2 2 v2.toNatClampNeg) - (s.2 45 v2.toNatClampNeg)))))), J)) rfl ?_
    obtain ⟨hc12, h⟩ := zbifo h
    refine zr_one (bif zin v2 4 then zN 123 [some (.ref 38), some (.int v1), some (.int v2), some (.int s.1), some (.int ((v2 * 8) + s.1)), some (.int (zmin ((zu s.2 43 ((v2 * 8) + s.1).toNatClampNeg ((s.2 43 ((v2 * 8) + s.1).toNatClampNeg) + (s.2 46 ((v1 * 32) + ((v2 * 8) + s.1)).toNatClampNeg))) 43 ((v2 * 8) + s.1).toNatClampNeg) (zmax 0 ((s.2 2 v2.toNatClampNeg) - (s.2 45 v2.toNatClampNeg)))))] [] (SH, (zu (zu (zu (zu s.2 43 ((v2 * 8) + s.1).toNatClampNeg ((s.2 43 ((v2 * 8) + s.1).toNatClampNeg) + (s.2 46 ((v1 * 32) + ((v2 * 8) + s.1)).toNatClampNeg))) 43 ((v2 * 8) + s.1).toNatClampNeg (((zu s.2 43 ((v2 * 8) + s.1).toNatClampNeg ((s.2 43 ((v2 * 8) + s.1).toNatClampNeg) + (s.2 46 ((v1 * 32) + ((v2 * 8) + s.1)).toNatClampNeg))) 43 ((v2 * 8) + s.1).toNatClampNeg) - (zmin ((zu s.2 43 ((v2 * 8) + s.1).toNatClampNeg ((s.2 43 ((v2 * 8) + s.1).toNatClampNeg) + (s.2 46 ((v1 * 32) + ((v2 * 8) + s.1)).toNatClampNeg))) 43 ((v2 * 8) + s.1).toNatClampNeg) (zmax 0 ((s.2 2 v2.toNatClampNeg) - (s.2 45 v2.toNatClampNeg)))))) 42 ((v2 * 8) + s.1).toNatClampNeg ((s.2 42 ((v2 * 8) + s.1).toNatClampNeg) + (zmin ((zu s.2 43 ((v2 * 8) + s.1).toNatClampNeg ((s.2 43 ((v2 * 8) + s.1).toNatClampNeg) + (s.2 46 ((v1 * 32) + ((v2 * 8) + s.1)).toNatClampNeg))) 43 ((v2 * 8) + s.1).toNatClampNeg) (zmax 0 ((s.2 2 v2.toNatClampNeg) - (s.2 45 v2.toNatClampNeg)))))) 45 v2.toNatClampNeg ((s.2 45 v2.toNatClampNeg) + (zmin ((zu s.2 43 ((v2 * 8) + s.1).toNatClampNeg ((s.2 43 ((v2 * 8) + s.1).toNatClampNeg) + (s.2 46 ((v1 * 32) + ((v2 * 8) + s.1)).toNatClampNeg))) 43 ((v2 * 8) + s.1).toNatClampNeg) (zmax 0 ((s.2 2 v2.toNatClampNeg) - (s.2 45 v2.toNatClampNeg)))))), J) else none) rfl (zR_bif hc12 (zR_go ?_))
    refine zr_steps 2 (15, [some (.ref 38), some (.int v1), some (.int v2), some (.int (s.1 + 1)), some (.int ((v2 * 8) + s.1)), some (.int (zmin ((zu s.2 43 ((v2 * 8) + s.1).toNatClampNeg ((s.2 43 ((v2 * 8) + s.1).toNatClampNeg) + (s.2 46 ((v1 * 32) + ((v2 * 8) + s.1)).toNatClampNeg))) 43 ((v2 * 8) + s.1).toNatClampNeg) (zmax 0 ((s.2 2 v2.toNatClampNeg) - (s.2 45 v2.toNatClampNeg)))))], [], (SH, (zu (zu (zu (zu s.2 43 ((v2 * 8) + s.1).toNatClampNeg ((s.2 43 ((v2 * 8) + s.1).toNatClampNeg) + (s.2 46 ((v1 * 32) + ((v2 * 8) + s.1)).toNatClampNeg))) 43 ((v2 * 8) + s.1).toNatClampNeg (((zu s.2 43 ((v2 * 8) + s.1).toNatClampNeg ((s.2 43 ((v2 * 8) + s.1).toNatClampNeg) + (s.2 46 ((v1 * 32) + ((v2 * 8) + s.1)).toNatClampNeg))) 43 ((v2 * 8) + s.1).toNatClampNeg) - (zmin ((zu s.2 43 ((v2 * 8) + s.1).toNatClampNeg ((s.2 43 ((v2 * 8) + s.1).toNatClampNeg) + (s.2 46 ((v1 * 32) + ((v2 * 8) + s.1)).toNatClampNeg))) 43 ((v2 * 8) + s.1).toNatClampNeg) (zmax 0 ((s.2 2 v2.toNatClampNeg) - (s.2 45 v2.toNatClampNeg)))))) 42 ((v2 * 8) + s.1).toNatClampNeg ((s.2 42 ((v2 * 8) + s.1).toNatClampNeg) + (zmin ((zu s.2 43 ((v2 * 8) + s.1).toNatClampNeg ((s.2 43 ((v2 * 8) + s.1).toNatClampNeg) + (s.2 46 ((v1 * 32) + ((v2 * 8) + s.1)).toNatClampNeg))) 43 ((v2 * 8) + s.1).toNatClampNeg) (zmax 0 ((s.2 2 v2.toNatClampNeg) - (s.2 45 v2.toNatClampNeg)))))) 45 v2.toNatClampNeg ((s.2 45 v2.toNatClampNeg) + (zmin ((zu s.2 43 ((v2 * 8) + s.1).toNatClampNeg ((s.2 43 ((v2 * 8) + s.1).toNatClampNeg) + (s.2 46 ((v1 * 32) + ((v2 * 8) + s.1)).toNatClampNeg))) 43 ((v2 * 8) + s.1).toNatClampNeg) (zmax 0 ((s.2 2 v2.toNatClampNeg) - (s.2 45 v2.toNatClampNeg)))))), J)) rfl ?_
    have he := Option.some.inj h
    subst he
    exact zr_hdr (ls2 := [some (.ref 38), some (.int v1), some (.int v2), some (.int (s.1 + 1)), none, none]) rfl rfl (show zRun X d 44 15 [some (.ref 38), some (.int v1), some (.int v2), some (.int (s.1 + 1)), none, none] [] (SH, (zu (zu (zu (zu s.2 43 ((v2 * 8) + s.1).toNatClampNeg ((s.2 43 ((v2 * 8) + s.1).toNatClampNeg) + (s.2 46 ((v1 * 32) + ((v2 * 8) + s.1)).toNatClampNeg))) 43 ((v2 * 8) + s.1).toNatClampNeg (((zu s.2 43 ((v2 * 8) + s.1).toNatClampNeg ((s.2 43 ((v2 * 8) + s.1).toNatClampNeg) + (s.2 46 ((v1 * 32) + ((v2 * 8) + s.1)).toNatClampNeg))) 43 ((v2 * 8) + s.1).toNatClampNeg) - (zmin ((zu s.2 43 ((v2 * 8) + s.1).toNatClampNeg ((s.2 43 ((v2 * 8) + s.1).toNatClampNeg) + (s.2 46 ((v1 * 32) + ((v2 * 8) + s.1)).toNatClampNeg))) 43 ((v2 * 8) + s.1).toNatClampNeg) (zmax 0 ((s.2 2 v2.toNatClampNeg) - (s.2 45 v2.toNatClampNeg)))))) 42 ((v2 * 8) + s.1).toNatClampNeg ((s.2 42 ((v2 * 8) + s.1).toNatClampNeg) + (zmin ((zu s.2 43 ((v2 * 8) + s.1).toNatClampNeg ((s.2 43 ((v2 * 8) + s.1).toNatClampNeg) + (s.2 46 ((v1 * 32) + ((v2 * 8) + s.1)).toNatClampNeg))) 43 ((v2 * 8) + s.1).toNatClampNeg) (zmax 0 ((s.2 2 v2.toNatClampNeg) - (s.2 45 v2.toNatClampNeg)))))) 45 v2.toNatClampNeg ((s.2 45 v2.toNatClampNeg) + (zmin ((zu s.2 43 ((v2 * 8) + s.1).toNatClampNeg ((s.2 43 ((v2 * 8) + s.1).toNatClampNeg) + (s.2 46 ((v1 * 32) + ((v2 * 8) + s.1)).toNatClampNeg))) 43 ((v2 * 8) + s.1).toNatClampNeg) (zmax 0 ((s.2 2 v2.toNatClampNeg) - (s.2 45 v2.toNatClampNeg)))))), J) r M' from w))
set_option maxRecDepth 100000 in
set_option maxHeartbeats 4000000 in
theorem ok_f44_arrive_38_L2 {X : zX} {d : Nat} {r : Option Value} {M' : zM} (hd : 0 ≤ d) (v1 : Int32) {J : (Nat → Nat → Int64)} : ∀ (n : Nat) (s x : (Int32 × (Nat → Nat → Int32))), zloop (f44_arrive_38_L2 v1) n s = some x → (fun (x : (Int32 × (Nat → Nat → Int32))) => zRun X d 44 135 [none, none, none, none, none, none] [] (SH, x.2, J) r M') x → (fun (s : (Int32 × (Nat → Nat → Int32))) => zRun X d 44 2 [some (.ref 38), some (.int v1), some (.int s.1), none, none, none] [] (SH, s.2, J) r M') s := zloop_ok (B := (f44_arrive_38_L2 v1)) (Wh := fun (s : (Int32 × (Nat → Nat → Int32))) => zRun X d 44 2 [some (.ref 38), some (.int v1), some (.int s.1), none, none, none] [] (SH, s.2, J) r M') (Wx := fun (x : (Int32 × (Nat → Nat → Int32))) => zRun X d 44 135 [none, none, none, none, none, none] [] (SH, x.2, J) r M') (fun s y h w => by
  unfold f44_arrive_38_L2 at h
  refine zr_steps 4 (10, [some (.ref 38), some (.int v1), some (.int s.1), none, none, none], [.int (s.2 1 0), .int s.1], (SH, s.2, J)) rfl ?_
  refine zr_one (if (s.2 1 0) ≤ s.1 then zN 135 [some (.ref 38), some (.int v1), some (.int s.1), none, none, none] [] (SH, s.2, J) else zN 13 [some (.ref 38), some (.int v1), some (.int s.1), none, none, none] [] (SH, s.2, J)) rfl (zR_if (fun hc16 => zR_go ?_) (fun hc16 => zR_go ?_))
  · rw [if_pos hc16] at h
    have he := Option.some.inj h
    subst he
    exact zr_hdv (ls2 := [none, none, none, none, none, none]) rfl rfl (show zRun X d 44 135 [none, none, none, none, none, none] [] (SH, s.2, J) r M' from w)
  · rw [if_neg hc16] at h
    refine zr_steps 2 (15, [some (.ref 38), some (.int v1), some (.int s.1), some (.int 0), none, none], [], (SH, s.2, J)) rfl ?_
    obtain ⟨s14, ho15, h⟩ := zbind h
    refine zr_hdr (ls2 := [some (.ref 38), some (.int v1), some (.int s.1), some (.int 0), none, none]) rfl rfl ?_
    refine ok_f44_arrive_38_L15 (by omega) v1 s.1 5000 ((0 : Int32), s.2) s14 ho15 ?_
    show zRun X d 44 129 [some (.ref 38), some (.int v1), some (.int s.1), none, none, none] [] (SH, s14.2, J) _ _
    refine zr_steps 2 (2, [some (.ref 38), some (.int v1), some (.int (s.1 + 1)), none, none, none], [], (SH, s14.2, J)) rfl ?_
    have he := Option.some.inj h
    subst he
    exact zr_hdr (ls2 := [some (.ref 38), some (.int v1), some (.int (s.1 + 1)), none, none, none]) rfl rfl (show zRun X d 44 2 [some (.ref 38), some (.int v1), some (.int (s.1 + 1)), none, none, none] [] (SH, s14.2, J) r M' from w))
set_option maxRecDepth 100000 in
set_option maxHeartbeats 4000000 in
theorem ok_f44_arrive_38 {X : zX} {d : Nat} (hd : 0 ≤ d) (v1 : Int32) {I : (Nat → Nat → Int32)} {J : (Nat → Nat → Int64)} (t : (Nat → Nat → Int32)) (h : f44_arrive_38 v1 I = some t) : zRun X d 44 0 (zent 44 [.ref 38, .int v1]) [] (SH, I, J) none (SH, t, J) := by
  unfold f44_arrive_38 at h
  refine zr_steps 2 (2, [some (.ref 38), some (.int v1), some (.int 0), none, none, none], [], (SH, I, J)) rfl ?_
  obtain ⟨s17, ho18, h⟩ := zbind h
  refine zr_hdr (ls2 := [some (.ref 38), some (.int v1), some (.int 0), none, none, none]) rfl rfl ?_
  refine ok_f44_arrive_38_L2 (by omega) v1 5000 ((0 : Int32), I) s17 ho18 ?_
  show zRun X d 44 135 [none, none, none, none, none, none] [] (SH, s17.2, J) _ _
  have he := Option.some.inj h
  subst he
  exact zr_one (some (.inr (.inr none))) rfl (zR_ret rfl rfl)
set_option maxRecDepth 100000 in
set_option maxHeartbeats 4000000 in
theorem ok_f31_passesLine_15_50 {X : zX} {d : Nat} (hd : 1 ≤ d) (v1 : Int32) {I : (Nat → Nat → Int32)} {J : (Nat → Nat → Int64)} (t : (Int32 × (Nat → Nat → Int32))) (h : f31_passesLine_15_50 v1 I = some t) : zRun X d 31 0 (zent 31 [.ref 15, .int v1, .ref 50]) [] (SH, I, J) (some (.int t.1)) (SH, t.2, J) := by
  unfold f31_passesLine_15_50 at h
  refine zr_steps 2 (4, [some (.ref 15), some (.int v1), some (.ref 50), none], [.int 20063, .int v1], (SH, I, J)) rfl ?_
  refine zr_one (if v1 = 20063 then zN 7 [some (.ref 15), some (.int v1), some (.ref 50), none] [] (SH, I, J) else zN 20 [some (.ref 15), some (.int v1), some (.ref 50), none] [] (SH, I, J)) rfl (zR_if (fun hc32 => zR_go ?_) (fun hc32 => zR_go ?_))
  · rw [if_pos hc32] at h
    refine zr_steps 1 (8, [some (.ref 15), some (.int v1), some (.ref 50), none], [.ref 15], (SH, I, J)) rfl ?_
    obtain ⟨t2, hc1, h⟩ := zbind h
    refine zr_one (some (.inr (.inl (34, [.ref 15], [], 11)))) rfl (zR_call (by omega) rfl (ok_f34_pop (by omega)  _ hc1) ?_)
    refine zr_one (if t2.1 = 0 then zN 14 [some (.ref 15), some (.int v1), some (.ref 50), none] [] (SH, t2.2, J) else zN 18 [some (.ref 15), some (.int v1), some (.ref 50), none] [] (SH, t2.2, J)) rfl (zR_if (fun hc3 => zR_go ?_) (fun hc3 => zR_go ?_))
    · rw [if_pos hc3] at h
      refine zr_steps 2 (19, [some (.ref 15), some (.int v1), some (.ref 50), none], [.int 1], (SH, t2.2, J)) rfl ?_
      have he := Option.some.inj h
      subst he
      exact zr_one (if ((1 : Int32) = 0 ∨ (1 : Int32) = 1) then some (.inr (.inr (some (.int 1)))) else none) rfl (zR_pos (by decide) (zR_ret rfl rfl))
    · rw [if_neg hc3] at h
      refine zr_steps 1 (19, [some (.ref 15), some (.int v1), some (.ref 50), none], [.int 0], (SH, t2.2, J)) rfl ?_
      have he := Option.some.inj h
      subst he
      exact zr_one (if ((0 : Int32) = 0 ∨ (0 : Int32) = 1) then some (.inr (.inr (some (.int 0)))) else none) rfl (zR_pos (by decide) (zR_ret rfl rfl))
  · rw [if_neg hc32] at h
    refine zr_steps 2 (24, [some (.ref 15), some (.int v1), some (.ref 50), none], [.int 10000, .int v1], (SH, I, J)) rfl ?_
    refine zr_one (if (10000 : Int32) ≤ v1 then zN 35 [some (.ref 15), some (.int v1), some (.ref 50), none] [] (SH, I, J) else zN 27 [some (.ref 15), some (.int v1), some (.ref 50), none] [] (SH, I, J)) rfl (zR_if (fun hc31 => zR_go ?_) (fun hc31 => zR_go ?_))
    · rw [if_pos hc31] at h
      refine zr_steps 2 (39, [some (.ref 15), some (.int v1), some (.ref 50), none], [.int 20000, .int v1], (SH, I, J)) rfl ?_
      refine zr_one (if (20000 : Int32) ≤ v1 then zN 56 [some (.ref 15), some (.int v1), some (.ref 50), none] [] (SH, I, J) else zN 42 [some (.ref 15), some (.int v1), some (.ref 50), none] [] (SH, I, J)) rfl (zR_if (fun hc28 => zR_go ?_) (fun hc28 => zR_go ?_))
      · rw [if_pos hc28] at h
        refine zr_steps 2 (60, [some (.ref 15), some (.int v1), some (.ref 50), none], [.int 20033, .int v1], (SH, I, J)) rfl ?_
        refine zr_one (if v1 = 20033 then zN 63 [some (.ref 15), some (.int v1), some (.ref 50), none] [] (SH, I, J) else zN 82 [some (.ref 15), some (.int v1), some (.ref 50), none] [] (SH, I, J)) rfl (zR_if (fun hc24 => zR_go ?_) (fun hc24 => zR_go ?_))
        · rw [if_pos hc24] at h
          refine zr_steps 2 (65, [some (.ref 15), some (.int v1), some (.ref 50), none], [.ref 15, .ref 15], (SH, I, J)) rfl ?_
          obtain ⟨t5, hc4, h⟩ := zbind h
          refine zr_one (some (.inr (.inl (34, [.ref 15], [.ref 15], 68)))) rfl (zR_call (by omega) rfl (ok_f34_pop (by omega)  _ hc4) ?_)
          refine zr_one (if t5.1 = 0 then zN 71 [some (.ref 15), some (.int v1), some (.ref 50), none] [.ref 15] (SH, t5.2, J) else zN 75 [some (.ref 15), some (.int v1), some (.ref 50), none] [.ref 15] (SH, t5.2, J)) rfl (zR_if (fun hc10 => zR_go ?_) (fun hc10 => zR_go ?_))
          · rw [if_pos hc10] at h
            refine zr_steps 2 (76, [some (.ref 15), some (.int v1), some (.ref 50), none], [.int 1, .ref 15], (SH, t5.2, J)) rfl ?_
            obtain ⟨t7, hc6, h⟩ := zbind h
            refine zr_one (some (.inr (.inl (33, [.ref 15, .int 1], [], 79)))) rfl (zR_call (by omega) rfl (ok_f33_push (by omega) 1 _ hc6) ?_)
            refine zr_steps 2 (124, [some (.ref 15), some (.int v1), some (.ref 50), none], [.int 0], (SH, t7, J)) rfl ?_
            have he := Option.some.inj h
            subst he
            exact zr_one (if ((0 : Int32) = 0 ∨ (0 : Int32) = 1) then some (.inr (.inr (some (.int 0)))) else none) rfl (zR_pos (by decide) (zR_ret rfl rfl))
          · rw [if_neg hc10] at h
            refine zr_steps 1 (76, [some (.ref 15), some (.int v1), some (.ref 50), none], [.int 0, .ref 15], (SH, t5.2, J)) rfl ?_
            obtain ⟨t9, hc8, h⟩ := zbind h
            refine zr_one (some (.inr (.inl (33, [.ref 15, .int 0], [], 79)))) rfl (zR_call (by omega) rfl (ok_f33_push (by omega) 0 _ hc8) ?_)
            refine zr_steps 2 (124, [some (.ref 15), some (.int v1), some (.ref 50), none], [.int 0], (SH, t9, J)) rfl ?_
            have he := Option.some.inj h
            subst he
            exact zr_one (if ((0 : Int32) = 0 ∨ (0 : Int32) = 1) then some (.inr (.inr (some (.int 0)))) else none) rfl (zR_pos (by decide) (zR_ret rfl rfl))
        · rw [if_neg hc24] at h
          refine zr_steps 2 (86, [some (.ref 15), some (.int v1), some (.ref 50), none], [.int 20126, .int v1], (SH, I, J)) rfl ?_
          refine zr_one (if v1 = 20126 then zN 89 [some (.ref 15), some (.int v1), some (.ref 50), none] [] (SH, I, J) else zN 101 [some (.ref 15), some (.int v1), some (.ref 50), none] [] (SH, I, J)) rfl (zR_if (fun hc23 => zR_go ?_) (fun hc23 => zR_go ?_))
          · rw [if_pos hc23] at h
            refine zr_steps 2 (91, [some (.ref 15), some (.int v1), some (.ref 50), none], [.ref 15, .ref 15], (SH, I, J)) rfl ?_
            obtain ⟨t12, hc11, h⟩ := zbind h
            refine zr_one (some (.inr (.inl (34, [.ref 15], [.ref 15], 94)))) rfl (zR_call (by omega) rfl (ok_f34_pop (by omega)  _ hc11) ?_)
            refine zr_steps 1 (95, [some (.ref 15), some (.int v1), some (.ref 50), none], [.int (-t12.1), .ref 15], (SH, t12.2, J)) rfl ?_
            obtain ⟨t14, hc13, h⟩ := zbind h
            refine zr_one (some (.inr (.inl (33, [.ref 15, .int (-t12.1)], [], 98)))) rfl (zR_call (by omega) rfl (ok_f33_push (by omega) (-t12.1) _ hc13) ?_)
            refine zr_steps 2 (124, [some (.ref 15), some (.int v1), some (.ref 50), none], [.int 0], (SH, t14, J)) rfl ?_
            have he := Option.some.inj h
            subst he
            exact zr_one (if ((0 : Int32) = 0 ∨ (0 : Int32) = 1) then some (.inr (.inr (some (.int 0)))) else none) rfl (zR_pos (by decide) (zR_ret rfl rfl))
          · rw [if_neg hc23] at h
            refine zr_steps 1 (102, [some (.ref 15), some (.int v1), some (.ref 50), none], [.ref 15], (SH, I, J)) rfl ?_
            obtain ⟨t16, hc15, h⟩ := zbind h
            refine zr_one (some (.inr (.inl (34, [.ref 15], [], 105)))) rfl (zR_call (by omega) rfl (ok_f34_pop (by omega)  _ hc15) ?_)
            refine zr_steps 3 (108, [some (.ref 15), some (.int v1), some (.ref 50), some (.int t16.1)], [.ref 15, .ref 15], (SH, t16.2, J)) rfl ?_
            obtain ⟨t18, hc17, h⟩ := zbind h
            refine zr_one (some (.inr (.inl (34, [.ref 15], [.ref 15], 111)))) rfl (zR_call (by omega) rfl (ok_f34_pop (by omega)  _ hc17) ?_)
            refine zr_steps 4 (117, [some (.ref 15), some (.int v1), some (.ref 50), some (.int t16.1)], [.int t16.1, .int (v1 - 20000), .int t18.1, .ref 15], (SH, t18.2, J)) rfl ?_
            obtain ⟨t20, hc19, h⟩ := zbind h
            refine zr_one (some (.inr (.inl (32, [.int t18.1, .int (v1 - 20000), .int t16.1], [.ref 15], 120)))) rfl (zR_call (by omega) rfl (ok_f32_joined (by omega) t18.1 (v1 - 20000) t16.1 _ hc19) ?_)
            obtain ⟨t22, hc21, h⟩ := zbind h
            refine zr_one (some (.inr (.inl (33, [.ref 15, .int t20], [], 123)))) rfl (zR_call (by omega) rfl (ok_f33_push (by omega) t20 _ hc21) ?_)
            refine zr_steps 1 (124, [some (.ref 15), some (.int v1), some (.ref 50), some (.int t16.1)], [.int 0], (SH, t22, J)) rfl ?_
            have he := Option.some.inj h
            subst he
            exact zr_one (if ((0 : Int32) = 0 ∨ (0 : Int32) = 1) then some (.inr (.inr (some (.int 0)))) else none) rfl (zR_pos (by decide) (zR_ret rfl rfl))
      · rw [if_neg hc28] at h
        refine zr_steps 5 (49, [some (.ref 15), some (.int v1), some (.ref 50), none], [.int (v1 - 10000), .ref 50, .ref 15], (SH, I, J)) rfl ?_
        obtain ⟨hc25, h⟩ := zbifo h
        refine zr_one (bif zin (v1 - 10000) 8 then zN 50 [some (.ref 15), some (.int v1), some (.ref 50), none] [.int (I 50 (v1 - 10000).toNatClampNeg), .ref 15] (SH, I, J) else none) rfl (zR_bif hc25 (zR_go ?_))
        obtain ⟨t27, hc26, h⟩ := zbind h
        refine zr_one (some (.inr (.inl (33, [.ref 15, .int (I 50 (v1 - 10000).toNatClampNeg)], [], 53)))) rfl (zR_call (by omega) rfl (ok_f33_push (by omega) (I 50 (v1 - 10000).toNatClampNeg) _ hc26) ?_)
        refine zr_steps 2 (124, [some (.ref 15), some (.int v1), some (.ref 50), none], [.int 0], (SH, t27, J)) rfl ?_
        have he := Option.some.inj h
        subst he
        exact zr_one (if ((0 : Int32) = 0 ∨ (0 : Int32) = 1) then some (.inr (.inr (some (.int 0)))) else none) rfl (zR_pos (by decide) (zR_ret rfl rfl))
    · rw [if_neg hc31] at h
      refine zr_steps 2 (29, [some (.ref 15), some (.int v1), some (.ref 50), none], [.int v1, .ref 15], (SH, I, J)) rfl ?_
      obtain ⟨t30, hc29, h⟩ := zbind h
      refine zr_one (some (.inr (.inl (33, [.ref 15, .int v1], [], 32)))) rfl (zR_call (by omega) rfl (ok_f33_push (by omega) v1 _ hc29) ?_)
      refine zr_steps 2 (124, [some (.ref 15), some (.int v1), some (.ref 50), none], [.int 0], (SH, t30, J)) rfl ?_
      have he := Option.some.inj h
      subst he
      exact zr_one (if ((0 : Int32) = 0 ∨ (0 : Int32) = 1) then some (.inr (.inr (some (.int 0)))) else none) rfl (zR_pos (by decide) (zR_ret rfl rfl))
set_option maxRecDepth 100000 in
set_option maxHeartbeats 4000000 in
theorem ok_f30_gives_15_50_L10 {X : zX} {d : Nat} {r : Option Value} {M' : zM} (hd : 2 ≤ d) (v1 : Int32) {J : (Nat → Nat → Int64)} : ∀ (n : Nat) (s : (Int32 × Int32 × (Nat → Nat → Int32))) (t : (Int32 × (Nat → Nat → Int32)) ⊕ (Int32 × Int32 × (Nat → Nat → Int32))), zloopR (f30_gives_15_50_L10 v1) n s = some t → zSumE (fun (x : (Int32 × (Nat → Nat → Int32))) => r = (some (.int x.1)) ∧ M' = (SH, x.2, J)) (fun (x : (Int32 × Int32 × (Nat → Nat → Int32))) => zRun X d 30 83 [none, none, none, none, none, none] [] (SH, x.2.2, J) r M') t → (fun (s : (Int32 × Int32 × (Nat → Nat → Int32))) => zRun X d 30 10 [some (.ref 15), some (.int v1), some (.ref 50), some (.int s.1), some (.int s.2.1), none] [] (SH, s.2.2, J) r M') s := zloopR_ok (B := (f30_gives_15_50_L10 v1)) (Wh := fun (s : (Int32 × Int32 × (Nat → Nat → Int32))) => zRun X d 30 10 [some (.ref 15), some (.int v1), some (.ref 50), some (.int s.1), some (.int s.2.1), none] [] (SH, s.2.2, J) r M') (Wx := fun (x : (Int32 × Int32 × (Nat → Nat → Int32))) => zRun X d 30 83 [none, none, none, none, none, none] [] (SH, x.2.2, J) r M') (Wr := fun (x : (Int32 × (Nat → Nat → Int32))) => r = (some (.int x.1)) ∧ M' = (SH, x.2, J)) (fun s y h w => by
  unfold f30_gives_15_50_L10 at h
  refine zr_steps 4 (17, [some (.ref 15), some (.int v1), some (.ref 50), some (.int s.1), some (.int s.2.1), none], [.int v1, .ref 22, .int s.2.1], (SH, s.2.2, J)) rfl ?_
  obtain ⟨hc1, h⟩ := zbifo h
  refine zr_one (bif zin v1 4 then zN 18 [some (.ref 15), some (.int v1), some (.ref 50), some (.int s.1), some (.int s.2.1), none] [.int (s.2.2 22 v1.toNatClampNeg), .int s.2.1] (SH, s.2.2, J) else none) rfl (zR_bif hc1 (zR_go ?_))
  refine zr_one (if (s.2.2 22 v1.toNatClampNeg) ≤ s.2.1 then zN 83 [some (.ref 15), some (.int v1), some (.ref 50), some (.int s.1), some (.int s.2.1), none] [] (SH, s.2.2, J) else zN 21 [some (.ref 15), some (.int v1), some (.ref 50), some (.int s.1), some (.int s.2.1), none] [] (SH, s.2.2, J)) rfl (zR_if (fun hc12 => zR_go ?_) (fun hc12 => zR_go ?_))
  · rw [if_pos hc12] at h
    have he := Option.some.inj h
    subst he
    exact zr_hdr (ls2 := [none, none, none, none, none, none]) rfl rfl (show zRun X d 30 83 [none, none, none, none, none, none] [] (SH, s.2.2, J) r M' from w)
  · rw [if_neg hc12] at h
    refine zr_steps 3 (26, [some (.ref 15), some (.int v1), some (.ref 50), some (.int s.1), some (.int s.2.1), none], [.int v1, .ref 17], (SH, s.2.2, J)) rfl ?_
    obtain ⟨hc2, h⟩ := zbifo h
    refine zr_one (bif zin v1 4 then zrefr 27 [some (.ref 15), some (.int v1), some (.ref 50), some (.int s.1), some (.int s.2.1), none] [] (SH, s.2.2, J) (zri (SH, s.2.2, J) 17 v1.toNatClampNeg) else none) rfl (zR_bif hc2 (zR_ref (ro_at hc2) ?_))
    refine zr_steps 1 (29, [some (.ref 15), some (.int v1), some (.ref 50), some (.int s.1), some (.int s.2.1), none], [.int s.2.1, .ref (zrow0 v1)], (SH, s.2.2, J)) rfl ?_
    obtain ⟨hc3, h⟩ := zbifo h
    refine zr_one (ziald X 0 29 [some (.ref 15), some (.int v1), some (.ref 50), some (.int s.1), some (.int s.2.1), none] [.int s.2.1, .ref (zrow0 v1)] (SH, s.2.2, J)) rfl (rR_ald (ro_is hc2) hc3 ?_)
    refine zr_steps 3 (37, [some (.ref 15), some (.int v1), some (.ref 50), some (.int s.1), some (.int s.2.1), some (.int (s.2.2 (zrow0 v1) s.2.1.toNatClampNeg))], [.int 20059, .int (s.2.2 (zrow0 v1) s.2.1.toNatClampNeg)], (SH, s.2.2, J)) rfl ?_
    refine zr_one (if (s.2.2 (zrow0 v1) s.2.1.toNatClampNeg) = 20059 then zN 63 [some (.ref 15), some (.int v1), some (.ref 50), some (.int s.1), some (.int s.2.1), some (.int (s.2.2 (zrow0 v1) s.2.1.toNatClampNeg))] [] (SH, s.2.2, J) else zN 40 [some (.ref 15), some (.int v1), some (.ref 50), some (.int s.1), some (.int s.2.1), some (.int (s.2.2 (zrow0 v1) s.2.1.toNatClampNeg))] [] (SH, s.2.2, J)) rfl (zR_if (fun hc11 => zR_go ?_) (fun hc11 => zR_go ?_))
    · rw [if_pos hc11] at h
      refine zr_steps 1 (64, [some (.ref 15), some (.int v1), some (.ref 50), some (.int s.1), some (.int s.2.1), some (.int (s.2.2 (zrow0 v1) s.2.1.toNatClampNeg))], [.int s.1], (SH, s.2.2, J)) rfl ?_
      refine zr_one (if s.1 = 0 then zN 72 [some (.ref 15), some (.int v1), some (.ref 50), some (.int s.1), some (.int s.2.1), some (.int (s.2.2 (zrow0 v1) s.2.1.toNatClampNeg))] [] (SH, s.2.2, J) else zN 67 [some (.ref 15), some (.int v1), some (.ref 50), some (.int s.1), some (.int s.2.1), some (.int (s.2.2 (zrow0 v1) s.2.1.toNatClampNeg))] [] (SH, s.2.2, J)) rfl (zR_if (fun hc6 => zR_go ?_) (fun hc6 => zR_go ?_))
      · rw [if_pos hc6] at h
        refine zr_steps 1 (73, [some (.ref 15), some (.int v1), some (.ref 50), some (.int s.1), some (.int s.2.1), some (.int (s.2.2 (zrow0 v1) s.2.1.toNatClampNeg))], [.ref 15], (SH, s.2.2, J)) rfl ?_
        obtain ⟨t5, hc4, h⟩ := zbind h
        refine zr_one (some (.inr (.inl (34, [.ref 15], [], 76)))) rfl (zR_call (by omega) rfl (ok_f34_pop (by omega)  _ hc4) ?_)
        have he := Option.some.inj h
        subst he
        obtain ⟨e1, e2⟩ := (show r = (some (.int t5.1)) ∧ M' = (SH, t5.2, J) from w)
        exact zr_one (some (.inr (.inr (some (.int t5.1))))) rfl (zR_ret e1.symm e2.symm)
      · rw [if_neg hc6] at h
        refine zr_steps 5 (10, [some (.ref 15), some (.int v1), some (.ref 50), some (.int 0), some (.int (s.2.1 + 1)), some (.int (s.2.2 (zrow0 v1) s.2.1.toNatClampNeg))], [], (SH, s.2.2, J)) rfl ?_
        have he := Option.some.inj h
        subst he
        exact zr_hdr (ls2 := [some (.ref 15), some (.int v1), some (.ref 50), some (.int 0), some (.int (s.2.1 + 1)), none]) rfl rfl (show zRun X d 30 10 [some (.ref 15), some (.int v1), some (.ref 50), some (.int 0), some (.int (s.2.1 + 1)), none] [] (SH, s.2.2, J) r M' from w)
    · rw [if_neg hc11] at h
      refine zr_steps 1 (41, [some (.ref 15), some (.int v1), some (.ref 50), some (.int s.1), some (.int s.2.1), some (.int (s.2.2 (zrow0 v1) s.2.1.toNatClampNeg))], [.int s.1], (SH, s.2.2, J)) rfl ?_
      refine zr_one (if s.1 = 0 then zN 44 [some (.ref 15), some (.int v1), some (.ref 50), some (.int s.1), some (.int s.2.1), some (.int (s.2.2 (zrow0 v1) s.2.1.toNatClampNeg))] [] (SH, s.2.2, J) else zN 54 [some (.ref 15), some (.int v1), some (.ref 50), some (.int s.1), some (.int s.2.1), some (.int (s.2.2 (zrow0 v1) s.2.1.toNatClampNeg))] [] (SH, s.2.2, J)) rfl (zR_if (fun hc10 => zR_go ?_) (fun hc10 => zR_go ?_))
      · rw [if_pos hc10] at h
        refine zr_steps 3 (48, [some (.ref 15), some (.int v1), some (.ref 50), some (.int s.1), some (.int s.2.1), some (.int (s.2.2 (zrow0 v1) s.2.1.toNatClampNeg))], [.ref 50, .int (s.2.2 (zrow0 v1) s.2.1.toNatClampNeg), .ref 15], (SH, s.2.2, J)) rfl ?_
        obtain ⟨t8, hc7, h⟩ := zbind h
        refine zr_one (some (.inr (.inl (31, [.ref 15, .int (s.2.2 (zrow0 v1) s.2.1.toNatClampNeg), .ref 50], [], 51)))) rfl (zR_call (by omega) rfl (ok_f31_passesLine_15_50 (by omega) (s.2.2 (zrow0 v1) s.2.1.toNatClampNeg) _ hc7) ?_)
        refine zr_one (if t8.1 = 0 then zN 58 [some (.ref 15), some (.int v1), some (.ref 50), some (.int s.1), some (.int s.2.1), some (.int (s.2.2 (zrow0 v1) s.2.1.toNatClampNeg))] [] (SH, t8.2, J) else zN 54 [some (.ref 15), some (.int v1), some (.ref 50), some (.int s.1), some (.int s.2.1), some (.int (s.2.2 (zrow0 v1) s.2.1.toNatClampNeg))] [] (SH, t8.2, J)) rfl (zR_if (fun hc9 => zR_go ?_) (fun hc9 => zR_go ?_))
        · rw [if_pos hc9] at h
          refine zr_steps 5 (10, [some (.ref 15), some (.int v1), some (.ref 50), some (.int 0), some (.int (s.2.1 + 1)), some (.int (s.2.2 (zrow0 v1) s.2.1.toNatClampNeg))], [], (SH, t8.2, J)) rfl ?_
          have he := Option.some.inj h
          subst he
          exact zr_hdr (ls2 := [some (.ref 15), some (.int v1), some (.ref 50), some (.int 0), some (.int (s.2.1 + 1)), none]) rfl rfl (show zRun X d 30 10 [some (.ref 15), some (.int v1), some (.ref 50), some (.int 0), some (.int (s.2.1 + 1)), none] [] (SH, t8.2, J) r M' from w)
        · rw [if_neg hc9] at h
          refine zr_steps 6 (10, [some (.ref 15), some (.int v1), some (.ref 50), some (.int 1), some (.int (s.2.1 + 1)), some (.int (s.2.2 (zrow0 v1) s.2.1.toNatClampNeg))], [], (SH, t8.2, J)) rfl ?_
          have he := Option.some.inj h
          subst he
          exact zr_hdr (ls2 := [some (.ref 15), some (.int v1), some (.ref 50), some (.int 1), some (.int (s.2.1 + 1)), none]) rfl rfl (show zRun X d 30 10 [some (.ref 15), some (.int v1), some (.ref 50), some (.int 1), some (.int (s.2.1 + 1)), none] [] (SH, t8.2, J) r M' from w)
      · rw [if_neg hc10] at h
        refine zr_steps 6 (10, [some (.ref 15), some (.int v1), some (.ref 50), some (.int 1), some (.int (s.2.1 + 1)), some (.int (s.2.2 (zrow0 v1) s.2.1.toNatClampNeg))], [], (SH, s.2.2, J)) rfl ?_
        have he := Option.some.inj h
        subst he
        exact zr_hdr (ls2 := [some (.ref 15), some (.int v1), some (.ref 50), some (.int 1), some (.int (s.2.1 + 1)), none]) rfl rfl (show zRun X d 30 10 [some (.ref 15), some (.int v1), some (.ref 50), some (.int 1), some (.int (s.2.1 + 1)), none] [] (SH, s.2.2, J) r M' from w))
set_option maxRecDepth 100000 in
set_option maxHeartbeats 4000000 in
theorem ok_f30_gives_15_50 {X : zX} {d : Nat} (hd : 2 ≤ d) (v1 : Int32) {I : (Nat → Nat → Int32)} {J : (Nat → Nat → Int64)} (t : (Int32 × (Nat → Nat → Int32))) (h : f30_gives_15_50 v1 I = some t) : zRun X d 30 0 (zent 30 [.ref 15, .int v1, .ref 50]) [] (SH, I, J) (some (.int t.1)) (SH, t.2, J) := by
  unfold f30_gives_15_50 at h
  refine zr_steps 7 (10, [some (.ref 15), some (.int v1), some (.ref 50), some (.int 0), some (.int 0), none], [], (SH, (zu I 15 5 0), J)) rfl ?_
  obtain ⟨y15, ho14, hy⟩ := zbRe h
  refine zr_hdr (ls2 := [some (.ref 15), some (.int v1), some (.ref 50), some (.int 0), some (.int 0), none]) rfl rfl ?_
  refine ok_f30_gives_15_50_L10 (by omega) v1 5000 ((0 : Int32), (0 : Int32), (zu I 15 5 0)) y15 ho14 ?_
  rcases hy with ⟨rr, rfl, h⟩ | ⟨s13, rfl, h⟩
  · have he := Option.some.inj h
    subst he
    exact ⟨rfl, rfl⟩
  · show zRun X d 30 83 [none, none, none, none, none, none] [] (SH, s13.2.2, J) _ _
    refine zr_steps 1 (84, [none, none, none, none, none, none], [.int 0], (SH, s13.2.2, J)) rfl ?_
    have he := Option.some.inj h
    subst he
    exact zr_one (some (.inr (.inr (some (.int 0))))) rfl (zR_ret rfl rfl)
set_option maxRecDepth 100000 in
set_option maxHeartbeats 4000000 in
theorem ok_f47_aim_38 {X : zX} {d : Nat} (hd : 3 ≤ d) (v1 : Int32) (v2 : Int32) (v3 : Int32) {I : (Nat → Nat → Int32)} {J : (Nat → Nat → Int64)} (t : (Int32 × (Nat → Nat → Int32))) (h : f47_aim_38 v1 v2 v3 I = some t) : zRun X d 47 0 (zent 47 [.ref 38, .int v1, .int v2, .int v3]) [] (SH, I, J) (some (.int t.1)) (SH, t.2, J) := by
  unfold f47_aim_38 at h
  refine zr_steps 4 (8, [some (.ref 38), some (.int v1), some (.int v2), some (.int v3)], [.int (I 39 4), .int v2], (SH, I, J)) rfl ?_
  refine zr_one (if v2 = (I 39 4) then zN 11 [some (.ref 38), some (.int v1), some (.int v2), some (.int v3)] [] (SH, I, J) else zN 34 [some (.ref 38), some (.int v1), some (.int v2), some (.int v3)] [] (SH, I, J)) rfl (zR_if (fun hc14 => zR_go ?_) (fun hc14 => zR_go ?_))
  · rw [if_pos hc14] at h
    refine zr_steps 4 (19, [some (.ref 38), some (.int v1), some (.int v2), some (.int v3)], [.int (I 39 6), .int v1], (SH, I, J)) rfl ?_
    refine zr_one (if (I 39 6) ≤ v1 then zN 26 [some (.ref 38), some (.int v1), some (.int v2), some (.int v3)] [] (SH, I, J) else zN 22 [some (.ref 38), some (.int v1), some (.int v2), some (.int v3)] [] (SH, I, J)) rfl (zR_if (fun hc1 => zR_go ?_) (fun hc1 => zR_go ?_))
    · rw [if_pos hc1] at h
      refine zr_steps 3 (33, [some (.ref 38), some (.int v1), some (.int v2), some (.int v3)], [.int (I 39 5)], (SH, I, J)) rfl ?_
      have he := Option.some.inj h
      subst he
      exact zr_one (some (.inr (.inr (some (.int (I 39 5)))))) rfl (zR_ret rfl rfl)
    · rw [if_neg hc1] at h
      refine zr_steps 2 (33, [some (.ref 38), some (.int v1), some (.int v2), some (.int v3)], [.int (-1)], (SH, I, J)) rfl ?_
      have he := Option.some.inj h
      subst he
      exact zr_one (some (.inr (.inr (some (.int (-1)))))) rfl (zR_ret rfl rfl)
  · rw [if_neg hc14] at h
    refine zr_steps 4 (42, [some (.ref 38), some (.int v1), some (.int v2), some (.int v3)], [.int v2, .ref 41], (SH, I, J)) rfl ?_
    obtain ⟨hc2, h⟩ := zbifo h
    refine zr_one (bif zin v2 8 then zN 43 [some (.ref 38), some (.int v1), some (.int v2), some (.int v3)] [.int (I 41 v2.toNatClampNeg)] (SH, I, J) else none) rfl (zR_bif hc2 (zR_go ?_))
    refine zr_steps 3 (50, [some (.ref 38), some (.int v1), some (.int v2), some (.int v3)], [.int (I 15 7), .int (I 41 v2.toNatClampNeg)], (SH, I, J)) rfl ?_
    refine zr_one (if (I 41 v2.toNatClampNeg) < (I 15 7) then zN 70 [some (.ref 38), some (.int v1), some (.int v2), some (.int v3)] [] (SH, I, J) else zN 53 [some (.ref 38), some (.int v1), some (.int v2), some (.int v3)] [] (SH, I, J)) rfl (zR_if (fun hc13 => zR_go ?_) (fun hc13 => zR_go ?_))
    · rw [if_pos hc13] at h
      refine zr_steps 4 (76, [some (.ref 38), some (.int v1), some (.int v2), some (.int v3)], [.int v2, .int 1, .ref 50], (SH, I, J)) rfl ?_
      refine zr_one (bif zin 1 8 then zN 77 [some (.ref 38), some (.int v1), some (.int v2), some (.int v3)] [] (SH, (zu I 50 1 v2), J) else none) rfl (zR_bif (by decide) (zR_go ?_))
      refine zr_steps 7 (90, [some (.ref 38), some (.int v1), some (.int v2), some (.int v3)], [.int v2, .ref 9, .int 2, .ref 50], (SH, (zu I 50 1 v2), J)) rfl ?_
      obtain ⟨hc3, h⟩ := zbifo h
      refine zr_one (bif zin v2 8 then zN 91 [some (.ref 38), some (.int v1), some (.int v2), some (.int v3)] [.int (I 9 v2.toNatClampNeg), .int 2, .ref 50] (SH, (zu I 50 1 v2), J) else none) rfl (zR_bif hc3 (zR_go ?_))
      refine zr_one (bif zin 2 8 then zN 92 [some (.ref 38), some (.int v1), some (.int v2), some (.int v3)] [] (SH, (zu (zu I 50 1 v2) 50 2 (I 9 v2.toNatClampNeg)), J) else none) rfl (zR_bif (by decide) (zR_go ?_))
      refine zr_steps 4 (98, [some (.ref 38), some (.int v1), some (.int v2), some (.int v3)], [.int v3, .int 3, .ref 50], (SH, (zu (zu I 50 1 v2) 50 2 (I 9 v2.toNatClampNeg)), J)) rfl ?_
      refine zr_one (bif zin 3 8 then zN 99 [some (.ref 38), some (.int v1), some (.int v2), some (.int v3)] [] (SH, (zu (zu (zu I 50 1 v2) 50 2 (I 9 v2.toNatClampNeg)) 50 3 v3), J) else none) rfl (zR_bif (by decide) (zR_go ?_))
      refine zr_steps 10 (114, [some (.ref 38), some (.int v1), some (.int v2), some (.int v3)], [.int ((v3 * 8) + v2), .ref 42, .int 4, .ref 50], (SH, (zu (zu (zu I 50 1 v2) 50 2 (I 9 v2.toNatClampNeg)) 50 3 v3), J)) rfl ?_
      obtain ⟨hc4, h⟩ := zbifo h
      refine zr_one (bif zin ((v3 * 8) + v2) 32 then zN 115 [some (.ref 38), some (.int v1), some (.int v2), some (.int v3)] [.int (I 42 ((v3 * 8) + v2).toNatClampNeg), .int 4, .ref 50] (SH, (zu (zu (zu I 50 1 v2) 50 2 (I 9 v2.toNatClampNeg)) 50 3 v3), J) else none) rfl (zR_bif hc4 (zR_go ?_))
      refine zr_one (bif zin 4 8 then zN 116 [some (.ref 38), some (.int v1), some (.int v2), some (.int v3)] [] (SH, (zu (zu (zu (zu I 50 1 v2) 50 2 (I 9 v2.toNatClampNeg)) 50 3 v3) 50 4 (I 42 ((v3 * 8) + v2).toNatClampNeg)), J) else none) rfl (zR_bif (by decide) (zR_go ?_))
      refine zr_steps 5 (124, [some (.ref 38), some (.int v1), some (.int v2), some (.int v3)], [.int v3, .ref 38, .int 7, .ref 50], (SH, (zu (zu (zu (zu I 50 1 v2) 50 2 (I 9 v2.toNatClampNeg)) 50 3 v3) 50 4 (I 42 ((v3 * 8) + v2).toNatClampNeg)), J)) rfl ?_
      obtain ⟨t6, hc5, h⟩ := zbind h
      refine zr_one (some (.inr (.inl (43, [.ref 38, .int v3], [.int 7, .ref 50], 127)))) rfl (zR_call (by omega) rfl (ok_f43_seenIn_38 (by omega) v3 _ hc5) ?_)
      refine zr_one (bif zin 7 8 then zN 128 [some (.ref 38), some (.int v1), some (.int v2), some (.int v3)] [] (SH, (zu (zu (zu (zu (zu I 50 1 v2) 50 2 (I 9 v2.toNatClampNeg)) 50 3 v3) 50 4 (I 42 ((v3 * 8) + v2).toNatClampNeg)) 50 7 t6), J) else none) rfl (zR_bif (by decide) (zR_go ?_))
      refine zr_steps 6 (140, [some (.ref 38), some (.int v1), some (.int v2), some (.int v3)], [.int v2, .ref 41, .ref 15], (SH, (zu (zu (zu (zu (zu I 50 1 v2) 50 2 (I 9 v2.toNatClampNeg)) 50 3 v3) 50 4 (I 42 ((v3 * 8) + v2).toNatClampNeg)) 50 7 t6), J)) rfl ?_
      obtain ⟨hc7, h⟩ := zbifo h
      refine zr_one (bif zin v2 8 then zN 141 [some (.ref 38), some (.int v1), some (.int v2), some (.int v3)] [.int (I 41 v2.toNatClampNeg), .ref 15] (SH, (zu (zu (zu (zu (zu I 50 1 v2) 50 2 (I 9 v2.toNatClampNeg)) 50 3 v3) 50 4 (I 42 ((v3 * 8) + v2).toNatClampNeg)) 50 7 t6), J) else none) rfl (zR_bif hc7 (zR_go ?_))
      refine zr_steps 2 (145, [some (.ref 38), some (.int v1), some (.int v2), some (.int v3)], [.ref 50, .int (I 41 v2.toNatClampNeg), .ref 15], (SH, (zu (zu (zu (zu (zu I 50 1 v2) 50 2 (I 9 v2.toNatClampNeg)) 50 3 v3) 50 4 (I 42 ((v3 * 8) + v2).toNatClampNeg)) 50 7 t6), J)) rfl ?_
      obtain ⟨t9, hc8, h⟩ := zbind h
      refine zr_one (some (.inr (.inl (30, [.ref 15, .int (I 41 v2.toNatClampNeg), .ref 50], [], 148)))) rfl (zR_call (by omega) rfl (ok_f30_gives_15_50 (by omega) (I 41 v2.toNatClampNeg) _ hc8) ?_)
      have he := Option.some.inj h
      subst he
      exact zr_one (some (.inr (.inr (some (.int t9.1))))) rfl (zR_ret rfl rfl)
    · rw [if_neg hc13] at h
      refine zr_steps 6 (65, [some (.ref 38), some (.int v1), some (.int v2), some (.int v3)], [.int v2, .ref 9, .ref 1], (SH, I, J)) rfl ?_
      obtain ⟨hc10, h⟩ := zbifo h
      refine zr_one (bif zin v2 8 then zN 66 [some (.ref 38), some (.int v1), some (.int v2), some (.int v3)] [.int (I 9 v2.toNatClampNeg), .ref 1] (SH, I, J) else none) rfl (zR_bif hc10 (zR_go ?_))
      obtain ⟨t12, hc11, h⟩ := zbind h
      refine zr_one (some (.inr (.inl (76, [.ref 1, .int (I 9 v2.toNatClampNeg)], [], 69)))) rfl (zR_call (by omega) rfl (ok_f76_firstFor (by omega) (I 9 v2.toNatClampNeg) _ hc11) ?_)
      have he := Option.some.inj h
      subst he
      exact zr_one (some (.inr (.inr (some (.int t12))))) rfl (zR_ret rfl rfl)
