set_option maxRecDepth 100000 in
set_option maxHeartbeats 4000000 in
theorem ok_f154_worked_L12 {X : zX} {d : Nat} {r : Option Value} {M' : zM} (hd : 1 ≤ d) (v1 : Int32) (v3 : Int32) {J : (Nat → Nat → Int64)} : ∀ (n : Nat) (s x : (Int32 × Int32 × (Nat → Nat → Int32))), zloop (f154_worked_L12 v1 v3) n s = some x → (fun (x : (Int32 × Int32 × (Nat → Nat → Int32))) => zRun X d 154 188 [some (.ref 73), none, none, none, none, none, none] [] (SH, x.2.2, J) r M') x → (fun (s : (Int32 × Int32 × (Nat → Nat → Int32))) => zRun X d 154 12 [some (.ref 73), some (.int v1), none, some (.int v3), some (.int s.1), some (.int s.2.1), none] [] (SH, s.2.2, J) r M') s := zloop_ok (B := (f154_worked_L12 v1 v3)) (Wh := fun (s : (Int32 × Int32 × (Nat → Nat → Int32))) => zRun X d 154 12 [some (.ref 73), some (.int v1), none, some (.int v3), some (.int s.1), some (.int s.2.1), none] [] (SH, s.2.2, J) r M') (Wx := fun (x : (Int32 × Int32 × (Nat → Nat → Int32))) => zRun X d 154 188 [some (.ref 73), none, none, none, none, none, none] [] (SH, x.2.2, J) r M') (fun s y h w => by
  unfold f154_worked_L12 at h
  refine zr_steps 6 (21, [some (.ref 73), some (.int v1), none, some (.int v3), some (.int s.1), some (.int s.2.1), none], [.int ((130 * v1) + v3), .int s.2.1], (SH, s.2.2, J)) rfl ?_
  refine zr_one (if ((130 * v1) + v3) ≤ s.2.1 then zN 188 [some (.ref 73), some (.int v1), none, some (.int v3), some (.int s.1), some (.int s.2.1), none] [] (SH, s.2.2, J) else zN 24 [some (.ref 73), some (.int v1), none, some (.int v3), some (.int s.1), some (.int s.2.1), none] [] (SH, s.2.2, J)) rfl (zR_if (fun hc29 => zR_go ?_) (fun hc29 => zR_go ?_))
  · rw [if_pos hc29] at h
    have he := Option.some.inj h
    subst he
    exact zr_hdr (ls2 := [some (.ref 73), none, none, none, none, none, none]) rfl rfl (show zRun X d 154 188 [some (.ref 73), none, none, none, none, none, none] [] (SH, s.2.2, J) r M' from w)
  · rw [if_neg hc29] at h
    refine zr_steps 3 (30, [some (.ref 73), some (.int v1), none, some (.int v3), some (.int s.1), some (.int s.2.1), none], [.int s.2.1, .ref 86], (SH, s.2.2, J)) rfl ?_
    obtain ⟨hc1, h⟩ := zbifo h
    refine zr_one (bif zin s.2.1 650 then zN 31 [some (.ref 73), some (.int v1), none, some (.int v3), some (.int s.1), some (.int s.2.1), none] [.int (s.2.2 86 s.2.1.toNatClampNeg)] (SH, s.2.2, J) else none) rfl (zR_bif hc1 (zR_go ?_))
    refine zr_steps 3 (36, [some (.ref 73), some (.int v1), none, some (.int v3), some (.int s.1), some (.int s.2.1), some (.int (s.2.2 86 s.2.1.toNatClampNeg))], [.int 1, .int (s.2.2 86 s.2.1.toNatClampNeg)], (SH, s.2.2, J)) rfl ?_
    refine zr_one (if (s.2.2 86 s.2.1.toNatClampNeg) = 1 then zN 45 [some (.ref 73), some (.int v1), none, some (.int v3), some (.int s.1), some (.int s.2.1), some (.int (s.2.2 86 s.2.1.toNatClampNeg))] [] (SH, s.2.2, J) else zN 39 [some (.ref 73), some (.int v1), none, some (.int v3), some (.int s.1), some (.int s.2.1), some (.int (s.2.2 86 s.2.1.toNatClampNeg))] [] (SH, s.2.2, J)) rfl (zR_if (fun hc28 => zR_go ?_) (fun hc28 => zR_go ?_))
    · rw [if_pos hc28] at h
      refine zr_steps 5 (54, [some (.ref 73), some (.int v1), none, some (.int v3), some (.int s.1), some (.int s.2.1), some (.int (s.2.2 86 s.2.1.toNatClampNeg))], [.int 1, .int (s.2.2 86 s.2.1.toNatClampNeg), .int s.1, .ref 92], (SH, s.2.2, J)) rfl ?_
      refine zr_one (if (s.2.2 86 s.2.1.toNatClampNeg) = 1 then zN 57 [some (.ref 73), some (.int v1), none, some (.int v3), some (.int s.1), some (.int s.2.1), some (.int (s.2.2 86 s.2.1.toNatClampNeg))] [.int s.1, .ref 92] (SH, s.2.2, J) else zN 67 [some (.ref 73), some (.int v1), none, some (.int v3), some (.int s.1), some (.int s.2.1), some (.int (s.2.2 86 s.2.1.toNatClampNeg))] [.int s.1, .ref 92] (SH, s.2.2, J)) rfl (zR_if (fun hc7 => zR_go ?_) (fun hc7 => zR_go ?_))
      · rw [if_pos hc7] at h
        refine zr_steps 3 (63, [some (.ref 73), some (.int v1), none, some (.int v3), some (.int s.1), some (.int s.2.1), some (.int (s.2.2 86 s.2.1.toNatClampNeg))], [.int s.2.1, .ref 87, .int s.1, .ref 92], (SH, s.2.2, J)) rfl ?_
        obtain ⟨hc2, h⟩ := zbifo h
        refine zr_one (bif zin s.2.1 650 then zN 64 [some (.ref 73), some (.int v1), none, some (.int v3), some (.int s.1), some (.int s.2.1), some (.int (s.2.2 86 s.2.1.toNatClampNeg))] [.int (s.2.2 87 s.2.1.toNatClampNeg), .int s.1, .ref 92] (SH, s.2.2, J) else none) rfl (zR_bif hc2 (zR_go ?_))
        refine zr_steps 1 (79, [some (.ref 73), some (.int v1), none, some (.int v3), some (.int s.1), some (.int s.2.1), some (.int (s.2.2 86 s.2.1.toNatClampNeg))], [.int (s.2.2 87 s.2.1.toNatClampNeg), .int s.1, .ref 92], (SH, s.2.2, J)) rfl ?_
        obtain ⟨hc3, h⟩ := zbifo h
        refine zr_one (bif zin s.1 130 then zN 80 [some (.ref 73), some (.int v1), none, some (.int v3), some (.int s.1), some (.int s.2.1), some (.int (s.2.2 86 s.2.1.toNatClampNeg))] [] (SH, (zu s.2.2 92 s.1.toNatClampNeg (s.2.2 87 s.2.1.toNatClampNeg)), J) else none) rfl (zR_bif hc3 (zR_go ?_))
        refine zr_steps 4 (12, [some (.ref 73), some (.int v1), none, some (.int v3), some (.int (s.1 + 1)), some (.int (s.2.1 + 1)), some (.int (s.2.2 86 s.2.1.toNatClampNeg))], [], (SH, (zu s.2.2 92 s.1.toNatClampNeg (s.2.2 87 s.2.1.toNatClampNeg)), J)) rfl ?_
        have he := Option.some.inj h
        subst he
        exact zr_hdr (ls2 := [some (.ref 73), some (.int v1), none, some (.int v3), some (.int (s.1 + 1)), some (.int (s.2.1 + 1)), none]) rfl rfl (show zRun X d 154 12 [some (.ref 73), some (.int v1), none, some (.int v3), some (.int (s.1 + 1)), some (.int (s.2.1 + 1)), none] [] (SH, (zu s.2.2 92 s.1.toNatClampNeg (s.2.2 87 s.2.1.toNatClampNeg)), J) r M' from w)
      · rw [if_neg hc7] at h
        refine zr_steps 5 (77, [some (.ref 73), some (.int v1), none, some (.int v3), some (.int s.1), some (.int s.2.1), some (.int (s.2.2 86 s.2.1.toNatClampNeg))], [.int s.2.1, .ref 87, .ref 91, .int s.1, .ref 92], (SH, s.2.2, J)) rfl ?_
        obtain ⟨hc4, h⟩ := zbifo h
        refine zr_one (bif zin s.2.1 650 then zN 78 [some (.ref 73), some (.int v1), none, some (.int v3), some (.int s.1), some (.int s.2.1), some (.int (s.2.2 86 s.2.1.toNatClampNeg))] [.int (s.2.2 87 s.2.1.toNatClampNeg), .ref 91, .int s.1, .ref 92] (SH, s.2.2, J) else none) rfl (zR_bif hc4 (zR_go ?_))
        obtain ⟨hc5, h⟩ := zbifo h
        refine zr_one (bif zin (s.2.2 87 s.2.1.toNatClampNeg) 8 then zN 79 [some (.ref 73), some (.int v1), none, some (.int v3), some (.int s.1), some (.int s.2.1), some (.int (s.2.2 86 s.2.1.toNatClampNeg))] [.int (s.2.2 91 (s.2.2 87 s.2.1.toNatClampNeg).toNatClampNeg), .int s.1, .ref 92] (SH, s.2.2, J) else none) rfl (zR_bif hc5 (zR_go ?_))
        obtain ⟨hc6, h⟩ := zbifo h
        refine zr_one (bif zin s.1 130 then zN 80 [some (.ref 73), some (.int v1), none, some (.int v3), some (.int s.1), some (.int s.2.1), some (.int (s.2.2 86 s.2.1.toNatClampNeg))] [] (SH, (zu s.2.2 92 s.1.toNatClampNeg (s.2.2 91 (s.2.2 87 s.2.1.toNatClampNeg).toNatClampNeg)), J) else none) rfl (zR_bif hc6 (zR_go ?_))
        refine zr_steps 4 (12, [some (.ref 73), some (.int v1), none, some (.int v3), some (.int (s.1 + 1)), some (.int (s.2.1 + 1)), some (.int (s.2.2 86 s.2.1.toNatClampNeg))], [], (SH, (zu s.2.2 92 s.1.toNatClampNeg (s.2.2 91 (s.2.2 87 s.2.1.toNatClampNeg).toNatClampNeg)), J)) rfl ?_
        have he := Option.some.inj h
        subst he
        exact zr_hdr (ls2 := [some (.ref 73), some (.int v1), none, some (.int v3), some (.int (s.1 + 1)), some (.int (s.2.1 + 1)), none]) rfl rfl (show zRun X d 154 12 [some (.ref 73), some (.int v1), none, some (.int v3), some (.int (s.1 + 1)), some (.int (s.2.1 + 1)), none] [] (SH, (zu s.2.2 92 s.1.toNatClampNeg (s.2.2 91 (s.2.2 87 s.2.1.toNatClampNeg).toNatClampNeg)), J) r M' from w)
    · rw [if_neg hc28] at h
      refine zr_steps 2 (42, [some (.ref 73), some (.int v1), none, some (.int v3), some (.int s.1), some (.int s.2.1), some (.int (s.2.2 86 s.2.1.toNatClampNeg))], [.int 2, .int (s.2.2 86 s.2.1.toNatClampNeg)], (SH, s.2.2, J)) rfl ?_
      refine zr_one (if (s.2.2 86 s.2.1.toNatClampNeg) = 2 then zN 45 [some (.ref 73), some (.int v1), none, some (.int v3), some (.int s.1), some (.int s.2.1), some (.int (s.2.2 86 s.2.1.toNatClampNeg))] [] (SH, s.2.2, J) else zN 86 [some (.ref 73), some (.int v1), none, some (.int v3), some (.int s.1), some (.int s.2.1), some (.int (s.2.2 86 s.2.1.toNatClampNeg))] [] (SH, s.2.2, J)) rfl (zR_if (fun hc27 => zR_go ?_) (fun hc27 => zR_go ?_))
      · rw [if_pos hc27] at h
        refine zr_steps 5 (54, [some (.ref 73), some (.int v1), none, some (.int v3), some (.int s.1), some (.int s.2.1), some (.int (s.2.2 86 s.2.1.toNatClampNeg))], [.int 1, .int (s.2.2 86 s.2.1.toNatClampNeg), .int s.1, .ref 92], (SH, s.2.2, J)) rfl ?_
        refine zr_one (if (s.2.2 86 s.2.1.toNatClampNeg) = 1 then zN 57 [some (.ref 73), some (.int v1), none, some (.int v3), some (.int s.1), some (.int s.2.1), some (.int (s.2.2 86 s.2.1.toNatClampNeg))] [.int s.1, .ref 92] (SH, s.2.2, J) else zN 67 [some (.ref 73), some (.int v1), none, some (.int v3), some (.int s.1), some (.int s.2.1), some (.int (s.2.2 86 s.2.1.toNatClampNeg))] [.int s.1, .ref 92] (SH, s.2.2, J)) rfl (zR_if (fun hc13 => zR_go ?_) (fun hc13 => zR_go ?_))
        · rw [if_pos hc13] at h
          refine zr_steps 3 (63, [some (.ref 73), some (.int v1), none, some (.int v3), some (.int s.1), some (.int s.2.1), some (.int (s.2.2 86 s.2.1.toNatClampNeg))], [.int s.2.1, .ref 87, .int s.1, .ref 92], (SH, s.2.2, J)) rfl ?_
          obtain ⟨hc8, h⟩ := zbifo h
          refine zr_one (bif zin s.2.1 650 then zN 64 [some (.ref 73), some (.int v1), none, some (.int v3), some (.int s.1), some (.int s.2.1), some (.int (s.2.2 86 s.2.1.toNatClampNeg))] [.int (s.2.2 87 s.2.1.toNatClampNeg), .int s.1, .ref 92] (SH, s.2.2, J) else none) rfl (zR_bif hc8 (zR_go ?_))
          refine zr_steps 1 (79, [some (.ref 73), some (.int v1), none, some (.int v3), some (.int s.1), some (.int s.2.1), some (.int (s.2.2 86 s.2.1.toNatClampNeg))], [.int (s.2.2 87 s.2.1.toNatClampNeg), .int s.1, .ref 92], (SH, s.2.2, J)) rfl ?_
          obtain ⟨hc9, h⟩ := zbifo h
          refine zr_one (bif zin s.1 130 then zN 80 [some (.ref 73), some (.int v1), none, some (.int v3), some (.int s.1), some (.int s.2.1), some (.int (s.2.2 86 s.2.1.toNatClampNeg))] [] (SH, (zu s.2.2 92 s.1.toNatClampNeg (s.2.2 87 s.2.1.toNatClampNeg)), J) else none) rfl (zR_bif hc9 (zR_go ?_))
          refine zr_steps 4 (12, [some (.ref 73), some (.int v1), none, some (.int v3), some (.int (s.1 + 1)), some (.int (s.2.1 + 1)), some (.int (s.2.2 86 s.2.1.toNatClampNeg))], [], (SH, (zu s.2.2 92 s.1.toNatClampNeg (s.2.2 87 s.2.1.toNatClampNeg)), J)) rfl ?_
          have he := Option.some.inj h
          subst he
          exact zr_hdr (ls2 := [some (.ref 73), some (.int v1), none, some (.int v3), some (.int (s.1 + 1)), some (.int (s.2.1 + 1)), none]) rfl rfl (show zRun X d 154 12 [some (.ref 73), some (.int v1), none, some (.int v3), some (.int (s.1 + 1)), some (.int (s.2.1 + 1)), none] [] (SH, (zu s.2.2 92 s.1.toNatClampNeg (s.2.2 87 s.2.1.toNatClampNeg)), J) r M' from w)
        · rw [if_neg hc13] at h
          refine zr_steps 5 (77, [some (.ref 73), some (.int v1), none, some (.int v3), some (.int s.1), some (.int s.2.1), some (.int (s.2.2 86 s.2.1.toNatClampNeg))], [.int s.2.1, .ref 87, .ref 91, .int s.1, .ref 92], (SH, s.2.2, J)) rfl ?_
          obtain ⟨hc10, h⟩ := zbifo h
          refine zr_one (bif zin s.2.1 650 then zN 78 [some (.ref 73), some (.int v1), none, some (.int v3), some (.int s.1), some (.int s.2.1), some (.int (s.2.2 86 s.2.1.toNatClampNeg))] [.int (s.2.2 87 s.2.1.toNatClampNeg), .ref 91, .int s.1, .ref 92] (SH, s.2.2, J) else none) rfl (zR_bif hc10 (zR_go ?_))
          obtain ⟨hc11, h⟩ := zbifo h
          refine zr_one (bif zin (s.2.2 87 s.2.1.toNatClampNeg) 8 then zN 79 [some (.ref 73), some (.int v1), none, some (.int v3), some (.int s.1), some (.int s.2.1), some (.int (s.2.2 86 s.2.1.toNatClampNeg))] [.int (s.2.2 91 (s.2.2 87 s.2.1.toNatClampNeg).toNatClampNeg), .int s.1, .ref 92] (SH, s.2.2, J) else none) rfl (zR_bif hc11 (zR_go ?_))
          obtain ⟨hc12, h⟩ := zbifo h
          refine zr_one (bif zin s.1 130 then zN 80 [some (.ref 73), some (.int v1), none, some (.int v3), some (.int s.1), some (.int s.2.1), some (.int (s.2.2 86 s.2.1.toNatClampNeg))] [] (SH, (zu s.2.2 92 s.1.toNatClampNeg (s.2.2 91 (s.2.2 87 s.2.1.toNatClampNeg).toNatClampNeg)), J) else none) rfl (zR_bif hc12 (zR_go ?_))
          refine zr_steps 4 (12, [some (.ref 73), some (.int v1), none, some (.int v3), some (.int (s.1 + 1)), some (.int (s.2.1 + 1)), some (.int (s.2.2 86 s.2.1.toNatClampNeg))], [], (SH, (zu s.2.2 92 s.1.toNatClampNeg (s.2.2 91 (s.2.2 87 s.2.1.toNatClampNeg).toNatClampNeg)), J)) rfl ?_
          have he := Option.some.inj h
          subst he
          exact zr_hdr (ls2 := [some (.ref 73), some (.int v1), none, some (.int v3), some (.int (s.1 + 1)), some (.int (s.2.1 + 1)), none]) rfl rfl (show zRun X d 154 12 [some (.ref 73), some (.int v1), none, some (.int v3), some (.int (s.1 + 1)), some (.int (s.2.1 + 1)), none] [] (SH, (zu s.2.2 92 s.1.toNatClampNeg (s.2.2 91 (s.2.2 87 s.2.1.toNatClampNeg).toNatClampNeg)), J) r M' from w)
      · rw [if_neg hc27] at h
        refine zr_steps 2 (89, [some (.ref 73), some (.int v1), none, some (.int v3), some (.int s.1), some (.int s.2.1), some (.int (s.2.2 86 s.2.1.toNatClampNeg))], [.int 3, .int (s.2.2 86 s.2.1.toNatClampNeg)], (SH, s.2.2, J)) rfl ?_
        refine zr_one (if (s.2.2 86 s.2.1.toNatClampNeg) = 3 then zN 92 [some (.ref 73), some (.int v1), none, some (.int v3), some (.int s.1), some (.int s.2.1), some (.int (s.2.2 86 s.2.1.toNatClampNeg))] [] (SH, s.2.2, J) else zN 121 [some (.ref 73), some (.int v1), none, some (.int v3), some (.int s.1), some (.int s.2.1), some (.int (s.2.2 86 s.2.1.toNatClampNeg))] [] (SH, s.2.2, J)) rfl (zR_if (fun hc26 => zR_go ?_) (fun hc26 => zR_go ?_))
        · rw [if_pos hc26] at h
          refine zr_steps 10 (108, [some (.ref 73), some (.int v1), none, some (.int v3), some (.int s.1), some (.int s.2.1), some (.int (s.2.2 86 s.2.1.toNatClampNeg))], [.int (s.1 - 1), .ref 92, .int (s.1 - 1), .ref 92], (SH, s.2.2, J)) rfl ?_
          obtain ⟨hc14, h⟩ := zbifo h
          refine zr_one (bif zin (s.1 - 1) 130 then zN 109 [some (.ref 73), some (.int v1), none, some (.int v3), some (.int s.1), some (.int s.2.1), some (.int (s.2.2 86 s.2.1.toNatClampNeg))] [.int (s.2.2 92 (s.1 - 1).toNatClampNeg), .int (s.1 - 1), .ref 92] (SH, s.2.2, J) else none) rfl (zR_bif hc14 (zR_go ?_))
          refine zr_one (if (s.2.2 92 (s.1 - 1).toNatClampNeg) = 0 then zN 112 [some (.ref 73), some (.int v1), none, some (.int v3), some (.int s.1), some (.int s.2.1), some (.int (s.2.2 86 s.2.1.toNatClampNeg))] [.int (s.1 - 1), .ref 92] (SH, s.2.2, J) else zN 116 [some (.ref 73), some (.int v1), none, some (.int v3), some (.int s.1), some (.int s.2.1), some (.int (s.2.2 86 s.2.1.toNatClampNeg))] [.int (s.1 - 1), .ref 92] (SH, s.2.2, J)) rfl (zR_if (fun hc17 => zR_go ?_) (fun hc17 => zR_go ?_))
          · rw [if_pos hc17] at h
            refine zr_steps 2 (117, [some (.ref 73), some (.int v1), none, some (.int v3), some (.int s.1), some (.int s.2.1), some (.int (s.2.2 86 s.2.1.toNatClampNeg))], [.int 1, .int (s.1 - 1), .ref 92], (SH, s.2.2, J)) rfl ?_
            obtain ⟨hc15, h⟩ := zbifo h
            refine zr_one (bif zin (s.1 - 1) 130 then zN 118 [some (.ref 73), some (.int v1), none, some (.int v3), some (.int s.1), some (.int s.2.1), some (.int (s.2.2 86 s.2.1.toNatClampNeg))] [] (SH, (zu s.2.2 92 (s.1 - 1).toNatClampNeg 1), J) else none) rfl (zR_bif hc15 (zR_go ?_))
            refine zr_steps 3 (12, [some (.ref 73), some (.int v1), none, some (.int v3), some (.int s.1), some (.int (s.2.1 + 1)), some (.int (s.2.2 86 s.2.1.toNatClampNeg))], [], (SH, (zu s.2.2 92 (s.1 - 1).toNatClampNeg 1), J)) rfl ?_
            have he := Option.some.inj h
            subst he
            exact zr_hdr (ls2 := [some (.ref 73), some (.int v1), none, some (.int v3), some (.int s.1), some (.int (s.2.1 + 1)), none]) rfl rfl (show zRun X d 154 12 [some (.ref 73), some (.int v1), none, some (.int v3), some (.int s.1), some (.int (s.2.1 + 1)), none] [] (SH, (zu s.2.2 92 (s.1 - 1).toNatClampNeg 1), J) r M' from w)
          · rw [if_neg hc17] at h
            refine zr_steps 1 (117, [some (.ref 73), some (.int v1), none, some (.int v3), some (.int s.1), some (.int s.2.1), some (.int (s.2.2 86 s.2.1.toNatClampNeg))], [.int 0, .int (s.1 - 1), .ref 92], (SH, s.2.2, J)) rfl ?_
            obtain ⟨hc16, h⟩ := zbifo h
            refine zr_one (bif zin (s.1 - 1) 130 then zN 118 [some (.ref 73), some (.int v1), none, some (.int v3), some (.int s.1), some (.int s.2.1), some (.int (s.2.2 86 s.2.1.toNatClampNeg))] [] (SH, (zu s.2.2 92 (s.1 - 1).toNatClampNeg 0), J) else none) rfl (zR_bif hc16 (zR_go ?_))
            refine zr_steps 3 (12, [some (.ref 73), some (.int v1), none, some (.int v3), some (.int s.1), some (.int (s.2.1 + 1)), some (.int (s.2.2 86 s.2.1.toNatClampNeg))], [], (SH, (zu s.2.2 92 (s.1 - 1).toNatClampNeg 0), J)) rfl ?_
            have he := Option.some.inj h
            subst he
            exact zr_hdr (ls2 := [some (.ref 73), some (.int v1), none, some (.int v3), some (.int s.1), some (.int (s.2.1 + 1)), none]) rfl rfl (show zRun X d 154 12 [some (.ref 73), some (.int v1), none, some (.int v3), some (.int s.1), some (.int (s.2.1 + 1)), none] [] (SH, (zu s.2.2 92 (s.1 - 1).toNatClampNeg 0), J) r M' from w)
        · rw [if_neg hc26] at h
          refine zr_steps 2 (124, [some (.ref 73), some (.int v1), none, some (.int v3), some (.int s.1), some (.int s.2.1), some (.int (s.2.2 86 s.2.1.toNatClampNeg))], [.int 4, .int (s.2.2 86 s.2.1.toNatClampNeg)], (SH, s.2.2, J)) rfl ?_
          refine zr_one (if (s.2.2 86 s.2.1.toNatClampNeg) = 4 then zN 127 [some (.ref 73), some (.int v1), none, some (.int v3), some (.int s.1), some (.int s.2.1), some (.int (s.2.2 86 s.2.1.toNatClampNeg))] [] (SH, s.2.2, J) else zN 149 [some (.ref 73), some (.int v1), none, some (.int v3), some (.int s.1), some (.int s.2.1), some (.int (s.2.2 86 s.2.1.toNatClampNeg))] [] (SH, s.2.2, J)) rfl (zR_if (fun hc25 => zR_go ?_) (fun hc25 => zR_go ?_))
          · rw [if_pos hc25] at h
            refine zr_steps 10 (143, [some (.ref 73), some (.int v1), none, some (.int v3), some (.int s.1), some (.int s.2.1), some (.int (s.2.2 86 s.2.1.toNatClampNeg))], [.int (s.1 - 1), .ref 92, .int (s.1 - 1), .ref 92], (SH, s.2.2, J)) rfl ?_
            obtain ⟨hc18, h⟩ := zbifo h
            refine zr_one (bif zin (s.1 - 1) 130 then zN 144 [some (.ref 73), some (.int v1), none, some (.int v3), some (.int s.1), some (.int s.2.1), some (.int (s.2.2 86 s.2.1.toNatClampNeg))] [.int (s.2.2 92 (s.1 - 1).toNatClampNeg), .int (s.1 - 1), .ref 92] (SH, s.2.2, J) else none) rfl (zR_bif hc18 (zR_go ?_))
            refine zr_steps 1 (145, [some (.ref 73), some (.int v1), none, some (.int v3), some (.int s.1), some (.int s.2.1), some (.int (s.2.2 86 s.2.1.toNatClampNeg))], [.int (-(s.2.2 92 (s.1 - 1).toNatClampNeg)), .int (s.1 - 1), .ref 92], (SH, s.2.2, J)) rfl ?_
            obtain ⟨hc19, h⟩ := zbifo h
            refine zr_one (bif zin (s.1 - 1) 130 then zN 146 [some (.ref 73), some (.int v1), none, some (.int v3), some (.int s.1), some (.int s.2.1), some (.int (s.2.2 86 s.2.1.toNatClampNeg))] [] (SH, (zu s.2.2 92 (s.1 - 1).toNatClampNeg (-(s.2.2 92 (s.1 - 1).toNatClampNeg))), J) else none) rfl (zR_bif hc19 (zR_go ?_))
            refine zr_steps 3 (12, [some (.ref 73), some (.int v1), none, some (.int v3), some (.int s.1), some (.int (s.2.1 + 1)), some (.int (s.2.2 86 s.2.1.toNatClampNeg))], [], (SH, (zu s.2.2 92 (s.1 - 1).toNatClampNeg (-(s.2.2 92 (s.1 - 1).toNatClampNeg))), J)) rfl ?_
            have he := Option.some.inj h
            subst he
            exact zr_hdr (ls2 := [some (.ref 73), some (.int v1), none, some (.int v3), some (.int s.1), some (.int (s.2.1 + 1)), none]) rfl rfl (show zRun X d 154 12 [some (.ref 73), some (.int v1), none, some (.int v3), some (.int s.1), some (.int (s.2.1 + 1)), none] [] (SH, (zu s.2.2 92 (s.1 - 1).toNatClampNeg (-(s.2.2 92 (s.1 - 1).toNatClampNeg))), J) r M' from w)
          · rw [if_neg hc25] at h
            refine zr_steps 12 (170, [some (.ref 73), some (.int v1), none, some (.int v3), some (.int (s.1 - 1)), some (.int s.2.1), some (.int (s.2.2 86 s.2.1.toNatClampNeg))], [.int ((s.1 - 1) - 1), .ref 92, .int (s.2.2 86 s.2.1.toNatClampNeg), .int ((s.1 - 1) - 1), .ref 92], (SH, s.2.2, J)) rfl ?_
            obtain ⟨hc20, h⟩ := zbifo h
            refine zr_one (bif zin ((s.1 - 1) - 1) 130 then zN 171 [some (.ref 73), some (.int v1), none, some (.int v3), some (.int (s.1 - 1)), some (.int s.2.1), some (.int (s.2.2 86 s.2.1.toNatClampNeg))] [.int (s.2.2 92 ((s.1 - 1) - 1).toNatClampNeg), .int (s.2.2 86 s.2.1.toNatClampNeg), .int ((s.1 - 1) - 1), .ref 92] (SH, s.2.2, J) else none) rfl (zR_bif hc20 (zR_go ?_))
            refine zr_steps 3 (177, [some (.ref 73), some (.int v1), none, some (.int v3), some (.int (s.1 - 1)), some (.int s.2.1), some (.int (s.2.2 86 s.2.1.toNatClampNeg))], [.int (s.1 - 1), .ref 92, .int (s.2.2 92 ((s.1 - 1) - 1).toNatClampNeg), .int (s.2.2 86 s.2.1.toNatClampNeg), .int ((s.1 - 1) - 1), .ref 92], (SH, s.2.2, J)) rfl ?_
            obtain ⟨hc21, h⟩ := zbifo h
            refine zr_one (bif zin (s.1 - 1) 130 then zN 178 [some (.ref 73), some (.int v1), none, some (.int v3), some (.int (s.1 - 1)), some (.int s.2.1), some (.int (s.2.2 86 s.2.1.toNatClampNeg))] [.int (s.2.2 92 (s.1 - 1).toNatClampNeg), .int (s.2.2 92 ((s.1 - 1) - 1).toNatClampNeg), .int (s.2.2 86 s.2.1.toNatClampNeg), .int ((s.1 - 1) - 1), .ref 92] (SH, s.2.2, J) else none) rfl (zR_bif hc21 (zR_go ?_))
            obtain ⟨t23, hc22, h⟩ := zbind h
            refine zr_one (some (.inr (.inl (153, [.int (s.2.2 86 s.2.1.toNatClampNeg), .int (s.2.2 92 ((s.1 - 1) - 1).toNatClampNeg), .int (s.2.2 92 (s.1 - 1).toNatClampNeg)], [.int ((s.1 - 1) - 1), .ref 92], 181)))) rfl (zR_call (by omega) rfl (ok_f153_twoOf (by omega) (s.2.2 86 s.2.1.toNatClampNeg) (s.2.2 92 ((s.1 - 1) - 1).toNatClampNeg) (s.2.2 92 (s.1 - 1).toNatClampNeg) _ hc22) ?_)
            obtain ⟨hc24, h⟩ := zbifo h
            refine zr_one (bif zin ((s.1 - 1) - 1) 130 then zN 182 [some (.ref 73), some (.int v1), none, some (.int v3), some (.int (s.1 - 1)), some (.int s.2.1), some (.int (s.2.2 86 s.2.1.toNatClampNeg))] [] (SH, (zu s.2.2 92 ((s.1 - 1) - 1).toNatClampNeg t23), J) else none) rfl (zR_bif hc24 (zR_go ?_))
            refine zr_steps 2 (12, [some (.ref 73), some (.int v1), none, some (.int v3), some (.int (s.1 - 1)), some (.int (s.2.1 + 1)), some (.int (s.2.2 86 s.2.1.toNatClampNeg))], [], (SH, (zu s.2.2 92 ((s.1 - 1) - 1).toNatClampNeg t23), J)) rfl ?_
            have he := Option.some.inj h
            subst he
            exact zr_hdr (ls2 := [some (.ref 73), some (.int v1), none, some (.int v3), some (.int (s.1 - 1)), some (.int (s.2.1 + 1)), none]) rfl rfl (show zRun X d 154 12 [some (.ref 73), some (.int v1), none, some (.int v3), some (.int (s.1 - 1)), some (.int (s.2.1 + 1)), none] [] (SH, (zu s.2.2 92 ((s.1 - 1) - 1).toNatClampNeg t23), J) r M' from w))
set_option maxRecDepth 100000 in
set_option maxHeartbeats 4000000 in
theorem ok_f154_worked {X : zX} {d : Nat} (hd : 1 ≤ d) (v1 : Int32) (v2 : Int32) (v3 : Int32) {I : (Nat → Nat → Int32)} {J : (Nat → Nat → Int64)} (t : (Int32 × (Nat → Nat → Int32))) (h : f154_worked v1 v2 v3 I = some t) : zRun X d 154 0 (zent 154 [.ref 73, .int v1, .int v2, .int v3]) [] (SH, I, J) (some (.int t.1)) (SH, t.2, J) := by
  unfold f154_worked at h
  refine zr_steps 8 (12, [some (.ref 73), some (.int v1), some (.int v2), some (.int v3), some (.int 0), some (.int ((130 * v1) + v2)), none], [], (SH, I, J)) rfl ?_
  obtain ⟨s30, ho31, h⟩ := zbind h
  refine zr_hdr (ls2 := [some (.ref 73), some (.int v1), none, some (.int v3), some (.int 0), some (.int ((130 * v1) + v2)), none]) rfl rfl ?_
  refine ok_f154_worked_L12 (by omega) v1 v3 5000 ((0 : Int32), ((130 * v1) + v2), I) s30 ho31 ?_
  show zRun X d 154 188 [some (.ref 73), none, none, none, none, none, none] [] (SH, s30.2.2, J) _ _
  refine zr_steps 3 (193, [some (.ref 73), none, none, none, none, none, none], [.int 0, .ref 92], (SH, s30.2.2, J)) rfl ?_
  refine zr_one (bif zin 0 130 then zN 194 [some (.ref 73), none, none, none, none, none, none] [.int (s30.2.2 92 0)] (SH, s30.2.2, J) else none) rfl (zR_bif (by decide) (zR_go ?_))
  have he := Option.some.inj h
  subst he
  exact zr_one (some (.inr (.inr (some (.int (s30.2.2 92 0)))))) rfl (zR_ret rfl rfl)
set_option maxRecDepth 100000 in
set_option maxHeartbeats 4000000 in
theorem ok_f155_gives_L7 {X : zX} {d : Nat} {r : Option Value} {M' : zM} (hd : 2 ≤ d) (v1 : Int32) {J : (Nat → Nat → Int64)} : ∀ (n : Nat) (s : (Int32 × Int32 × (Nat → Nat → Int32))) (t : (Int32 × (Nat → Nat → Int32)) ⊕ (Int32 × Int32 × (Nat → Nat → Int32))), zloopR (f155_gives_L7 v1) n s = some t → zSumE (fun (x : (Int32 × (Nat → Nat → Int32))) => r = (some (.int x.1)) ∧ M' = (SH, x.2, J)) (fun (x : (Int32 × Int32 × (Nat → Nat → Int32))) => zRun X d 155 78 [none, none, none, none] [] (SH, x.2.2, J) r M') t → (fun (s : (Int32 × Int32 × (Nat → Nat → Int32))) => zRun X d 155 7 [some (.ref 73), some (.int v1), some (.int s.1), some (.int s.2.1)] [] (SH, s.2.2, J) r M') s := zloopR_ok (B := (f155_gives_L7 v1)) (Wh := fun (s : (Int32 × Int32 × (Nat → Nat → Int32))) => zRun X d 155 7 [some (.ref 73), some (.int v1), some (.int s.1), some (.int s.2.1)] [] (SH, s.2.2, J) r M') (Wx := fun (x : (Int32 × Int32 × (Nat → Nat → Int32))) => zRun X d 155 78 [none, none, none, none] [] (SH, x.2.2, J) r M') (Wr := fun (x : (Int32 × (Nat → Nat → Int32))) => r = (some (.int x.1)) ∧ M' = (SH, x.2, J)) (fun s y h w => by
  unfold f155_gives_L7 at h
  refine zr_steps 7 (17, [some (.ref 73), some (.int v1), some (.int s.1), some (.int s.2.1)], [.int v1, .ref 88, .int (61 * v1), .int s.2.1], (SH, s.2.2, J)) rfl ?_
  obtain ⟨hc1, h⟩ := zbifo h
  refine zr_one (bif zin v1 5 then zN 18 [some (.ref 73), some (.int v1), some (.int s.1), some (.int s.2.1)] [.int (s.2.2 88 v1.toNatClampNeg), .int (61 * v1), .int s.2.1] (SH, s.2.2, J) else none) rfl (zR_bif hc1 (zR_go ?_))
  refine zr_steps 1 (19, [some (.ref 73), some (.int v1), some (.int s.1), some (.int s.2.1)], [.int ((61 * v1) + (s.2.2 88 v1.toNatClampNeg)), .int s.2.1], (SH, s.2.2, J)) rfl ?_
  refine zr_one (if ((61 * v1) + (s.2.2 88 v1.toNatClampNeg)) ≤ s.2.1 then zN 78 [some (.ref 73), some (.int v1), some (.int s.1), some (.int s.2.1)] [] (SH, s.2.2, J) else zN 22 [some (.ref 73), some (.int v1), some (.int s.1), some (.int s.2.1)] [] (SH, s.2.2, J)) rfl (zR_if (fun hc17 => zR_go ?_) (fun hc17 => zR_go ?_))
  · rw [if_pos hc17] at h
    have he := Option.some.inj h
    subst he
    exact zr_hdr (ls2 := [none, none, none, none]) rfl rfl (show zRun X d 155 78 [none, none, none, none] [] (SH, s.2.2, J) r M' from w)
  · rw [if_neg hc17] at h
    refine zr_steps 3 (27, [some (.ref 73), some (.int v1), some (.int s.1), some (.int s.2.1)], [.int s.2.1, .ref 89], (SH, s.2.2, J)) rfl ?_
    obtain ⟨hc2, h⟩ := zbifo h
    refine zr_one (bif zin s.2.1 305 then zN 28 [some (.ref 73), some (.int v1), some (.int s.1), some (.int s.2.1)] [.int (s.2.2 89 s.2.1.toNatClampNeg)] (SH, s.2.2, J) else none) rfl (zR_bif hc2 (zR_go ?_))
    refine zr_steps 1 (29, [some (.ref 73), some (.int v1), some (.int s.1), some (.int s.2.1)], [.int s.1, .int (s.2.2 89 s.2.1.toNatClampNeg)], (SH, s.2.2, J)) rfl ?_
    refine zr_one (if (s.2.2 89 s.2.1.toNatClampNeg) = s.1 then zN 47 [some (.ref 73), some (.int v1), some (.int s.1), some (.int s.2.1)] [] (SH, s.2.2, J) else zN 32 [some (.ref 73), some (.int v1), some (.int s.1), some (.int s.2.1)] [] (SH, s.2.2, J)) rfl (zR_if (fun hc16 => zR_go ?_) (fun hc16 => zR_go ?_))
    · rw [if_pos hc16] at h
      refine zr_steps 5 (54, [some (.ref 73), some (.int v1), some (.int s.1), some (.int s.2.1)], [.int s.2.1, .ref 89, .int v1, .ref 73], (SH, s.2.2, J)) rfl ?_
      obtain ⟨hc3, h⟩ := zbifo h
      refine zr_one (bif zin s.2.1 305 then zN 55 [some (.ref 73), some (.int v1), some (.int s.1), some (.int s.2.1)] [.int (s.2.2 89 s.2.1.toNatClampNeg), .int v1, .ref 73] (SH, s.2.2, J) else none) rfl (zR_bif hc3 (zR_go ?_))
      refine zr_steps 3 (60, [some (.ref 73), some (.int v1), some (.int s.1), some (.int s.2.1)], [.int s.2.1, .ref 90, .int (s.2.2 89 s.2.1.toNatClampNeg), .int v1, .ref 73], (SH, s.2.2, J)) rfl ?_
      obtain ⟨hc4, h⟩ := zbifo h
      refine zr_one (bif zin s.2.1 305 then zN 61 [some (.ref 73), some (.int v1), some (.int s.1), some (.int s.2.1)] [.int (s.2.2 90 s.2.1.toNatClampNeg), .int (s.2.2 89 s.2.1.toNatClampNeg), .int v1, .ref 73] (SH, s.2.2, J) else none) rfl (zR_bif hc4 (zR_go ?_))
      obtain ⟨t6, hc5, h⟩ := zbind h
      refine zr_one (some (.inr (.inl (154, [.ref 73, .int v1, .int (s.2.2 89 s.2.1.toNatClampNeg), .int (s.2.2 90 s.2.1.toNatClampNeg)], [], 64)))) rfl (zR_call (by omega) rfl (ok_f154_worked (by omega) v1 (s.2.2 89 s.2.1.toNatClampNeg) (s.2.2 90 s.2.1.toNatClampNeg) _ hc5) ?_)
      have he := Option.some.inj h
      subst he
      obtain ⟨e1, e2⟩ := (show r = (some (.int t6.1)) ∧ M' = (SH, t6.2, J) from w)
      exact zr_one (some (.inr (.inr (some (.int t6.1))))) rfl (zR_ret e1.symm e2.symm)
    · rw [if_neg hc16] at h
      refine zr_steps 6 (40, [some (.ref 73), some (.int v1), some (.int s.1), some (.int s.2.1)], [.int s.2.1, .ref 89, .int s.1, .int v1, .ref 73], (SH, s.2.2, J)) rfl ?_
      obtain ⟨hc7, h⟩ := zbifo h
      refine zr_one (bif zin s.2.1 305 then zN 41 [some (.ref 73), some (.int v1), some (.int s.1), some (.int s.2.1)] [.int (s.2.2 89 s.2.1.toNatClampNeg), .int s.1, .int v1, .ref 73] (SH, s.2.2, J) else none) rfl (zR_bif hc7 (zR_go ?_))
      obtain ⟨t9, hc8, h⟩ := zbind h
      refine zr_one (some (.inr (.inl (154, [.ref 73, .int v1, .int s.1, .int (s.2.2 89 s.2.1.toNatClampNeg)], [], 44)))) rfl (zR_call (by omega) rfl (ok_f154_worked (by omega) v1 s.1 (s.2.2 89 s.2.1.toNatClampNeg) _ hc8) ?_)
      refine zr_one (if t9.1 = 0 then zN 65 [some (.ref 73), some (.int v1), some (.int s.1), some (.int s.2.1)] [] (SH, t9.2, J) else zN 47 [some (.ref 73), some (.int v1), some (.int s.1), some (.int s.2.1)] [] (SH, t9.2, J)) rfl (zR_if (fun hc15 => zR_go ?_) (fun hc15 => zR_go ?_))
      · rw [if_pos hc15] at h
        refine zr_steps 3 (70, [some (.ref 73), some (.int v1), some (.int s.1), some (.int s.2.1)], [.int s.2.1, .ref 90], (SH, t9.2, J)) rfl ?_
        obtain ⟨hc10, h⟩ := zbifo h
        refine zr_one (bif zin s.2.1 305 then zN 71 [some (.ref 73), some (.int v1), some (.int s.1), some (.int s.2.1)] [.int (t9.2 90 s.2.1.toNatClampNeg)] (SH, t9.2, J) else none) rfl (zR_bif hc10 (zR_go ?_))
        refine zr_steps 3 (7, [some (.ref 73), some (.int v1), some (.int (t9.2 90 s.2.1.toNatClampNeg)), some (.int (s.2.1 + 1))], [], (SH, t9.2, J)) rfl ?_
        have he := Option.some.inj h
        subst he
        exact zr_hdr (ls2 := [some (.ref 73), some (.int v1), some (.int (t9.2 90 s.2.1.toNatClampNeg)), some (.int (s.2.1 + 1))]) rfl rfl (show zRun X d 155 7 [some (.ref 73), some (.int v1), some (.int (t9.2 90 s.2.1.toNatClampNeg)), some (.int (s.2.1 + 1))] [] (SH, t9.2, J) r M' from w)
      · rw [if_neg hc15] at h
        refine zr_steps 5 (54, [some (.ref 73), some (.int v1), some (.int s.1), some (.int s.2.1)], [.int s.2.1, .ref 89, .int v1, .ref 73], (SH, t9.2, J)) rfl ?_
        obtain ⟨hc11, h⟩ := zbifo h
        refine zr_one (bif zin s.2.1 305 then zN 55 [some (.ref 73), some (.int v1), some (.int s.1), some (.int s.2.1)] [.int (t9.2 89 s.2.1.toNatClampNeg), .int v1, .ref 73] (SH, t9.2, J) else none) rfl (zR_bif hc11 (zR_go ?_))
        refine zr_steps 3 (60, [some (.ref 73), some (.int v1), some (.int s.1), some (.int s.2.1)], [.int s.2.1, .ref 90, .int (t9.2 89 s.2.1.toNatClampNeg), .int v1, .ref 73], (SH, t9.2, J)) rfl ?_
        obtain ⟨hc12, h⟩ := zbifo h
        refine zr_one (bif zin s.2.1 305 then zN 61 [some (.ref 73), some (.int v1), some (.int s.1), some (.int s.2.1)] [.int (t9.2 90 s.2.1.toNatClampNeg), .int (t9.2 89 s.2.1.toNatClampNeg), .int v1, .ref 73] (SH, t9.2, J) else none) rfl (zR_bif hc12 (zR_go ?_))
        obtain ⟨t14, hc13, h⟩ := zbind h
        refine zr_one (some (.inr (.inl (154, [.ref 73, .int v1, .int (t9.2 89 s.2.1.toNatClampNeg), .int (t9.2 90 s.2.1.toNatClampNeg)], [], 64)))) rfl (zR_call (by omega) rfl (ok_f154_worked (by omega) v1 (t9.2 89 s.2.1.toNatClampNeg) (t9.2 90 s.2.1.toNatClampNeg) _ hc13) ?_)
        have he := Option.some.inj h
        subst he
        obtain ⟨e1, e2⟩ := (show r = (some (.int t14.1)) ∧ M' = (SH, t14.2, J) from w)
        exact zr_one (some (.inr (.inr (some (.int t14.1))))) rfl (zR_ret e1.symm e2.symm))
set_option maxRecDepth 100000 in
set_option maxHeartbeats 4000000 in
theorem ok_f155_gives {X : zX} {d : Nat} (hd : 2 ≤ d) (v1 : Int32) {I : (Nat → Nat → Int32)} {J : (Nat → Nat → Int64)} (t : (Int32 × (Nat → Nat → Int32))) (h : f155_gives v1 I = some t) : zRun X d 155 0 (zent 155 [.ref 73, .int v1]) [] (SH, I, J) (some (.int t.1)) (SH, t.2, J) := by
  unfold f155_gives at h
  refine zr_steps 6 (7, [some (.ref 73), some (.int v1), some (.int 0), some (.int (61 * v1))], [], (SH, I, J)) rfl ?_
  obtain ⟨y20, ho19, hy⟩ := zbRe h
  refine zr_hdr (ls2 := [some (.ref 73), some (.int v1), some (.int 0), some (.int (61 * v1))]) rfl rfl ?_
  refine ok_f155_gives_L7 (by omega) v1 5000 ((0 : Int32), (61 * v1), I) y20 ho19 ?_
  rcases hy with ⟨rr, rfl, h⟩ | ⟨s18, rfl, h⟩
  · have he := Option.some.inj h
    subst he
    exact ⟨rfl, rfl⟩
  · show zRun X d 155 78 [none, none, none, none] [] (SH, s18.2.2, J) _ _
    refine zr_steps 1 (79, [none, none, none, none], [.int 0], (SH, s18.2.2, J)) rfl ?_
    have he := Option.some.inj h
    subst he
    exact zr_one (some (.inr (.inr (some (.int 0))))) rfl (zR_ret rfl rfl)
set_option maxRecDepth 100000 in
set_option maxHeartbeats 4000000 in
theorem ok_f168_goal_L60 {X : zX} {d : Nat} {r : Option Value} {M' : zM} (hd : 3 ≤ d) (v1 : Int32) (v2 : Int32) {I : (Nat → Nat → Int32)} {J : (Nat → Nat → Int64)} : ∀ (n : Nat) (s : Int32) (t : (Int32 × (Nat → Nat → Int32)) ⊕ Int32), zloopR (f168_goal_L60 v1 v2 I) n s = some t → zSumE (fun (x : (Int32 × (Nat → Nat → Int32))) => r = (some (.int x.1)) ∧ M' = (SH, x.2, J)) (fun (x : Int32) => zRun X d 168 94 [none, none, some (.int v2), none, none, none, none, none, none] [] (SH, I, J) r M') t → (fun (s : Int32) => zRun X d 168 60 [some (.ref 73), some (.int v1), some (.int v2), none, none, none, some (.int s), none, none] [] (SH, I, J) r M') s := zloopR_ok (B := (f168_goal_L60 v1 v2 I)) (Wh := fun (s : Int32) => zRun X d 168 60 [some (.ref 73), some (.int v1), some (.int v2), none, none, none, some (.int s), none, none] [] (SH, I, J) r M') (Wx := fun (x : Int32) => zRun X d 168 94 [none, none, some (.int v2), none, none, none, none, none, none] [] (SH, I, J) r M') (Wr := fun (x : (Int32 × (Nat → Nat → Int32))) => r = (some (.int x.1)) ∧ M' = (SH, x.2, J)) (fun s y h w => by
  unfold f168_goal_L60 at h
  refine zr_steps 3 (66, [some (.ref 73), some (.int v1), some (.int v2), none, none, none, some (.int s), none, none], [.int (I 73 1), .int s], (SH, I, J)) rfl ?_
  refine zr_one (if (I 73 1) ≤ s then zN 94 [some (.ref 73), some (.int v1), some (.int v2), none, none, none, some (.int s), none, none] [] (SH, I, J) else zN 69 [some (.ref 73), some (.int v1), some (.int v2), none, none, none, some (.int s), none, none] [] (SH, I, J)) rfl (zR_if (fun hc7 => zR_go ?_) (fun hc7 => zR_go ?_))
  · rw [if_pos hc7] at h
    have he := Option.some.inj h
    subst he
    exact zr_hdr (ls2 := [none, none, some (.int v2), none, none, none, none, none, none]) rfl rfl (show zRun X d 168 94 [none, none, some (.int v2), none, none, none, none, none, none] [] (SH, I, J) r M' from w)
  · rw [if_neg hc7] at h
    refine zr_steps 3 (75, [some (.ref 73), some (.int v1), some (.int v2), none, none, none, some (.int s), none, none], [.int s, .ref 75], (SH, I, J)) rfl ?_
    obtain ⟨hc4, h⟩ := zbifo h
    refine zr_one (bif zin s 4 then zN 76 [some (.ref 73), some (.int v1), some (.int v2), none, none, none, some (.int s), none, none] [.int (I 75 s.toNatClampNeg)] (SH, I, J) else none) rfl (zR_bif hc4 (zR_go ?_))
    refine zr_steps 3 (81, [some (.ref 73), some (.int v1), some (.int v2), none, none, none, some (.int s), none, none], [.int v1, .ref 81, .int (I 75 s.toNatClampNeg)], (SH, I, J)) rfl ?_
    obtain ⟨hc5, h⟩ := zbifo h
    refine zr_one (bif zin v1 8 then zN 82 [some (.ref 73), some (.int v1), some (.int v2), none, none, none, some (.int s), none, none] [.int (I 81 v1.toNatClampNeg), .int (I 75 s.toNatClampNeg)] (SH, I, J) else none) rfl (zR_bif hc5 (zR_go ?_))
    refine zr_one (if (I 75 s.toNatClampNeg) = (I 81 v1.toNatClampNeg) then zN 85 [some (.ref 73), some (.int v1), some (.int v2), none, none, none, some (.int s), none, none] [] (SH, I, J) else zN 88 [some (.ref 73), some (.int v1), some (.int v2), none, none, none, some (.int s), none, none] [] (SH, I, J)) rfl (zR_if (fun hc6 => zR_go ?_) (fun hc6 => zR_go ?_))
    · rw [if_pos hc6] at h
      refine zr_steps 1 (87, [some (.ref 73), some (.int v1), some (.int v2), none, none, none, some (.int s), none, none], [.int s], (SH, I, J)) rfl ?_
      have he := Option.some.inj h
      subst he
      obtain ⟨e1, e2⟩ := (show r = (some (.int s)) ∧ M' = (SH, I, J) from w)
      exact zr_one (some (.inr (.inr (some (.int s))))) rfl (zR_ret e1.symm e2.symm)
    · rw [if_neg hc6] at h
      refine zr_steps 2 (60, [some (.ref 73), some (.int v1), some (.int v2), none, none, none, some (.int (s + 1)), none, none], [], (SH, I, J)) rfl ?_
      have he := Option.some.inj h
      subst he
      exact zr_hdr (ls2 := [some (.ref 73), some (.int v1), some (.int v2), none, none, none, some (.int (s + 1)), none, none]) rfl rfl (show zRun X d 168 60 [some (.ref 73), some (.int v1), some (.int v2), none, none, none, some (.int (s + 1)), none, none] [] (SH, I, J) r M' from w))
set_option maxRecDepth 100000 in
set_option maxHeartbeats 4000000 in
theorem ok_f168_goal_L122 {X : zX} {d : Nat} {r : Option Value} {M' : zM} (hd : 3 ≤ d) (v1 : Int32) (v2 : Int32) (v4 : Int32) (v5 : Int32) (v6 : Int32) {I : (Nat → Nat → Int32)} {J : (Nat → Nat → Int64)} : ∀ (n : Nat) (s x : (Int32 × Int32)), zloop (f168_goal_L122 v1 v2 v4 v5 v6 I) n s = some x → (fun (x : (Int32 × Int32)) => zRun X d 168 168 [some (.ref 73), some (.int v1), some (.int v2), none, some (.int v4), some (.int v5), some (.int v6), some (.int x.1), none] [] (SH, I, J) r M') x → (fun (s : (Int32 × Int32)) => zRun X d 168 122 [some (.ref 73), some (.int v1), some (.int v2), none, some (.int v4), some (.int v5), some (.int v6), some (.int s.1), some (.int s.2)] [] (SH, I, J) r M') s := zloop_ok (B := (f168_goal_L122 v1 v2 v4 v5 v6 I)) (Wh := fun (s : (Int32 × Int32)) => zRun X d 168 122 [some (.ref 73), some (.int v1), some (.int v2), none, some (.int v4), some (.int v5), some (.int v6), some (.int s.1), some (.int s.2)] [] (SH, I, J) r M') (Wx := fun (x : (Int32 × Int32)) => zRun X d 168 168 [some (.ref 73), some (.int v1), some (.int v2), none, some (.int v4), some (.int v5), some (.int v6), some (.int x.1), none] [] (SH, I, J) r M') (fun s y h w => by
  unfold f168_goal_L122 at h
  refine zr_steps 3 (128, [some (.ref 73), some (.int v1), some (.int v2), none, some (.int v4), some (.int v5), some (.int v6), some (.int s.1), some (.int s.2)], [.int (I 73 1), .int s.2], (SH, I, J)) rfl ?_
  refine zr_one (if (I 73 1) ≤ s.2 then zN 168 [some (.ref 73), some (.int v1), some (.int v2), none, some (.int v4), some (.int v5), some (.int v6), some (.int s.1), some (.int s.2)] [] (SH, I, J) else zN 131 [some (.ref 73), some (.int v1), some (.int v2), none, some (.int v4), some (.int v5), some (.int v6), some (.int s.1), some (.int s.2)] [] (SH, I, J)) rfl (zR_if (fun hc14 => zR_go ?_) (fun hc14 => zR_go ?_))
  · rw [if_pos hc14] at h
    have he := Option.some.inj h
    subst he
    exact zr_hdr (ls2 := [some (.ref 73), some (.int v1), some (.int v2), none, some (.int v4), some (.int v5), some (.int v6), some (.int s.1), none]) rfl rfl (show zRun X d 168 168 [some (.ref 73), some (.int v1), some (.int v2), none, some (.int v4), some (.int v5), some (.int v6), some (.int s.1), none] [] (SH, I, J) r M' from w)
  · rw [if_neg hc14] at h
    refine zr_steps 7 (142, [some (.ref 73), some (.int v1), some (.int v2), none, some (.int v4), some (.int v5), some (.int v6), some (.int s.1), some (.int s.2)], [.int ((4 * v6) + s.2), .ref 101], (SH, I, J)) rfl ?_
    obtain ⟨hc11, h⟩ := zbifo h
    refine zr_one (bif zin ((4 * v6) + s.2) 240 then zN 143 [some (.ref 73), some (.int v1), some (.int v2), none, some (.int v4), some (.int v5), some (.int v6), some (.int s.1), some (.int s.2)] [.int (I 101 ((4 * v6) + s.2).toNatClampNeg)] (SH, I, J) else none) rfl (zR_bif hc11 (zR_go ?_))
    refine zr_steps 7 (154, [some (.ref 73), some (.int v1), some (.int v2), none, some (.int v4), some (.int v5), some (.int v6), some (.int s.1), some (.int s.2)], [.int ((4 * v6) + s.1), .ref 101, .int (I 101 ((4 * v6) + s.2).toNatClampNeg)], (SH, I, J)) rfl ?_
    obtain ⟨hc12, h⟩ := zbifo h
    refine zr_one (bif zin ((4 * v6) + s.1) 240 then zN 155 [some (.ref 73), some (.int v1), some (.int v2), none, some (.int v4), some (.int v5), some (.int v6), some (.int s.1), some (.int s.2)] [.int (I 101 ((4 * v6) + s.1).toNatClampNeg), .int (I 101 ((4 * v6) + s.2).toNatClampNeg)] (SH, I, J) else none) rfl (zR_bif hc12 (zR_go ?_))
    refine zr_one (if (I 101 ((4 * v6) + s.2).toNatClampNeg) ≤ (I 101 ((4 * v6) + s.1).toNatClampNeg) then zN 162 [some (.ref 73), some (.int v1), some (.int v2), none, some (.int v4), some (.int v5), some (.int v6), some (.int s.1), some (.int s.2)] [] (SH, I, J) else zN 158 [some (.ref 73), some (.int v1), some (.int v2), none, some (.int v4), some (.int v5), some (.int v6), some (.int s.1), some (.int s.2)] [] (SH, I, J)) rfl (zR_if (fun hc13 => zR_go ?_) (fun hc13 => zR_go ?_))
    · rw [if_pos hc13] at h
      refine zr_steps 2 (122, [some (.ref 73), some (.int v1), some (.int v2), none, some (.int v4), some (.int v5), some (.int v6), some (.int s.1), some (.int (s.2 + 1))], [], (SH, I, J)) rfl ?_
      have he := Option.some.inj h
      subst he
      exact zr_hdr (ls2 := [some (.ref 73), some (.int v1), some (.int v2), none, some (.int v4), some (.int v5), some (.int v6), some (.int s.1), some (.int (s.2 + 1))]) rfl rfl (show zRun X d 168 122 [some (.ref 73), some (.int v1), some (.int v2), none, some (.int v4), some (.int v5), some (.int v6), some (.int s.1), some (.int (s.2 + 1))] [] (SH, I, J) r M' from w)
    · rw [if_neg hc13] at h
      refine zr_steps 4 (122, [some (.ref 73), some (.int v1), some (.int v2), none, some (.int v4), some (.int v5), some (.int v6), some (.int s.2), some (.int (s.2 + 1))], [], (SH, I, J)) rfl ?_
      have he := Option.some.inj h
      subst he
      exact zr_hdr (ls2 := [some (.ref 73), some (.int v1), some (.int v2), none, some (.int v4), some (.int v5), some (.int v6), some (.int s.2), some (.int (s.2 + 1))]) rfl rfl (show zRun X d 168 122 [some (.ref 73), some (.int v1), some (.int v2), none, some (.int v4), some (.int v5), some (.int v6), some (.int s.2), some (.int (s.2 + 1))] [] (SH, I, J) r M' from w))
set_option maxRecDepth 100000 in
set_option maxHeartbeats 4000000 in
theorem ok_f168_goal {X : zX} {d : Nat} (hd : 3 ≤ d) (v1 : Int32) (v2 : Int32) (v3 : Int32) (v4 : Int32) {I : (Nat → Nat → Int32)} {J : (Nat → Nat → Int64)} (t : (Int32 × (Nat → Nat → Int32))) (h : f168_goal v1 v2 v3 v4 I = some t) : zRun X d 168 0 (zent 168 [.ref 73, .int v1, .int v2, .int v3, .int v4]) [] (SH, I, J) (some (.int t.1)) (SH, t.2, J) := by
  unfold f168_goal at h
  refine zr_steps 3 (5, [some (.ref 73), some (.int v1), some (.int v2), some (.int v3), some (.int v4), none, none, none, none], [.int (I 73 47), .int v1], (SH, I, J)) rfl ?_
  refine zr_one (if v1 = (I 73 47) then zN 8 [some (.ref 73), some (.int v1), some (.int v2), some (.int v3), some (.int v4), none, none, none, none] [] (SH, I, J) else zN 25 [some (.ref 73), some (.int v1), some (.int v2), some (.int v3), some (.int v4), none, none, none, none] [] (SH, I, J)) rfl (zR_if (fun hc58 => zR_go ?_) (fun hc58 => zR_go ?_))
  · rw [if_pos hc58] at h
    refine zr_steps 3 (13, [some (.ref 73), some (.int v1), some (.int v2), some (.int v3), some (.int v4), none, none, none, none], [.int (I 73 48), .int v3], (SH, I, J)) rfl ?_
    refine zr_one (if (I 73 48) ≤ v3 then zN 20 [some (.ref 73), some (.int v1), some (.int v2), some (.int v3), some (.int v4), none, none, none, none] [] (SH, I, J) else zN 16 [some (.ref 73), some (.int v1), some (.int v2), some (.int v3), some (.int v4), none, none, none, none] [] (SH, I, J)) rfl (zR_if (fun hc1 => zR_go ?_) (fun hc1 => zR_go ?_))
    · rw [if_pos hc1] at h
      refine zr_steps 2 (24, [some (.ref 73), some (.int v1), some (.int v2), some (.int v3), some (.int v4), none, none, none, none], [.int (I 73 49)], (SH, I, J)) rfl ?_
      have he := Option.some.inj h
      subst he
      exact zr_one (some (.inr (.inr (some (.int (I 73 49)))))) rfl (zR_ret rfl rfl)
    · rw [if_neg hc1] at h
      refine zr_steps 2 (24, [some (.ref 73), some (.int v1), some (.int v2), some (.int v3), some (.int v4), none, none, none, none], [.int v2], (SH, I, J)) rfl ?_
      have he := Option.some.inj h
      subst he
      exact zr_one (some (.inr (.inr (some (.int v2))))) rfl (zR_ret rfl rfl)
  · rw [if_neg hc58] at h
    refine zr_steps 3 (30, [some (.ref 73), some (.int v1), some (.int v2), some (.int v3), some (.int v4), none, none, none, none], [.int (I 73 50), .int v1], (SH, I, J)) rfl ?_
    refine zr_one (if v1 = (I 73 50) then zN 33 [some (.ref 73), some (.int v1), some (.int v2), some (.int v3), some (.int v4), none, none, none, none] [] (SH, I, J) else zN 40 [some (.ref 73), some (.int v1), some (.int v2), some (.int v3), some (.int v4), none, none, none, none] [] (SH, I, J)) rfl (zR_if (fun hc57 => zR_go ?_) (fun hc57 => zR_go ?_))
    · rw [if_pos hc57] at h
      refine zr_steps 6 (51, [some (.ref 73), some (.int v1), some (.int v2), some (.int v3), some (.int v4), some (.int (I 73 51)), none, none, none], [.int (I 73 51), .ref 73], (SH, I, J)) rfl ?_
      obtain ⟨t3, hc2, h⟩ := zbind h
      refine zr_one (some (.inr (.inl (156, [.ref 73, .int (I 73 51)], [], 54)))) rfl (zR_call (by omega) rfl (ok_f156_isLaw (by omega) (I 73 51) _ hc2) ?_)
      refine zr_one (if t3 = 0 then zN 57 [some (.ref 73), some (.int v1), some (.int v2), some (.int v3), some (.int v4), some (.int (I 73 51)), none, none, none] [] (SH, I, J) else zN 96 [some (.ref 73), some (.int v1), some (.int v2), some (.int v3), some (.int v4), some (.int (I 73 51)), none, none, none] [] (SH, I, J)) rfl (zR_if (fun hc32 => zR_go ?_) (fun hc32 => zR_go ?_))
      · rw [if_pos hc32] at h
        refine zr_steps 2 (60, [some (.ref 73), some (.int v1), some (.int v2), some (.int v3), some (.int v4), some (.int (I 73 51)), some (.int 0), none, none], [], (SH, I, J)) rfl ?_
        obtain ⟨y10, ho9, hy⟩ := zbRe h
        refine zr_hdr (ls2 := [some (.ref 73), some (.int v1), some (.int v2), none, none, none, some (.int 0), none, none]) rfl rfl ?_
        refine ok_f168_goal_L60 (by omega) v1 v2 5000 (0 : Int32) y10 ho9 ?_
        rcases hy with ⟨rr, rfl, h⟩ | ⟨s8, rfl, h⟩
        · have he := Option.some.inj h
          subst he
          exact ⟨rfl, rfl⟩
        · show zRun X d 168 94 [none, none, some (.int v2), none, none, none, none, none, none] [] (SH, I, J) _ _
          refine zr_steps 1 (95, [none, none, some (.int v2), none, none, none, none, none, none], [.int v2], (SH, I, J)) rfl ?_
          have he := Option.some.inj h
          subst he
          exact zr_one (some (.inr (.inr (some (.int v2))))) rfl (zR_ret rfl rfl)
      · rw [if_neg hc32] at h
        refine zr_steps 3 (101, [some (.ref 73), some (.int v1), some (.int v2), some (.int v3), some (.int v4), some (.int (I 73 51)), none, none, none], [.int (I 73 16), .int v3], (SH, I, J)) rfl ?_
        refine zr_one (if (I 73 16) ≤ v3 then zN 108 [some (.ref 73), some (.int v1), some (.int v2), some (.int v3), some (.int v4), some (.int (I 73 51)), none, none, none] [] (SH, I, J) else zN 104 [some (.ref 73), some (.int v1), some (.int v2), some (.int v3), some (.int v4), some (.int (I 73 51)), none, none, none] [] (SH, I, J)) rfl (zR_if (fun hc31 => zR_go ?_) (fun hc31 => zR_go ?_))
        · rw [if_pos hc31] at h
          refine zr_steps 9 (122, [some (.ref 73), some (.int v1), some (.int v2), some (.int v3), some (.int v4), some (.int (I 73 51)), some (.int (v3 - (I 73 16))), some (.int 0), some (.int 1)], [], (SH, I, J)) rfl ?_
          obtain ⟨s15, ho16, h⟩ := zbind h
          refine zr_hdr (ls2 := [some (.ref 73), some (.int v1), some (.int v2), none, some (.int v4), some (.int (I 73 51)), some (.int (v3 - (I 73 16))), some (.int 0), some (.int 1)]) rfl rfl ?_
          refine ok_f168_goal_L122 (by omega) v1 v2 v4 (I 73 51) (v3 - (I 73 16)) 5000 ((0 : Int32), (1 : Int32)) s15 ho16 ?_
          show zRun X d 168 168 [some (.ref 73), some (.int v1), some (.int v2), none, some (.int v4), some (.int (I 73 51)), some (.int (v3 - (I 73 16))), some (.int s15.1), none] [] (SH, I, J) _ _
          refine zr_steps 4 (175, [some (.ref 73), some (.int v1), some (.int v2), none, some (.int v4), some (.int (I 73 51)), some (.int (v3 - (I 73 16))), some (.int s15.1), none], [.int v4, .int 0, .ref 91], (SH, I, J)) rfl ?_
          refine zr_one (bif zin 0 8 then zN 176 [some (.ref 73), some (.int v1), some (.int v2), none, some (.int v4), some (.int (I 73 51)), some (.int (v3 - (I 73 16))), some (.int s15.1), none] [] (SH, (zu I 91 0 v4), J) else none) rfl (zR_bif (by decide) (zR_go ?_))
          refine zr_steps 4 (182, [some (.ref 73), some (.int v1), some (.int v2), none, some (.int v4), some (.int (I 73 51)), some (.int (v3 - (I 73 16))), some (.int s15.1), none], [.int v1, .int 1, .ref 91], (SH, (zu I 91 0 v4), J)) rfl ?_
          refine zr_one (bif zin 1 8 then zN 183 [some (.ref 73), some (.int v1), some (.int v2), none, some (.int v4), some (.int (I 73 51)), some (.int (v3 - (I 73 16))), some (.int s15.1), none] [] (SH, (zu (zu I 91 0 v4) 91 1 v1), J) else none) rfl (zR_bif (by decide) (zR_go ?_))
          refine zr_steps 6 (193, [some (.ref 73), some (.int v1), some (.int v2), none, some (.int v4), some (.int (I 73 51)), some (.int (v3 - (I 73 16))), some (.int s15.1), none], [.int v1, .ref 81, .int 2, .ref 91], (SH, (zu (zu I 91 0 v4) 91 1 v1), J)) rfl ?_
          obtain ⟨hc17, h⟩ := zbifo h
          refine zr_one (bif zin v1 8 then zN 194 [some (.ref 73), some (.int v1), some (.int v2), none, some (.int v4), some (.int (I 73 51)), some (.int (v3 - (I 73 16))), some (.int s15.1), none] [.int (I 81 v1.toNatClampNeg), .int 2, .ref 91] (SH, (zu (zu I 91 0 v4) 91 1 v1), J) else none) rfl (zR_bif hc17 (zR_go ?_))
          refine zr_one (bif zin 2 8 then zN 195 [some (.ref 73), some (.int v1), some (.int v2), none, some (.int v4), some (.int (I 73 51)), some (.int (v3 - (I 73 16))), some (.int s15.1), none] [] (SH, (zu (zu (zu I 91 0 v4) 91 1 v1) 91 2 (I 81 v1.toNatClampNeg)), J) else none) rfl (zR_bif (by decide) (zR_go ?_))
          refine zr_steps 4 (201, [some (.ref 73), some (.int v1), some (.int v2), none, some (.int v4), some (.int (I 73 51)), some (.int (v3 - (I 73 16))), some (.int s15.1), none], [.int v2, .int 3, .ref 91], (SH, (zu (zu (zu I 91 0 v4) 91 1 v1) 91 2 (I 81 v1.toNatClampNeg)), J)) rfl ?_
          refine zr_one (bif zin 3 8 then zN 202 [some (.ref 73), some (.int v1), some (.int v2), none, some (.int v4), some (.int (I 73 51)), some (.int (v3 - (I 73 16))), some (.int s15.1), none] [] (SH, (zu (zu (zu (zu I 91 0 v4) 91 1 v1) 91 2 (I 81 v1.toNatClampNeg)) 91 3 v2), J) else none) rfl (zR_bif (by decide) (zR_go ?_))
          refine zr_steps 10 (217, [some (.ref 73), some (.int v1), some (.int v2), none, some (.int v4), some (.int (I 73 51)), some (.int (v3 - (I 73 16))), some (.int s15.1), none], [.int ((8 * v2) + v1), .ref 97, .int 4, .ref 91], (SH, (zu (zu (zu (zu I 91 0 v4) 91 1 v1) 91 2 (I 81 v1.toNatClampNeg)) 91 3 v2), J)) rfl ?_
          obtain ⟨hc18, h⟩ := zbifo h
          refine zr_one (bif zin ((8 * v2) + v1) 32 then zN 218 [some (.ref 73), some (.int v1), some (.int v2), none, some (.int v4), some (.int (I 73 51)), some (.int (v3 - (I 73 16))), some (.int s15.1), none] [.int (I 97 ((8 * v2) + v1).toNatClampNeg), .int 4, .ref 91] (SH, (zu (zu (zu (zu I 91 0 v4) 91 1 v1) 91 2 (I 81 v1.toNatClampNeg)) 91 3 v2), J) else none) rfl (zR_bif hc18 (zR_go ?_))
          refine zr_one (bif zin 4 8 then zN 219 [some (.ref 73), some (.int v1), some (.int v2), none, some (.int v4), some (.int (I 73 51)), some (.int (v3 - (I 73 16))), some (.int s15.1), none] [] (SH, (zu (zu (zu (zu (zu I 91 0 v4) 91 1 v1) 91 2 (I 81 v1.toNatClampNeg)) 91 3 v2) 91 4 (I 97 ((8 * v2) + v1).toNatClampNeg)), J) else none) rfl (zR_bif (by decide) (zR_go ?_))
          refine zr_steps 4 (226, [some (.ref 73), some (.int v1), some (.int v2), none, some (.int v4), some (.int (I 73 51)), some (.int (v3 - (I 73 16))), some (.int s15.1), none], [.int s15.1, .int 5, .ref 91], (SH, (zu (zu (zu (zu (zu I 91 0 v4) 91 1 v1) 91 2 (I 81 v1.toNatClampNeg)) 91 3 v2) 91 4 (I 97 ((8 * v2) + v1).toNatClampNeg)), J)) rfl ?_
          refine zr_one (bif zin 5 8 then zN 227 [some (.ref 73), some (.int v1), some (.int v2), none, some (.int v4), some (.int (I 73 51)), some (.int (v3 - (I 73 16))), some (.int s15.1), none] [] (SH, (zu (zu (zu (zu (zu (zu I 91 0 v4) 91 1 v1) 91 2 (I 81 v1.toNatClampNeg)) 91 3 v2) 91 4 (I 97 ((8 * v2) + v1).toNatClampNeg)) 91 5 s15.1), J) else none) rfl (zR_bif (by decide) (zR_go ?_))
          refine zr_steps 10 (244, [some (.ref 73), some (.int v1), some (.int v2), none, some (.int v4), some (.int (I 73 51)), some (.int (v3 - (I 73 16))), some (.int s15.1), none], [.int ((4 * (v3 - (I 73 16))) + s15.1), .ref 101, .int 6, .ref 91], (SH, (zu (zu (zu (zu (zu (zu I 91 0 v4) 91 1 v1) 91 2 (I 81 v1.toNatClampNeg)) 91 3 v2) 91 4 (I 97 ((8 * v2) + v1).toNatClampNeg)) 91 5 s15.1), J)) rfl ?_
          obtain ⟨hc19, h⟩ := zbifo h
          refine zr_one (bif zin ((4 * (v3 - (I 73 16))) + s15.1) 240 then zN 245 [some (.ref 73), some (.int v1), some (.int v2), none, some (.int v4), some (.int (I 73 51)), some (.int (v3 - (I 73 16))), some (.int s15.1), none] [.int (I 101 ((4 * (v3 - (I 73 16))) + s15.1).toNatClampNeg), .int 6, .ref 91] (SH, (zu (zu (zu (zu (zu (zu I 91 0 v4) 91 1 v1) 91 2 (I 81 v1.toNatClampNeg)) 91 3 v2) 91 4 (I 97 ((8 * v2) + v1).toNatClampNeg)) 91 5 s15.1), J) else none) rfl (zR_bif hc19 (zR_go ?_))
          refine zr_one (bif zin 6 8 then zN 246 [some (.ref 73), some (.int v1), some (.int v2), none, some (.int v4), some (.int (I 73 51)), some (.int (v3 - (I 73 16))), some (.int s15.1), none] [] (SH, (zu (zu (zu (zu (zu (zu (zu I 91 0 v4) 91 1 v1) 91 2 (I 81 v1.toNatClampNeg)) 91 3 v2) 91 4 (I 97 ((8 * v2) + v1).toNatClampNeg)) 91 5 s15.1) 91 6 (I 101 ((4 * (v3 - (I 73 16))) + s15.1).toNatClampNeg)), J) else none) rfl (zR_bif (by decide) (zR_go ?_))
          refine zr_steps 10 (262, [some (.ref 73), some (.int v1), some (.int v2), none, some (.int v4), some (.int (I 73 51)), some (.int (v3 - (I 73 16))), some (.int s15.1), none], [.int ((4 * (v3 - (I 73 16))) + v2), .ref 101, .int 7, .ref 91], (SH, (zu (zu (zu (zu (zu (zu (zu I 91 0 v4) 91 1 v1) 91 2 (I 81 v1.toNatClampNeg)) 91 3 v2) 91 4 (I 97 ((8 * v2) + v1).toNatClampNeg)) 91 5 s15.1) 91 6 (I 101 ((4 * (v3 - (I 73 16))) + s15.1).toNatClampNeg)), J)) rfl ?_
          obtain ⟨hc20, h⟩ := zbifo h
          refine zr_one (bif zin ((4 * (v3 - (I 73 16))) + v2) 240 then zN 263 [some (.ref 73), some (.int v1), some (.int v2), none, some (.int v4), some (.int (I 73 51)), some (.int (v3 - (I 73 16))), some (.int s15.1), none] [.int (I 101 ((4 * (v3 - (I 73 16))) + v2).toNatClampNeg), .int 7, .ref 91] (SH, (zu (zu (zu (zu (zu (zu (zu I 91 0 v4) 91 1 v1) 91 2 (I 81 v1.toNatClampNeg)) 91 3 v2) 91 4 (I 97 ((8 * v2) + v1).toNatClampNeg)) 91 5 s15.1) 91 6 (I 101 ((4 * (v3 - (I 73 16))) + s15.1).toNatClampNeg)), J) else none) rfl (zR_bif hc20 (zR_go ?_))
          refine zr_one (bif zin 7 8 then zN 264 [some (.ref 73), some (.int v1), some (.int v2), none, some (.int v4), some (.int (I 73 51)), some (.int (v3 - (I 73 16))), some (.int s15.1), none] [] (SH, (zu (zu (zu (zu (zu (zu (zu (zu I 91 0 v4) 91 1 v1) 91 2 (I 81 v1.toNatClampNeg)) 91 3 v2) 91 4 (I 97 ((8 * v2) + v1).toNatClampNeg)) 91 5 s15.1) 91 6 (I 101 ((4 * (v3 - (I 73 16))) + s15.1).toNatClampNeg)) 91 7 (I 101 ((4 * (v3 - (I 73 16))) + v2).toNatClampNeg)), J) else none) rfl (zR_bif (by decide) (zR_go ?_))
          refine zr_steps 2 (267, [some (.ref 73), some (.int v1), some (.int v2), none, some (.int v4), some (.int (I 73 51)), some (.int (v3 - (I 73 16))), some (.int s15.1), none], [.int (I 73 51), .ref 73], (SH, (zu (zu (zu (zu (zu (zu (zu (zu I 91 0 v4) 91 1 v1) 91 2 (I 81 v1.toNatClampNeg)) 91 3 v2) 91 4 (I 97 ((8 * v2) + v1).toNatClampNeg)) 91 5 s15.1) 91 6 (I 101 ((4 * (v3 - (I 73 16))) + s15.1).toNatClampNeg)) 91 7 (I 101 ((4 * (v3 - (I 73 16))) + v2).toNatClampNeg)), J)) rfl ?_
          obtain ⟨t22, hc21, h⟩ := zbind h
          refine zr_one (some (.inr (.inl (155, [.ref 73, .int (I 73 51)], [], 270)))) rfl (zR_call (by omega) rfl (ok_f155_gives (by omega) (I 73 51) _ hc21) ?_)
          have he := Option.some.inj h
          subst he
          exact zr_one (some (.inr (.inr (some (.int t22.1))))) rfl (zR_ret rfl rfl)
        · rw [if_neg hc31] at h
          refine zr_steps 7 (122, [some (.ref 73), some (.int v1), some (.int v2), some (.int v3), some (.int v4), some (.int (I 73 51)), some (.int 0), some (.int 0), some (.int 1)], [], (SH, I, J)) rfl ?_
          obtain ⟨s23, ho24, h⟩ := zbind h
          refine zr_hdr (ls2 := [some (.ref 73), some (.int v1), some (.int v2), none, some (.int v4), some (.int (I 73 51)), some (.int 0), some (.int 0), some (.int 1)]) rfl rfl ?_
          refine ok_f168_goal_L122 (by omega) v1 v2 v4 (I 73 51) 0 5000 ((0 : Int32), (1 : Int32)) s23 ho24 ?_
          show zRun X d 168 168 [some (.ref 73), some (.int v1), some (.int v2), none, some (.int v4), some (.int (I 73 51)), some (.int 0), some (.int s23.1), none] [] (SH, I, J) _ _
          refine zr_steps 4 (175, [some (.ref 73), some (.int v1), some (.int v2), none, some (.int v4), some (.int (I 73 51)), some (.int 0), some (.int s23.1), none], [.int v4, .int 0, .ref 91], (SH, I, J)) rfl ?_
          refine zr_one (bif zin 0 8 then zN 176 [some (.ref 73), some (.int v1), some (.int v2), none, some (.int v4), some (.int (I 73 51)), some (.int 0), some (.int s23.1), none] [] (SH, (zu I 91 0 v4), J) else none) rfl (zR_bif (by decide) (zR_go ?_))
          refine zr_steps 4 (182, [some (.ref 73), some (.int v1), some (.int v2), none, some (.int v4), some (.int (I 73 51)), some (.int 0), some (.int s23.1), none], [.int v1, .int 1, .ref 91], (SH, (zu I 91 0 v4), J)) rfl ?_
          refine zr_one (bif zin 1 8 then zN 183 [some (.ref 73), some (.int v1), some (.int v2), none, some (.int v4), some (.int (I 73 51)), some (.int 0), some (.int s23.1), none] [] (SH, (zu (zu I 91 0 v4) 91 1 v1), J) else none) rfl (zR_bif (by decide) (zR_go ?_))
          refine zr_steps 6 (193, [some (.ref 73), some (.int v1), some (.int v2), none, some (.int v4), some (.int (I 73 51)), some (.int 0), some (.int s23.1), none], [.int v1, .ref 81, .int 2, .ref 91], (SH, (zu (zu I 91 0 v4) 91 1 v1), J)) rfl ?_
          obtain ⟨hc25, h⟩ := zbifo h
          refine zr_one (bif zin v1 8 then zN 194 [some (.ref 73), some (.int v1), some (.int v2), none, some (.int v4), some (.int (I 73 51)), some (.int 0), some (.int s23.1), none] [.int (I 81 v1.toNatClampNeg), .int 2, .ref 91] (SH, (zu (zu I 91 0 v4) 91 1 v1), J) else none) rfl (zR_bif hc25 (zR_go ?_))
          refine zr_one (bif zin 2 8 then zN 195 [some (.ref 73), some (.int v1), some (.int v2), none, some (.int v4), some (.int (I 73 51)), some (.int 0), some (.int s23.1), none] [] (SH, (zu (zu (zu I 91 0 v4) 91 1 v1) 91 2 (I 81 v1.toNatClampNeg)), J) else none) rfl (zR_bif (by decide) (zR_go ?_))
          refine zr_steps 4 (201, [some (.ref 73), some (.int v1), some (.int v2), none, some (.int v4), some (.int (I 73 51)), some (.int 0), some (.int s23.1), none], [.int v2, .int 3, .ref 91], (SH, (zu (zu (zu I 91 0 v4) 91 1 v1) 91 2 (I 81 v1.toNatClampNeg)), J)) rfl ?_
          refine zr_one (bif zin 3 8 then zN 202 [some (.ref 73), some (.int v1), some (.int v2), none, some (.int v4), some (.int (I 73 51)), some (.int 0), some (.int s23.1), none] [] (SH, (zu (zu (zu (zu I 91 0 v4) 91 1 v1) 91 2 (I 81 v1.toNatClampNeg)) 91 3 v2), J) else none) rfl (zR_bif (by decide) (zR_go ?_))
          refine zr_steps 10 (217, [some (.ref 73), some (.int v1), some (.int v2), none, some (.int v4), some (.int (I 73 51)), some (.int 0), some (.int s23.1), none], [.int ((8 * v2) + v1), .ref 97, .int 4, .ref 91], (SH, (zu (zu (zu (zu I 91 0 v4) 91 1 v1) 91 2 (I 81 v1.toNatClampNeg)) 91 3 v2), J)) rfl ?_
          obtain ⟨hc26, h⟩ := zbifo h
          refine zr_one (bif zin ((8 * v2) + v1) 32 then zN 218 [some (.ref 73), some (.int v1), some (.int v2), none, some (.int v4), some (.int (I 73 51)), some (.int 0), some (.int s23.1), none] [.int (I 97 ((8 * v2) + v1).toNatClampNeg), .int 4, .ref 91] (SH, (zu (zu (zu (zu I 91 0 v4) 91 1 v1) 91 2 (I 81 v1.toNatClampNeg)) 91 3 v2), J) else none) rfl (zR_bif hc26 (zR_go ?_))
          refine zr_one (bif zin 4 8 then zN 219 [some (.ref 73), some (.int v1), some (.int v2), none, some (.int v4), some (.int (I 73 51)), some (.int 0), some (.int s23.1), none] [] (SH, (zu (zu (zu (zu (zu I 91 0 v4) 91 1 v1) 91 2 (I 81 v1.toNatClampNeg)) 91 3 v2) 91 4 (I 97 ((8 * v2) + v1).toNatClampNeg)), J) else none) rfl (zR_bif (by decide) (zR_go ?_))
          refine zr_steps 4 (226, [some (.ref 73), some (.int v1), some (.int v2), none, some (.int v4), some (.int (I 73 51)), some (.int 0), some (.int s23.1), none], [.int s23.1, .int 5, .ref 91], (SH, (zu (zu (zu (zu (zu I 91 0 v4) 91 1 v1) 91 2 (I 81 v1.toNatClampNeg)) 91 3 v2) 91 4 (I 97 ((8 * v2) + v1).toNatClampNeg)), J)) rfl ?_
          refine zr_one (bif zin 5 8 then zN 227 [some (.ref 73), some (.int v1), some (.int v2), none, some (.int v4), some (.int (I 73 51)), some (.int 0), some (.int s23.1), none] [] (SH, (zu (zu (zu (zu (zu (zu I 91 0 v4) 91 1 v1) 91 2 (I 81 v1.toNatClampNeg)) 91 3 v2) 91 4 (I 97 ((8 * v2) + v1).toNatClampNeg)) 91 5 s23.1), J) else none) rfl (zR_bif (by decide) (zR_go ?_))
          refine zr_steps 10 (244, [some (.ref 73), some (.int v1), some (.int v2), none, some (.int v4), some (.int (I 73 51)), some (.int 0), some (.int s23.1), none], [.int (0 + s23.1), .ref 101, .int 6, .ref 91], (SH, (zu (zu (zu (zu (zu (zu I 91 0 v4) 91 1 v1) 91 2 (I 81 v1.toNatClampNeg)) 91 3 v2) 91 4 (I 97 ((8 * v2) + v1).toNatClampNeg)) 91 5 s23.1), J)) rfl ?_
          obtain ⟨hc27, h⟩ := zbifo h
          refine zr_one (bif zin (0 + s23.1) 240 then zN 245 [some (.ref 73), some (.int v1), some (.int v2), none, some (.int v4), some (.int (I 73 51)), some (.int 0), some (.int s23.1), none] [.int (I 101 (0 + s23.1).toNatClampNeg), .int 6, .ref 91] (SH, (zu (zu (zu (zu (zu (zu I 91 0 v4) 91 1 v1) 91 2 (I 81 v1.toNatClampNeg)) 91 3 v2) 91 4 (I 97 ((8 * v2) + v1).toNatClampNeg)) 91 5 s23.1), J) else none) rfl (zR_bif hc27 (zR_go ?_))
          refine zr_one (bif zin 6 8 then zN 246 [some (.ref 73), some (.int v1), some (.int v2), none, some (.int v4), some (.int (I 73 51)), some (.int 0), some (.int s23.1), none] [] (SH, (zu (zu (zu (zu (zu (zu (zu I 91 0 v4) 91 1 v1) 91 2 (I 81 v1.toNatClampNeg)) 91 3 v2) 91 4 (I 97 ((8 * v2) + v1).toNatClampNeg)) 91 5 s23.1) 91 6 (I 101 (0 + s23.1).toNatClampNeg)), J) else none) rfl (zR_bif (by decide) (zR_go ?_))
          refine zr_steps 10 (262, [some (.ref 73), some (.int v1), some (.int v2), none, some (.int v4), some (.int (I 73 51)), some (.int 0), some (.int s23.1), none], [.int (0 + v2), .ref 101, .int 7, .ref 91], (SH, (zu (zu (zu (zu (zu (zu (zu I 91 0 v4) 91 1 v1) 91 2 (I 81 v1.toNatClampNeg)) 91 3 v2) 91 4 (I 97 ((8 * v2) + v1).toNatClampNeg)) 91 5 s23.1) 91 6 (I 101 (0 + s23.1).toNatClampNeg)), J)) rfl ?_
          obtain ⟨hc28, h⟩ := zbifo h
          refine zr_one (bif zin (0 + v2) 240 then zN 263 [some (.ref 73), some (.int v1), some (.int v2), none, some (.int v4), some (.int (I 73 51)), some (.int 0), some (.int s23.1), none] [.int (I 101 (0 + v2).toNatClampNeg), .int 7, .ref 91] (SH, (zu (zu (zu (zu (zu (zu (zu I 91 0 v4) 91 1 v1) 91 2 (I 81 v1.toNatClampNeg)) 91 3 v2) 91 4 (I 97 ((8 * v2) + v1).toNatClampNeg)) 91 5 s23.1) 91 6 (I 101 (0 + s23.1).toNatClampNeg)), J) else none) rfl (zR_bif hc28 (zR_go ?_))
          refine zr_one (bif zin 7 8 then zN 264 [some (.ref 73), some (.int v1), some (.int v2), none, some (.int v4), some (.int (I 73 51)), some (.int 0), some (.int s23.1), none] [] (SH, (zu (zu (zu (zu (zu (zu (zu (zu I 91 0 v4) 91 1 v1) 91 2 (I 81 v1.toNatClampNeg)) 91 3 v2) 91 4 (I 97 ((8 * v2) + v1).toNatClampNeg)) 91 5 s23.1) 91 6 (I 101 (0 + s23.1).toNatClampNeg)) 91 7 (I 101 (0 + v2).toNatClampNeg)), J) else none) rfl (zR_bif (by decide) (zR_go ?_))
          refine zr_steps 2 (267, [some (.ref 73), some (.int v1), some (.int v2), none, some (.int v4), some (.int (I 73 51)), some (.int 0), some (.int s23.1), none], [.int (I 73 51), .ref 73], (SH, (zu (zu (zu (zu (zu (zu (zu (zu I 91 0 v4) 91 1 v1) 91 2 (I 81 v1.toNatClampNeg)) 91 3 v2) 91 4 (I 97 ((8 * v2) + v1).toNatClampNeg)) 91 5 s23.1) 91 6 (I 101 (0 + s23.1).toNatClampNeg)) 91 7 (I 101 (0 + v2).toNatClampNeg)), J)) rfl ?_
          obtain ⟨t30, hc29, h⟩ := zbind h
          refine zr_one (some (.inr (.inl (155, [.ref 73, .int (I 73 51)], [], 270)))) rfl (zR_call (by omega) rfl (ok_f155_gives (by omega) (I 73 51) _ hc29) ?_)
          have he := Option.some.inj h
          subst he
          exact zr_one (some (.inr (.inr (some (.int t30.1))))) rfl (zR_ret rfl rfl)
    · rw [if_neg hc57] at h
      refine zr_steps 3 (45, [some (.ref 73), some (.int v1), some (.int v2), some (.int v3), some (.int v4), none, none, none, none], [.int v1, .ref 84], (SH, I, J)) rfl ?_
      obtain ⟨hc33, h⟩ := zbifo h
      refine zr_one (bif zin v1 8 then zN 46 [some (.ref 73), some (.int v1), some (.int v2), some (.int v3), some (.int v4), none, none, none, none] [.int (I 84 v1.toNatClampNeg)] (SH, I, J) else none) rfl (zR_bif hc33 (zR_go ?_))
      refine zr_steps 3 (51, [some (.ref 73), some (.int v1), some (.int v2), some (.int v3), some (.int v4), some (.int (I 84 v1.toNatClampNeg)), none, none, none], [.int (I 84 v1.toNatClampNeg), .ref 73], (SH, I, J)) rfl ?_
      obtain ⟨t35, hc34, h⟩ := zbind h
      refine zr_one (some (.inr (.inl (156, [.ref 73, .int (I 84 v1.toNatClampNeg)], [], 54)))) rfl (zR_call (by omega) rfl (ok_f156_isLaw (by omega) (I 84 v1.toNatClampNeg) _ hc34) ?_)
      refine zr_one (if t35 = 0 then zN 57 [some (.ref 73), some (.int v1), some (.int v2), some (.int v3), some (.int v4), some (.int (I 84 v1.toNatClampNeg)), none, none, none] [] (SH, I, J) else zN 96 [some (.ref 73), some (.int v1), some (.int v2), some (.int v3), some (.int v4), some (.int (I 84 v1.toNatClampNeg)), none, none, none] [] (SH, I, J)) rfl (zR_if (fun hc56 => zR_go ?_) (fun hc56 => zR_go ?_))
      · rw [if_pos hc56] at h
        refine zr_steps 2 (60, [some (.ref 73), some (.int v1), some (.int v2), some (.int v3), some (.int v4), some (.int (I 84 v1.toNatClampNeg)), some (.int 0), none, none], [], (SH, I, J)) rfl ?_
        obtain ⟨y38, ho37, hy⟩ := zbRe h
        refine zr_hdr (ls2 := [some (.ref 73), some (.int v1), some (.int v2), none, none, none, some (.int 0), none, none]) rfl rfl ?_
        refine ok_f168_goal_L60 (by omega) v1 v2 5000 (0 : Int32) y38 ho37 ?_
        rcases hy with ⟨rr, rfl, h⟩ | ⟨s36, rfl, h⟩
        · have he := Option.some.inj h
          subst he
          exact ⟨rfl, rfl⟩
        · show zRun X d 168 94 [none, none, some (.int v2), none, none, none, none, none, none] [] (SH, I, J) _ _
          refine zr_steps 1 (95, [none, none, some (.int v2), none, none, none, none, none, none], [.int v2], (SH, I, J)) rfl ?_
          have he := Option.some.inj h
          subst he
          exact zr_one (some (.inr (.inr (some (.int v2))))) rfl (zR_ret rfl rfl)
      · rw [if_neg hc56] at h
        refine zr_steps 3 (101, [some (.ref 73), some (.int v1), some (.int v2), some (.int v3), some (.int v4), some (.int (I 84 v1.toNatClampNeg)), none, none, none], [.int (I 73 16), .int v3], (SH, I, J)) rfl ?_
        refine zr_one (if (I 73 16) ≤ v3 then zN 108 [some (.ref 73), some (.int v1), some (.int v2), some (.int v3), some (.int v4), some (.int (I 84 v1.toNatClampNeg)), none, none, none] [] (SH, I, J) else zN 104 [some (.ref 73), some (.int v1), some (.int v2), some (.int v3), some (.int v4), some (.int (I 84 v1.toNatClampNeg)), none, none, none] [] (SH, I, J)) rfl (zR_if (fun hc55 => zR_go ?_) (fun hc55 => zR_go ?_))
        · rw [if_pos hc55] at h
          refine zr_steps 9 (122, [some (.ref 73), some (.int v1), some (.int v2), some (.int v3), some (.int v4), some (.int (I 84 v1.toNatClampNeg)), some (.int (v3 - (I 73 16))), some (.int 0), some (.int 1)], [], (SH, I, J)) rfl ?_
          obtain ⟨s39, ho40, h⟩ := zbind h
          refine zr_hdr (ls2 := [some (.ref 73), some (.int v1), some (.int v2), none, some (.int v4), some (.int (I 84 v1.toNatClampNeg)), some (.int (v3 - (I 73 16))), some (.int 0), some (.int 1)]) rfl rfl ?_
          refine ok_f168_goal_L122 (by omega) v1 v2 v4 (I 84 v1.toNatClampNeg) (v3 - (I 73 16)) 5000 ((0 : Int32), (1 : Int32)) s39 ho40 ?_
          show zRun X d 168 168 [some (.ref 73), some (.int v1), some (.int v2), none, some (.int v4), some (.int (I 84 v1.toNatClampNeg)), some (.int (v3 - (I 73 16))), some (.int s39.1), none] [] (SH, I, J) _ _
          refine zr_steps 4 (175, [some (.ref 73), some (.int v1), some (.int v2), none, some (.int v4), some (.int (I 84 v1.toNatClampNeg)), some (.int (v3 - (I 73 16))), some (.int s39.1), none], [.int v4, .int 0, .ref 91], (SH, I, J)) rfl ?_
          refine zr_one (bif zin 0 8 then zN 176 [some (.ref 73), some (.int v1), some (.int v2), none, some (.int v4), some (.int (I 84 v1.toNatClampNeg)), some (.int (v3 - (I 73 16))), some (.int s39.1), none] [] (SH, (zu I 91 0 v4), J) else none) rfl (zR_bif (by decide) (zR_go ?_))
          refine zr_steps 4 (182, [some (.ref 73), some (.int v1), some (.int v2), none, some (.int v4), some (.int (I 84 v1.toNatClampNeg)), some (.int (v3 - (I 73 16))), some (.int s39.1), none], [.int v1, .int 1, .ref 91], (SH, (zu I 91 0 v4), J)) rfl ?_
          refine zr_one (bif zin 1 8 then zN 183 [some (.ref 73), some (.int v1), some (.int v2), none, some (.int v4), some (.int (I 84 v1.toNatClampNeg)), some (.int (v3 - (I 73 16))), some (.int s39.1), none] [] (SH, (zu (zu I 91 0 v4) 91 1 v1), J) else none) rfl (zR_bif (by decide) (zR_go ?_))
          refine zr_steps 6 (193, [some (.ref 73), some (.int v1), some (.int v2), none, some (.int v4), some (.int (I 84 v1.toNatClampNeg)), some (.int (v3 - (I 73 16))), some (.int s39.1), none], [.int v1, .ref 81, .int 2, .ref 91], (SH, (zu (zu I 91 0 v4) 91 1 v1), J)) rfl ?_
          obtain ⟨hc41, h⟩ := zbifo h
          refine zr_one (bif zin v1 8 then zN 194 [some (.ref 73), some (.int v1), some (.int v2), none, some (.int v4), some (.int (I 84 v1.toNatClampNeg)), some (.int (v3 - (I 73 16))), some (.int s39.1), none] [.int (I 81 v1.toNatClampNeg), .int 2, .ref 91] (SH, (zu (zu I 91 0 v4) 91 1 v1), J) else none) rfl (zR_bif hc41 (zR_go ?_))
          refine zr_one (bif zin 2 8 then zN 195 [some (.ref 73), some (.int v1), some (.int v2), none, some (.int v4), some (.int (I 84 v1.toNatClampNeg)), some (.int (v3 - (I 73 16))), some (.int s39.1), none] [] (SH, (zu (zu (zu I 91 0 v4) 91 1 v1) 91 2 (I 81 v1.toNatClampNeg)), J) else none) rfl (zR_bif (by decide) (zR_go ?_))
          refine zr_steps 4 (201, [some (.ref 73), some (.int v1), some (.int v2), none, some (.int v4), some (.int (I 84 v1.toNatClampNeg)), some (.int (v3 - (I 73 16))), some (.int s39.1), none], [.int v2, .int 3, .ref 91], (SH, (zu (zu (zu I 91 0 v4) 91 1 v1) 91 2 (I 81 v1.toNatClampNeg)), J)) rfl ?_
          refine zr_one (bif zin 3 8 then zN 202 [some (.ref 73), some (.int v1), some (.int v2), none, some (.int v4), some (.int (I 84 v1.toNatClampNeg)), some (.int (v3 - (I 73 16))), some (.int s39.1), none] [] (SH, (zu (zu (zu (zu I 91 0 v4) 91 1 v1) 91 2 (I 81 v1.toNatClampNeg)) 91 3 v2), J) else none) rfl (zR_bif (by decide) (zR_go ?_))
          refine zr_steps 10 (217, [some (.ref 73), some (.int v1), some (.int v2), none, some (.int v4), some (.int (I 84 v1.toNatClampNeg)), some (.int (v3 - (I 73 16))), some (.int s39.1), none], [.int ((8 * v2) + v1), .ref 97, .int 4, .ref 91], (SH, (zu (zu (zu (zu I 91 0 v4) 91 1 v1) 91 2 (I 81 v1.toNatClampNeg)) 91 3 v2), J)) rfl ?_
          obtain ⟨hc42, h⟩ := zbifo h
          refine zr_one (bif zin ((8 * v2) + v1) 32 then zN 218 [some (.ref 73), some (.int v1), some (.int v2), none, some (.int v4), some (.int (I 84 v1.toNatClampNeg)), some (.int (v3 - (I 73 16))), some (.int s39.1), none] [.int (I 97 ((8 * v2) + v1).toNatClampNeg), .int 4, .ref 91] (SH, (zu (zu (zu (zu I 91 0 v4) 91 1 v1) 91 2 (I 81 v1.toNatClampNeg)) 91 3 v2), J) else none) rfl (zR_bif hc42 (zR_go ?_))
          refine zr_one (bif zin 4 8 then zN 219 [some (.ref 73), some (.int v1), some (.int v2), none, some (.int v4), some (.int (I 84 v1.toNatClampNeg)), some (.int (v3 - (I 73 16))), some (.int s39.1), none] [] (SH, (zu (zu (zu (zu (zu I 91 0 v4) 91 1 v1) 91 2 (I 81 v1.toNatClampNeg)) 91 3 v2) 91 4 (I 97 ((8 * v2) + v1).toNatClampNeg)), J) else none) rfl (zR_bif (by decide) (zR_go ?_))
          refine zr_steps 4 (226, [some (.ref 73), some (.int v1), some (.int v2), none, some (.int v4), some (.int (I 84 v1.toNatClampNeg)), some (.int (v3 - (I 73 16))), some (.int s39.1), none], [.int s39.1, .int 5, .ref 91], (SH, (zu (zu (zu (zu (zu I 91 0 v4) 91 1 v1) 91 2 (I 81 v1.toNatClampNeg)) 91 3 v2) 91 4 (I 97 ((8 * v2) + v1).toNatClampNeg)), J)) rfl ?_
          refine zr_one (bif zin 5 8 then zN 227 [some (.ref 73), some (.int v1), some (.int v2), none, some (.int v4), some (.int (I 84 v1.toNatClampNeg)), some (.int (v3 - (I 73 16))), some (.int s39.1), none] [] (SH, (zu (zu (zu (zu (zu (zu I 91 0 v4) 91 1 v1) 91 2 (I 81 v1.toNatClampNeg)) 91 3 v2) 91 4 (I 97 ((8 * v2) + v1).toNatClampNeg)) 91 5 s39.1), J) else none) rfl (zR_bif (by decide) (zR_go ?_))
          refine zr_steps 10 (244, [some (.ref 73), some (.int v1), some (.int v2), none, some (.int v4), some (.int (I 84 v1.toNatClampNeg)), some (.int (v3 - (I 73 16))), some (.int s39.1), none], [.int ((4 * (v3 - (I 73 16))) + s39.1), .ref 101, .int 6, .ref 91], (SH, (zu (zu (zu (zu (zu (zu I 91 0 v4) 91 1 v1) 91 2 (I 81 v1.toNatClampNeg)) 91 3 v2) 91 4 (I 97 ((8 * v2) + v1).toNatClampNeg)) 91 5 s39.1), J)) rfl ?_
          obtain ⟨hc43, h⟩ := zbifo h
          refine zr_one (bif zin ((4 * (v3 - (I 73 16))) + s39.1) 240 then zN 245 [some (.ref 73), some (.int v1), some (.int v2), none, some (.int v4), some (.int (I 84 v1.toNatClampNeg)), some (.int (v3 - (I 73 16))), some (.int s39.1), none] [.int (I 101 ((4 * (v3 - (I 73 16))) + s39.1).toNatClampNeg), .int 6, .ref 91] (SH, (zu (zu (zu (zu (zu (zu I 91 0 v4) 91 1 v1) 91 2 (I 81 v1.toNatClampNeg)) 91 3 v2) 91 4 (I 97 ((8 * v2) + v1).toNatClampNeg)) 91 5 s39.1), J) else none) rfl (zR_bif hc43 (zR_go ?_))
          refine zr_one (bif zin 6 8 then zN 246 [some (.ref 73), some (.int v1), some (.int v2), none, some (.int v4), some (.int (I 84 v1.toNatClampNeg)), some (.int (v3 - (I 73 16))), some (.int s39.1), none] [] (SH, (zu (zu (zu (zu (zu (zu (zu I 91 0 v4) 91 1 v1) 91 2 (I 81 v1.toNatClampNeg)) 91 3 v2) 91 4 (I 97 ((8 * v2) + v1).toNatClampNeg)) 91 5 s39.1) 91 6 (I 101 ((4 * (v3 - (I 73 16))) + s39.1).toNatClampNeg)), J) else none) rfl (zR_bif (by decide) (zR_go ?_))
          refine zr_steps 10 (262, [some (.ref 73), some (.int v1), some (.int v2), none, some (.int v4), some (.int (I 84 v1.toNatClampNeg)), some (.int (v3 - (I 73 16))), some (.int s39.1), none], [.int ((4 * (v3 - (I 73 16))) + v2), .ref 101, .int 7, .ref 91], (SH, (zu (zu (zu (zu (zu (zu (zu I 91 0 v4) 91 1 v1) 91 2 (I 81 v1.toNatClampNeg)) 91 3 v2) 91 4 (I 97 ((8 * v2) + v1).toNatClampNeg)) 91 5 s39.1) 91 6 (I 101 ((4 * (v3 - (I 73 16))) + s39.1).toNatClampNeg)), J)) rfl ?_
          obtain ⟨hc44, h⟩ := zbifo h
          refine zr_one (bif zin ((4 * (v3 - (I 73 16))) + v2) 240 then zN 263 [some (.ref 73), some (.int v1), some (.int v2), none, some (.int v4), some (.int (I 84 v1.toNatClampNeg)), some (.int (v3 - (I 73 16))), some (.int s39.1), none] [.int (I 101 ((4 * (v3 - (I 73 16))) + v2).toNatClampNeg), .int 7, .ref 91] (SH, (zu (zu (zu (zu (zu (zu (zu I 91 0 v4) 91 1 v1) 91 2 (I 81 v1.toNatClampNeg)) 91 3 v2) 91 4 (I 97 ((8 * v2) + v1).toNatClampNeg)) 91 5 s39.1) 91 6 (I 101 ((4 * (v3 - (I 73 16))) + s39.1).toNatClampNeg)), J) else none) rfl (zR_bif hc44 (zR_go ?_))
          refine zr_one (bif zin 7 8 then zN 264 [some (.ref 73), some (.int v1), some (.int v2), none, some (.int v4), some (.int (I 84 v1.toNatClampNeg)), some (.int (v3 - (I 73 16))), some (.int s39.1), none] [] (SH, (zu (zu (zu (zu (zu (zu (zu (zu I 91 0 v4) 91 1 v1) 91 2 (I 81 v1.toNatClampNeg)) 91 3 v2) 91 4 (I 97 ((8 * v2) + v1).toNatClampNeg)) 91 5 s39.1) 91 6 (I 101 ((4 * (v3 - (I 73 16))) + s39.1).toNatClampNeg)) 91 7 (I 101 ((4 * (v3 - (I 73 16))) + v2).toNatClampNeg)), J) else none) rfl (zR_bif (by decide) (zR_go ?_))
          refine zr_steps 2 (267, [some (.ref 73), some (.int v1), some (.int v2), none, some (.int v4), some (.int (I 84 v1.toNatClampNeg)), some (.int (v3 - (I 73 16))), some (.int s39.1), none], [.int (I 84 v1.toNatClampNeg), .ref 73], (SH, (zu (zu (zu (zu (zu (zu (zu (zu I 91 0 v4) 91 1 v1) 91 2 (I 81 v1.toNatClampNeg)) 91 3 v2) 91 4 (I 97 ((8 * v2) + v1).toNatClampNeg)) 91 5 s39.1) 91 6 (I 101 ((4 * (v3 - (I 73 16))) + s39.1).toNatClampNeg)) 91 7 (I 101 ((4 * (v3 - (I 73 16))) + v2).toNatClampNeg)), J)) rfl ?_
          obtain ⟨t46, hc45, h⟩ := zbind h
          refine zr_one (some (.inr (.inl (155, [.ref 73, .int (I 84 v1.toNatClampNeg)], [], 270)))) rfl (zR_call (by omega) rfl (ok_f155_gives (by omega) (I 84 v1.toNatClampNeg) _ hc45) ?_)
          have he := Option.some.inj h
          subst he
          exact zr_one (some (.inr (.inr (some (.int t46.1))))) rfl (zR_ret rfl rfl)
        · rw [if_neg hc55] at h
          refine zr_steps 7 (122, [some (.ref 73), some (.int v1), some (.int v2), some (.int v3), some (.int v4), some (.int (I 84 v1.toNatClampNeg)), some (.int 0), some (.int 0), some (.int 1)], [], (SH, I, J)) rfl ?_
          obtain ⟨s47, ho48, h⟩ := zbind h
          refine zr_hdr (ls2 := [some (.ref 73), some (.int v1), some (.int v2), none, some (.int v4), some (.int (I 84 v1.toNatClampNeg)), some (.int 0), some (.int 0), some (.int 1)]) rfl rfl ?_
          refine ok_f168_goal_L122 (by omega) v1 v2 v4 (I 84 v1.toNatClampNeg) 0 5000 ((0 : Int32), (1 : Int32)) s47 ho48 ?_
          show zRun X d 168 168 [some (.ref 73), some (.int v1), some (.int v2), none, some (.int v4), some (.int (I 84 v1.toNatClampNeg)), some (.int 0), some (.int s47.1), none] [] (SH, I, J) _ _
          refine zr_steps 4 (175, [some (.ref 73), some (.int v1), some (.int v2), none, some (.int v4), some (.int (I 84 v1.toNatClampNeg)), some (.int 0), some (.int s47.1), none], [.int v4, .int 0, .ref 91], (SH, I, J)) rfl ?_
          refine zr_one (bif zin 0 8 then zN 176 [some (.ref 73), some (.int v1), some (.int v2), none, some (.int v4), some (.int (I 84 v1.toNatClampNeg)), some (.int 0), some (.int s47.1), none] [] (SH, (zu I 91 0 v4), J) else none) rfl (zR_bif (by decide) (zR_go ?_))
          refine zr_steps 4 (182, [some (.ref 73), some (.int v1), some (.int v2), none, some (.int v4), some (.int (I 84 v1.toNatClampNeg)), some (.int 0), some (.int s47.1), none], [.int v1, .int 1, .ref 91], (SH, (zu I 91 0 v4), J)) rfl ?_
          refine zr_one (bif zin 1 8 then zN 183 [some (.ref 73), some (.int v1), some (.int v2), none, some (.int v4), some (.int (I 84 v1.toNatClampNeg)), some (.int 0), some (.int s47.1), none] [] (SH, (zu (zu I 91 0 v4) 91 1 v1), J) else none) rfl (zR_bif (by decide) (zR_go ?_))
          refine zr_steps 6 (193, [some (.ref 73), some (.int v1), some (.int v2), none, some (.int v4), some (.int (I 84 v1.toNatClampNeg)), some (.int 0), some (.int s47.1), none], [.int v1, .ref 81, .int 2, .ref 91], (SH, (zu (zu I 91 0 v4) 91 1 v1), J)) rfl ?_
          obtain ⟨hc49, h⟩ := zbifo h
          refine zr_one (bif zin v1 8 then zN 194 [some (.ref 73), some (.int v1), some (.int v2), none, some (.int v4), some (.int (I 84 v1.toNatClampNeg)), some (.int 0), some (.int s47.1), none] [.int (I 81 v1.toNatClampNeg), .int 2, .ref 91] (SH, (zu (zu I 91 0 v4) 91 1 v1), J) else none) rfl (zR_bif hc49 (zR_go ?_))
          refine zr_one (bif zin 2 8 then zN 195 [some (.ref 73), some (.int v1), some (.int v2), none, some (.int v4), some (.int (I 84 v1.toNatClampNeg)), some (.int 0), some (.int s47.1), none] [] (SH, (zu (zu (zu I 91 0 v4) 91 1 v1) 91 2 (I 81 v1.toNatClampNeg)), J) else none) rfl (zR_bif (by decide) (zR_go ?_))
          refine zr_steps 4 (201, [some (.ref 73), some (.int v1), some (.int v2), none, some (.int v4), some (.int (I 84 v1.toNatClampNeg)), some (.int 0), some (.int s47.1), none], [.int v2, .int 3, .ref 91], (SH, (zu (zu (zu I 91 0 v4) 91 1 v1) 91 2 (I 81 v1.toNatClampNeg)), J)) rfl ?_
          refine zr_one (bif zin 3 8 then zN 202 [some (.ref 73), some (.int v1), some (.int v2), none, some (.int v4), some (.int (I 84 v1.toNatClampNeg)), some (.int 0), some (.int s47.1), none] [] (SH, (zu (zu (zu (zu I 91 0 v4) 91 1 v1) 91 2 (I 81 v1.toNatClampNeg)) 91 3 v2), J) else none) rfl (zR_bif (by decide) (zR_go ?_))
          refine zr_steps 10 (217, [some (.ref 73), some (.int v1), some (.int v2), none, some (.int v4), some (.int (I 84 v1.toNatClampNeg)), some (.int 0), some (.int s47.1), none], [.int ((8 * v2) + v1), .ref 97, .int 4, .ref 91], (SH, (zu (zu (zu (zu I 91 0 v4) 91 1 v1) 91 2 (I 81 v1.toNatClampNeg)) 91 3 v2), J)) rfl ?_
          obtain ⟨hc50, h⟩ := zbifo h
          refine zr_one (bif zin ((8 * v2) + v1) 32 then zN 218 [some (.ref 73), some (.int v1), some (.int v2), none, some (.int v4), some (.int (I 84 v1.toNatClampNeg)), some (.int 0), some (.int s47.1), none] [.int (I 97 ((8 * v2) + v1).toNatClampNeg), .int 4, .ref 91] (SH, (zu (zu (zu (zu I 91 0 v4) 91 1 v1) 91 2 (I 81 v1.toNatClampNeg)) 91 3 v2), J) else none) rfl (zR_bif hc50 (zR_go ?_))
          refine zr_one (bif zin 4 8 then zN 219 [some (.ref 73), some (.int v1), some (.int v2), none, some (.int v4), some (.int (I 84 v1.toNatClampNeg)), some (.int 0), some (.int s47.1), none] [] (SH, (zu (zu (zu (zu (zu I 91 0 v4) 91 1 v1) 91 2 (I 81 v1.toNatClampNeg)) 91 3 v2) 91 4 (I 97 ((8 * v2) + v1).toNatClampNeg)), J) else none) rfl (zR_bif (by decide) (zR_go ?_))
          refine zr_steps 4 (226, [some (.ref 73), some (.int v1), some (.int v2), none, some (.int v4), some (.int (I 84 v1.toNatClampNeg)), some (.int 0), some (.int s47.1), none], [.int s47.1, .int 5, .ref 91], (SH, (zu (zu (zu (zu (zu I 91 0 v4) 91 1 v1) 91 2 (I 81 v1.toNatClampNeg)) 91 3 v2) 91 4 (I 97 ((8 * v2) + v1).toNatClampNeg)), J)) rfl ?_
          refine zr_one (bif zin 5 8 then zN 227 [some (.ref 73), some (.int v1), some (.int v2), none, some (.int v4), some (.int (I 84 v1.toNatClampNeg)), some (.int 0), some (.int s47.1), none] [] (SH, (zu (zu (zu (zu (zu (zu I 91 0 v4) 91 1 v1) 91 2 (I 81 v1.toNatClampNeg)) 91 3 v2) 91 4 (I 97 ((8 * v2) + v1).toNatClampNeg)) 91 5 s47.1), J) else none) rfl (zR_bif (by decide) (zR_go ?_))
          refine zr_steps 10 (244, [some (.ref 73), some (.int v1), some (.int v2), none, some (.int v4), some (.int (I 84 v1.toNatClampNeg)), some (.int 0), some (.int s47.1), none], [.int (0 + s47.1), .ref 101, .int 6, .ref 91], (SH, (zu (zu (zu (zu (zu (zu I 91 0 v4) 91 1 v1) 91 2 (I 81 v1.toNatClampNeg)) 91 3 v2) 91 4 (I 97 ((8 * v2) + v1).toNatClampNeg)) 91 5 s47.1), J)) rfl ?_
          obtain ⟨hc51, h⟩ := zbifo h
          refine zr_one (bif zin (0 + s47.1) 240 then zN 245 [some (.ref 73), some (.int v1), some (.int v2), none, some (.int v4), some (.int (I 84 v1.toNatClampNeg)), some (.int 0), some (.int s47.1), none] [.int (I 101 (0 + s47.1).toNatClampNeg), .int 6, .ref 91] (SH, (zu (zu (zu (zu (zu (zu I 91 0 v4) 91 1 v1) 91 2 (I 81 v1.toNatClampNeg)) 91 3 v2) 91 4 (I 97 ((8 * v2) + v1).toNatClampNeg)) 91 5 s47.1), J) else none) rfl (zR_bif hc51 (zR_go ?_))
          refine zr_one (bif zin 6 8 then zN 246 [some (.ref 73), some (.int v1), some (.int v2), none, some (.int v4), some (.int (I 84 v1.toNatClampNeg)), some (.int 0), some (.int s47.1), none] [] (SH, (zu (zu (zu (zu (zu (zu (zu I 91 0 v4) 91 1 v1) 91 2 (I 81 v1.toNatClampNeg)) 91 3 v2) 91 4 (I 97 ((8 * v2) + v1).toNatClampNeg)) 91 5 s47.1) 91 6 (I 101 (0 + s47.1).toNatClampNeg)), J) else none) rfl (zR_bif (by decide) (zR_go ?_))
          refine zr_steps 10 (262, [some (.ref 73), some (.int v1), some (.int v2), none, some (.int v4), some (.int (I 84 v1.toNatClampNeg)), some (.int 0), some (.int s47.1), none], [.int (0 + v2), .ref 101, .int 7, .ref 91], (SH, (zu (zu (zu (zu (zu (zu (zu I 91 0 v4) 91 1 v1) 91 2 (I 81 v1.toNatClampNeg)) 91 3 v2) 91 4 (I 97 ((8 * v2) + v1).toNatClampNeg)) 91 5 s47.1) 91 6 (I 101 (0 + s47.1).toNatClampNeg)), J)) rfl ?_
          obtain ⟨hc52, h⟩ := zbifo h
          refine zr_one (bif zin (0 + v2) 240 then zN 263 [some (.ref 73), some (.int v1), some (.int v2), none, some (.int v4), some (.int (I 84 v1.toNatClampNeg)), some (.int 0), some (.int s47.1), none] [.int (I 101 (0 + v2).toNatClampNeg), .int 7, .ref 91] (SH, (zu (zu (zu (zu (zu (zu (zu I 91 0 v4) 91 1 v1) 91 2 (I 81 v1.toNatClampNeg)) 91 3 v2) 91 4 (I 97 ((8 * v2) + v1).toNatClampNeg)) 91 5 s47.1) 91 6 (I 101 (0 + s47.1).toNatClampNeg)), J) else none) rfl (zR_bif hc52 (zR_go ?_))
          refine zr_one (bif zin 7 8 then zN 264 [some (.ref 73), some (.int v1), some (.int v2), none, some (.int v4), some (.int (I 84 v1.toNatClampNeg)), some (.int 0), some (.int s47.1), none] [] (SH, (zu (zu (zu (zu (zu (zu (zu (zu I 91 0 v4) 91 1 v1) 91 2 (I 81 v1.toNatClampNeg)) 91 3 v2) 91 4 (I 97 ((8 * v2) + v1).toNatClampNeg)) 91 5 s47.1) 91 6 (I 101 (0 + s47.1).toNatClampNeg)) 91 7 (I 101 (0 + v2).toNatClampNeg)), J) else none) rfl (zR_bif (by decide) (zR_go ?_))
          refine zr_steps 2 (267, [some (.ref 73), some (.int v1), some (.int v2), none, some (.int v4), some (.int (I 84 v1.toNatClampNeg)), some (.int 0), some (.int s47.1), none], [.int (I 84 v1.toNatClampNeg), .ref 73], (SH, (zu (zu (zu (zu (zu (zu (zu (zu I 91 0 v4) 91 1 v1) 91 2 (I 81 v1.toNatClampNeg)) 91 3 v2) 91 4 (I 97 ((8 * v2) + v1).toNatClampNeg)) 91 5 s47.1) 91 6 (I 101 (0 + s47.1).toNatClampNeg)) 91 7 (I 101 (0 + v2).toNatClampNeg)), J)) rfl ?_
          obtain ⟨t54, hc53, h⟩ := zbind h
          refine zr_one (some (.inr (.inl (155, [.ref 73, .int (I 84 v1.toNatClampNeg)], [], 270)))) rfl (zR_call (by omega) rfl (ok_f155_gives (by omega) (I 84 v1.toNatClampNeg) _ hc53) ?_)
          have he := Option.some.inj h
          subst he
          exact zr_one (some (.inr (.inr (some (.int t54.1))))) rfl (zR_ret rfl rfl)
set_option maxRecDepth 100000 in
set_option maxHeartbeats 4000000 in
theorem ok_f169_doesLead {X : zX} {d : Nat} (hd : 0 ≤ d) (v0 : Int32) (v1 : Int32) (v2 : Int32) (v3 : Int32) {I : (Nat → Nat → Int32)} {J : (Nat → Nat → Int64)} (t : Int32) (h : f169_doesLead v0 v1 v2 v3 = some t) : zRun X d 169 0 (zent 169 [.int v0, .int v1, .int v2, .int v3]) [] (SH, I, J) (some (.int t)) (SH, I, J) := by
  unfold f169_doesLead at h
  refine zr_steps 2 (2, [some (.int v0), some (.int v1), some (.int v2), some (.int v3)], [.int v2, .int v0], (SH, I, J)) rfl ?_
  refine zr_one (if v0 = v2 then zN 5 [some (.int v0), some (.int v1), some (.int v2), some (.int v3)] [] (SH, I, J) else zN 10 [some (.int v0), some (.int v1), some (.int v2), some (.int v3)] [] (SH, I, J)) rfl (zR_if (fun hc6 => zR_go ?_) (fun hc6 => zR_go ?_))
  · rw [if_pos hc6] at h
    refine zr_steps 2 (7, [some (.int v0), some (.int v1), some (.int v2), some (.int v3)], [.int v3, .int v1], (SH, I, J)) rfl ?_
    refine zr_one (if v1 = v3 then zN 20 [some (.int v0), some (.int v1), some (.int v2), some (.int v3)] [] (SH, I, J) else zN 10 [some (.int v0), some (.int v1), some (.int v2), some (.int v3)] [] (SH, I, J)) rfl (zR_if (fun hc3 => zR_go ?_) (fun hc3 => zR_go ?_))
    · rw [if_pos hc3] at h
      refine zr_steps 2 (25, [some (.int v0), some (.int v1), some (.int v2), some (.int v3)], [.int 1], (SH, I, J)) rfl ?_
      have he := Option.some.inj h
      subst he
      exact zr_one (if ((1 : Int32) = 0 ∨ (1 : Int32) = 1) then some (.inr (.inr (some (.int 1)))) else none) rfl (zR_pos (by decide) (zR_ret rfl rfl))
    · rw [if_neg hc3] at h
      refine zr_steps 2 (12, [some (.int v0), some (.int v1), some (.int v2), some (.int v3)], [.int v3, .int v0], (SH, I, J)) rfl ?_
      refine zr_one (if v0 = v3 then zN 15 [some (.int v0), some (.int v1), some (.int v2), some (.int v3)] [] (SH, I, J) else zN 24 [some (.int v0), some (.int v1), some (.int v2), some (.int v3)] [] (SH, I, J)) rfl (zR_if (fun hc2 => zR_go ?_) (fun hc2 => zR_go ?_))
      · rw [if_pos hc2] at h
        refine zr_steps 2 (17, [some (.int v0), some (.int v1), some (.int v2), some (.int v3)], [.int v2, .int v1], (SH, I, J)) rfl ?_
        refine zr_one (if v1 = v2 then zN 20 [some (.int v0), some (.int v1), some (.int v2), some (.int v3)] [] (SH, I, J) else zN 24 [some (.int v0), some (.int v1), some (.int v2), some (.int v3)] [] (SH, I, J)) rfl (zR_if (fun hc1 => zR_go ?_) (fun hc1 => zR_go ?_))
        · rw [if_pos hc1] at h
          refine zr_steps 2 (25, [some (.int v0), some (.int v1), some (.int v2), some (.int v3)], [.int 1], (SH, I, J)) rfl ?_
          have he := Option.some.inj h
          subst he
          exact zr_one (if ((1 : Int32) = 0 ∨ (1 : Int32) = 1) then some (.inr (.inr (some (.int 1)))) else none) rfl (zR_pos (by decide) (zR_ret rfl rfl))
        · rw [if_neg hc1] at h
          refine zr_steps 1 (25, [some (.int v0), some (.int v1), some (.int v2), some (.int v3)], [.int 0], (SH, I, J)) rfl ?_
          have he := Option.some.inj h
          subst he
          exact zr_one (if ((0 : Int32) = 0 ∨ (0 : Int32) = 1) then some (.inr (.inr (some (.int 0)))) else none) rfl (zR_pos (by decide) (zR_ret rfl rfl))
      · rw [if_neg hc2] at h
        refine zr_steps 1 (25, [some (.int v0), some (.int v1), some (.int v2), some (.int v3)], [.int 0], (SH, I, J)) rfl ?_
        have he := Option.some.inj h
        subst he
        exact zr_one (if ((0 : Int32) = 0 ∨ (0 : Int32) = 1) then some (.inr (.inr (some (.int 0)))) else none) rfl (zR_pos (by decide) (zR_ret rfl rfl))
  · rw [if_neg hc6] at h
    refine zr_steps 2 (12, [some (.int v0), some (.int v1), some (.int v2), some (.int v3)], [.int v3, .int v0], (SH, I, J)) rfl ?_
    refine zr_one (if v0 = v3 then zN 15 [some (.int v0), some (.int v1), some (.int v2), some (.int v3)] [] (SH, I, J) else zN 24 [some (.int v0), some (.int v1), some (.int v2), some (.int v3)] [] (SH, I, J)) rfl (zR_if (fun hc5 => zR_go ?_) (fun hc5 => zR_go ?_))
    · rw [if_pos hc5] at h
      refine zr_steps 2 (17, [some (.int v0), some (.int v1), some (.int v2), some (.int v3)], [.int v2, .int v1], (SH, I, J)) rfl ?_
      refine zr_one (if v1 = v2 then zN 20 [some (.int v0), some (.int v1), some (.int v2), some (.int v3)] [] (SH, I, J) else zN 24 [some (.int v0), some (.int v1), some (.int v2), some (.int v3)] [] (SH, I, J)) rfl (zR_if (fun hc4 => zR_go ?_) (fun hc4 => zR_go ?_))
      · rw [if_pos hc4] at h
        refine zr_steps 2 (25, [some (.int v0), some (.int v1), some (.int v2), some (.int v3)], [.int 1], (SH, I, J)) rfl ?_
        have he := Option.some.inj h
        subst he
        exact zr_one (if ((1 : Int32) = 0 ∨ (1 : Int32) = 1) then some (.inr (.inr (some (.int 1)))) else none) rfl (zR_pos (by decide) (zR_ret rfl rfl))
      · rw [if_neg hc4] at h
        refine zr_steps 1 (25, [some (.int v0), some (.int v1), some (.int v2), some (.int v3)], [.int 0], (SH, I, J)) rfl ?_
        have he := Option.some.inj h
        subst he
        exact zr_one (if ((0 : Int32) = 0 ∨ (0 : Int32) = 1) then some (.inr (.inr (some (.int 0)))) else none) rfl (zR_pos (by decide) (zR_ret rfl rfl))
    · rw [if_neg hc5] at h
      refine zr_steps 1 (25, [some (.int v0), some (.int v1), some (.int v2), some (.int v3)], [.int 0], (SH, I, J)) rfl ?_
      have he := Option.some.inj h
      subst he
      exact zr_one (if ((0 : Int32) = 0 ∨ (0 : Int32) = 1) then some (.inr (.inr (some (.int 0)))) else none) rfl (zR_pos (by decide) (zR_ret rfl rfl))
