set_option maxRecDepth 100000 in
set_option maxHeartbeats 4000000 in
theorem ok_f123_shift {X : zX} {d : Nat} (hd : 2 ≤ d) (v1 : Int32) (v2 : Int32) (v3 : Int32) (v4 : Int32) (v5 : Int32) {I : (Nat → Nat → Int32)} {J : (Nat → Nat → Int64)} (t : (Int32 × (Nat → Nat → Int64))) (h : f123_shift v1 v2 v3 v4 v5 I J = some t) : zRun X d 123 0 (zent 123 [.ref 0, .int v1, .int v2, .int v3, .int v4, .int v5]) [] (SH, I, J) (some (.int t.1)) (SH, I, t.2) := by
  unfold f123_shift at h
  refine zr_steps 1 (1, [some (.ref 0), some (.int v1), some (.int v2), some (.int v3), some (.int v4), some (.int v5), none, none], [.int v1], (SH, I, J)) rfl ?_
  obtain ⟨t2, hc1, h⟩ := zbind h
  refine zr_one (some (.inr (.inl (127, [.int v1], [], 4)))) rfl (zR_call (by omega) rfl (ok_f127_isShelf (by omega) v1 _ hc1) ?_)
  refine zr_one (if t2 = 0 then zN 14 [some (.ref 0), some (.int v1), some (.int v2), some (.int v3), some (.int v4), some (.int v5), none, none] [] (SH, I, J) else zN 7 [some (.ref 0), some (.int v1), some (.int v2), some (.int v3), some (.int v4), some (.int v5), none, none] [] (SH, I, J)) rfl (zR_if (fun hc28 => zR_go ?_) (fun hc28 => zR_go ?_))
  · rw [if_pos hc28] at h
    refine zr_steps 1 (15, [some (.ref 0), some (.int v1), some (.int v2), some (.int v3), some (.int v4), some (.int v5), none, none], [.int (-1)], (SH, I, J)) rfl ?_
    have he := Option.some.inj h
    subst he
    exact zr_one (some (.inr (.inr (some (.int (-1)))))) rfl (zR_ret rfl rfl)
  · rw [if_neg hc28] at h
    refine zr_steps 1 (8, [some (.ref 0), some (.int v1), some (.int v2), some (.int v3), some (.int v4), some (.int v5), none, none], [.int v3], (SH, I, J)) rfl ?_
    obtain ⟨t4, hc3, h⟩ := zbind h
    refine zr_one (some (.inr (.inl (127, [.int v3], [], 11)))) rfl (zR_call (by omega) rfl (ok_f127_isShelf (by omega) v3 _ hc3) ?_)
    refine zr_one (if t4 = 0 then zN 14 [some (.ref 0), some (.int v1), some (.int v2), some (.int v3), some (.int v4), some (.int v5), none, none] [] (SH, I, J) else zN 16 [some (.ref 0), some (.int v1), some (.int v2), some (.int v3), some (.int v4), some (.int v5), none, none] [] (SH, I, J)) rfl (zR_if (fun hc27 => zR_go ?_) (fun hc27 => zR_go ?_))
    · rw [if_pos hc27] at h
      refine zr_steps 1 (15, [some (.ref 0), some (.int v1), some (.int v2), some (.int v3), some (.int v4), some (.int v5), none, none], [.int (-1)], (SH, I, J)) rfl ?_
      have he := Option.some.inj h
      subst he
      exact zr_one (some (.inr (.inr (some (.int (-1)))))) rfl (zR_ret rfl rfl)
    · rw [if_neg hc27] at h
      refine zr_steps 3 (21, [some (.ref 0), some (.int v1), some (.int v2), some (.int v3), some (.int v4), some (.int v5), none, none], [.int v1, .ref 60], (SH, I, J)) rfl ?_
      obtain ⟨hc5, h⟩ := zbifo h
      refine zr_one (bif zin v1 6 then zrefr 22 [some (.ref 0), some (.int v1), some (.int v2), some (.int v3), some (.int v4), some (.int v5), none, none] [] (SH, I, J) (zri (SH, I, J) 60 v1.toNatClampNeg) else none) rfl (zR_bif hc5 (zR_ref (sh_at hc5) ?_))
      refine zr_steps 4 (29, [some (.ref 0), some (.int v1), some (.int v2), some (.int v3), some (.int v4), some (.int v5), some (.ref (zshelf v1)), none], [.int v3, .ref 60], (SH, I, J)) rfl ?_
      obtain ⟨hc6, h⟩ := zbifo h
      refine zr_one (bif zin v3 6 then zrefr 30 [some (.ref 0), some (.int v1), some (.int v2), some (.int v3), some (.int v4), some (.int v5), some (.ref (zshelf v1)), none] [] (SH, I, J) (zri (SH, I, J) 60 v3.toNatClampNeg) else none) rfl (zR_bif hc6 (zR_ref (sh_at hc6) ?_))
      refine zr_steps 2 (34, [some (.ref 0), some (.int v1), some (.int v2), some (.int v3), some (.int v4), some (.int v5), some (.ref (zshelf v1)), some (.ref (zshelf v3))], [.ref (zshelf v1)], (SH, I, J)) rfl ?_
      obtain ⟨t8, hc7, h⟩ := zbind h
      refine zr_one (bif zrcv (SH, I, J) 52 [.ref (zshelf v1)] then some (.inr (.inl (52, [.ref (zshelf v1)], [], 37))) else none) rfl (zR_bif (sh_rcv (sh_is hc5) rfl rfl) (zR_call (by omega) rfl (ok_f52_isEmpty (by omega) (zshelf v1) (sh_is hc5) _ hc7) ?_))
      refine zr_one (if t8 = 0 then zN 40 [some (.ref 0), some (.int v1), some (.int v2), some (.int v3), some (.int v4), some (.int v5), some (.ref (zshelf v1)), some (.ref (zshelf v3))] [] (SH, I, J) else zN 48 [some (.ref 0), some (.int v1), some (.int v2), some (.int v3), some (.int v4), some (.int v5), some (.ref (zshelf v1)), some (.ref (zshelf v3))] [] (SH, I, J)) rfl (zR_if (fun hc26 => zR_go ?_) (fun hc26 => zR_go ?_))
      · rw [if_pos hc26] at h
        refine zr_steps 1 (42, [some (.ref 0), some (.int v1), some (.int v2), some (.int v3), some (.int v4), some (.int v5), some (.ref (zshelf v1)), some (.ref (zshelf v3))], [.ref (zshelf v3)], (SH, I, J)) rfl ?_
        obtain ⟨t10, hc9, h⟩ := zbind h
        refine zr_one (bif zrcv (SH, I, J) 52 [.ref (zshelf v3)] then some (.inr (.inl (52, [.ref (zshelf v3)], [], 45))) else none) rfl (zR_bif (sh_rcv (sh_is hc6) rfl rfl) (zR_call (by omega) rfl (ok_f52_isEmpty (by omega) (zshelf v3) (sh_is hc6) _ hc9) ?_))
        refine zr_one (if t10 = 0 then zN 51 [some (.ref 0), some (.int v1), some (.int v2), some (.int v3), some (.int v4), some (.int v5), some (.ref (zshelf v1)), some (.ref (zshelf v3))] [] (SH, I, J) else zN 48 [some (.ref 0), some (.int v1), some (.int v2), some (.int v3), some (.int v4), some (.int v5), some (.ref (zshelf v1)), some (.ref (zshelf v3))] [] (SH, I, J)) rfl (zR_if (fun hc25 => zR_go ?_) (fun hc25 => zR_go ?_))
        · rw [if_pos hc25] at h
          refine zr_steps 1 (53, [some (.ref 0), some (.int v1), some (.int v2), some (.int v3), some (.int v4), some (.int v5), some (.ref (zshelf v1)), some (.ref (zshelf v3))], [.ref (zshelf v1)], (SH, I, J)) rfl ?_
          obtain ⟨t12, hc11, h⟩ := zbind h
          refine zr_one (bif zrcv (SH, I, J) 51 [.ref (zshelf v1)] then some (.inr (.inl (51, [.ref (zshelf v1)], [], 56))) else none) rfl (zR_bif (sh_rcv (sh_is hc5) rfl rfl) (zR_call (by omega) rfl (ok_f51_isRow (by omega) (zshelf v1) (sh_is hc5) _ hc11) ?_))
          refine zr_one (if t12 = 0 then zN 80 [some (.ref 0), some (.int v1), some (.int v2), some (.int v3), some (.int v4), some (.int v5), some (.ref (zshelf v1)), some (.ref (zshelf v3))] [] (SH, I, J) else zN 59 [some (.ref 0), some (.int v1), some (.int v2), some (.int v3), some (.int v4), some (.int v5), some (.ref (zshelf v1)), some (.ref (zshelf v3))] [] (SH, I, J)) rfl (zR_if (fun hc24 => zR_go ?_) (fun hc24 => zR_go ?_))
          · rw [if_pos hc24] at h
            refine zr_steps 1 (82, [some (.ref 0), some (.int v1), some (.int v2), some (.int v3), some (.int v4), some (.int v5), some (.ref (zshelf v1)), some (.ref (zshelf v3))], [.int (-12)], (SH, I, J)) rfl ?_
            have he := Option.some.inj h
            subst he
            exact zr_one (some (.inr (.inr (some (.int (-12)))))) rfl (zR_ret rfl rfl)
          · rw [if_neg hc24] at h
            refine zr_steps 1 (61, [some (.ref 0), some (.int v1), some (.int v2), some (.int v3), some (.int v4), some (.int v5), some (.ref (zshelf v1)), some (.ref (zshelf v3))], [.ref (zshelf v3)], (SH, I, J)) rfl ?_
            obtain ⟨t14, hc13, h⟩ := zbind h
            refine zr_one (bif zrcv (SH, I, J) 51 [.ref (zshelf v3)] then some (.inr (.inl (51, [.ref (zshelf v3)], [], 64))) else none) rfl (zR_bif (sh_rcv (sh_is hc6) rfl rfl) (zR_call (by omega) rfl (ok_f51_isRow (by omega) (zshelf v3) (sh_is hc6) _ hc13) ?_))
            refine zr_one (if t14 = 0 then zN 80 [some (.ref 0), some (.int v1), some (.int v2), some (.int v3), some (.int v4), some (.int v5), some (.ref (zshelf v1)), some (.ref (zshelf v3))] [] (SH, I, J) else zN 67 [some (.ref 0), some (.int v1), some (.int v2), some (.int v3), some (.int v4), some (.int v5), some (.ref (zshelf v1)), some (.ref (zshelf v3))] [] (SH, I, J)) rfl (zR_if (fun hc23 => zR_go ?_) (fun hc23 => zR_go ?_))
            · rw [if_pos hc23] at h
              refine zr_steps 1 (82, [some (.ref 0), some (.int v1), some (.int v2), some (.int v3), some (.int v4), some (.int v5), some (.ref (zshelf v1)), some (.ref (zshelf v3))], [.int (-12)], (SH, I, J)) rfl ?_
              have he := Option.some.inj h
              subst he
              exact zr_one (some (.inr (.inr (some (.int (-12)))))) rfl (zR_ret rfl rfl)
            · rw [if_neg hc23] at h
              refine zr_steps 1 (69, [some (.ref 0), some (.int v1), some (.int v2), some (.int v3), some (.int v4), some (.int v5), some (.ref (zshelf v1)), some (.ref (zshelf v3))], [.ref (zshelf v1)], (SH, I, J)) rfl ?_
              refine zr_one (zfget 69 4 1 [some (.ref 0), some (.int v1), some (.int v2), some (.int v3), some (.int v4), some (.int v5), some (.ref (zshelf v1)), some (.ref (zshelf v3))] [.ref (zshelf v1)] (SH, I, J)) rfl (sR_get (sh_is hc5) (by decide) ?_)
              refine zr_steps 1 (74, [some (.ref 0), some (.int v1), some (.int v2), some (.int v3), some (.int v4), some (.int v5), some (.ref (zshelf v1)), some (.ref (zshelf v3))], [.ref (zshelf v3), .int (I (zshelf v1) 1)], (SH, I, J)) rfl ?_
              refine zr_one (zfget 74 4 1 [some (.ref 0), some (.int v1), some (.int v2), some (.int v3), some (.int v4), some (.int v5), some (.ref (zshelf v1)), some (.ref (zshelf v3))] [.ref (zshelf v3), .int (I (zshelf v1) 1)] (SH, I, J)) rfl (sR_get (sh_is hc6) (by decide) ?_)
              refine zr_one (if (I (zshelf v1) 1) = (I (zshelf v3) 1) then zN 83 [some (.ref 0), some (.int v1), some (.int v2), some (.int v3), some (.int v4), some (.int v5), some (.ref (zshelf v1)), some (.ref (zshelf v3))] [] (SH, I, J) else zN 80 [some (.ref 0), some (.int v1), some (.int v2), some (.int v3), some (.int v4), some (.int v5), some (.ref (zshelf v1)), some (.ref (zshelf v3))] [] (SH, I, J)) rfl (zR_if (fun hc22 => zR_go ?_) (fun hc22 => zR_go ?_))
              · rw [if_pos hc22] at h
                refine zr_steps 3 (88, [some (.ref 0), some (.int v1), some (.int v2), some (.int v3), some (.int v4), some (.int v5), some (.ref (zshelf v1)), some (.ref (zshelf v3))], [.int v5, .int v2, .ref (zshelf v1)], (SH, I, J)) rfl ?_
                obtain ⟨t16, hc15, h⟩ := zbind h
                refine zr_one (bif zrcv (SH, I, J) 56 [.ref (zshelf v1), .int v2, .int v5] then some (.inr (.inl (56, [.ref (zshelf v1), .int v2, .int v5], [], 91))) else none) rfl (zR_bif (sh_rcv (sh_is hc5) rfl rfl) (zR_call (by omega) rfl (ok_f56_hasPlaces (by omega) (zshelf v1) v2 v5 (sh_is hc5) _ hc15) ?_))
                refine zr_one (if t16 = 0 then zN 106 [some (.ref 0), some (.int v1), some (.int v2), some (.int v3), some (.int v4), some (.int v5), some (.ref (zshelf v1)), some (.ref (zshelf v3))] [] (SH, I, J) else zN 94 [some (.ref 0), some (.int v1), some (.int v2), some (.int v3), some (.int v4), some (.int v5), some (.ref (zshelf v1)), some (.ref (zshelf v3))] [] (SH, I, J)) rfl (zR_if (fun hc21 => zR_go ?_) (fun hc21 => zR_go ?_))
                · rw [if_pos hc21] at h
                  refine zr_steps 1 (108, [some (.ref 0), some (.int v1), some (.int v2), some (.int v3), some (.int v4), some (.int v5), some (.ref (zshelf v1)), some (.ref (zshelf v3))], [.int (-13)], (SH, I, J)) rfl ?_
                  have he := Option.some.inj h
                  subst he
                  exact zr_one (some (.inr (.inr (some (.int (-13)))))) rfl (zR_ret rfl rfl)
                · rw [if_neg hc21] at h
                  refine zr_steps 3 (100, [some (.ref 0), some (.int v1), some (.int v2), some (.int v3), some (.int v4), some (.int v5), some (.ref (zshelf v1)), some (.ref (zshelf v3))], [.int v5, .int v4, .ref (zshelf v3)], (SH, I, J)) rfl ?_
                  obtain ⟨t18, hc17, h⟩ := zbind h
                  refine zr_one (bif zrcv (SH, I, J) 56 [.ref (zshelf v3), .int v4, .int v5] then some (.inr (.inl (56, [.ref (zshelf v3), .int v4, .int v5], [], 103))) else none) rfl (zR_bif (sh_rcv (sh_is hc6) rfl rfl) (zR_call (by omega) rfl (ok_f56_hasPlaces (by omega) (zshelf v3) v4 v5 (sh_is hc6) _ hc17) ?_))
                  refine zr_one (if t18 = 0 then zN 106 [some (.ref 0), some (.int v1), some (.int v2), some (.int v3), some (.int v4), some (.int v5), some (.ref (zshelf v1)), some (.ref (zshelf v3))] [] (SH, I, J) else zN 109 [some (.ref 0), some (.int v1), some (.int v2), some (.int v3), some (.int v4), some (.int v5), some (.ref (zshelf v1)), some (.ref (zshelf v3))] [] (SH, I, J)) rfl (zR_if (fun hc20 => zR_go ?_) (fun hc20 => zR_go ?_))
                  · rw [if_pos hc20] at h
                    refine zr_steps 1 (108, [some (.ref 0), some (.int v1), some (.int v2), some (.int v3), some (.int v4), some (.int v5), some (.ref (zshelf v1)), some (.ref (zshelf v3))], [.int (-13)], (SH, I, J)) rfl ?_
                    have he := Option.some.inj h
                    subst he
                    exact zr_one (some (.inr (.inr (some (.int (-13)))))) rfl (zR_ret rfl rfl)
                  · rw [if_neg hc20] at h
                    refine zr_steps 1 (111, [some (.ref 0), some (.int v1), some (.int v2), some (.int v3), some (.int v4), some (.int v5), some (.ref (zshelf v1)), some (.ref (zshelf v3))], [.ref (zshelf v1)], (SH, I, J)) rfl ?_
                    refine zr_one (zfget 111 4 3 [some (.ref 0), some (.int v1), some (.int v2), some (.int v3), some (.int v4), some (.int v5), some (.ref (zshelf v1)), some (.ref (zshelf v3))] [.ref (zshelf v1)] (SH, I, J)) rfl (sR_gete (sh_is hc5) ?_)
                    refine zr_steps 2 (117, [some (.ref 0), some (.int v1), some (.int v2), some (.int v3), some (.int v4), some (.int v5), some (.ref (zshelf v1)), some (.ref (zshelf v3))], [.ref (zshelf v3), .int v2, .ref ((zshelf v1) + 1)], (SH, I, J)) rfl ?_
                    refine zr_one (zfget 117 4 3 [some (.ref 0), some (.int v1), some (.int v2), some (.int v3), some (.int v4), some (.int v5), some (.ref (zshelf v1)), some (.ref (zshelf v3))] [.ref (zshelf v3), .int v2, .ref ((zshelf v1) + 1)] (SH, I, J)) rfl (sR_gete (sh_is hc6) ?_)
                    refine zr_steps 2 (124, [some (.ref 0), some (.int v1), some (.int v2), some (.int v3), some (.int v4), some (.int v5), some (.ref (zshelf v1)), some (.ref (zshelf v3))], [.int v5, .int v4, .ref ((zshelf v3) + 1), .int v2, .ref ((zshelf v1) + 1)], (SH, I, J)) rfl ?_
                    obtain ⟨hc19, h⟩ := zbifo h
                    refine zr_one (zcopy 124 [some (.ref 0), some (.int v1), some (.int v2), some (.int v3), some (.int v4), some (.int v5), some (.ref (zshelf v1)), some (.ref (zshelf v3))] [.int v5, .int v4, .ref ((zshelf v3) + 1), .int v2, .ref ((zshelf v1) + 1)] (SH, I, J)) rfl (zR_copyj (na := 60) (nb := 60) (sh_lt1 (sh_is hc5)) (sh_lt1 (sh_is hc6)) (sh_el (sh_is hc5)) (sh_el (sh_is hc6)) hc19 rfl ?_)
                    refine zr_steps 1 (129, [some (.ref 0), some (.int v1), some (.int v2), some (.int v3), some (.int v4), some (.int v5), some (.ref (zshelf v1)), some (.ref (zshelf v3))], [.int v5], (SH, I, (zcpj J ((zshelf v1) + 1) ((zshelf v3) + 1) v2 v4 v5))) rfl ?_
                    have he := Option.some.inj h
                    subst he
                    exact zr_one (some (.inr (.inr (some (.int v5))))) rfl (zR_ret rfl rfl)
              · rw [if_neg hc22] at h
                refine zr_steps 1 (82, [some (.ref 0), some (.int v1), some (.int v2), some (.int v3), some (.int v4), some (.int v5), some (.ref (zshelf v1)), some (.ref (zshelf v3))], [.int (-12)], (SH, I, J)) rfl ?_
                have he := Option.some.inj h
                subst he
                exact zr_one (some (.inr (.inr (some (.int (-12)))))) rfl (zR_ret rfl rfl)
        · rw [if_neg hc25] at h
          refine zr_steps 1 (50, [some (.ref 0), some (.int v1), some (.int v2), some (.int v3), some (.int v4), some (.int v5), some (.ref (zshelf v1)), some (.ref (zshelf v3))], [.int (-11)], (SH, I, J)) rfl ?_
          have he := Option.some.inj h
          subst he
          exact zr_one (some (.inr (.inr (some (.int (-11)))))) rfl (zR_ret rfl rfl)
      · rw [if_neg hc26] at h
        refine zr_steps 1 (50, [some (.ref 0), some (.int v1), some (.int v2), some (.int v3), some (.int v4), some (.int v5), some (.ref (zshelf v1)), some (.ref (zshelf v3))], [.int (-11)], (SH, I, J)) rfl ?_
        have he := Option.some.inj h
        subst he
        exact zr_one (some (.inr (.inr (some (.int (-11)))))) rfl (zR_ret rfl rfl)
set_option maxRecDepth 100000 in
set_option maxHeartbeats 4000000 in
theorem ok_f216_shift_L113 {X : zX} {d : Nat} {r : Option Value} {M' : zM} (hd : 2 ≤ d) (v1 : Int32) (v2 : Int32) (v3 : Int32) (v4 : Int32) (v5 : Int32) {I : (Nat → Nat → Int32)} : ∀ (n : Nat) (s x : (Int32 × (Nat → Nat → Int64))), zloop (f216_shift_L113 v1 v2 v3 v4 v5 I) n s = some x → (fun (x : (Int32 × (Nat → Nat → Int64))) => zRun X d 216 147 [some (.ref 73), none, none, some (.int v3), some (.int v4), some (.int v5), none] [] (SH, I, x.2) r M') x → (fun (s : (Int32 × (Nat → Nat → Int64))) => zRun X d 216 113 [some (.ref 73), some (.int v1), some (.int v2), some (.int v3), some (.int v4), some (.int v5), some (.int s.1)] [] (SH, I, s.2) r M') s := zloop_ok (B := (f216_shift_L113 v1 v2 v3 v4 v5 I)) (Wh := fun (s : (Int32 × (Nat → Nat → Int64))) => zRun X d 216 113 [some (.ref 73), some (.int v1), some (.int v2), some (.int v3), some (.int v4), some (.int v5), some (.int s.1)] [] (SH, I, s.2) r M') (Wx := fun (x : (Int32 × (Nat → Nat → Int64))) => zRun X d 216 147 [some (.ref 73), none, none, some (.int v3), some (.int v4), some (.int v5), none] [] (SH, I, x.2) r M') (fun s y h w => by
  unfold f216_shift_L113 at h
  refine zr_steps 2 (117, [some (.ref 73), some (.int v1), some (.int v2), some (.int v3), some (.int v4), some (.int v5), some (.int s.1)], [.int v5, .int s.1], (SH, I, s.2)) rfl ?_
  refine zr_one (if v5 ≤ s.1 then zN 147 [some (.ref 73), some (.int v1), some (.int v2), some (.int v3), some (.int v4), some (.int v5), some (.int s.1)] [] (SH, I, s.2) else zN 120 [some (.ref 73), some (.int v1), some (.int v2), some (.int v3), some (.int v4), some (.int v5), some (.int s.1)] [] (SH, I, s.2)) rfl (zR_if (fun hc14 => zR_go ?_) (fun hc14 => zR_go ?_))
  · rw [if_pos hc14] at h
    have he := Option.some.inj h
    subst he
    exact zr_hdr (ls2 := [some (.ref 73), none, none, some (.int v3), some (.int v4), some (.int v5), none]) rfl rfl (show zRun X d 216 147 [some (.ref 73), none, none, some (.int v3), some (.int v4), some (.int v5), none] [] (SH, I, s.2) r M' from w)
  · rw [if_neg hc14] at h
    refine zr_steps 12 (139, [some (.ref 73), some (.int v1), some (.int v2), some (.int v3), some (.int v4), some (.int v5), some (.int s.1)], [.int (((60 * v1) + v2) + s.1), .ref 112, .int s.1, .ref 113], (SH, I, s.2)) rfl ?_
    obtain ⟨hc12, h⟩ := zbifo h
    refine zr_one (bif zin (((60 * v1) + v2) + s.1) 360 then zN 140 [some (.ref 73), some (.int v1), some (.int v2), some (.int v3), some (.int v4), some (.int v5), some (.int s.1)] [.long (s.2 112 (((60 * v1) + v2) + s.1).toNatClampNeg), .int s.1, .ref 113] (SH, I, s.2) else none) rfl (zR_bif hc12 (zR_go ?_))
    obtain ⟨hc13, h⟩ := zbifo h
    refine zr_one (bif zin s.1 60 then zN 141 [some (.ref 73), some (.int v1), some (.int v2), some (.int v3), some (.int v4), some (.int v5), some (.int s.1)] [] (SH, I, (zuj s.2 113 s.1.toNatClampNeg (s.2 112 (((60 * v1) + v2) + s.1).toNatClampNeg))) else none) rfl (zR_bif hc13 (zR_go ?_))
    refine zr_steps 2 (113, [some (.ref 73), some (.int v1), some (.int v2), some (.int v3), some (.int v4), some (.int v5), some (.int (s.1 + 1))], [], (SH, I, (zuj s.2 113 s.1.toNatClampNeg (s.2 112 (((60 * v1) + v2) + s.1).toNatClampNeg)))) rfl ?_
    have he := Option.some.inj h
    subst he
    exact zr_hdr (ls2 := [some (.ref 73), some (.int v1), some (.int v2), some (.int v3), some (.int v4), some (.int v5), some (.int (s.1 + 1))]) rfl rfl (show zRun X d 216 113 [some (.ref 73), some (.int v1), some (.int v2), some (.int v3), some (.int v4), some (.int v5), some (.int (s.1 + 1))] [] (SH, I, (zuj s.2 113 s.1.toNatClampNeg (s.2 112 (((60 * v1) + v2) + s.1).toNatClampNeg))) r M' from w))
set_option maxRecDepth 100000 in
set_option maxHeartbeats 4000000 in
theorem ok_f216_shift_L150 {X : zX} {d : Nat} {r : Option Value} {M' : zM} (hd : 2 ≤ d) (v3 : Int32) (v4 : Int32) (v5 : Int32) {I : (Nat → Nat → Int32)} : ∀ (n : Nat) (s x : (Int32 × (Nat → Nat → Int64))), zloop (f216_shift_L150 v3 v4 v5 I) n s = some x → (fun (x : (Int32 × (Nat → Nat → Int64))) => zRun X d 216 185 [none, none, none, none, none, some (.int v5), none] [] (SH, I, x.2) r M') x → (fun (s : (Int32 × (Nat → Nat → Int64))) => zRun X d 216 150 [some (.ref 73), none, none, some (.int v3), some (.int v4), some (.int v5), some (.int s.1)] [] (SH, I, s.2) r M') s := zloop_ok (B := (f216_shift_L150 v3 v4 v5 I)) (Wh := fun (s : (Int32 × (Nat → Nat → Int64))) => zRun X d 216 150 [some (.ref 73), none, none, some (.int v3), some (.int v4), some (.int v5), some (.int s.1)] [] (SH, I, s.2) r M') (Wx := fun (x : (Int32 × (Nat → Nat → Int64))) => zRun X d 216 185 [none, none, none, none, none, some (.int v5), none] [] (SH, I, x.2) r M') (fun s y h w => by
  unfold f216_shift_L150 at h
  refine zr_steps 2 (154, [some (.ref 73), none, none, some (.int v3), some (.int v4), some (.int v5), some (.int s.1)], [.int v5, .int s.1], (SH, I, s.2)) rfl ?_
  refine zr_one (if v5 ≤ s.1 then zN 185 [some (.ref 73), none, none, some (.int v3), some (.int v4), some (.int v5), some (.int s.1)] [] (SH, I, s.2) else zN 157 [some (.ref 73), none, none, some (.int v3), some (.int v4), some (.int v5), some (.int s.1)] [] (SH, I, s.2)) rfl (zR_if (fun hc19 => zR_go ?_) (fun hc19 => zR_go ?_))
  · rw [if_pos hc19] at h
    have he := Option.some.inj h
    subst he
    exact zr_hdr (ls2 := [none, none, none, none, none, some (.int v5), none]) rfl rfl (show zRun X d 216 185 [none, none, none, none, none, some (.int v5), none] [] (SH, I, s.2) r M' from w)
  · rw [if_neg hc19] at h
    refine zr_steps 12 (177, [some (.ref 73), none, none, some (.int v3), some (.int v4), some (.int v5), some (.int s.1)], [.int s.1, .ref 113, .int (((60 * v3) + v4) + s.1), .ref 112], (SH, I, s.2)) rfl ?_
    obtain ⟨hc17, h⟩ := zbifo h
    refine zr_one (bif zin s.1 60 then zN 178 [some (.ref 73), none, none, some (.int v3), some (.int v4), some (.int v5), some (.int s.1)] [.long (s.2 113 s.1.toNatClampNeg), .int (((60 * v3) + v4) + s.1), .ref 112] (SH, I, s.2) else none) rfl (zR_bif hc17 (zR_go ?_))
    obtain ⟨hc18, h⟩ := zbifo h
    refine zr_one (bif zin (((60 * v3) + v4) + s.1) 360 then zN 179 [some (.ref 73), none, none, some (.int v3), some (.int v4), some (.int v5), some (.int s.1)] [] (SH, I, (zuj s.2 112 (((60 * v3) + v4) + s.1).toNatClampNeg (s.2 113 s.1.toNatClampNeg))) else none) rfl (zR_bif hc18 (zR_go ?_))
    refine zr_steps 2 (150, [some (.ref 73), none, none, some (.int v3), some (.int v4), some (.int v5), some (.int (s.1 + 1))], [], (SH, I, (zuj s.2 112 (((60 * v3) + v4) + s.1).toNatClampNeg (s.2 113 s.1.toNatClampNeg)))) rfl ?_
    have he := Option.some.inj h
    subst he
    exact zr_hdr (ls2 := [some (.ref 73), none, none, some (.int v3), some (.int v4), some (.int v5), some (.int (s.1 + 1))]) rfl rfl (show zRun X d 216 150 [some (.ref 73), none, none, some (.int v3), some (.int v4), some (.int v5), some (.int (s.1 + 1))] [] (SH, I, (zuj s.2 112 (((60 * v3) + v4) + s.1).toNatClampNeg (s.2 113 s.1.toNatClampNeg))) r M' from w))
set_option maxRecDepth 100000 in
set_option maxHeartbeats 4000000 in
theorem ok_f216_shift {X : zX} {d : Nat} (hd : 2 ≤ d) (v1 : Int32) (v2 : Int32) (v3 : Int32) (v4 : Int32) (v5 : Int32) {I : (Nat → Nat → Int32)} {J : (Nat → Nat → Int64)} (t : (Int32 × (Nat → Nat → Int64))) (h : f216_shift v1 v2 v3 v4 v5 I J = some t) : zRun X d 216 0 (zent 216 [.ref 73, .int v1, .int v2, .int v3, .int v4, .int v5]) [] (SH, I, J) (some (.int t.1)) (SH, I, t.2) := by
  unfold f216_shift at h
  refine zr_steps 1 (1, [some (.ref 73), some (.int v1), some (.int v2), some (.int v3), some (.int v4), some (.int v5), none], [.int v1], (SH, I, J)) rfl ?_
  obtain ⟨t2, hc1, h⟩ := zbind h
  refine zr_one (some (.inr (.inl (210, [.int v1], [], 4)))) rfl (zR_call (by omega) rfl (ok_f210_isShelf (by omega) v1 _ hc1) ?_)
  refine zr_one (if t2 = 0 then zN 14 [some (.ref 73), some (.int v1), some (.int v2), some (.int v3), some (.int v4), some (.int v5), none] [] (SH, I, J) else zN 7 [some (.ref 73), some (.int v1), some (.int v2), some (.int v3), some (.int v4), some (.int v5), none] [] (SH, I, J)) rfl (zR_if (fun hc32 => zR_go ?_) (fun hc32 => zR_go ?_))
  · rw [if_pos hc32] at h
    refine zr_steps 1 (15, [some (.ref 73), some (.int v1), some (.int v2), some (.int v3), some (.int v4), some (.int v5), none], [.int (-1)], (SH, I, J)) rfl ?_
    have he := Option.some.inj h
    subst he
    exact zr_one (some (.inr (.inr (some (.int (-1)))))) rfl (zR_ret rfl rfl)
  · rw [if_neg hc32] at h
    refine zr_steps 1 (8, [some (.ref 73), some (.int v1), some (.int v2), some (.int v3), some (.int v4), some (.int v5), none], [.int v3], (SH, I, J)) rfl ?_
    obtain ⟨t4, hc3, h⟩ := zbind h
    refine zr_one (some (.inr (.inl (210, [.int v3], [], 11)))) rfl (zR_call (by omega) rfl (ok_f210_isShelf (by omega) v3 _ hc3) ?_)
    refine zr_one (if t4 = 0 then zN 14 [some (.ref 73), some (.int v1), some (.int v2), some (.int v3), some (.int v4), some (.int v5), none] [] (SH, I, J) else zN 16 [some (.ref 73), some (.int v1), some (.int v2), some (.int v3), some (.int v4), some (.int v5), none] [] (SH, I, J)) rfl (zR_if (fun hc31 => zR_go ?_) (fun hc31 => zR_go ?_))
    · rw [if_pos hc31] at h
      refine zr_steps 1 (15, [some (.ref 73), some (.int v1), some (.int v2), some (.int v3), some (.int v4), some (.int v5), none], [.int (-1)], (SH, I, J)) rfl ?_
      have he := Option.some.inj h
      subst he
      exact zr_one (some (.inr (.inr (some (.int (-1)))))) rfl (zR_ret rfl rfl)
    · rw [if_neg hc31] at h
      refine zr_steps 3 (21, [some (.ref 73), some (.int v1), some (.int v2), some (.int v3), some (.int v4), some (.int v5), none], [.int v1, .ref 110], (SH, I, J)) rfl ?_
      obtain ⟨hc5, h⟩ := zbifo h
      refine zr_one (bif zin v1 6 then zN 22 [some (.ref 73), some (.int v1), some (.int v2), some (.int v3), some (.int v4), some (.int v5), none] [.int (I 110 v1.toNatClampNeg)] (SH, I, J) else none) rfl (zR_bif hc5 (zR_go ?_))
      refine zr_steps 1 (23, [some (.ref 73), some (.int v1), some (.int v2), some (.int v3), some (.int v4), some (.int v5), none], [.int (-1), .int (I 110 v1.toNatClampNeg)], (SH, I, J)) rfl ?_
      refine zr_one (if (I 110 v1.toNatClampNeg) = (-1) then zN 36 [some (.ref 73), some (.int v1), some (.int v2), some (.int v3), some (.int v4), some (.int v5), none] [] (SH, I, J) else zN 26 [some (.ref 73), some (.int v1), some (.int v2), some (.int v3), some (.int v4), some (.int v5), none] [] (SH, I, J)) rfl (zR_if (fun hc30 => zR_go ?_) (fun hc30 => zR_go ?_))
      · rw [if_pos hc30] at h
        refine zr_steps 1 (38, [some (.ref 73), some (.int v1), some (.int v2), some (.int v3), some (.int v4), some (.int v5), none], [.int (-11)], (SH, I, J)) rfl ?_
        have he := Option.some.inj h
        subst he
        exact zr_one (some (.inr (.inr (some (.int (-11)))))) rfl (zR_ret rfl rfl)
      · rw [if_neg hc30] at h
        refine zr_steps 3 (31, [some (.ref 73), some (.int v1), some (.int v2), some (.int v3), some (.int v4), some (.int v5), none], [.int v3, .ref 110], (SH, I, J)) rfl ?_
        obtain ⟨hc6, h⟩ := zbifo h
        refine zr_one (bif zin v3 6 then zN 32 [some (.ref 73), some (.int v1), some (.int v2), some (.int v3), some (.int v4), some (.int v5), none] [.int (I 110 v3.toNatClampNeg)] (SH, I, J) else none) rfl (zR_bif hc6 (zR_go ?_))
        refine zr_steps 1 (33, [some (.ref 73), some (.int v1), some (.int v2), some (.int v3), some (.int v4), some (.int v5), none], [.int (-1), .int (I 110 v3.toNatClampNeg)], (SH, I, J)) rfl ?_
        refine zr_one (if (I 110 v3.toNatClampNeg) = (-1) then zN 36 [some (.ref 73), some (.int v1), some (.int v2), some (.int v3), some (.int v4), some (.int v5), none] [] (SH, I, J) else zN 39 [some (.ref 73), some (.int v1), some (.int v2), some (.int v3), some (.int v4), some (.int v5), none] [] (SH, I, J)) rfl (zR_if (fun hc29 => zR_go ?_) (fun hc29 => zR_go ?_))
        · rw [if_pos hc29] at h
          refine zr_steps 1 (38, [some (.ref 73), some (.int v1), some (.int v2), some (.int v3), some (.int v4), some (.int v5), none], [.int (-11)], (SH, I, J)) rfl ?_
          have he := Option.some.inj h
          subst he
          exact zr_one (some (.inr (.inr (some (.int (-11)))))) rfl (zR_ret rfl rfl)
        · rw [if_neg hc29] at h
          refine zr_steps 3 (44, [some (.ref 73), some (.int v1), some (.int v2), some (.int v3), some (.int v4), some (.int v5), none], [.int v1, .ref 110], (SH, I, J)) rfl ?_
          obtain ⟨hc7, h⟩ := zbifo h
          refine zr_one (bif zin v1 6 then zN 45 [some (.ref 73), some (.int v1), some (.int v2), some (.int v3), some (.int v4), some (.int v5), none] [.int (I 110 v1.toNatClampNeg)] (SH, I, J) else none) rfl (zR_bif hc7 (zR_go ?_))
          refine zr_one (if (0 : Int32) ≤ (I 110 v1.toNatClampNeg) then zN 63 [some (.ref 73), some (.int v1), some (.int v2), some (.int v3), some (.int v4), some (.int v5), none] [] (SH, I, J) else zN 48 [some (.ref 73), some (.int v1), some (.int v2), some (.int v3), some (.int v4), some (.int v5), none] [] (SH, I, J)) rfl (zR_if (fun hc28 => zR_go ?_) (fun hc28 => zR_go ?_))
          · rw [if_pos hc28] at h
            refine zr_steps 1 (65, [some (.ref 73), some (.int v1), some (.int v2), some (.int v3), some (.int v4), some (.int v5), none], [.int (-12)], (SH, I, J)) rfl ?_
            have he := Option.some.inj h
            subst he
            exact zr_one (some (.inr (.inr (some (.int (-12)))))) rfl (zR_ret rfl rfl)
          · rw [if_neg hc28] at h
            refine zr_steps 3 (53, [some (.ref 73), some (.int v1), some (.int v2), some (.int v3), some (.int v4), some (.int v5), none], [.int v1, .ref 110], (SH, I, J)) rfl ?_
            obtain ⟨hc8, h⟩ := zbifo h
            refine zr_one (bif zin v1 6 then zN 54 [some (.ref 73), some (.int v1), some (.int v2), some (.int v3), some (.int v4), some (.int v5), none] [.int (I 110 v1.toNatClampNeg)] (SH, I, J) else none) rfl (zR_bif hc8 (zR_go ?_))
            refine zr_steps 3 (59, [some (.ref 73), some (.int v1), some (.int v2), some (.int v3), some (.int v4), some (.int v5), none], [.int v3, .ref 110, .int (I 110 v1.toNatClampNeg)], (SH, I, J)) rfl ?_
            obtain ⟨hc9, h⟩ := zbifo h
            refine zr_one (bif zin v3 6 then zN 60 [some (.ref 73), some (.int v1), some (.int v2), some (.int v3), some (.int v4), some (.int v5), none] [.int (I 110 v3.toNatClampNeg), .int (I 110 v1.toNatClampNeg)] (SH, I, J) else none) rfl (zR_bif hc9 (zR_go ?_))
            refine zr_one (if (I 110 v1.toNatClampNeg) = (I 110 v3.toNatClampNeg) then zN 66 [some (.ref 73), some (.int v1), some (.int v2), some (.int v3), some (.int v4), some (.int v5), none] [] (SH, I, J) else zN 63 [some (.ref 73), some (.int v1), some (.int v2), some (.int v3), some (.int v4), some (.int v5), none] [] (SH, I, J)) rfl (zR_if (fun hc27 => zR_go ?_) (fun hc27 => zR_go ?_))
            · rw [if_pos hc27] at h
              refine zr_steps 1 (68, [some (.ref 73), some (.int v1), some (.int v2), some (.int v3), some (.int v4), some (.int v5), none], [.int v5], (SH, I, J)) rfl ?_
              refine zr_one (if v5 < 0 then zN 107 [some (.ref 73), some (.int v1), some (.int v2), some (.int v3), some (.int v4), some (.int v5), none] [] (SH, I, J) else zN 71 [some (.ref 73), some (.int v1), some (.int v2), some (.int v3), some (.int v4), some (.int v5), none] [] (SH, I, J)) rfl (zR_if (fun hc26 => zR_go ?_) (fun hc26 => zR_go ?_))
              · rw [if_pos hc26] at h
                refine zr_steps 1 (109, [some (.ref 73), some (.int v1), some (.int v2), some (.int v3), some (.int v4), some (.int v5), none], [.int (-13)], (SH, I, J)) rfl ?_
                have he := Option.some.inj h
                subst he
                exact zr_one (some (.inr (.inr (some (.int (-13)))))) rfl (zR_ret rfl rfl)
              · rw [if_neg hc26] at h
                refine zr_steps 1 (72, [some (.ref 73), some (.int v1), some (.int v2), some (.int v3), some (.int v4), some (.int v5), none], [.int v2], (SH, I, J)) rfl ?_
                refine zr_one (if v2 < 0 then zN 107 [some (.ref 73), some (.int v1), some (.int v2), some (.int v3), some (.int v4), some (.int v5), none] [] (SH, I, J) else zN 75 [some (.ref 73), some (.int v1), some (.int v2), some (.int v3), some (.int v4), some (.int v5), none] [] (SH, I, J)) rfl (zR_if (fun hc25 => zR_go ?_) (fun hc25 => zR_go ?_))
                · rw [if_pos hc25] at h
                  refine zr_steps 1 (109, [some (.ref 73), some (.int v1), some (.int v2), some (.int v3), some (.int v4), some (.int v5), none], [.int (-13)], (SH, I, J)) rfl ?_
                  have he := Option.some.inj h
                  subst he
                  exact zr_one (some (.inr (.inr (some (.int (-13)))))) rfl (zR_ret rfl rfl)
                · rw [if_neg hc25] at h
                  refine zr_steps 1 (77, [some (.ref 73), some (.int v1), some (.int v2), some (.int v3), some (.int v4), some (.int v5), none], [.int v4], (SH, I, J)) rfl ?_
                  refine zr_one (if v4 < 0 then zN 107 [some (.ref 73), some (.int v1), some (.int v2), some (.int v3), some (.int v4), some (.int v5), none] [] (SH, I, J) else zN 80 [some (.ref 73), some (.int v1), some (.int v2), some (.int v3), some (.int v4), some (.int v5), none] [] (SH, I, J)) rfl (zR_if (fun hc24 => zR_go ?_) (fun hc24 => zR_go ?_))
                  · rw [if_pos hc24] at h
                    refine zr_steps 1 (109, [some (.ref 73), some (.int v1), some (.int v2), some (.int v3), some (.int v4), some (.int v5), none], [.int (-13)], (SH, I, J)) rfl ?_
                    have he := Option.some.inj h
                    subst he
                    exact zr_one (some (.inr (.inr (some (.int (-13)))))) rfl (zR_ret rfl rfl)
                  · rw [if_neg hc24] at h
                    refine zr_steps 4 (86, [some (.ref 73), some (.int v1), some (.int v2), some (.int v3), some (.int v4), some (.int v5), none], [.int v1, .ref 111, .int v2], (SH, I, J)) rfl ?_
                    obtain ⟨hc10, h⟩ := zbifo h
                    refine zr_one (bif zin v1 6 then zN 87 [some (.ref 73), some (.int v1), some (.int v2), some (.int v3), some (.int v4), some (.int v5), none] [.int (I 111 v1.toNatClampNeg), .int v2] (SH, I, J) else none) rfl (zR_bif hc10 (zR_go ?_))
                    refine zr_steps 2 (90, [some (.ref 73), some (.int v1), some (.int v2), some (.int v3), some (.int v4), some (.int v5), none], [.int ((I 111 v1.toNatClampNeg) - v5), .int v2], (SH, I, J)) rfl ?_
                    refine zr_one (if ((I 111 v1.toNatClampNeg) - v5) < v2 then zN 107 [some (.ref 73), some (.int v1), some (.int v2), some (.int v3), some (.int v4), some (.int v5), none] [] (SH, I, J) else zN 93 [some (.ref 73), some (.int v1), some (.int v2), some (.int v3), some (.int v4), some (.int v5), none] [] (SH, I, J)) rfl (zR_if (fun hc23 => zR_go ?_) (fun hc23 => zR_go ?_))
                    · rw [if_pos hc23] at h
                      refine zr_steps 1 (109, [some (.ref 73), some (.int v1), some (.int v2), some (.int v3), some (.int v4), some (.int v5), none], [.int (-13)], (SH, I, J)) rfl ?_
                      have he := Option.some.inj h
                      subst he
                      exact zr_one (some (.inr (.inr (some (.int (-13)))))) rfl (zR_ret rfl rfl)
                    · rw [if_neg hc23] at h
                      refine zr_steps 4 (100, [some (.ref 73), some (.int v1), some (.int v2), some (.int v3), some (.int v4), some (.int v5), none], [.int v3, .ref 111, .int v4], (SH, I, J)) rfl ?_
                      obtain ⟨hc11, h⟩ := zbifo h
                      refine zr_one (bif zin v3 6 then zN 101 [some (.ref 73), some (.int v1), some (.int v2), some (.int v3), some (.int v4), some (.int v5), none] [.int (I 111 v3.toNatClampNeg), .int v4] (SH, I, J) else none) rfl (zR_bif hc11 (zR_go ?_))
                      refine zr_steps 2 (104, [some (.ref 73), some (.int v1), some (.int v2), some (.int v3), some (.int v4), some (.int v5), none], [.int ((I 111 v3.toNatClampNeg) - v5), .int v4], (SH, I, J)) rfl ?_
                      refine zr_one (if v4 ≤ ((I 111 v3.toNatClampNeg) - v5) then zN 110 [some (.ref 73), some (.int v1), some (.int v2), some (.int v3), some (.int v4), some (.int v5), none] [] (SH, I, J) else zN 107 [some (.ref 73), some (.int v1), some (.int v2), some (.int v3), some (.int v4), some (.int v5), none] [] (SH, I, J)) rfl (zR_if (fun hc22 => zR_go ?_) (fun hc22 => zR_go ?_))
                      · rw [if_pos hc22] at h
                        refine zr_steps 2 (113, [some (.ref 73), some (.int v1), some (.int v2), some (.int v3), some (.int v4), some (.int v5), some (.int 0)], [], (SH, I, J)) rfl ?_
                        obtain ⟨s15, ho16, h⟩ := zbind h
                        refine zr_hdr (ls2 := [some (.ref 73), some (.int v1), some (.int v2), some (.int v3), some (.int v4), some (.int v5), some (.int 0)]) rfl rfl ?_
                        refine ok_f216_shift_L113 (by omega) v1 v2 v3 v4 v5 5000 ((0 : Int32), J) s15 ho16 ?_
                        show zRun X d 216 147 [some (.ref 73), none, none, some (.int v3), some (.int v4), some (.int v5), none] [] (SH, I, s15.2) _ _
                        refine zr_steps 2 (150, [some (.ref 73), none, none, some (.int v3), some (.int v4), some (.int v5), some (.int 0)], [], (SH, I, s15.2)) rfl ?_
                        obtain ⟨s20, ho21, h⟩ := zbind h
                        refine zr_hdr (ls2 := [some (.ref 73), none, none, some (.int v3), some (.int v4), some (.int v5), some (.int 0)]) rfl rfl ?_
                        refine ok_f216_shift_L150 (by omega) v3 v4 v5 5000 ((0 : Int32), s15.2) s20 ho21 ?_
                        show zRun X d 216 185 [none, none, none, none, none, some (.int v5), none] [] (SH, I, s20.2) _ _
                        refine zr_steps 1 (187, [none, none, none, none, none, some (.int v5), none], [.int v5], (SH, I, s20.2)) rfl ?_
                        have he := Option.some.inj h
                        subst he
                        exact zr_one (some (.inr (.inr (some (.int v5))))) rfl (zR_ret rfl rfl)
                      · rw [if_neg hc22] at h
                        refine zr_steps 1 (109, [some (.ref 73), some (.int v1), some (.int v2), some (.int v3), some (.int v4), some (.int v5), none], [.int (-13)], (SH, I, J)) rfl ?_
                        have he := Option.some.inj h
                        subst he
                        exact zr_one (some (.inr (.inr (some (.int (-13)))))) rfl (zR_ret rfl rfl)
            · rw [if_neg hc27] at h
              refine zr_steps 1 (65, [some (.ref 73), some (.int v1), some (.int v2), some (.int v3), some (.int v4), some (.int v5), none], [.int (-12)], (SH, I, J)) rfl ?_
              have he := Option.some.inj h
              subst he
              exact zr_one (some (.inr (.inr (some (.int (-12)))))) rfl (zR_ret rfl rfl)
set_option maxRecDepth 100000 in
set_option maxHeartbeats 4000000 in
theorem ok_f3_isUnder_L4 {X : zX} {d : Nat} {r : Option Value} {M' : zM} (hd : 1 ≤ d) (v1 : Int32) {I : (Nat → Nat → Int32)} {J : (Nat → Nat → Int64)} : ∀ (n : Nat) (s : (Int32 × Int32)) (t : Int32 ⊕ (Int32 × Int32)), zloopR (f3_isUnder_L4 v1 I) n s = some t → zSumE (fun (x : Int32) => r = (some (.int x)) ∧ M' = (SH, I, J)) (fun (x : (Int32 × Int32)) => zRun X d 3 36 [none, none, none, none] [] (SH, I, J) r M') t → (fun (s : (Int32 × Int32)) => zRun X d 3 4 [none, some (.int v1), some (.int s.1), some (.int s.2)] [] (SH, I, J) r M') s := zloopR_ok (B := (f3_isUnder_L4 v1 I)) (Wh := fun (s : (Int32 × Int32)) => zRun X d 3 4 [none, some (.int v1), some (.int s.1), some (.int s.2)] [] (SH, I, J) r M') (Wx := fun (x : (Int32 × Int32)) => zRun X d 3 36 [none, none, none, none] [] (SH, I, J) r M') (Wr := fun (x : Int32) => r = (some (.int x)) ∧ M' = (SH, I, J)) (fun s y h w => by
  unfold f3_isUnder_L4 at h
  refine zr_steps 2 (7, [none, some (.int v1), some (.int s.1), some (.int s.2)], [.int 7, .int s.2], (SH, I, J)) rfl ?_
  refine zr_one (if (7 : Int32) < s.2 then zN 36 [none, some (.int v1), some (.int s.1), some (.int s.2)] [] (SH, I, J) else zN 10 [none, some (.int v1), some (.int s.1), some (.int s.2)] [] (SH, I, J)) rfl (zR_if (fun hc6 => zR_go ?_) (fun hc6 => zR_go ?_))
  · rw [if_pos hc6] at h
    have he := Option.some.inj h
    subst he
    exact zr_hdr (ls2 := [none, none, none, none]) rfl rfl (show zRun X d 3 36 [none, none, none, none] [] (SH, I, J) r M' from w)
  · rw [if_neg hc6] at h
    refine zr_steps 1 (11, [none, some (.int v1), some (.int s.1), some (.int s.2)], [.int s.1], (SH, I, J)) rfl ?_
    obtain ⟨t2, hc1, h⟩ := zbind h
    refine zr_one (some (.inr (.inl (2, [.int s.1], [], 14)))) rfl (zR_call (by omega) rfl (ok_f2_isKind (by omega) s.1 _ hc1) ?_)
    refine zr_one (if t2 = 0 then zN 36 [none, some (.int v1), some (.int s.1), some (.int s.2)] [] (SH, I, J) else zN 17 [none, some (.int v1), some (.int s.1), some (.int s.2)] [] (SH, I, J)) rfl (zR_if (fun hc5 => zR_go ?_) (fun hc5 => zR_go ?_))
    · rw [if_pos hc5] at h
      have he := Option.some.inj h
      subst he
      exact zr_hdr (ls2 := [none, none, none, none]) rfl rfl (show zRun X d 3 36 [none, none, none, none] [] (SH, I, J) r M' from w)
    · rw [if_neg hc5] at h
      refine zr_steps 2 (19, [none, some (.int v1), some (.int s.1), some (.int s.2)], [.int v1, .int s.1], (SH, I, J)) rfl ?_
      refine zr_one (if s.1 = v1 then zN 22 [none, some (.int v1), some (.int s.1), some (.int s.2)] [] (SH, I, J) else zN 24 [none, some (.int v1), some (.int s.1), some (.int s.2)] [] (SH, I, J)) rfl (zR_if (fun hc4 => zR_go ?_) (fun hc4 => zR_go ?_))
      · rw [if_pos hc4] at h
        refine zr_steps 1 (23, [none, some (.int v1), some (.int s.1), some (.int s.2)], [.int 1], (SH, I, J)) rfl ?_
        have he := Option.some.inj h
        subst he
        obtain ⟨e1, e2⟩ := (show r = (some (.int 1)) ∧ M' = (SH, I, J) from w)
        exact zr_one (if ((1 : Int32) = 0 ∨ (1 : Int32) = 1) then some (.inr (.inr (some (.int 1)))) else none) rfl (zR_pos (by decide) (zR_ret e1.symm e2.symm))
      · rw [if_neg hc4] at h
        refine zr_steps 2 (28, [none, some (.int v1), some (.int s.1), some (.int s.2)], [.int s.1, .ref 1002], (SH, I, J)) rfl ?_
        obtain ⟨hc3, h⟩ := zbifo h
        refine zr_one (bif zin s.1 8 then zN 29 [none, some (.int v1), some (.int s.1), some (.int s.2)] [.int (zabove.getD s.1.toNatClampNeg 0)] (SH, I, J) else none) rfl (zR_bif hc3 (zR_go ?_))
        refine zr_steps 3 (4, [none, some (.int v1), some (.int (zabove.getD s.1.toNatClampNeg 0)), some (.int (s.2 + 1))], [], (SH, I, J)) rfl ?_
        have he := Option.some.inj h
        subst he
        exact zr_hdr (ls2 := [none, some (.int v1), some (.int (zabove.getD s.1.toNatClampNeg 0)), some (.int (s.2 + 1))]) rfl rfl (show zRun X d 3 4 [none, some (.int v1), some (.int (zabove.getD s.1.toNatClampNeg 0)), some (.int (s.2 + 1))] [] (SH, I, J) r M' from w))
set_option maxRecDepth 100000 in
set_option maxHeartbeats 4000000 in
theorem ok_f3_isUnder {X : zX} {d : Nat} (hd : 1 ≤ d) (v0 : Int32) (v1 : Int32) {I : (Nat → Nat → Int32)} {J : (Nat → Nat → Int64)} (t : Int32) (h : f3_isUnder v0 v1 I = some t) : zRun X d 3 0 (zent 3 [.int v0, .int v1]) [] (SH, I, J) (some (.int t)) (SH, I, J) := by
  unfold f3_isUnder at h
  refine zr_steps 4 (4, [some (.int v0), some (.int v1), some (.int v0), some (.int 0)], [], (SH, I, J)) rfl ?_
  obtain ⟨y9, ho8, hy⟩ := zbRe h
  refine zr_hdr (ls2 := [none, some (.int v1), some (.int v0), some (.int 0)]) rfl rfl ?_
  refine ok_f3_isUnder_L4 (by omega) v1 5000 (v0, (0 : Int32)) y9 ho8 ?_
  rcases hy with ⟨rr, rfl, h⟩ | ⟨s7, rfl, h⟩
  · have he := Option.some.inj h
    subst he
    exact ⟨rfl, rfl⟩
  · show zRun X d 3 36 [none, none, none, none] [] (SH, I, J) _ _
    refine zr_steps 1 (37, [none, none, none, none], [.int 0], (SH, I, J)) rfl ?_
    have he := Option.some.inj h
    subst he
    exact zr_one (if ((0 : Int32) = 0 ∨ (0 : Int32) = 1) then some (.inr (.inr (some (.int 0)))) else none) rfl (zR_pos (by decide) (zR_ret rfl rfl))
set_option maxRecDepth 100000 in
set_option maxHeartbeats 4000000 in
theorem ok_f124_taken {X : zX} {d : Nat} (hd : 2 ≤ d) (v1 : Int32) (v2 : Int32) {I : (Nat → Nat → Int32)} {J : (Nat → Nat → Int64)} (t : Int32) (h : f124_taken v1 v2 I = some t) : zRun X d 124 0 (zent 124 [.ref 0, .int v1, .int v2]) [] (SH, I, J) (some (.int t)) (SH, I, J) := by
  unfold f124_taken at h
  refine zr_steps 1 (1, [some (.ref 0), some (.int v1), some (.int v2), none], [.int v1], (SH, I, J)) rfl ?_
  obtain ⟨t2, hc1, h⟩ := zbind h
  refine zr_one (some (.inr (.inl (127, [.int v1], [], 4)))) rfl (zR_call (by omega) rfl (ok_f127_isShelf (by omega) v1 _ hc1) ?_)
  refine zr_one (if t2 = 0 then zN 14 [some (.ref 0), some (.int v1), some (.int v2), none] [] (SH, I, J) else zN 7 [some (.ref 0), some (.int v1), some (.int v2), none] [] (SH, I, J)) rfl (zR_if (fun hc19 => zR_go ?_) (fun hc19 => zR_go ?_))
  · rw [if_pos hc19] at h
    refine zr_steps 1 (15, [some (.ref 0), some (.int v1), some (.int v2), none], [.int (-1)], (SH, I, J)) rfl ?_
    have he := Option.some.inj h
    subst he
    exact zr_one (some (.inr (.inr (some (.int (-1)))))) rfl (zR_ret rfl rfl)
  · rw [if_neg hc19] at h
    refine zr_steps 1 (8, [some (.ref 0), some (.int v1), some (.int v2), none], [.int v2], (SH, I, J)) rfl ?_
    obtain ⟨t4, hc3, h⟩ := zbind h
    refine zr_one (some (.inr (.inl (2, [.int v2], [], 11)))) rfl (zR_call (by omega) rfl (ok_f2_isKind (by omega) v2 _ hc3) ?_)
    refine zr_one (if t4 = 0 then zN 14 [some (.ref 0), some (.int v1), some (.int v2), none] [] (SH, I, J) else zN 16 [some (.ref 0), some (.int v1), some (.int v2), none] [] (SH, I, J)) rfl (zR_if (fun hc18 => zR_go ?_) (fun hc18 => zR_go ?_))
    · rw [if_pos hc18] at h
      refine zr_steps 1 (15, [some (.ref 0), some (.int v1), some (.int v2), none], [.int (-1)], (SH, I, J)) rfl ?_
      have he := Option.some.inj h
      subst he
      exact zr_one (some (.inr (.inr (some (.int (-1)))))) rfl (zR_ret rfl rfl)
    · rw [if_neg hc18] at h
      refine zr_steps 3 (21, [some (.ref 0), some (.int v1), some (.int v2), none], [.int v1, .ref 60], (SH, I, J)) rfl ?_
      obtain ⟨hc5, h⟩ := zbifo h
      refine zr_one (bif zin v1 6 then zrefr 22 [some (.ref 0), some (.int v1), some (.int v2), none] [] (SH, I, J) (zri (SH, I, J) 60 v1.toNatClampNeg) else none) rfl (zR_bif hc5 (zR_ref (sh_at hc5) ?_))
      obtain ⟨t7, hc6, h⟩ := zbind h
      refine zr_one (bif zrcv (SH, I, J) 52 [.ref (zshelf v1)] then some (.inr (.inl (52, [.ref (zshelf v1)], [], 25))) else none) rfl (zR_bif (sh_rcv (sh_is hc5) rfl rfl) (zR_call (by omega) rfl (ok_f52_isEmpty (by omega) (zshelf v1) (sh_is hc5) _ hc6) ?_))
      refine zr_one (if t7 = 0 then zN 31 [some (.ref 0), some (.int v1), some (.int v2), none] [] (SH, I, J) else zN 28 [some (.ref 0), some (.int v1), some (.int v2), none] [] (SH, I, J)) rfl (zR_if (fun hc17 => zR_go ?_) (fun hc17 => zR_go ?_))
      · rw [if_pos hc17] at h
        refine zr_steps 3 (36, [some (.ref 0), some (.int v1), some (.int v2), none], [.int v1, .ref 60], (SH, I, J)) rfl ?_
        obtain ⟨hc8, h⟩ := zbifo h
        refine zr_one (bif zin v1 6 then zrefr 37 [some (.ref 0), some (.int v1), some (.int v2), none] [] (SH, I, J) (zri (SH, I, J) 60 v1.toNatClampNeg) else none) rfl (zR_bif hc8 (zR_ref (sh_at hc8) ?_))
        refine zr_one (zfget 37 4 0 [some (.ref 0), some (.int v1), some (.int v2), none] [.ref (zshelf v1)] (SH, I, J)) rfl (sR_get (sh_is hc8) (by decide) ?_)
        refine zr_steps 4 (46, [some (.ref 0), some (.int v1), some (.int v2), some (.int (I (zshelf v1) 0))], [.int (I (zshelf v1) 0), .ref 57], (SH, I, J)) rfl ?_
        obtain ⟨t10, hc9, h⟩ := zbind h
        refine zr_one (some (.inr (.inl (4, [.ref 57, .int (I (zshelf v1) 0)], [], 49)))) rfl (zR_call (by omega) rfl (ok_f4_isBody (by omega) (I (zshelf v1) 0) _ hc9) ?_)
        refine zr_one (if t10 = 0 then zN 68 [some (.ref 0), some (.int v1), some (.int v2), some (.int (I (zshelf v1) 0))] [] (SH, I, J) else zN 52 [some (.ref 0), some (.int v1), some (.int v2), some (.int (I (zshelf v1) 0))] [] (SH, I, J)) rfl (zR_if (fun hc16 => zR_go ?_) (fun hc16 => zR_go ?_))
        · rw [if_pos hc16] at h
          refine zr_steps 1 (70, [some (.ref 0), some (.int v1), some (.int v2), some (.int (I (zshelf v1) 0))], [.int (-12)], (SH, I, J)) rfl ?_
          have he := Option.some.inj h
          subst he
          exact zr_one (some (.inr (.inr (some (.int (-12)))))) rfl (zR_ret rfl rfl)
        · rw [if_neg hc16] at h
          refine zr_steps 4 (60, [some (.ref 0), some (.int v1), some (.int v2), some (.int (I (zshelf v1) 0))], [.int (I (zshelf v1) 0), .ref 58], (SH, I, J)) rfl ?_
          obtain ⟨hc11, h⟩ := zbifo h
          refine zr_one (bif zin (I (zshelf v1) 0) 50 then zN 61 [some (.ref 0), some (.int v1), some (.int v2), some (.int (I (zshelf v1) 0))] [.int (I 58 (I (zshelf v1) 0).toNatClampNeg)] (SH, I, J) else none) rfl (zR_bif hc11 (zR_go ?_))
          refine zr_steps 1 (62, [some (.ref 0), some (.int v1), some (.int v2), some (.int (I (zshelf v1) 0))], [.int v2, .int (I 58 (I (zshelf v1) 0).toNatClampNeg)], (SH, I, J)) rfl ?_
          obtain ⟨t13, hc12, h⟩ := zbind h
          refine zr_one (some (.inr (.inl (3, [.int (I 58 (I (zshelf v1) 0).toNatClampNeg), .int v2], [], 65)))) rfl (zR_call (by omega) rfl (ok_f3_isUnder (by omega) (I 58 (I (zshelf v1) 0).toNatClampNeg) v2 _ hc12) ?_)
          refine zr_one (if t13 = 0 then zN 68 [some (.ref 0), some (.int v1), some (.int v2), some (.int (I (zshelf v1) 0))] [] (SH, I, J) else zN 71 [some (.ref 0), some (.int v1), some (.int v2), some (.int (I (zshelf v1) 0))] [] (SH, I, J)) rfl (zR_if (fun hc15 => zR_go ?_) (fun hc15 => zR_go ?_))
          · rw [if_pos hc15] at h
            refine zr_steps 1 (70, [some (.ref 0), some (.int v1), some (.int v2), some (.int (I (zshelf v1) 0))], [.int (-12)], (SH, I, J)) rfl ?_
            have he := Option.some.inj h
            subst he
            exact zr_one (some (.inr (.inr (some (.int (-12)))))) rfl (zR_ret rfl rfl)
          · rw [if_neg hc15] at h
            refine zr_steps 4 (79, [some (.ref 0), some (.int v1), some (.int v2), some (.int (I (zshelf v1) 0))], [.int (I (zshelf v1) 0), .ref 58], (SH, I, J)) rfl ?_
            obtain ⟨hc14, h⟩ := zbifo h
            refine zr_one (bif zin (I (zshelf v1) 0) 50 then zN 80 [some (.ref 0), some (.int v1), some (.int v2), some (.int (I (zshelf v1) 0))] [.int (I 58 (I (zshelf v1) 0).toNatClampNeg)] (SH, I, J) else none) rfl (zR_bif hc14 (zR_go ?_))
            have he := Option.some.inj h
            subst he
            exact zr_one (some (.inr (.inr (some (.int (I 58 (I (zshelf v1) 0).toNatClampNeg)))))) rfl (zR_ret rfl rfl)
      · rw [if_neg hc17] at h
        refine zr_steps 1 (30, [some (.ref 0), some (.int v1), some (.int v2), none], [.int (-11)], (SH, I, J)) rfl ?_
        have he := Option.some.inj h
        subst he
        exact zr_one (some (.inr (.inr (some (.int (-11)))))) rfl (zR_ret rfl rfl)
set_option maxRecDepth 100000 in
set_option maxHeartbeats 4000000 in
theorem ok_f217_taken {X : zX} {d : Nat} (hd : 2 ≤ d) (v1 : Int32) (v2 : Int32) {I : (Nat → Nat → Int32)} {J : (Nat → Nat → Int64)} (t : Int32) (h : f217_taken v1 v2 I = some t) : zRun X d 217 0 (zent 217 [.ref 73, .int v1, .int v2]) [] (SH, I, J) (some (.int t)) (SH, I, J) := by
  unfold f217_taken at h
  refine zr_steps 1 (1, [some (.ref 73), some (.int v1), some (.int v2)], [.int v1], (SH, I, J)) rfl ?_
  obtain ⟨t2, hc1, h⟩ := zbind h
  refine zr_one (some (.inr (.inl (210, [.int v1], [], 4)))) rfl (zR_call (by omega) rfl (ok_f210_isShelf (by omega) v1 _ hc1) ?_)
  refine zr_one (if t2 = 0 then zN 17 [some (.ref 73), some (.int v1), some (.int v2)] [] (SH, I, J) else zN 7 [some (.ref 73), some (.int v1), some (.int v2)] [] (SH, I, J)) rfl (zR_if (fun hc17 => zR_go ?_) (fun hc17 => zR_go ?_))
  · rw [if_pos hc17] at h
    refine zr_steps 1 (18, [some (.ref 73), some (.int v1), some (.int v2)], [.int (-1)], (SH, I, J)) rfl ?_
    have he := Option.some.inj h
    subst he
    exact zr_one (some (.inr (.inr (some (.int (-1)))))) rfl (zR_ret rfl rfl)
  · rw [if_neg hc17] at h
    refine zr_steps 3 (11, [some (.ref 73), some (.int v1), some (.int v2)], [.int 7, .int 0, .int v2], (SH, I, J)) rfl ?_
    obtain ⟨t4, hc3, h⟩ := zbind h
    refine zr_one (some (.inr (.inl (129, [.int v2, .int 0, .int 7], [], 14)))) rfl (zR_call (by omega) rfl (ok_f129_in (by omega) v2 0 7 _ hc3) ?_)
    refine zr_one (if t4 = 0 then zN 17 [some (.ref 73), some (.int v1), some (.int v2)] [] (SH, I, J) else zN 19 [some (.ref 73), some (.int v1), some (.int v2)] [] (SH, I, J)) rfl (zR_if (fun hc16 => zR_go ?_) (fun hc16 => zR_go ?_))
    · rw [if_pos hc16] at h
      refine zr_steps 1 (18, [some (.ref 73), some (.int v1), some (.int v2)], [.int (-1)], (SH, I, J)) rfl ?_
      have he := Option.some.inj h
      subst he
      exact zr_one (some (.inr (.inr (some (.int (-1)))))) rfl (zR_ret rfl rfl)
    · rw [if_neg hc16] at h
      refine zr_steps 3 (24, [some (.ref 73), some (.int v1), some (.int v2)], [.int v1, .ref 110], (SH, I, J)) rfl ?_
      obtain ⟨hc5, h⟩ := zbifo h
      refine zr_one (bif zin v1 6 then zN 25 [some (.ref 73), some (.int v1), some (.int v2)] [.int (I 110 v1.toNatClampNeg)] (SH, I, J) else none) rfl (zR_bif hc5 (zR_go ?_))
      refine zr_steps 1 (26, [some (.ref 73), some (.int v1), some (.int v2)], [.int (-1), .int (I 110 v1.toNatClampNeg)], (SH, I, J)) rfl ?_
      refine zr_one (if (I 110 v1.toNatClampNeg) = (-1) then zN 29 [some (.ref 73), some (.int v1), some (.int v2)] [] (SH, I, J) else zN 32 [some (.ref 73), some (.int v1), some (.int v2)] [] (SH, I, J)) rfl (zR_if (fun hc15 => zR_go ?_) (fun hc15 => zR_go ?_))
      · rw [if_pos hc15] at h
        refine zr_steps 1 (31, [some (.ref 73), some (.int v1), some (.int v2)], [.int (-11)], (SH, I, J)) rfl ?_
        have he := Option.some.inj h
        subst he
        exact zr_one (some (.inr (.inr (some (.int (-11)))))) rfl (zR_ret rfl rfl)
      · rw [if_neg hc15] at h
        refine zr_steps 3 (37, [some (.ref 73), some (.int v1), some (.int v2)], [.int v1, .ref 110], (SH, I, J)) rfl ?_
        obtain ⟨hc6, h⟩ := zbifo h
        refine zr_one (bif zin v1 6 then zN 38 [some (.ref 73), some (.int v1), some (.int v2)] [.int (I 110 v1.toNatClampNeg)] (SH, I, J) else none) rfl (zR_bif hc6 (zR_go ?_))
        refine zr_one (if (I 110 v1.toNatClampNeg) < 0 then zN 73 [some (.ref 73), some (.int v1), some (.int v2)] [] (SH, I, J) else zN 41 [some (.ref 73), some (.int v1), some (.int v2)] [] (SH, I, J)) rfl (zR_if (fun hc14 => zR_go ?_) (fun hc14 => zR_go ?_))
        · rw [if_pos hc14] at h
          refine zr_steps 1 (75, [some (.ref 73), some (.int v1), some (.int v2)], [.int (-12)], (SH, I, J)) rfl ?_
          have he := Option.some.inj h
          subst he
          exact zr_one (some (.inr (.inr (some (.int (-12)))))) rfl (zR_ret rfl rfl)
        · rw [if_neg hc14] at h
          refine zr_steps 5 (50, [some (.ref 73), some (.int v1), some (.int v2)], [.int v1, .ref 110, .ref 108], (SH, I, J)) rfl ?_
          obtain ⟨hc7, h⟩ := zbifo h
          refine zr_one (bif zin v1 6 then zN 51 [some (.ref 73), some (.int v1), some (.int v2)] [.int (I 110 v1.toNatClampNeg), .ref 108] (SH, I, J) else none) rfl (zR_bif hc7 (zR_go ?_))
          obtain ⟨hc8, h⟩ := zbifo h
          refine zr_one (bif zin (I 110 v1.toNatClampNeg) 50 then zN 52 [some (.ref 73), some (.int v1), some (.int v2)] [.int (I 108 (I 110 v1.toNatClampNeg).toNatClampNeg)] (SH, I, J) else none) rfl (zR_bif hc8 (zR_go ?_))
          refine zr_steps 1 (53, [some (.ref 73), some (.int v1), some (.int v2)], [.int v2, .int (I 108 (I 110 v1.toNatClampNeg).toNatClampNeg)], (SH, I, J)) rfl ?_
          obtain ⟨t10, hc9, h⟩ := zbind h
          refine zr_one (some (.inr (.inl (196, [.int (I 108 (I 110 v1.toNatClampNeg).toNatClampNeg), .int v2], [], 56)))) rfl (zR_call (by omega) rfl (ok_f196_isUnder (by omega) (I 108 (I 110 v1.toNatClampNeg).toNatClampNeg) v2 _ hc9) ?_)
          refine zr_one (if t10 = 0 then zN 73 [some (.ref 73), some (.int v1), some (.int v2)] [] (SH, I, J) else zN 59 [some (.ref 73), some (.int v1), some (.int v2)] [] (SH, I, J)) rfl (zR_if (fun hc13 => zR_go ?_) (fun hc13 => zR_go ?_))
          · rw [if_pos hc13] at h
            refine zr_steps 1 (75, [some (.ref 73), some (.int v1), some (.int v2)], [.int (-12)], (SH, I, J)) rfl ?_
            have he := Option.some.inj h
            subst he
            exact zr_one (some (.inr (.inr (some (.int (-12)))))) rfl (zR_ret rfl rfl)
          · rw [if_neg hc13] at h
            refine zr_steps 5 (68, [some (.ref 73), some (.int v1), some (.int v2)], [.int v1, .ref 110, .ref 108], (SH, I, J)) rfl ?_
            obtain ⟨hc11, h⟩ := zbifo h
            refine zr_one (bif zin v1 6 then zN 69 [some (.ref 73), some (.int v1), some (.int v2)] [.int (I 110 v1.toNatClampNeg), .ref 108] (SH, I, J) else none) rfl (zR_bif hc11 (zR_go ?_))
            obtain ⟨hc12, h⟩ := zbifo h
            refine zr_one (bif zin (I 110 v1.toNatClampNeg) 50 then zN 70 [some (.ref 73), some (.int v1), some (.int v2)] [.int (I 108 (I 110 v1.toNatClampNeg).toNatClampNeg)] (SH, I, J) else none) rfl (zR_bif hc12 (zR_go ?_))
            refine zr_steps 1 (75, [some (.ref 73), some (.int v1), some (.int v2)], [.int (I 108 (I 110 v1.toNatClampNeg).toNatClampNeg)], (SH, I, J)) rfl ?_
            have he := Option.some.inj h
            subst he
            exact zr_one (some (.inr (.inr (some (.int (I 108 (I 110 v1.toNatClampNeg).toNatClampNeg)))))) rfl (zR_ret rfl rfl)
set_option maxRecDepth 100000 in
set_option maxHeartbeats 4000000 in
theorem ok_f125_count {X : zX} {d : Nat} (hd : 0 ≤ d) (v1 : Int32) {I : (Nat → Nat → Int32)} {J : (Nat → Nat → Int64)} (t : Int32) (h : f125_count v1 I = some t) : zRun X d 125 0 (zent 125 [.ref 0, .int v1]) [] (SH, I, J) (some (.int t)) (SH, I, J) := by
  unfold f125_count at h
  refine zr_steps 1 (1, [some (.ref 0), some (.int v1)], [.int v1], (SH, I, J)) rfl ?_
  refine zr_one (if v1.toInt = 0 then zN 48 [some (.ref 0), some (.int v1)] [] (SH, I, J) else (if v1.toInt = 1 then zN 56 [some (.ref 0), some (.int v1)] [] (SH, I, J) else (if v1.toInt = 2 then zN 64 [some (.ref 0), some (.int v1)] [] (SH, I, J) else (if v1.toInt = 3 then zN 72 [some (.ref 0), some (.int v1)] [] (SH, I, J) else (if v1.toInt = 4 then zN 80 [some (.ref 0), some (.int v1)] [] (SH, I, J) else (if v1.toInt = 5 then zN 88 [some (.ref 0), some (.int v1)] [] (SH, I, J) else (if v1.toInt = 6 then zN 96 [some (.ref 0), some (.int v1)] [] (SH, I, J) else (if v1.toInt = 7 then zN 104 [some (.ref 0), some (.int v1)] [] (SH, I, J) else zN 112 [some (.ref 0), some (.int v1)] [] (SH, I, J))))))))) rfl ?_
  refine zR_if (fun hc8 => zR_go ?_) (fun hc8 => ?_)
  · rw [if_pos hc8] at h
    refine zr_steps 3 (55, [some (.ref 0), some (.int v1)], [.int (I 1 0)], (SH, I, J)) rfl ?_
    have he := Option.some.inj h
    subst he
    exact zr_one (some (.inr (.inr (some (.int (I 1 0)))))) rfl (zR_ret rfl rfl)
  rw [if_neg hc8] at h
  refine zR_if (fun hc7 => zR_go ?_) (fun hc7 => ?_)
  · rw [if_pos hc7] at h
    refine zr_steps 3 (63, [some (.ref 0), some (.int v1)], [.int (I 1 1)], (SH, I, J)) rfl ?_
    have he := Option.some.inj h
    subst he
    exact zr_one (some (.inr (.inr (some (.int (I 1 1)))))) rfl (zR_ret rfl rfl)
  rw [if_neg hc7] at h
  refine zR_if (fun hc6 => zR_go ?_) (fun hc6 => ?_)
  · rw [if_pos hc6] at h
    refine zr_steps 3 (71, [some (.ref 0), some (.int v1)], [.int (I 1 2)], (SH, I, J)) rfl ?_
    have he := Option.some.inj h
    subst he
    exact zr_one (some (.inr (.inr (some (.int (I 1 2)))))) rfl (zR_ret rfl rfl)
  rw [if_neg hc6] at h
  refine zR_if (fun hc5 => zR_go ?_) (fun hc5 => ?_)
  · rw [if_pos hc5] at h
    refine zr_steps 3 (79, [some (.ref 0), some (.int v1)], [.int (I 15 7)], (SH, I, J)) rfl ?_
    have he := Option.some.inj h
    subst he
    exact zr_one (some (.inr (.inr (some (.int (I 15 7)))))) rfl (zR_ret rfl rfl)
  rw [if_neg hc5] at h
  refine zR_if (fun hc4 => zR_go ?_) (fun hc4 => ?_)
  · rw [if_pos hc4] at h
    refine zr_steps 3 (87, [some (.ref 0), some (.int v1)], [.int (I 15 6)], (SH, I, J)) rfl ?_
    have he := Option.some.inj h
    subst he
    exact zr_one (some (.inr (.inr (some (.int (I 15 6)))))) rfl (zR_ret rfl rfl)
  rw [if_neg hc4] at h
  refine zR_if (fun hc3 => zR_go ?_) (fun hc3 => ?_)
  · rw [if_pos hc3] at h
    refine zr_steps 3 (95, [some (.ref 0), some (.int v1)], [.int (I 52 5)], (SH, I, J)) rfl ?_
    have he := Option.some.inj h
    subst he
    exact zr_one (some (.inr (.inr (some (.int (I 52 5)))))) rfl (zR_ret rfl rfl)
  rw [if_neg hc3] at h
  refine zR_if (fun hc2 => zR_go ?_) (fun hc2 => ?_)
  · rw [if_pos hc2] at h
    refine zr_steps 3 (103, [some (.ref 0), some (.int v1)], [.int (I 57 2)], (SH, I, J)) rfl ?_
    have he := Option.some.inj h
    subst he
    exact zr_one (some (.inr (.inr (some (.int (I 57 2)))))) rfl (zR_ret rfl rfl)
  rw [if_neg hc2] at h
  refine zR_if (fun hc1 => zR_go ?_) (fun hc1 => ?_)
  · rw [if_pos hc1] at h
    refine zr_steps 3 (111, [some (.ref 0), some (.int v1)], [.int (I 57 3)], (SH, I, J)) rfl ?_
    have he := Option.some.inj h
    subst he
    exact zr_one (some (.inr (.inr (some (.int (I 57 3)))))) rfl (zR_ret rfl rfl)
  rw [if_neg hc1] at h
  refine zR_go ?_
  refine zr_steps 1 (113, [some (.ref 0), some (.int v1)], [.int (-1)], (SH, I, J)) rfl ?_
  have he := Option.some.inj h
  subst he
  exact zr_one (some (.inr (.inr (some (.int (-1)))))) rfl (zR_ret rfl rfl)
set_option maxRecDepth 100000 in
set_option maxHeartbeats 4000000 in
theorem ok_f209_count {X : zX} {d : Nat} (hd : 0 ≤ d) (v1 : Int32) {I : (Nat → Nat → Int32)} {J : (Nat → Nat → Int64)} (t : Int32) (h : f209_count v1 I = some t) : zRun X d 209 0 (zent 209 [.ref 73, .int v1]) [] (SH, I, J) (some (.int t)) (SH, I, J) := by
  unfold f209_count at h
  refine zr_steps 1 (1, [some (.ref 73), some (.int v1)], [.int v1], (SH, I, J)) rfl ?_
  refine zr_one (if v1.toInt = 0 then zN 48 [some (.ref 73), some (.int v1)] [] (SH, I, J) else (if v1.toInt = 1 then zN 53 [some (.ref 73), some (.int v1)] [] (SH, I, J) else (if v1.toInt = 2 then zN 58 [some (.ref 73), some (.int v1)] [] (SH, I, J) else (if v1.toInt = 3 then zN 63 [some (.ref 73), some (.int v1)] [] (SH, I, J) else (if v1.toInt = 4 then zN 68 [some (.ref 73), some (.int v1)] [] (SH, I, J) else (if v1.toInt = 5 then zN 73 [some (.ref 73), some (.int v1)] [] (SH, I, J) else (if v1.toInt = 6 then zN 78 [some (.ref 73), some (.int v1)] [] (SH, I, J) else (if v1.toInt = 7 then zN 83 [some (.ref 73), some (.int v1)] [] (SH, I, J) else zN 88 [some (.ref 73), some (.int v1)] [] (SH, I, J))))))))) rfl ?_
  refine zR_if (fun hc8 => zR_go ?_) (fun hc8 => ?_)
  · rw [if_pos hc8] at h
    refine zr_steps 2 (52, [some (.ref 73), some (.int v1)], [.int (I 73 1)], (SH, I, J)) rfl ?_
    have he := Option.some.inj h
    subst he
    exact zr_one (some (.inr (.inr (some (.int (I 73 1)))))) rfl (zR_ret rfl rfl)
  rw [if_neg hc8] at h
  refine zR_if (fun hc7 => zR_go ?_) (fun hc7 => ?_)
  · rw [if_pos hc7] at h
    refine zr_steps 2 (57, [some (.ref 73), some (.int v1)], [.int (I 73 4)], (SH, I, J)) rfl ?_
    have he := Option.some.inj h
    subst he
    exact zr_one (some (.inr (.inr (some (.int (I 73 4)))))) rfl (zR_ret rfl rfl)
  rw [if_neg hc7] at h
  refine zR_if (fun hc6 => zR_go ?_) (fun hc6 => ?_)
  · rw [if_pos hc6] at h
    refine zr_steps 2 (62, [some (.ref 73), some (.int v1)], [.int (I 73 9)], (SH, I, J)) rfl ?_
    have he := Option.some.inj h
    subst he
    exact zr_one (some (.inr (.inr (some (.int (I 73 9)))))) rfl (zR_ret rfl rfl)
  rw [if_neg hc6] at h
  refine zR_if (fun hc5 => zR_go ?_) (fun hc5 => ?_)
  · rw [if_pos hc5] at h
    refine zr_steps 2 (67, [some (.ref 73), some (.int v1)], [.int (I 73 31)], (SH, I, J)) rfl ?_
    have he := Option.some.inj h
    subst he
    exact zr_one (some (.inr (.inr (some (.int (I 73 31)))))) rfl (zR_ret rfl rfl)
  rw [if_neg hc5] at h
  refine zR_if (fun hc4 => zR_go ?_) (fun hc4 => ?_)
  · rw [if_pos hc4] at h
    refine zr_steps 2 (72, [some (.ref 73), some (.int v1)], [.int (I 73 19)], (SH, I, J)) rfl ?_
    have he := Option.some.inj h
    subst he
    exact zr_one (some (.inr (.inr (some (.int (I 73 19)))))) rfl (zR_ret rfl rfl)
  rw [if_neg hc4] at h
  refine zR_if (fun hc3 => zR_go ?_) (fun hc3 => ?_)
  · rw [if_pos hc3] at h
    refine zr_steps 2 (77, [some (.ref 73), some (.int v1)], [.int (I 73 32)], (SH, I, J)) rfl ?_
    have he := Option.some.inj h
    subst he
    exact zr_one (some (.inr (.inr (some (.int (I 73 32)))))) rfl (zR_ret rfl rfl)
  rw [if_neg hc3] at h
  refine zR_if (fun hc2 => zR_go ?_) (fun hc2 => ?_)
  · rw [if_pos hc2] at h
    refine zr_steps 2 (82, [some (.ref 73), some (.int v1)], [.int (I 73 66)], (SH, I, J)) rfl ?_
    have he := Option.some.inj h
    subst he
    exact zr_one (some (.inr (.inr (some (.int (I 73 66)))))) rfl (zR_ret rfl rfl)
  rw [if_neg hc2] at h
  refine zR_if (fun hc1 => zR_go ?_) (fun hc1 => ?_)
  · rw [if_pos hc1] at h
    refine zr_steps 2 (87, [some (.ref 73), some (.int v1)], [.int (I 73 68)], (SH, I, J)) rfl ?_
    have he := Option.some.inj h
    subst he
    exact zr_one (some (.inr (.inr (some (.int (I 73 68)))))) rfl (zR_ret rfl rfl)
  rw [if_neg hc1] at h
  refine zR_go ?_
  refine zr_steps 1 (89, [some (.ref 73), some (.int v1)], [.int (-1)], (SH, I, J)) rfl ?_
  have he := Option.some.inj h
  subst he
  exact zr_one (some (.inr (.inr (some (.int (-1)))))) rfl (zR_ret rfl rfl)
