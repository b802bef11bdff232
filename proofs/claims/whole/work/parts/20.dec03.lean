set_option maxRecDepth 100000 in
set_option maxHeartbeats 4000000 in
theorem ok_f146_product_L4 {X : zX} {d : Nat} {r : Option Value} {M' : zM} {n0 : Nat} (ih : ((∀ {X : zX} {d : Nat} (hd : n0 + 2 ≤ d) (I : (Nat → Nat → Int32)) (J : (Nat → Nat → Int64)) (t : (Nat → Nat → Int32)), (F145 n0).1 I = some t → zRun X d 145 0 (zent 145 [.ref 73]) [] (SH, I, J) none (SH, t, J)) ∧ (∀ {X : zX} {d : Nat} (hd : n0 + 2 ≤ d) (I : (Nat → Nat → Int32)) (J : (Nat → Nat → Int64)) (t : (Nat → Nat → Int32)), (F145 n0).2.1 I = some t → zRun X d 146 0 (zent 146 [.ref 73]) [] (SH, I, J) none (SH, t, J)) ∧ (∀ {X : zX} {d : Nat} (hd : n0 + 2 ≤ d) (I : (Nat → Nat → Int32)) (J : (Nat → Nat → Int64)) (t : (Nat → Nat → Int32)), (F145 n0).2.2.1 I = some t → zRun X d 147 0 (zent 147 [.ref 73]) [] (SH, I, J) none (SH, t, J)) ∧ (∀ {X : zX} {d : Nat} (hd : n0 + 2 ≤ d) (I : (Nat → Nat → Int32)) (J : (Nat → Nat → Int64)) (t : (Nat → Nat → Int32)), (F145 n0).2.2.2.1 I = some t → zRun X d 148 0 (zent 148 [.ref 73]) [] (SH, I, J) none (SH, t, J)) ∧ (∀ {X : zX} {d : Nat} (hd : n0 + 2 ≤ d) (I : (Nat → Nat → Int32)) (J : (Nat → Nat → Int64)) (t : (Nat → Nat → Int32)), (F145 n0).2.2.2.2.1 I = some t → zRun X d 149 0 (zent 149 [.ref 73]) [] (SH, I, J) none (SH, t, J)) ∧ (∀ {X : zX} {d : Nat} (hd : n0 + 2 ≤ d) (I : (Nat → Nat → Int32)) (J : (Nat → Nat → Int64)) (t : (Nat → Nat → Int32)), (F145 n0).2.2.2.2.2 I = some t → zRun X d 150 0 (zent 150 [.ref 73]) [] (SH, I, J) none (SH, t, J)))) (hd : n0 + 1 + 2 ≤ d) {J : (Nat → Nat → Int64)} : ∀ (n : Nat) (s x : (Nat → Nat → Int32)), zloop (f146_product_L4 (F145 n0)) n s = some x → (fun (x : (Nat → Nat → Int32)) => zRun X d 146 66 [none, none] [] (SH, x, J) r M') x → (fun (s : (Nat → Nat → Int32)) => zRun X d 146 4 [some (.ref 73), none] [] (SH, s, J) r M') s := zloop_ok (B := (f146_product_L4 (F145 n0))) (Wh := fun (s : (Nat → Nat → Int32)) => zRun X d 146 4 [some (.ref 73), none] [] (SH, s, J) r M') (Wx := fun (x : (Nat → Nat → Int32)) => zRun X d 146 66 [none, none] [] (SH, x, J) r M') (fun s y h w => by
  unfold f146_product_L4 at h
  refine zr_steps 2 (8, [some (.ref 73), none], [.int (s 73 21)], (SH, s, J)) rfl ?_
  refine zr_one (if (0 : Int32) ≤ (s 73 21) then zN 66 [some (.ref 73), none] [] (SH, s, J) else zN 11 [some (.ref 73), none] [] (SH, s, J)) rfl (zR_if (fun hc30 => zR_go ?_) (fun hc30 => zR_go ?_))
  · rw [if_pos hc30] at h
    have he := Option.some.inj h
    subst he
    exact zr_hdv (ls2 := [none, none]) rfl rfl (show zRun X d 146 66 [none, none] [] (SH, s, J) r M' from w)
  · rw [if_neg hc30] at h
    refine zr_steps 1 (12, [some (.ref 73), none], [.ref 73], (SH, s, J)) rfl ?_
    obtain ⟨t4, hc3, h⟩ := zbind h
    refine zr_one (some (.inr (.inl (139, [.ref 73], [], 15)))) rfl (zR_call (by omega) rfl (ok_f139_look (by omega)  _ hc3) ?_)
    refine zr_steps 1 (17, [some (.ref 73), none], [.int 42, .int t4], (SH, s, J)) rfl ?_
    refine zr_one (if t4 = 42 then zN 38 [some (.ref 73), none] [] (SH, s, J) else zN 20 [some (.ref 73), none] [] (SH, s, J)) rfl (zR_if (fun hc29 => zR_go ?_) (fun hc29 => zR_go ?_))
    · rw [if_pos hc29] at h
      refine zr_steps 1 (39, [some (.ref 73), none], [.ref 73], (SH, s, J)) rfl ?_
      obtain ⟨t6, hc5, h⟩ := zbind h
      refine zr_one (some (.inr (.inl (139, [.ref 73], [], 42)))) rfl (zR_call (by omega) rfl (ok_f139_look (by omega)  _ hc5) ?_)
      refine zr_steps 8 (54, [some (.ref 73), some (.int t6)], [.ref 73], (SH, (zu s 73 20 ((s 73 20) + 1)), J)) rfl ?_
      obtain ⟨t8, hc7, h⟩ := zbind h
      refine zr_one (some (.inr (.inl (145, [.ref 73], [], 57)))) rfl (zR_call (by omega) rfl (ih.1 (by omega) (zu s 73 20 ((s 73 20) + 1)) J _ hc7) ?_)
      refine zr_steps 3 (60, [some (.ref 73), some (.int t6)], [.int 0, .int t6, .ref 73], (SH, t8, J)) rfl ?_
      obtain ⟨t10, hc9, h⟩ := zbind h
      refine zr_one (some (.inr (.inl (141, [.ref 73, .int t6, .int 0], [], 63)))) rfl (zR_call (by omega) rfl (ok_f141_addStep (by omega) t6 0 _ hc9) ?_)
      refine zr_steps 1 (4, [some (.ref 73), some (.int t6)], [], (SH, t10, J)) rfl ?_
      have he := Option.some.inj h
      subst he
      exact zr_hdr (ls2 := [some (.ref 73), none]) rfl rfl (show zRun X d 146 4 [some (.ref 73), none] [] (SH, t10, J) r M' from w)
    · rw [if_neg hc29] at h
      refine zr_steps 1 (21, [some (.ref 73), none], [.ref 73], (SH, s, J)) rfl ?_
      obtain ⟨t12, hc11, h⟩ := zbind h
      refine zr_one (some (.inr (.inl (139, [.ref 73], [], 24)))) rfl (zR_call (by omega) rfl (ok_f139_look (by omega)  _ hc11) ?_)
      refine zr_steps 1 (26, [some (.ref 73), none], [.int 47, .int t12], (SH, s, J)) rfl ?_
      refine zr_one (if t12 = 47 then zN 38 [some (.ref 73), none] [] (SH, s, J) else zN 29 [some (.ref 73), none] [] (SH, s, J)) rfl (zR_if (fun hc28 => zR_go ?_) (fun hc28 => zR_go ?_))
      · rw [if_pos hc28] at h
        refine zr_steps 1 (39, [some (.ref 73), none], [.ref 73], (SH, s, J)) rfl ?_
        obtain ⟨t14, hc13, h⟩ := zbind h
        refine zr_one (some (.inr (.inl (139, [.ref 73], [], 42)))) rfl (zR_call (by omega) rfl (ok_f139_look (by omega)  _ hc13) ?_)
        refine zr_steps 8 (54, [some (.ref 73), some (.int t14)], [.ref 73], (SH, (zu s 73 20 ((s 73 20) + 1)), J)) rfl ?_
        obtain ⟨t16, hc15, h⟩ := zbind h
        refine zr_one (some (.inr (.inl (145, [.ref 73], [], 57)))) rfl (zR_call (by omega) rfl (ih.1 (by omega) (zu s 73 20 ((s 73 20) + 1)) J _ hc15) ?_)
        refine zr_steps 3 (60, [some (.ref 73), some (.int t14)], [.int 0, .int t14, .ref 73], (SH, t16, J)) rfl ?_
        obtain ⟨t18, hc17, h⟩ := zbind h
        refine zr_one (some (.inr (.inl (141, [.ref 73, .int t14, .int 0], [], 63)))) rfl (zR_call (by omega) rfl (ok_f141_addStep (by omega) t14 0 _ hc17) ?_)
        refine zr_steps 1 (4, [some (.ref 73), some (.int t14)], [], (SH, t18, J)) rfl ?_
        have he := Option.some.inj h
        subst he
        exact zr_hdr (ls2 := [some (.ref 73), none]) rfl rfl (show zRun X d 146 4 [some (.ref 73), none] [] (SH, t18, J) r M' from w)
      · rw [if_neg hc28] at h
        refine zr_steps 1 (30, [some (.ref 73), none], [.ref 73], (SH, s, J)) rfl ?_
        obtain ⟨t20, hc19, h⟩ := zbind h
        refine zr_one (some (.inr (.inl (139, [.ref 73], [], 33)))) rfl (zR_call (by omega) rfl (ok_f139_look (by omega)  _ hc19) ?_)
        refine zr_steps 1 (35, [some (.ref 73), none], [.int 37, .int t20], (SH, s, J)) rfl ?_
        refine zr_one (if t20 = 37 then zN 38 [some (.ref 73), none] [] (SH, s, J) else zN 66 [some (.ref 73), none] [] (SH, s, J)) rfl (zR_if (fun hc27 => zR_go ?_) (fun hc27 => zR_go ?_))
        · rw [if_pos hc27] at h
          refine zr_steps 1 (39, [some (.ref 73), none], [.ref 73], (SH, s, J)) rfl ?_
          obtain ⟨t22, hc21, h⟩ := zbind h
          refine zr_one (some (.inr (.inl (139, [.ref 73], [], 42)))) rfl (zR_call (by omega) rfl (ok_f139_look (by omega)  _ hc21) ?_)
          refine zr_steps 8 (54, [some (.ref 73), some (.int t22)], [.ref 73], (SH, (zu s 73 20 ((s 73 20) + 1)), J)) rfl ?_
          obtain ⟨t24, hc23, h⟩ := zbind h
          refine zr_one (some (.inr (.inl (145, [.ref 73], [], 57)))) rfl (zR_call (by omega) rfl (ih.1 (by omega) (zu s 73 20 ((s 73 20) + 1)) J _ hc23) ?_)
          refine zr_steps 3 (60, [some (.ref 73), some (.int t22)], [.int 0, .int t22, .ref 73], (SH, t24, J)) rfl ?_
          obtain ⟨t26, hc25, h⟩ := zbind h
          refine zr_one (some (.inr (.inl (141, [.ref 73, .int t22, .int 0], [], 63)))) rfl (zR_call (by omega) rfl (ok_f141_addStep (by omega) t22 0 _ hc25) ?_)
          refine zr_steps 1 (4, [some (.ref 73), some (.int t22)], [], (SH, t26, J)) rfl ?_
          have he := Option.some.inj h
          subst he
          exact zr_hdr (ls2 := [some (.ref 73), none]) rfl rfl (show zRun X d 146 4 [some (.ref 73), none] [] (SH, t26, J) r M' from w)
        · rw [if_neg hc27] at h
          have he := Option.some.inj h
          subst he
          exact zr_hdv (ls2 := [none, none]) rfl rfl (show zRun X d 146 66 [none, none] [] (SH, s, J) r M' from w))
set_option maxRecDepth 100000 in
set_option maxHeartbeats 4000000 in
theorem ok_f147_sum_L4 {X : zX} {d : Nat} {r : Option Value} {M' : zM} {n0 : Nat} (ih : ((∀ {X : zX} {d : Nat} (hd : n0 + 2 ≤ d) (I : (Nat → Nat → Int32)) (J : (Nat → Nat → Int64)) (t : (Nat → Nat → Int32)), (F145 n0).1 I = some t → zRun X d 145 0 (zent 145 [.ref 73]) [] (SH, I, J) none (SH, t, J)) ∧ (∀ {X : zX} {d : Nat} (hd : n0 + 2 ≤ d) (I : (Nat → Nat → Int32)) (J : (Nat → Nat → Int64)) (t : (Nat → Nat → Int32)), (F145 n0).2.1 I = some t → zRun X d 146 0 (zent 146 [.ref 73]) [] (SH, I, J) none (SH, t, J)) ∧ (∀ {X : zX} {d : Nat} (hd : n0 + 2 ≤ d) (I : (Nat → Nat → Int32)) (J : (Nat → Nat → Int64)) (t : (Nat → Nat → Int32)), (F145 n0).2.2.1 I = some t → zRun X d 147 0 (zent 147 [.ref 73]) [] (SH, I, J) none (SH, t, J)) ∧ (∀ {X : zX} {d : Nat} (hd : n0 + 2 ≤ d) (I : (Nat → Nat → Int32)) (J : (Nat → Nat → Int64)) (t : (Nat → Nat → Int32)), (F145 n0).2.2.2.1 I = some t → zRun X d 148 0 (zent 148 [.ref 73]) [] (SH, I, J) none (SH, t, J)) ∧ (∀ {X : zX} {d : Nat} (hd : n0 + 2 ≤ d) (I : (Nat → Nat → Int32)) (J : (Nat → Nat → Int64)) (t : (Nat → Nat → Int32)), (F145 n0).2.2.2.2.1 I = some t → zRun X d 149 0 (zent 149 [.ref 73]) [] (SH, I, J) none (SH, t, J)) ∧ (∀ {X : zX} {d : Nat} (hd : n0 + 2 ≤ d) (I : (Nat → Nat → Int32)) (J : (Nat → Nat → Int64)) (t : (Nat → Nat → Int32)), (F145 n0).2.2.2.2.2 I = some t → zRun X d 150 0 (zent 150 [.ref 73]) [] (SH, I, J) none (SH, t, J)))) (hd : n0 + 1 + 2 ≤ d) {J : (Nat → Nat → Int64)} : ∀ (n : Nat) (s x : (Nat → Nat → Int32)), zloop (f147_sum_L4 (F145 n0)) n s = some x → (fun (x : (Nat → Nat → Int32)) => zRun X d 147 57 [none, none] [] (SH, x, J) r M') x → (fun (s : (Nat → Nat → Int32)) => zRun X d 147 4 [some (.ref 73), none] [] (SH, s, J) r M') s := zloop_ok (B := (f147_sum_L4 (F145 n0))) (Wh := fun (s : (Nat → Nat → Int32)) => zRun X d 147 4 [some (.ref 73), none] [] (SH, s, J) r M') (Wx := fun (x : (Nat → Nat → Int32)) => zRun X d 147 57 [none, none] [] (SH, x, J) r M') (fun s y h w => by
  unfold f147_sum_L4 at h
  refine zr_steps 2 (8, [some (.ref 73), none], [.int (s 73 21)], (SH, s, J)) rfl ?_
  refine zr_one (if (0 : Int32) ≤ (s 73 21) then zN 57 [some (.ref 73), none] [] (SH, s, J) else zN 11 [some (.ref 73), none] [] (SH, s, J)) rfl (zR_if (fun hc21 => zR_go ?_) (fun hc21 => zR_go ?_))
  · rw [if_pos hc21] at h
    have he := Option.some.inj h
    subst he
    exact zr_hdv (ls2 := [none, none]) rfl rfl (show zRun X d 147 57 [none, none] [] (SH, s, J) r M' from w)
  · rw [if_neg hc21] at h
    refine zr_steps 1 (12, [some (.ref 73), none], [.ref 73], (SH, s, J)) rfl ?_
    obtain ⟨t4, hc3, h⟩ := zbind h
    refine zr_one (some (.inr (.inl (139, [.ref 73], [], 15)))) rfl (zR_call (by omega) rfl (ok_f139_look (by omega)  _ hc3) ?_)
    refine zr_steps 1 (17, [some (.ref 73), none], [.int 43, .int t4], (SH, s, J)) rfl ?_
    refine zr_one (if t4 = 43 then zN 29 [some (.ref 73), none] [] (SH, s, J) else zN 20 [some (.ref 73), none] [] (SH, s, J)) rfl (zR_if (fun hc20 => zR_go ?_) (fun hc20 => zR_go ?_))
    · rw [if_pos hc20] at h
      refine zr_steps 1 (30, [some (.ref 73), none], [.ref 73], (SH, s, J)) rfl ?_
      obtain ⟨t6, hc5, h⟩ := zbind h
      refine zr_one (some (.inr (.inl (139, [.ref 73], [], 33)))) rfl (zR_call (by omega) rfl (ok_f139_look (by omega)  _ hc5) ?_)
      refine zr_steps 8 (45, [some (.ref 73), some (.int t6)], [.ref 73], (SH, (zu s 73 20 ((s 73 20) + 1)), J)) rfl ?_
      obtain ⟨t8, hc7, h⟩ := zbind h
      refine zr_one (some (.inr (.inl (146, [.ref 73], [], 48)))) rfl (zR_call (by omega) rfl (ih.2.1 (by omega) (zu s 73 20 ((s 73 20) + 1)) J _ hc7) ?_)
      refine zr_steps 3 (51, [some (.ref 73), some (.int t6)], [.int 0, .int t6, .ref 73], (SH, t8, J)) rfl ?_
      obtain ⟨t10, hc9, h⟩ := zbind h
      refine zr_one (some (.inr (.inl (141, [.ref 73, .int t6, .int 0], [], 54)))) rfl (zR_call (by omega) rfl (ok_f141_addStep (by omega) t6 0 _ hc9) ?_)
      refine zr_steps 1 (4, [some (.ref 73), some (.int t6)], [], (SH, t10, J)) rfl ?_
      have he := Option.some.inj h
      subst he
      exact zr_hdr (ls2 := [some (.ref 73), none]) rfl rfl (show zRun X d 147 4 [some (.ref 73), none] [] (SH, t10, J) r M' from w)
    · rw [if_neg hc20] at h
      refine zr_steps 1 (21, [some (.ref 73), none], [.ref 73], (SH, s, J)) rfl ?_
      obtain ⟨t12, hc11, h⟩ := zbind h
      refine zr_one (some (.inr (.inl (139, [.ref 73], [], 24)))) rfl (zR_call (by omega) rfl (ok_f139_look (by omega)  _ hc11) ?_)
      refine zr_steps 1 (26, [some (.ref 73), none], [.int 45, .int t12], (SH, s, J)) rfl ?_
      refine zr_one (if t12 = 45 then zN 29 [some (.ref 73), none] [] (SH, s, J) else zN 57 [some (.ref 73), none] [] (SH, s, J)) rfl (zR_if (fun hc19 => zR_go ?_) (fun hc19 => zR_go ?_))
      · rw [if_pos hc19] at h
        refine zr_steps 1 (30, [some (.ref 73), none], [.ref 73], (SH, s, J)) rfl ?_
        obtain ⟨t14, hc13, h⟩ := zbind h
        refine zr_one (some (.inr (.inl (139, [.ref 73], [], 33)))) rfl (zR_call (by omega) rfl (ok_f139_look (by omega)  _ hc13) ?_)
        refine zr_steps 8 (45, [some (.ref 73), some (.int t14)], [.ref 73], (SH, (zu s 73 20 ((s 73 20) + 1)), J)) rfl ?_
        obtain ⟨t16, hc15, h⟩ := zbind h
        refine zr_one (some (.inr (.inl (146, [.ref 73], [], 48)))) rfl (zR_call (by omega) rfl (ih.2.1 (by omega) (zu s 73 20 ((s 73 20) + 1)) J _ hc15) ?_)
        refine zr_steps 3 (51, [some (.ref 73), some (.int t14)], [.int 0, .int t14, .ref 73], (SH, t16, J)) rfl ?_
        obtain ⟨t18, hc17, h⟩ := zbind h
        refine zr_one (some (.inr (.inl (141, [.ref 73, .int t14, .int 0], [], 54)))) rfl (zR_call (by omega) rfl (ok_f141_addStep (by omega) t14 0 _ hc17) ?_)
        refine zr_steps 1 (4, [some (.ref 73), some (.int t14)], [], (SH, t18, J)) rfl ?_
        have he := Option.some.inj h
        subst he
        exact zr_hdr (ls2 := [some (.ref 73), none]) rfl rfl (show zRun X d 147 4 [some (.ref 73), none] [] (SH, t18, J) r M' from w)
      · rw [if_neg hc19] at h
        have he := Option.some.inj h
        subst he
        exact zr_hdv (ls2 := [none, none]) rfl rfl (show zRun X d 147 57 [none, none] [] (SH, s, J) r M' from w))
set_option maxRecDepth 100000 in
set_option maxHeartbeats 4000000 in
theorem ok_f149_both_L4 {X : zX} {d : Nat} {r : Option Value} {M' : zM} {n0 : Nat} (ih : ((∀ {X : zX} {d : Nat} (hd : n0 + 2 ≤ d) (I : (Nat → Nat → Int32)) (J : (Nat → Nat → Int64)) (t : (Nat → Nat → Int32)), (F145 n0).1 I = some t → zRun X d 145 0 (zent 145 [.ref 73]) [] (SH, I, J) none (SH, t, J)) ∧ (∀ {X : zX} {d : Nat} (hd : n0 + 2 ≤ d) (I : (Nat → Nat → Int32)) (J : (Nat → Nat → Int64)) (t : (Nat → Nat → Int32)), (F145 n0).2.1 I = some t → zRun X d 146 0 (zent 146 [.ref 73]) [] (SH, I, J) none (SH, t, J)) ∧ (∀ {X : zX} {d : Nat} (hd : n0 + 2 ≤ d) (I : (Nat → Nat → Int32)) (J : (Nat → Nat → Int64)) (t : (Nat → Nat → Int32)), (F145 n0).2.2.1 I = some t → zRun X d 147 0 (zent 147 [.ref 73]) [] (SH, I, J) none (SH, t, J)) ∧ (∀ {X : zX} {d : Nat} (hd : n0 + 2 ≤ d) (I : (Nat → Nat → Int32)) (J : (Nat → Nat → Int64)) (t : (Nat → Nat → Int32)), (F145 n0).2.2.2.1 I = some t → zRun X d 148 0 (zent 148 [.ref 73]) [] (SH, I, J) none (SH, t, J)) ∧ (∀ {X : zX} {d : Nat} (hd : n0 + 2 ≤ d) (I : (Nat → Nat → Int32)) (J : (Nat → Nat → Int64)) (t : (Nat → Nat → Int32)), (F145 n0).2.2.2.2.1 I = some t → zRun X d 149 0 (zent 149 [.ref 73]) [] (SH, I, J) none (SH, t, J)) ∧ (∀ {X : zX} {d : Nat} (hd : n0 + 2 ≤ d) (I : (Nat → Nat → Int32)) (J : (Nat → Nat → Int64)) (t : (Nat → Nat → Int32)), (F145 n0).2.2.2.2.2 I = some t → zRun X d 150 0 (zent 150 [.ref 73]) [] (SH, I, J) none (SH, t, J)))) (hd : n0 + 1 + 2 ≤ d) {J : (Nat → Nat → Int64)} : ∀ (n : Nat) (s x : (Nat → Nat → Int32)), zloop (f149_both_L4 (F145 n0)) n s = some x → (fun (x : (Nat → Nat → Int32)) => zRun X d 149 44 [none] [] (SH, x, J) r M') x → (fun (s : (Nat → Nat → Int32)) => zRun X d 149 4 [some (.ref 73)] [] (SH, s, J) r M') s := zloop_ok (B := (f149_both_L4 (F145 n0))) (Wh := fun (s : (Nat → Nat → Int32)) => zRun X d 149 4 [some (.ref 73)] [] (SH, s, J) r M') (Wx := fun (x : (Nat → Nat → Int32)) => zRun X d 149 44 [none] [] (SH, x, J) r M') (fun s y h w => by
  unfold f149_both_L4 at h
  refine zr_steps 2 (8, [some (.ref 73)], [.int (s 73 21)], (SH, s, J)) rfl ?_
  refine zr_one (if (0 : Int32) ≤ (s 73 21) then zN 44 [some (.ref 73)] [] (SH, s, J) else zN 11 [some (.ref 73)] [] (SH, s, J)) rfl (zR_if (fun hc10 => zR_go ?_) (fun hc10 => zR_go ?_))
  · rw [if_pos hc10] at h
    have he := Option.some.inj h
    subst he
    exact zr_hdv (ls2 := [none]) rfl rfl (show zRun X d 149 44 [none] [] (SH, s, J) r M' from w)
  · rw [if_neg hc10] at h
    refine zr_steps 1 (12, [some (.ref 73)], [.ref 73], (SH, s, J)) rfl ?_
    obtain ⟨t4, hc3, h⟩ := zbind h
    refine zr_one (some (.inr (.inl (139, [.ref 73], [], 15)))) rfl (zR_call (by omega) rfl (ok_f139_look (by omega)  _ hc3) ?_)
    refine zr_steps 1 (17, [some (.ref 73)], [.int 38, .int t4], (SH, s, J)) rfl ?_
    refine zr_one (if t4 = 38 then zN 20 [some (.ref 73)] [] (SH, s, J) else zN 44 [some (.ref 73)] [] (SH, s, J)) rfl (zR_if (fun hc9 => zR_go ?_) (fun hc9 => zR_go ?_))
    · rw [if_pos hc9] at h
      refine zr_steps 7 (31, [some (.ref 73)], [.ref 73], (SH, (zu s 73 20 ((s 73 20) + 1)), J)) rfl ?_
      obtain ⟨t6, hc5, h⟩ := zbind h
      refine zr_one (some (.inr (.inl (148, [.ref 73], [], 34)))) rfl (zR_call (by omega) rfl (ih.2.2.2.1 (by omega) (zu s 73 20 ((s 73 20) + 1)) J _ hc5) ?_)
      refine zr_steps 3 (38, [some (.ref 73)], [.int 0, .int 38, .ref 73], (SH, t6, J)) rfl ?_
      obtain ⟨t8, hc7, h⟩ := zbind h
      refine zr_one (some (.inr (.inl (141, [.ref 73, .int 38, .int 0], [], 41)))) rfl (zR_call (by omega) rfl (ok_f141_addStep (by omega) 38 0 _ hc7) ?_)
      refine zr_steps 1 (4, [some (.ref 73)], [], (SH, t8, J)) rfl ?_
      have he := Option.some.inj h
      subst he
      exact zr_hdr (ls2 := [some (.ref 73)]) rfl rfl (show zRun X d 149 4 [some (.ref 73)] [] (SH, t8, J) r M' from w)
    · rw [if_neg hc9] at h
      have he := Option.some.inj h
      subst he
      exact zr_hdv (ls2 := [none]) rfl rfl (show zRun X d 149 44 [none] [] (SH, s, J) r M' from w))
set_option maxRecDepth 100000 in
set_option maxHeartbeats 4000000 in
theorem ok_f150_either_L4 {X : zX} {d : Nat} {r : Option Value} {M' : zM} {n0 : Nat} (ih : ((∀ {X : zX} {d : Nat} (hd : n0 + 2 ≤ d) (I : (Nat → Nat → Int32)) (J : (Nat → Nat → Int64)) (t : (Nat → Nat → Int32)), (F145 n0).1 I = some t → zRun X d 145 0 (zent 145 [.ref 73]) [] (SH, I, J) none (SH, t, J)) ∧ (∀ {X : zX} {d : Nat} (hd : n0 + 2 ≤ d) (I : (Nat → Nat → Int32)) (J : (Nat → Nat → Int64)) (t : (Nat → Nat → Int32)), (F145 n0).2.1 I = some t → zRun X d 146 0 (zent 146 [.ref 73]) [] (SH, I, J) none (SH, t, J)) ∧ (∀ {X : zX} {d : Nat} (hd : n0 + 2 ≤ d) (I : (Nat → Nat → Int32)) (J : (Nat → Nat → Int64)) (t : (Nat → Nat → Int32)), (F145 n0).2.2.1 I = some t → zRun X d 147 0 (zent 147 [.ref 73]) [] (SH, I, J) none (SH, t, J)) ∧ (∀ {X : zX} {d : Nat} (hd : n0 + 2 ≤ d) (I : (Nat → Nat → Int32)) (J : (Nat → Nat → Int64)) (t : (Nat → Nat → Int32)), (F145 n0).2.2.2.1 I = some t → zRun X d 148 0 (zent 148 [.ref 73]) [] (SH, I, J) none (SH, t, J)) ∧ (∀ {X : zX} {d : Nat} (hd : n0 + 2 ≤ d) (I : (Nat → Nat → Int32)) (J : (Nat → Nat → Int64)) (t : (Nat → Nat → Int32)), (F145 n0).2.2.2.2.1 I = some t → zRun X d 149 0 (zent 149 [.ref 73]) [] (SH, I, J) none (SH, t, J)) ∧ (∀ {X : zX} {d : Nat} (hd : n0 + 2 ≤ d) (I : (Nat → Nat → Int32)) (J : (Nat → Nat → Int64)) (t : (Nat → Nat → Int32)), (F145 n0).2.2.2.2.2 I = some t → zRun X d 150 0 (zent 150 [.ref 73]) [] (SH, I, J) none (SH, t, J)))) (hd : n0 + 1 + 2 ≤ d) {J : (Nat → Nat → Int64)} : ∀ (n : Nat) (s x : (Nat → Nat → Int32)), zloop (f150_either_L4 (F145 n0)) n s = some x → (fun (x : (Nat → Nat → Int32)) => zRun X d 150 44 [none] [] (SH, x, J) r M') x → (fun (s : (Nat → Nat → Int32)) => zRun X d 150 4 [some (.ref 73)] [] (SH, s, J) r M') s := zloop_ok (B := (f150_either_L4 (F145 n0))) (Wh := fun (s : (Nat → Nat → Int32)) => zRun X d 150 4 [some (.ref 73)] [] (SH, s, J) r M') (Wx := fun (x : (Nat → Nat → Int32)) => zRun X d 150 44 [none] [] (SH, x, J) r M') (fun s y h w => by
  unfold f150_either_L4 at h
  refine zr_steps 2 (8, [some (.ref 73)], [.int (s 73 21)], (SH, s, J)) rfl ?_
  refine zr_one (if (0 : Int32) ≤ (s 73 21) then zN 44 [some (.ref 73)] [] (SH, s, J) else zN 11 [some (.ref 73)] [] (SH, s, J)) rfl (zR_if (fun hc10 => zR_go ?_) (fun hc10 => zR_go ?_))
  · rw [if_pos hc10] at h
    have he := Option.some.inj h
    subst he
    exact zr_hdv (ls2 := [none]) rfl rfl (show zRun X d 150 44 [none] [] (SH, s, J) r M' from w)
  · rw [if_neg hc10] at h
    refine zr_steps 1 (12, [some (.ref 73)], [.ref 73], (SH, s, J)) rfl ?_
    obtain ⟨t4, hc3, h⟩ := zbind h
    refine zr_one (some (.inr (.inl (139, [.ref 73], [], 15)))) rfl (zR_call (by omega) rfl (ok_f139_look (by omega)  _ hc3) ?_)
    refine zr_steps 1 (17, [some (.ref 73)], [.int 124, .int t4], (SH, s, J)) rfl ?_
    refine zr_one (if t4 = 124 then zN 20 [some (.ref 73)] [] (SH, s, J) else zN 44 [some (.ref 73)] [] (SH, s, J)) rfl (zR_if (fun hc9 => zR_go ?_) (fun hc9 => zR_go ?_))
    · rw [if_pos hc9] at h
      refine zr_steps 7 (31, [some (.ref 73)], [.ref 73], (SH, (zu s 73 20 ((s 73 20) + 1)), J)) rfl ?_
      obtain ⟨t6, hc5, h⟩ := zbind h
      refine zr_one (some (.inr (.inl (149, [.ref 73], [], 34)))) rfl (zR_call (by omega) rfl (ih.2.2.2.2.1 (by omega) (zu s 73 20 ((s 73 20) + 1)) J _ hc5) ?_)
      refine zr_steps 3 (38, [some (.ref 73)], [.int 0, .int 124, .ref 73], (SH, t6, J)) rfl ?_
      obtain ⟨t8, hc7, h⟩ := zbind h
      refine zr_one (some (.inr (.inl (141, [.ref 73, .int 124, .int 0], [], 41)))) rfl (zR_call (by omega) rfl (ok_f141_addStep (by omega) 124 0 _ hc7) ?_)
      refine zr_steps 1 (4, [some (.ref 73)], [], (SH, t8, J)) rfl ?_
      have he := Option.some.inj h
      subst he
      exact zr_hdr (ls2 := [some (.ref 73)]) rfl rfl (show zRun X d 150 4 [some (.ref 73)] [] (SH, t8, J) r M' from w)
    · rw [if_neg hc9] at h
      have he := Option.some.inj h
      subst he
      exact zr_hdv (ls2 := [none]) rfl rfl (show zRun X d 150 44 [none] [] (SH, s, J) r M' from w))
set_option maxRecDepth 100000 in
set_option maxHeartbeats 4000000 in
theorem okb_f145_operand {n0 : Nat} (ih : ((∀ {X : zX} {d : Nat} (hd : n0 + 2 ≤ d) (I : (Nat → Nat → Int32)) (J : (Nat → Nat → Int64)) (t : (Nat → Nat → Int32)), (F145 n0).1 I = some t → zRun X d 145 0 (zent 145 [.ref 73]) [] (SH, I, J) none (SH, t, J)) ∧ (∀ {X : zX} {d : Nat} (hd : n0 + 2 ≤ d) (I : (Nat → Nat → Int32)) (J : (Nat → Nat → Int64)) (t : (Nat → Nat → Int32)), (F145 n0).2.1 I = some t → zRun X d 146 0 (zent 146 [.ref 73]) [] (SH, I, J) none (SH, t, J)) ∧ (∀ {X : zX} {d : Nat} (hd : n0 + 2 ≤ d) (I : (Nat → Nat → Int32)) (J : (Nat → Nat → Int64)) (t : (Nat → Nat → Int32)), (F145 n0).2.2.1 I = some t → zRun X d 147 0 (zent 147 [.ref 73]) [] (SH, I, J) none (SH, t, J)) ∧ (∀ {X : zX} {d : Nat} (hd : n0 + 2 ≤ d) (I : (Nat → Nat → Int32)) (J : (Nat → Nat → Int64)) (t : (Nat → Nat → Int32)), (F145 n0).2.2.2.1 I = some t → zRun X d 148 0 (zent 148 [.ref 73]) [] (SH, I, J) none (SH, t, J)) ∧ (∀ {X : zX} {d : Nat} (hd : n0 + 2 ≤ d) (I : (Nat → Nat → Int32)) (J : (Nat → Nat → Int64)) (t : (Nat → Nat → Int32)), (F145 n0).2.2.2.2.1 I = some t → zRun X d 149 0 (zent 149 [.ref 73]) [] (SH, I, J) none (SH, t, J)) ∧ (∀ {X : zX} {d : Nat} (hd : n0 + 2 ≤ d) (I : (Nat → Nat → Int32)) (J : (Nat → Nat → Int64)) (t : (Nat → Nat → Int32)), (F145 n0).2.2.2.2.2 I = some t → zRun X d 150 0 (zent 150 [.ref 73]) [] (SH, I, J) none (SH, t, J)))) {X : zX} {d : Nat} (hd : n0 + 1 + 2 ≤ d) (I : (Nat → Nat → Int32)) (J : (Nat → Nat → Int64)) (t : (Nat → Nat → Int32)) (h : bf145_operand (F145 n0) I = some t) : zRun X d 145 0 (zent 145 [.ref 73]) [] (SH, I, J) none (SH, t, J) := by
  unfold bf145_operand at h
  refine zr_steps 1 (1, [some (.ref 73), none], [.ref 73], (SH, I, J)) rfl ?_
  obtain ⟨t2, hc1, h⟩ := zbind h
  refine zr_one (some (.inr (.inl (139, [.ref 73], [], 4)))) rfl (zR_call (by omega) rfl (ok_f139_look (by omega)  _ hc1) ?_)
  refine zr_steps 2 (6, [some (.ref 73), some (.int t2)], [.int t2], (SH, I, J)) rfl ?_
  obtain ⟨t4, hc3, h⟩ := zbind h
  refine zr_one (some (.inr (.inl (142, [.int t2], [], 9)))) rfl (zR_call (by omega) rfl (ok_f142_nameOf (by omega) t2 _ hc3) ?_)
  refine zr_one (if t4 < 0 then zN 34 [some (.ref 73), some (.int t2)] [] (SH, I, J) else zN 12 [some (.ref 73), some (.int t2)] [] (SH, I, J)) rfl (zR_if (fun hc45 => zR_go ?_) (fun hc45 => zR_go ?_))
  · rw [if_pos hc45] at h
    refine zr_steps 2 (37, [some (.ref 73), some (.int t2)], [.int 33, .int t2], (SH, I, J)) rfl ?_
    refine zr_one (if t2 = 33 then zN 46 [some (.ref 73), some (.int t2)] [] (SH, I, J) else zN 40 [some (.ref 73), some (.int t2)] [] (SH, I, J)) rfl (zR_if (fun hc40 => zR_go ?_) (fun hc40 => zR_go ?_))
    · rw [if_pos hc40] at h
      refine zr_steps 1 (47, [some (.ref 73), some (.int t2)], [.ref 73], (SH, I, J)) rfl ?_
      obtain ⟨t6, hc5, h⟩ := zbind h
      refine zr_one (some (.inr (.inl (143, [.ref 73], [], 50)))) rfl (zR_call (by omega) rfl (ok_f143_opens (by omega)  _ hc5) ?_)
      refine zr_one (if t6.1 = 0 then zN 53 [some (.ref 73), some (.int t2)] [] (SH, t6.2, J) else zN 54 [some (.ref 73), some (.int t2)] [] (SH, t6.2, J)) rfl (zR_if (fun hc14 => zR_go ?_) (fun hc14 => zR_go ?_))
      · rw [if_pos hc14] at h
        have he := Option.some.inj h
        subst he
        exact zr_one (some (.inr (.inr none))) rfl (zR_ret rfl rfl)
      · rw [if_neg hc14] at h
        refine zr_steps 1 (55, [some (.ref 73), some (.int t2)], [.ref 73], (SH, t6.2, J)) rfl ?_
        obtain ⟨t8, hc7, h⟩ := zbind h
        refine zr_one (some (.inr (.inl (145, [.ref 73], [], 58)))) rfl (zR_call (by omega) rfl (ih.1 (by omega) t6.2 J _ hc7) ?_)
        refine zr_steps 9 (72, [some (.ref 73), some (.int t2)], [.int 33, .int t2, .ref 73], (SH, (zu t8 73 22 ((t8 73 22) - 1)), J)) rfl ?_
        refine zr_one (if t2 = 33 then zN 75 [some (.ref 73), some (.int t2)] [.ref 73] (SH, (zu t8 73 22 ((t8 73 22) - 1)), J) else zN 79 [some (.ref 73), some (.int t2)] [.ref 73] (SH, (zu t8 73 22 ((t8 73 22) - 1)), J)) rfl (zR_if (fun hc13 => zR_go ?_) (fun hc13 => zR_go ?_))
        · rw [if_pos hc13] at h
          refine zr_steps 3 (81, [some (.ref 73), some (.int t2)], [.int 0, .int 3, .ref 73], (SH, (zu t8 73 22 ((t8 73 22) - 1)), J)) rfl ?_
          obtain ⟨t10, hc9, h⟩ := zbind h
          refine zr_one (some (.inr (.inl (141, [.ref 73, .int 3, .int 0], [], 84)))) rfl (zR_call (by omega) rfl (ok_f141_addStep (by omega) 3 0 _ hc9) ?_)
          refine zr_steps 1 (154, [some (.ref 73), some (.int t2)], [], (SH, t10, J)) rfl ?_
          have he := Option.some.inj h
          subst he
          exact zr_one (some (.inr (.inr none))) rfl (zR_ret rfl rfl)
        · rw [if_neg hc13] at h
          refine zr_steps 2 (81, [some (.ref 73), some (.int t2)], [.int 0, .int 4, .ref 73], (SH, (zu t8 73 22 ((t8 73 22) - 1)), J)) rfl ?_
          obtain ⟨t12, hc11, h⟩ := zbind h
          refine zr_one (some (.inr (.inl (141, [.ref 73, .int 4, .int 0], [], 84)))) rfl (zR_call (by omega) rfl (ok_f141_addStep (by omega) 4 0 _ hc11) ?_)
          refine zr_steps 1 (154, [some (.ref 73), some (.int t2)], [], (SH, t12, J)) rfl ?_
          have he := Option.some.inj h
          subst he
          exact zr_one (some (.inr (.inr none))) rfl (zR_ret rfl rfl)
    · rw [if_neg hc40] at h
      refine zr_steps 2 (43, [some (.ref 73), some (.int t2)], [.int 45, .int t2], (SH, I, J)) rfl ?_
      refine zr_one (if t2 = 45 then zN 46 [some (.ref 73), some (.int t2)] [] (SH, I, J) else zN 87 [some (.ref 73), some (.int t2)] [] (SH, I, J)) rfl (zR_if (fun hc39 => zR_go ?_) (fun hc39 => zR_go ?_))
      · rw [if_pos hc39] at h
        refine zr_steps 1 (47, [some (.ref 73), some (.int t2)], [.ref 73], (SH, I, J)) rfl ?_
        obtain ⟨t16, hc15, h⟩ := zbind h
        refine zr_one (some (.inr (.inl (143, [.ref 73], [], 50)))) rfl (zR_call (by omega) rfl (ok_f143_opens (by omega)  _ hc15) ?_)
        refine zr_one (if t16.1 = 0 then zN 53 [some (.ref 73), some (.int t2)] [] (SH, t16.2, J) else zN 54 [some (.ref 73), some (.int t2)] [] (SH, t16.2, J)) rfl (zR_if (fun hc24 => zR_go ?_) (fun hc24 => zR_go ?_))
        · rw [if_pos hc24] at h
          have he := Option.some.inj h
          subst he
          exact zr_one (some (.inr (.inr none))) rfl (zR_ret rfl rfl)
        · rw [if_neg hc24] at h
          refine zr_steps 1 (55, [some (.ref 73), some (.int t2)], [.ref 73], (SH, t16.2, J)) rfl ?_
          obtain ⟨t18, hc17, h⟩ := zbind h
          refine zr_one (some (.inr (.inl (145, [.ref 73], [], 58)))) rfl (zR_call (by omega) rfl (ih.1 (by omega) t16.2 J _ hc17) ?_)
          refine zr_steps 9 (72, [some (.ref 73), some (.int t2)], [.int 33, .int t2, .ref 73], (SH, (zu t18 73 22 ((t18 73 22) - 1)), J)) rfl ?_
          refine zr_one (if t2 = 33 then zN 75 [some (.ref 73), some (.int t2)] [.ref 73] (SH, (zu t18 73 22 ((t18 73 22) - 1)), J) else zN 79 [some (.ref 73), some (.int t2)] [.ref 73] (SH, (zu t18 73 22 ((t18 73 22) - 1)), J)) rfl (zR_if (fun hc23 => zR_go ?_) (fun hc23 => zR_go ?_))
          · rw [if_pos hc23] at h
            refine zr_steps 3 (81, [some (.ref 73), some (.int t2)], [.int 0, .int 3, .ref 73], (SH, (zu t18 73 22 ((t18 73 22) - 1)), J)) rfl ?_
            obtain ⟨t20, hc19, h⟩ := zbind h
            refine zr_one (some (.inr (.inl (141, [.ref 73, .int 3, .int 0], [], 84)))) rfl (zR_call (by omega) rfl (ok_f141_addStep (by omega) 3 0 _ hc19) ?_)
            refine zr_steps 1 (154, [some (.ref 73), some (.int t2)], [], (SH, t20, J)) rfl ?_
            have he := Option.some.inj h
            subst he
            exact zr_one (some (.inr (.inr none))) rfl (zR_ret rfl rfl)
          · rw [if_neg hc23] at h
            refine zr_steps 2 (81, [some (.ref 73), some (.int t2)], [.int 0, .int 4, .ref 73], (SH, (zu t18 73 22 ((t18 73 22) - 1)), J)) rfl ?_
            obtain ⟨t22, hc21, h⟩ := zbind h
            refine zr_one (some (.inr (.inl (141, [.ref 73, .int 4, .int 0], [], 84)))) rfl (zR_call (by omega) rfl (ok_f141_addStep (by omega) 4 0 _ hc21) ?_)
            refine zr_steps 1 (154, [some (.ref 73), some (.int t2)], [], (SH, t22, J)) rfl ?_
            have he := Option.some.inj h
            subst he
            exact zr_one (some (.inr (.inr none))) rfl (zR_ret rfl rfl)
      · rw [if_neg hc39] at h
        refine zr_steps 2 (90, [some (.ref 73), some (.int t2)], [.int 40, .int t2], (SH, I, J)) rfl ?_
        refine zr_one (if t2 = 40 then zN 93 [some (.ref 73), some (.int t2)] [] (SH, I, J) else zN 150 [some (.ref 73), some (.int t2)] [] (SH, I, J)) rfl (zR_if (fun hc38 => zR_go ?_) (fun hc38 => zR_go ?_))
        · rw [if_pos hc38] at h
          refine zr_steps 1 (94, [some (.ref 73), some (.int t2)], [.ref 73], (SH, I, J)) rfl ?_
          obtain ⟨t26, hc25, h⟩ := zbind h
          refine zr_one (some (.inr (.inl (143, [.ref 73], [], 97)))) rfl (zR_call (by omega) rfl (ok_f143_opens (by omega)  _ hc25) ?_)
          refine zr_one (if t26.1 = 0 then zN 100 [some (.ref 73), some (.int t2)] [] (SH, t26.2, J) else zN 101 [some (.ref 73), some (.int t2)] [] (SH, t26.2, J)) rfl (zR_if (fun hc35 => zR_go ?_) (fun hc35 => zR_go ?_))
          · rw [if_pos hc35] at h
            have he := Option.some.inj h
            subst he
            exact zr_one (some (.inr (.inr none))) rfl (zR_ret rfl rfl)
          · rw [if_neg hc35] at h
            refine zr_steps 1 (102, [some (.ref 73), some (.int t2)], [.ref 73], (SH, t26.2, J)) rfl ?_
            obtain ⟨t28, hc27, h⟩ := zbind h
            refine zr_one (some (.inr (.inl (150, [.ref 73], [], 105)))) rfl (zR_call (by omega) rfl (ih.2.2.2.2.2 (by omega) t26.2 J _ hc27) ?_)
            refine zr_steps 2 (109, [some (.ref 73), some (.int t2)], [.int (t28 73 21)], (SH, t28, J)) rfl ?_
            refine zr_one (if (t28 73 21) < 0 then zN 113 [some (.ref 73), some (.int t2)] [] (SH, t28, J) else zN 112 [some (.ref 73), some (.int t2)] [] (SH, t28, J)) rfl (zR_if (fun hc34 => zR_go ?_) (fun hc34 => zR_go ?_))
            · rw [if_pos hc34] at h
              refine zr_steps 1 (114, [some (.ref 73), some (.int t2)], [.ref 73], (SH, t28, J)) rfl ?_
              obtain ⟨t30, hc29, h⟩ := zbind h
              refine zr_one (some (.inr (.inl (139, [.ref 73], [], 117)))) rfl (zR_call (by omega) rfl (ok_f139_look (by omega)  _ hc29) ?_)
              refine zr_steps 1 (119, [some (.ref 73), some (.int t2)], [.int 41, .int t30], (SH, t28, J)) rfl ?_
              refine zr_one (if t30 = 41 then zN 127 [some (.ref 73), some (.int t2)] [] (SH, t28, J) else zN 122 [some (.ref 73), some (.int t2)] [] (SH, t28, J)) rfl (zR_if (fun hc33 => zR_go ?_) (fun hc33 => zR_go ?_))
              · rw [if_pos hc33] at h
                refine zr_steps 13 (154, [some (.ref 73), some (.int t2)], [], (SH, (zu (zu t28 73 20 ((t28 73 20) + 1)) 73 22 ((t28 73 22) - 1)), J)) rfl ?_
                have he := Option.some.inj h
                subst he
                exact zr_one (some (.inr (.inr none))) rfl (zR_ret rfl rfl)
              · rw [if_neg hc33] at h
                refine zr_steps 1 (123, [some (.ref 73), some (.int t2)], [.ref 73], (SH, t28, J)) rfl ?_
                obtain ⟨t32, hc31, h⟩ := zbind h
                refine zr_one (some (.inr (.inl (140, [.ref 73], [], 126)))) rfl (zR_call (by omega) rfl (ok_f140_wrong (by omega)  _ hc31) ?_)
                have he := Option.some.inj h
                subst he
                exact zr_one (some (.inr (.inr none))) rfl (zR_ret rfl rfl)
            · rw [if_neg hc34] at h
              have he := Option.some.inj h
              subst he
              exact zr_one (some (.inr (.inr none))) rfl (zR_ret rfl rfl)
        · rw [if_neg hc38] at h
          refine zr_steps 1 (151, [some (.ref 73), some (.int t2)], [.ref 73], (SH, I, J)) rfl ?_
          obtain ⟨t37, hc36, h⟩ := zbind h
          refine zr_one (some (.inr (.inl (144, [.ref 73], [], 154)))) rfl (zR_call (by omega) rfl (ok_f144_figure (by omega)  _ hc36) ?_)
          have he := Option.some.inj h
          subst he
          exact zr_one (some (.inr (.inr none))) rfl (zR_ret rfl rfl)
  · rw [if_neg hc45] at h
    refine zr_steps 3 (15, [some (.ref 73), some (.int t2)], [.int t2, .int 2, .ref 73], (SH, I, J)) rfl ?_
    obtain ⟨t42, hc41, h⟩ := zbind h
    refine zr_one (some (.inr (.inl (142, [.int t2], [.int 2, .ref 73], 18)))) rfl (zR_call (by omega) rfl (ok_f142_nameOf (by omega) t2 _ hc41) ?_)
    obtain ⟨t44, hc43, h⟩ := zbind h
    refine zr_one (some (.inr (.inl (141, [.ref 73, .int 2, .int t42], [], 21)))) rfl (zR_call (by omega) rfl (ok_f141_addStep (by omega) 2 t42 _ hc43) ?_)
    refine zr_steps 7 (154, [some (.ref 73), some (.int t2)], [], (SH, (zu t44 73 20 ((t44 73 20) + 1)), J)) rfl ?_
    have he := Option.some.inj h
    subst he
    exact zr_one (some (.inr (.inr none))) rfl (zR_ret rfl rfl)
set_option maxRecDepth 100000 in
set_option maxHeartbeats 4000000 in
theorem okb_f146_product {n0 : Nat} (ih : ((∀ {X : zX} {d : Nat} (hd : n0 + 2 ≤ d) (I : (Nat → Nat → Int32)) (J : (Nat → Nat → Int64)) (t : (Nat → Nat → Int32)), (F145 n0).1 I = some t → zRun X d 145 0 (zent 145 [.ref 73]) [] (SH, I, J) none (SH, t, J)) ∧ (∀ {X : zX} {d : Nat} (hd : n0 + 2 ≤ d) (I : (Nat → Nat → Int32)) (J : (Nat → Nat → Int64)) (t : (Nat → Nat → Int32)), (F145 n0).2.1 I = some t → zRun X d 146 0 (zent 146 [.ref 73]) [] (SH, I, J) none (SH, t, J)) ∧ (∀ {X : zX} {d : Nat} (hd : n0 + 2 ≤ d) (I : (Nat → Nat → Int32)) (J : (Nat → Nat → Int64)) (t : (Nat → Nat → Int32)), (F145 n0).2.2.1 I = some t → zRun X d 147 0 (zent 147 [.ref 73]) [] (SH, I, J) none (SH, t, J)) ∧ (∀ {X : zX} {d : Nat} (hd : n0 + 2 ≤ d) (I : (Nat → Nat → Int32)) (J : (Nat → Nat → Int64)) (t : (Nat → Nat → Int32)), (F145 n0).2.2.2.1 I = some t → zRun X d 148 0 (zent 148 [.ref 73]) [] (SH, I, J) none (SH, t, J)) ∧ (∀ {X : zX} {d : Nat} (hd : n0 + 2 ≤ d) (I : (Nat → Nat → Int32)) (J : (Nat → Nat → Int64)) (t : (Nat → Nat → Int32)), (F145 n0).2.2.2.2.1 I = some t → zRun X d 149 0 (zent 149 [.ref 73]) [] (SH, I, J) none (SH, t, J)) ∧ (∀ {X : zX} {d : Nat} (hd : n0 + 2 ≤ d) (I : (Nat → Nat → Int32)) (J : (Nat → Nat → Int64)) (t : (Nat → Nat → Int32)), (F145 n0).2.2.2.2.2 I = some t → zRun X d 150 0 (zent 150 [.ref 73]) [] (SH, I, J) none (SH, t, J)))) {X : zX} {d : Nat} (hd : n0 + 1 + 2 ≤ d) (I : (Nat → Nat → Int32)) (J : (Nat → Nat → Int64)) (t : (Nat → Nat → Int32)) (h : bf146_product (F145 n0) I = some t) : zRun X d 146 0 (zent 146 [.ref 73]) [] (SH, I, J) none (SH, t, J) := by
  unfold bf146_product at h
  refine zr_steps 1 (1, [some (.ref 73), none], [.ref 73], (SH, I, J)) rfl ?_
  obtain ⟨t2, hc1, h⟩ := zbind h
  refine zr_one (some (.inr (.inl (145, [.ref 73], [], 4)))) rfl (zR_call (by omega) rfl (ih.1 (by omega) I J _ hc1) ?_)
  obtain ⟨s31, ho32, h⟩ := zbind h
  refine zr_hdr (ls2 := [some (.ref 73), none]) rfl rfl ?_
  refine ok_f146_product_L4 ih (by omega) 5000 t2 s31 ho32 ?_
  show zRun X d 146 66 [none, none] [] (SH, s31, J) _ _
  have he := Option.some.inj h
  subst he
  exact zr_one (some (.inr (.inr none))) rfl (zR_ret rfl rfl)
set_option maxRecDepth 100000 in
set_option maxHeartbeats 4000000 in
theorem okb_f147_sum {n0 : Nat} (ih : ((∀ {X : zX} {d : Nat} (hd : n0 + 2 ≤ d) (I : (Nat → Nat → Int32)) (J : (Nat → Nat → Int64)) (t : (Nat → Nat → Int32)), (F145 n0).1 I = some t → zRun X d 145 0 (zent 145 [.ref 73]) [] (SH, I, J) none (SH, t, J)) ∧ (∀ {X : zX} {d : Nat} (hd : n0 + 2 ≤ d) (I : (Nat → Nat → Int32)) (J : (Nat → Nat → Int64)) (t : (Nat → Nat → Int32)), (F145 n0).2.1 I = some t → zRun X d 146 0 (zent 146 [.ref 73]) [] (SH, I, J) none (SH, t, J)) ∧ (∀ {X : zX} {d : Nat} (hd : n0 + 2 ≤ d) (I : (Nat → Nat → Int32)) (J : (Nat → Nat → Int64)) (t : (Nat → Nat → Int32)), (F145 n0).2.2.1 I = some t → zRun X d 147 0 (zent 147 [.ref 73]) [] (SH, I, J) none (SH, t, J)) ∧ (∀ {X : zX} {d : Nat} (hd : n0 + 2 ≤ d) (I : (Nat → Nat → Int32)) (J : (Nat → Nat → Int64)) (t : (Nat → Nat → Int32)), (F145 n0).2.2.2.1 I = some t → zRun X d 148 0 (zent 148 [.ref 73]) [] (SH, I, J) none (SH, t, J)) ∧ (∀ {X : zX} {d : Nat} (hd : n0 + 2 ≤ d) (I : (Nat → Nat → Int32)) (J : (Nat → Nat → Int64)) (t : (Nat → Nat → Int32)), (F145 n0).2.2.2.2.1 I = some t → zRun X d 149 0 (zent 149 [.ref 73]) [] (SH, I, J) none (SH, t, J)) ∧ (∀ {X : zX} {d : Nat} (hd : n0 + 2 ≤ d) (I : (Nat → Nat → Int32)) (J : (Nat → Nat → Int64)) (t : (Nat → Nat → Int32)), (F145 n0).2.2.2.2.2 I = some t → zRun X d 150 0 (zent 150 [.ref 73]) [] (SH, I, J) none (SH, t, J)))) {X : zX} {d : Nat} (hd : n0 + 1 + 2 ≤ d) (I : (Nat → Nat → Int32)) (J : (Nat → Nat → Int64)) (t : (Nat → Nat → Int32)) (h : bf147_sum (F145 n0) I = some t) : zRun X d 147 0 (zent 147 [.ref 73]) [] (SH, I, J) none (SH, t, J) := by
  unfold bf147_sum at h
  refine zr_steps 1 (1, [some (.ref 73), none], [.ref 73], (SH, I, J)) rfl ?_
  obtain ⟨t2, hc1, h⟩ := zbind h
  refine zr_one (some (.inr (.inl (146, [.ref 73], [], 4)))) rfl (zR_call (by omega) rfl (ih.2.1 (by omega) I J _ hc1) ?_)
  obtain ⟨s22, ho23, h⟩ := zbind h
  refine zr_hdr (ls2 := [some (.ref 73), none]) rfl rfl ?_
  refine ok_f147_sum_L4 ih (by omega) 5000 t2 s22 ho23 ?_
  show zRun X d 147 57 [none, none] [] (SH, s22, J) _ _
  have he := Option.some.inj h
  subst he
  exact zr_one (some (.inr (.inr none))) rfl (zR_ret rfl rfl)
set_option maxRecDepth 100000 in
set_option maxHeartbeats 4000000 in
theorem okb_f148_compared {n0 : Nat} (ih : ((∀ {X : zX} {d : Nat} (hd : n0 + 2 ≤ d) (I : (Nat → Nat → Int32)) (J : (Nat → Nat → Int64)) (t : (Nat → Nat → Int32)), (F145 n0).1 I = some t → zRun X d 145 0 (zent 145 [.ref 73]) [] (SH, I, J) none (SH, t, J)) ∧ (∀ {X : zX} {d : Nat} (hd : n0 + 2 ≤ d) (I : (Nat → Nat → Int32)) (J : (Nat → Nat → Int64)) (t : (Nat → Nat → Int32)), (F145 n0).2.1 I = some t → zRun X d 146 0 (zent 146 [.ref 73]) [] (SH, I, J) none (SH, t, J)) ∧ (∀ {X : zX} {d : Nat} (hd : n0 + 2 ≤ d) (I : (Nat → Nat → Int32)) (J : (Nat → Nat → Int64)) (t : (Nat → Nat → Int32)), (F145 n0).2.2.1 I = some t → zRun X d 147 0 (zent 147 [.ref 73]) [] (SH, I, J) none (SH, t, J)) ∧ (∀ {X : zX} {d : Nat} (hd : n0 + 2 ≤ d) (I : (Nat → Nat → Int32)) (J : (Nat → Nat → Int64)) (t : (Nat → Nat → Int32)), (F145 n0).2.2.2.1 I = some t → zRun X d 148 0 (zent 148 [.ref 73]) [] (SH, I, J) none (SH, t, J)) ∧ (∀ {X : zX} {d : Nat} (hd : n0 + 2 ≤ d) (I : (Nat → Nat → Int32)) (J : (Nat → Nat → Int64)) (t : (Nat → Nat → Int32)), (F145 n0).2.2.2.2.1 I = some t → zRun X d 149 0 (zent 149 [.ref 73]) [] (SH, I, J) none (SH, t, J)) ∧ (∀ {X : zX} {d : Nat} (hd : n0 + 2 ≤ d) (I : (Nat → Nat → Int32)) (J : (Nat → Nat → Int64)) (t : (Nat → Nat → Int32)), (F145 n0).2.2.2.2.2 I = some t → zRun X d 150 0 (zent 150 [.ref 73]) [] (SH, I, J) none (SH, t, J)))) {X : zX} {d : Nat} (hd : n0 + 1 + 2 ≤ d) (I : (Nat → Nat → Int32)) (J : (Nat → Nat → Int64)) (t : (Nat → Nat → Int32)) (h : bf148_compared (F145 n0) I = some t) : zRun X d 148 0 (zent 148 [.ref 73]) [] (SH, I, J) none (SH, t, J) := by
  unfold bf148_compared at h
  refine zr_steps 1 (1, [some (.ref 73), none], [.ref 73], (SH, I, J)) rfl ?_
  obtain ⟨t2, hc1, h⟩ := zbind h
  refine zr_one (some (.inr (.inl (147, [.ref 73], [], 4)))) rfl (zR_call (by omega) rfl (ih.2.2.1 (by omega) I J _ hc1) ?_)
  refine zr_steps 1 (5, [some (.ref 73), none], [.ref 73], (SH, t2, J)) rfl ?_
  obtain ⟨t4, hc3, h⟩ := zbind h
  refine zr_one (some (.inr (.inl (139, [.ref 73], [], 8)))) rfl (zR_call (by omega) rfl (ok_f139_look (by omega)  _ hc3) ?_)
  refine zr_steps 3 (13, [some (.ref 73), some (.int t4)], [.int (t2 73 21)], (SH, t2, J)) rfl ?_
  refine zr_one (if (0 : Int32) ≤ (t2 73 21) then zN 34 [some (.ref 73), some (.int t4)] [] (SH, t2, J) else zN 16 [some (.ref 73), some (.int t4)] [] (SH, t2, J)) rfl (zR_if (fun hc20 => zR_go ?_) (fun hc20 => zR_go ?_))
  · rw [if_pos hc20] at h
    have he := Option.some.inj h
    subst he
    exact zr_one (some (.inr (.inr none))) rfl (zR_ret rfl rfl)
  · rw [if_neg hc20] at h
    refine zr_steps 2 (19, [some (.ref 73), some (.int t4)], [.int 60, .int t4], (SH, t2, J)) rfl ?_
    refine zr_one (if t4 = 60 then zN 35 [some (.ref 73), some (.int t4)] [] (SH, t2, J) else zN 22 [some (.ref 73), some (.int t4)] [] (SH, t2, J)) rfl (zR_if (fun hc19 => zR_go ?_) (fun hc19 => zR_go ?_))
    · rw [if_pos hc19] at h
      refine zr_steps 7 (46, [some (.ref 73), some (.int t4)], [.ref 73], (SH, (zu t2 73 20 ((t2 73 20) + 1)), J)) rfl ?_
      obtain ⟨t6, hc5, h⟩ := zbind h
      refine zr_one (some (.inr (.inl (147, [.ref 73], [], 49)))) rfl (zR_call (by omega) rfl (ih.2.2.1 (by omega) (zu t2 73 20 ((t2 73 20) + 1)) J _ hc5) ?_)
      refine zr_steps 3 (52, [some (.ref 73), some (.int t4)], [.int 0, .int t4, .ref 73], (SH, t6, J)) rfl ?_
      obtain ⟨t8, hc7, h⟩ := zbind h
      refine zr_one (some (.inr (.inl (141, [.ref 73, .int t4, .int 0], [], 55)))) rfl (zR_call (by omega) rfl (ok_f141_addStep (by omega) t4 0 _ hc7) ?_)
      have he := Option.some.inj h
      subst he
      exact zr_one (some (.inr (.inr none))) rfl (zR_ret rfl rfl)
    · rw [if_neg hc19] at h
      refine zr_steps 2 (25, [some (.ref 73), some (.int t4)], [.int 61, .int t4], (SH, t2, J)) rfl ?_
      refine zr_one (if t4 = 61 then zN 35 [some (.ref 73), some (.int t4)] [] (SH, t2, J) else zN 28 [some (.ref 73), some (.int t4)] [] (SH, t2, J)) rfl (zR_if (fun hc18 => zR_go ?_) (fun hc18 => zR_go ?_))
      · rw [if_pos hc18] at h
        refine zr_steps 7 (46, [some (.ref 73), some (.int t4)], [.ref 73], (SH, (zu t2 73 20 ((t2 73 20) + 1)), J)) rfl ?_
        obtain ⟨t10, hc9, h⟩ := zbind h
        refine zr_one (some (.inr (.inl (147, [.ref 73], [], 49)))) rfl (zR_call (by omega) rfl (ih.2.2.1 (by omega) (zu t2 73 20 ((t2 73 20) + 1)) J _ hc9) ?_)
        refine zr_steps 3 (52, [some (.ref 73), some (.int t4)], [.int 0, .int t4, .ref 73], (SH, t10, J)) rfl ?_
        obtain ⟨t12, hc11, h⟩ := zbind h
        refine zr_one (some (.inr (.inl (141, [.ref 73, .int t4, .int 0], [], 55)))) rfl (zR_call (by omega) rfl (ok_f141_addStep (by omega) t4 0 _ hc11) ?_)
        have he := Option.some.inj h
        subst he
        exact zr_one (some (.inr (.inr none))) rfl (zR_ret rfl rfl)
      · rw [if_neg hc18] at h
        refine zr_steps 2 (31, [some (.ref 73), some (.int t4)], [.int 62, .int t4], (SH, t2, J)) rfl ?_
        refine zr_one (if t4 = 62 then zN 35 [some (.ref 73), some (.int t4)] [] (SH, t2, J) else zN 34 [some (.ref 73), some (.int t4)] [] (SH, t2, J)) rfl (zR_if (fun hc17 => zR_go ?_) (fun hc17 => zR_go ?_))
        · rw [if_pos hc17] at h
          refine zr_steps 7 (46, [some (.ref 73), some (.int t4)], [.ref 73], (SH, (zu t2 73 20 ((t2 73 20) + 1)), J)) rfl ?_
          obtain ⟨t14, hc13, h⟩ := zbind h
          refine zr_one (some (.inr (.inl (147, [.ref 73], [], 49)))) rfl (zR_call (by omega) rfl (ih.2.2.1 (by omega) (zu t2 73 20 ((t2 73 20) + 1)) J _ hc13) ?_)
          refine zr_steps 3 (52, [some (.ref 73), some (.int t4)], [.int 0, .int t4, .ref 73], (SH, t14, J)) rfl ?_
          obtain ⟨t16, hc15, h⟩ := zbind h
          refine zr_one (some (.inr (.inl (141, [.ref 73, .int t4, .int 0], [], 55)))) rfl (zR_call (by omega) rfl (ok_f141_addStep (by omega) t4 0 _ hc15) ?_)
          have he := Option.some.inj h
          subst he
          exact zr_one (some (.inr (.inr none))) rfl (zR_ret rfl rfl)
        · rw [if_neg hc17] at h
          have he := Option.some.inj h
          subst he
          exact zr_one (some (.inr (.inr none))) rfl (zR_ret rfl rfl)
set_option maxRecDepth 100000 in
set_option maxHeartbeats 4000000 in
theorem okb_f149_both {n0 : Nat} (ih : ((∀ {X : zX} {d : Nat} (hd : n0 + 2 ≤ d) (I : (Nat → Nat → Int32)) (J : (Nat → Nat → Int64)) (t : (Nat → Nat → Int32)), (F145 n0).1 I = some t → zRun X d 145 0 (zent 145 [.ref 73]) [] (SH, I, J) none (SH, t, J)) ∧ (∀ {X : zX} {d : Nat} (hd : n0 + 2 ≤ d) (I : (Nat → Nat → Int32)) (J : (Nat → Nat → Int64)) (t : (Nat → Nat → Int32)), (F145 n0).2.1 I = some t → zRun X d 146 0 (zent 146 [.ref 73]) [] (SH, I, J) none (SH, t, J)) ∧ (∀ {X : zX} {d : Nat} (hd : n0 + 2 ≤ d) (I : (Nat → Nat → Int32)) (J : (Nat → Nat → Int64)) (t : (Nat → Nat → Int32)), (F145 n0).2.2.1 I = some t → zRun X d 147 0 (zent 147 [.ref 73]) [] (SH, I, J) none (SH, t, J)) ∧ (∀ {X : zX} {d : Nat} (hd : n0 + 2 ≤ d) (I : (Nat → Nat → Int32)) (J : (Nat → Nat → Int64)) (t : (Nat → Nat → Int32)), (F145 n0).2.2.2.1 I = some t → zRun X d 148 0 (zent 148 [.ref 73]) [] (SH, I, J) none (SH, t, J)) ∧ (∀ {X : zX} {d : Nat} (hd : n0 + 2 ≤ d) (I : (Nat → Nat → Int32)) (J : (Nat → Nat → Int64)) (t : (Nat → Nat → Int32)), (F145 n0).2.2.2.2.1 I = some t → zRun X d 149 0 (zent 149 [.ref 73]) [] (SH, I, J) none (SH, t, J)) ∧ (∀ {X : zX} {d : Nat} (hd : n0 + 2 ≤ d) (I : (Nat → Nat → Int32)) (J : (Nat → Nat → Int64)) (t : (Nat → Nat → Int32)), (F145 n0).2.2.2.2.2 I = some t → zRun X d 150 0 (zent 150 [.ref 73]) [] (SH, I, J) none (SH, t, J)))) {X : zX} {d : Nat} (hd : n0 + 1 + 2 ≤ d) (I : (Nat → Nat → Int32)) (J : (Nat → Nat → Int64)) (t : (Nat → Nat → Int32)) (h : bf149_both (F145 n0) I = some t) : zRun X d 149 0 (zent 149 [.ref 73]) [] (SH, I, J) none (SH, t, J) := by
  unfold bf149_both at h
  refine zr_steps 1 (1, [some (.ref 73)], [.ref 73], (SH, I, J)) rfl ?_
  obtain ⟨t2, hc1, h⟩ := zbind h
  refine zr_one (some (.inr (.inl (148, [.ref 73], [], 4)))) rfl (zR_call (by omega) rfl (ih.2.2.2.1 (by omega) I J _ hc1) ?_)
  obtain ⟨s11, ho12, h⟩ := zbind h
  refine zr_hdr (ls2 := [some (.ref 73)]) rfl rfl ?_
  refine ok_f149_both_L4 ih (by omega) 5000 t2 s11 ho12 ?_
  show zRun X d 149 44 [none] [] (SH, s11, J) _ _
  have he := Option.some.inj h
  subst he
  exact zr_one (some (.inr (.inr none))) rfl (zR_ret rfl rfl)
set_option maxRecDepth 100000 in
set_option maxHeartbeats 4000000 in
theorem okb_f150_either {n0 : Nat} (ih : ((∀ {X : zX} {d : Nat} (hd : n0 + 2 ≤ d) (I : (Nat → Nat → Int32)) (J : (Nat → Nat → Int64)) (t : (Nat → Nat → Int32)), (F145 n0).1 I = some t → zRun X d 145 0 (zent 145 [.ref 73]) [] (SH, I, J) none (SH, t, J)) ∧ (∀ {X : zX} {d : Nat} (hd : n0 + 2 ≤ d) (I : (Nat → Nat → Int32)) (J : (Nat → Nat → Int64)) (t : (Nat → Nat → Int32)), (F145 n0).2.1 I = some t → zRun X d 146 0 (zent 146 [.ref 73]) [] (SH, I, J) none (SH, t, J)) ∧ (∀ {X : zX} {d : Nat} (hd : n0 + 2 ≤ d) (I : (Nat → Nat → Int32)) (J : (Nat → Nat → Int64)) (t : (Nat → Nat → Int32)), (F145 n0).2.2.1 I = some t → zRun X d 147 0 (zent 147 [.ref 73]) [] (SH, I, J) none (SH, t, J)) ∧ (∀ {X : zX} {d : Nat} (hd : n0 + 2 ≤ d) (I : (Nat → Nat → Int32)) (J : (Nat → Nat → Int64)) (t : (Nat → Nat → Int32)), (F145 n0).2.2.2.1 I = some t → zRun X d 148 0 (zent 148 [.ref 73]) [] (SH, I, J) none (SH, t, J)) ∧ (∀ {X : zX} {d : Nat} (hd : n0 + 2 ≤ d) (I : (Nat → Nat → Int32)) (J : (Nat → Nat → Int64)) (t : (Nat → Nat → Int32)), (F145 n0).2.2.2.2.1 I = some t → zRun X d 149 0 (zent 149 [.ref 73]) [] (SH, I, J) none (SH, t, J)) ∧ (∀ {X : zX} {d : Nat} (hd : n0 + 2 ≤ d) (I : (Nat → Nat → Int32)) (J : (Nat → Nat → Int64)) (t : (Nat → Nat → Int32)), (F145 n0).2.2.2.2.2 I = some t → zRun X d 150 0 (zent 150 [.ref 73]) [] (SH, I, J) none (SH, t, J)))) {X : zX} {d : Nat} (hd : n0 + 1 + 2 ≤ d) (I : (Nat → Nat → Int32)) (J : (Nat → Nat → Int64)) (t : (Nat → Nat → Int32)) (h : bf150_either (F145 n0) I = some t) : zRun X d 150 0 (zent 150 [.ref 73]) [] (SH, I, J) none (SH, t, J) := by
  unfold bf150_either at h
  refine zr_steps 1 (1, [some (.ref 73)], [.ref 73], (SH, I, J)) rfl ?_
  obtain ⟨t2, hc1, h⟩ := zbind h
  refine zr_one (some (.inr (.inl (149, [.ref 73], [], 4)))) rfl (zR_call (by omega) rfl (ih.2.2.2.2.1 (by omega) I J _ hc1) ?_)
  obtain ⟨s11, ho12, h⟩ := zbind h
  refine zr_hdr (ls2 := [some (.ref 73)]) rfl rfl ?_
  refine ok_f150_either_L4 ih (by omega) 5000 t2 s11 ho12 ?_
  show zRun X d 150 44 [none] [] (SH, s11, J) _ _
  have he := Option.some.inj h
  subst he
  exact zr_one (some (.inr (.inr none))) rfl (zR_ret rfl rfl)
theorem okr_F145 : ∀ n : Nat, ((∀ {X : zX} {d : Nat} (hd : n + 2 ≤ d) (I : (Nat → Nat → Int32)) (J : (Nat → Nat → Int64)) (t : (Nat → Nat → Int32)), (F145 n).1 I = some t → zRun X d 145 0 (zent 145 [.ref 73]) [] (SH, I, J) none (SH, t, J)) ∧ (∀ {X : zX} {d : Nat} (hd : n + 2 ≤ d) (I : (Nat → Nat → Int32)) (J : (Nat → Nat → Int64)) (t : (Nat → Nat → Int32)), (F145 n).2.1 I = some t → zRun X d 146 0 (zent 146 [.ref 73]) [] (SH, I, J) none (SH, t, J)) ∧ (∀ {X : zX} {d : Nat} (hd : n + 2 ≤ d) (I : (Nat → Nat → Int32)) (J : (Nat → Nat → Int64)) (t : (Nat → Nat → Int32)), (F145 n).2.2.1 I = some t → zRun X d 147 0 (zent 147 [.ref 73]) [] (SH, I, J) none (SH, t, J)) ∧ (∀ {X : zX} {d : Nat} (hd : n + 2 ≤ d) (I : (Nat → Nat → Int32)) (J : (Nat → Nat → Int64)) (t : (Nat → Nat → Int32)), (F145 n).2.2.2.1 I = some t → zRun X d 148 0 (zent 148 [.ref 73]) [] (SH, I, J) none (SH, t, J)) ∧ (∀ {X : zX} {d : Nat} (hd : n + 2 ≤ d) (I : (Nat → Nat → Int32)) (J : (Nat → Nat → Int64)) (t : (Nat → Nat → Int32)), (F145 n).2.2.2.2.1 I = some t → zRun X d 149 0 (zent 149 [.ref 73]) [] (SH, I, J) none (SH, t, J)) ∧ (∀ {X : zX} {d : Nat} (hd : n + 2 ≤ d) (I : (Nat → Nat → Int32)) (J : (Nat → Nat → Int64)) (t : (Nat → Nat → Int32)), (F145 n).2.2.2.2.2 I = some t → zRun X d 150 0 (zent 150 [.ref 73]) [] (SH, I, J) none (SH, t, J))) := by
  intro n
  induction n with
  | zero => exact ⟨fun {_ _} _  _ _ _ h => (by cases h), fun {_ _} _  _ _ _ h => (by cases h), fun {_ _} _  _ _ _ h => (by cases h), fun {_ _} _  _ _ _ h => (by cases h), fun {_ _} _  _ _ _ h => (by cases h), fun {_ _} _  _ _ _ h => (by cases h)⟩
  | succ n ih => exact ⟨fun {_ _} hd  I J t h => okb_f145_operand ih (by omega)  I J t h, fun {_ _} hd  I J t h => okb_f146_product ih (by omega)  I J t h, fun {_ _} hd  I J t h => okb_f147_sum ih (by omega)  I J t h, fun {_ _} hd  I J t h => okb_f148_compared ih (by omega)  I J t h, fun {_ _} hd  I J t h => okb_f149_both ih (by omega)  I J t h, fun {_ _} hd  I J t h => okb_f150_either ih (by omega)  I J t h⟩
theorem ok_f145_operand {X : zX} {d n : Nat} (hd : n + 2 ≤ d) {I : (Nat → Nat → Int32)} {J : (Nat → Nat → Int64)} (t : (Nat → Nat → Int32)) (h : f145_operand n I = some t) : zRun X d 145 0 (zent 145 [.ref 73]) [] (SH, I, J) none (SH, t, J) := (okr_F145 n).1 hd  I J t h
theorem ok_f146_product {X : zX} {d n : Nat} (hd : n + 2 ≤ d) {I : (Nat → Nat → Int32)} {J : (Nat → Nat → Int64)} (t : (Nat → Nat → Int32)) (h : f146_product n I = some t) : zRun X d 146 0 (zent 146 [.ref 73]) [] (SH, I, J) none (SH, t, J) := (okr_F145 n).2.1 hd  I J t h
theorem ok_f147_sum {X : zX} {d n : Nat} (hd : n + 2 ≤ d) {I : (Nat → Nat → Int32)} {J : (Nat → Nat → Int64)} (t : (Nat → Nat → Int32)) (h : f147_sum n I = some t) : zRun X d 147 0 (zent 147 [.ref 73]) [] (SH, I, J) none (SH, t, J) := (okr_F145 n).2.2.1 hd  I J t h
theorem ok_f148_compared {X : zX} {d n : Nat} (hd : n + 2 ≤ d) {I : (Nat → Nat → Int32)} {J : (Nat → Nat → Int64)} (t : (Nat → Nat → Int32)) (h : f148_compared n I = some t) : zRun X d 148 0 (zent 148 [.ref 73]) [] (SH, I, J) none (SH, t, J) := (okr_F145 n).2.2.2.1 hd  I J t h
theorem ok_f149_both {X : zX} {d n : Nat} (hd : n + 2 ≤ d) {I : (Nat → Nat → Int32)} {J : (Nat → Nat → Int64)} (t : (Nat → Nat → Int32)) (h : f149_both n I = some t) : zRun X d 149 0 (zent 149 [.ref 73]) [] (SH, I, J) none (SH, t, J) := (okr_F145 n).2.2.2.2.1 hd  I J t h
theorem ok_f150_either {X : zX} {d n : Nat} (hd : n + 2 ≤ d) {I : (Nat → Nat → Int32)} {J : (Nat → Nat → Int64)} (t : (Nat → Nat → Int32)) (h : f150_either n I = some t) : zRun X d 150 0 (zent 150 [.ref 73]) [] (SH, I, J) none (SH, t, J) := (okr_F145 n).2.2.2.2.2 hd  I J t h
set_option maxRecDepth 100000 in
set_option maxHeartbeats 4000000 in
theorem ok_f151_line {X : zX} {d : Nat} (hd : 203 ≤ d) {I : (Nat → Nat → Int32)} {J : (Nat → Nat → Int64)} (t : (Nat → Nat → Int32)) (h : f151_line I = some t) : zRun X d 151 0 (zent 151 [.ref 73]) [] (SH, I, J) none (SH, t, J) := by
  unfold f151_line at h
  refine zr_steps 4 (8, [some (.ref 73), none], [.int 4, .ref 88, .int 244], (SH, I, J)) rfl ?_
  refine zr_one (bif zin 4 5 then zN 9 [some (.ref 73), none] [.int (I 88 4), .int 244] (SH, I, J) else none) rfl (zR_bif (by decide) (zR_go ?_))
  refine zr_steps 8 (21, [some (.ref 73), some (.int (244 + (I 88 4)))], [.int (I 73 23).toInt16.toInt32, .int (244 + (I 88 4)), .ref 89], (SH, I, J)) rfl ?_
  obtain ⟨hc1, h⟩ := zbifo h
  refine zr_one (bif zin (244 + (I 88 4)) 305 then zN 22 [some (.ref 73), some (.int (244 + (I 88 4)))] [] (SH, (zu I 89 (244 + (I 88 4)).toNatClampNeg (I 73 23).toInt16.toInt32.toInt16.toInt32), J) else none) rfl (zR_bif hc1 (zR_go ?_))
  refine zr_steps 1 (23, [some (.ref 73), some (.int (244 + (I 88 4)))], [.ref 73], (SH, (zu I 89 (244 + (I 88 4)).toNatClampNeg (I 73 23).toInt16.toInt32.toInt16.toInt32), J)) rfl ?_
  obtain ⟨t3, hc2, h⟩ := zbind h
  refine zr_one (some (.inr (.inl (150, [.ref 73], [], 26)))) rfl (zR_call (by omega) rfl (ok_f150_either (by omega)  _ hc2) ?_)
  refine zr_steps 2 (30, [some (.ref 73), some (.int (244 + (I 88 4)))], [.int (t3 73 21)], (SH, t3, J)) rfl ?_
  refine zr_one (if (0 : Int32) ≤ (t3 73 21) then zN 67 [some (.ref 73), some (.int (244 + (I 88 4)))] [] (SH, t3, J) else zN 33 [some (.ref 73), some (.int (244 + (I 88 4)))] [] (SH, t3, J)) rfl (zR_if (fun hc13 => zR_go ?_) (fun hc13 => zR_go ?_))
  · rw [if_pos hc13] at h
    refine zr_steps 6 (77, [some (.ref 73), some (.int (244 + (I 88 4)))], [.int (t3 73 23).toInt16.toInt32, .int (244 + (I 88 4)), .ref 90], (SH, t3, J)) rfl ?_
    obtain ⟨hc4, h⟩ := zbifo h
    refine zr_one (bif zin (244 + (I 88 4)) 305 then zN 78 [some (.ref 73), some (.int (244 + (I 88 4)))] [] (SH, (zu t3 90 (244 + (I 88 4)).toNatClampNeg (t3 73 23).toInt16.toInt32.toInt16.toInt32), J) else none) rfl (zR_bif hc4 (zR_go ?_))
    refine zr_steps 4 (84, [some (.ref 73), some (.int (244 + (I 88 4)))], [.int 4, .ref 88, .int 4, .ref 88], (SH, (zu t3 90 (244 + (I 88 4)).toNatClampNeg (t3 73 23).toInt16.toInt32.toInt16.toInt32), J)) rfl ?_
    refine zr_one (bif zin 4 5 then zN 85 [some (.ref 73), some (.int (244 + (I 88 4)))] [.int (t3 88 4), .int 4, .ref 88] (SH, (zu t3 90 (244 + (I 88 4)).toNatClampNeg (t3 73 23).toInt16.toInt32.toInt16.toInt32), J) else none) rfl (zR_bif (by decide) (zR_go ?_))
    refine zr_steps 2 (87, [some (.ref 73), some (.int (244 + (I 88 4)))], [.int ((t3 88 4) + 1), .int 4, .ref 88], (SH, (zu t3 90 (244 + (I 88 4)).toNatClampNeg (t3 73 23).toInt16.toInt32.toInt16.toInt32), J)) rfl ?_
    refine zr_one (bif zin 4 5 then zN 88 [some (.ref 73), some (.int (244 + (I 88 4)))] [] (SH, (zu (zu t3 90 (244 + (I 88 4)).toNatClampNeg (t3 73 23).toInt16.toInt32.toInt16.toInt32) 88 4 ((t3 88 4) + 1)), J) else none) rfl (zR_bif (by decide) (zR_go ?_))
    have he := Option.some.inj h
    subst he
    exact zr_one (some (.inr (.inr none))) rfl (zR_ret rfl rfl)
  · rw [if_neg hc13] at h
    refine zr_steps 1 (34, [some (.ref 73), some (.int (244 + (I 88 4)))], [.ref 73], (SH, t3, J)) rfl ?_
    obtain ⟨t6, hc5, h⟩ := zbind h
    refine zr_one (some (.inr (.inl (139, [.ref 73], [], 37)))) rfl (zR_call (by omega) rfl (ok_f139_look (by omega)  _ hc5) ?_)
    refine zr_steps 1 (39, [some (.ref 73), some (.int (244 + (I 88 4)))], [.int 63, .int t6], (SH, t3, J)) rfl ?_
    refine zr_one (if t6 = 63 then zN 42 [some (.ref 73), some (.int (244 + (I 88 4)))] [] (SH, t3, J) else zN 67 [some (.ref 73), some (.int (244 + (I 88 4)))] [] (SH, t3, J)) rfl (zR_if (fun hc12 => zR_go ?_) (fun hc12 => zR_go ?_))
    · rw [if_pos hc12] at h
      refine zr_steps 12 (62, [some (.ref 73), some (.int (244 + (I 88 4)))], [.int (t3 73 23).toInt16.toInt32, .int (244 + (I 88 4)), .ref 89], (SH, (zu t3 73 20 ((t3 73 20) + 1)), J)) rfl ?_
      obtain ⟨hc7, h⟩ := zbifo h
      refine zr_one (bif zin (244 + (I 88 4)) 305 then zN 63 [some (.ref 73), some (.int (244 + (I 88 4)))] [] (SH, (zu (zu t3 73 20 ((t3 73 20) + 1)) 89 (244 + (I 88 4)).toNatClampNeg (t3 73 23).toInt16.toInt32.toInt16.toInt32), J) else none) rfl (zR_bif hc7 (zR_go ?_))
      refine zr_steps 1 (64, [some (.ref 73), some (.int (244 + (I 88 4)))], [.ref 73], (SH, (zu (zu t3 73 20 ((t3 73 20) + 1)) 89 (244 + (I 88 4)).toNatClampNeg (t3 73 23).toInt16.toInt32.toInt16.toInt32), J)) rfl ?_
      obtain ⟨t9, hc8, h⟩ := zbind h
      refine zr_one (some (.inr (.inl (150, [.ref 73], [], 67)))) rfl (zR_call (by omega) rfl (ok_f150_either (by omega)  _ hc8) ?_)
      refine zr_steps 6 (77, [some (.ref 73), some (.int (244 + (I 88 4)))], [.int (t9 73 23).toInt16.toInt32, .int (244 + (I 88 4)), .ref 90], (SH, t9, J)) rfl ?_
      obtain ⟨hc10, h⟩ := zbifo h
      refine zr_one (bif zin (244 + (I 88 4)) 305 then zN 78 [some (.ref 73), some (.int (244 + (I 88 4)))] [] (SH, (zu t9 90 (244 + (I 88 4)).toNatClampNeg (t9 73 23).toInt16.toInt32.toInt16.toInt32), J) else none) rfl (zR_bif hc10 (zR_go ?_))
      refine zr_steps 4 (84, [some (.ref 73), some (.int (244 + (I 88 4)))], [.int 4, .ref 88, .int 4, .ref 88], (SH, (zu t9 90 (244 + (I 88 4)).toNatClampNeg (t9 73 23).toInt16.toInt32.toInt16.toInt32), J)) rfl ?_
      refine zr_one (bif zin 4 5 then zN 85 [some (.ref 73), some (.int (244 + (I 88 4)))] [.int (t9 88 4), .int 4, .ref 88] (SH, (zu t9 90 (244 + (I 88 4)).toNatClampNeg (t9 73 23).toInt16.toInt32.toInt16.toInt32), J) else none) rfl (zR_bif (by decide) (zR_go ?_))
      refine zr_steps 2 (87, [some (.ref 73), some (.int (244 + (I 88 4)))], [.int ((t9 88 4) + 1), .int 4, .ref 88], (SH, (zu t9 90 (244 + (I 88 4)).toNatClampNeg (t9 73 23).toInt16.toInt32.toInt16.toInt32), J)) rfl ?_
      refine zr_one (bif zin 4 5 then zN 88 [some (.ref 73), some (.int (244 + (I 88 4)))] [] (SH, (zu (zu t9 90 (244 + (I 88 4)).toNatClampNeg (t9 73 23).toInt16.toInt32.toInt16.toInt32) 88 4 ((t9 88 4) + 1)), J) else none) rfl (zR_bif (by decide) (zR_go ?_))
      have he := Option.some.inj h
      subst he
      exact zr_one (some (.inr (.inr none))) rfl (zR_ret rfl rfl)
    · rw [if_neg hc12] at h
      refine zr_steps 6 (77, [some (.ref 73), some (.int (244 + (I 88 4)))], [.int (t3 73 23).toInt16.toInt32, .int (244 + (I 88 4)), .ref 90], (SH, t3, J)) rfl ?_
      obtain ⟨hc11, h⟩ := zbifo h
      refine zr_one (bif zin (244 + (I 88 4)) 305 then zN 78 [some (.ref 73), some (.int (244 + (I 88 4)))] [] (SH, (zu t3 90 (244 + (I 88 4)).toNatClampNeg (t3 73 23).toInt16.toInt32.toInt16.toInt32), J) else none) rfl (zR_bif hc11 (zR_go ?_))
      refine zr_steps 4 (84, [some (.ref 73), some (.int (244 + (I 88 4)))], [.int 4, .ref 88, .int 4, .ref 88], (SH, (zu t3 90 (244 + (I 88 4)).toNatClampNeg (t3 73 23).toInt16.toInt32.toInt16.toInt32), J)) rfl ?_
      refine zr_one (bif zin 4 5 then zN 85 [some (.ref 73), some (.int (244 + (I 88 4)))] [.int (t3 88 4), .int 4, .ref 88] (SH, (zu t3 90 (244 + (I 88 4)).toNatClampNeg (t3 73 23).toInt16.toInt32.toInt16.toInt32), J) else none) rfl (zR_bif (by decide) (zR_go ?_))
      refine zr_steps 2 (87, [some (.ref 73), some (.int (244 + (I 88 4)))], [.int ((t3 88 4) + 1), .int 4, .ref 88], (SH, (zu t3 90 (244 + (I 88 4)).toNatClampNeg (t3 73 23).toInt16.toInt32.toInt16.toInt32), J)) rfl ?_
      refine zr_one (bif zin 4 5 then zN 88 [some (.ref 73), some (.int (244 + (I 88 4)))] [] (SH, (zu (zu t3 90 (244 + (I 88 4)).toNatClampNeg (t3 73 23).toInt16.toInt32.toInt16.toInt32) 88 4 ((t3 88 4) + 1)), J) else none) rfl (zR_bif (by decide) (zR_go ?_))
      have he := Option.some.inj h
      subst he
      exact zr_one (some (.inr (.inr none))) rfl (zR_ret rfl rfl)
set_option maxRecDepth 100000 in
set_option maxHeartbeats 4000000 in
theorem ok_f152_readText_L31 {X : zX} {d : Nat} {r : Option Value} {M' : zM} (hd : 204 ≤ d) (v1 : Int32) {J : (Nat → Nat → Int64)} : ∀ (n : Nat) (s x : (Nat → Nat → Int32)), zloop (f152_readText_L31 v1) n s = some x → (fun (x : (Nat → Nat → Int32)) => zRun X d 152 64 [some (.ref 73), some (.int v1), none] [] (SH, x, J) r M') x → (fun (s : (Nat → Nat → Int32)) => zRun X d 152 31 [some (.ref 73), some (.int v1), none] [] (SH, s, J) r M') s := zloop_ok (B := (f152_readText_L31 v1)) (Wh := fun (s : (Nat → Nat → Int32)) => zRun X d 152 31 [some (.ref 73), some (.int v1), none] [] (SH, s, J) r M') (Wx := fun (x : (Nat → Nat → Int32)) => zRun X d 152 64 [some (.ref 73), some (.int v1), none] [] (SH, x, J) r M') (fun s y h w => by
  unfold f152_readText_L31 at h
  refine zr_steps 2 (35, [some (.ref 73), some (.int v1), none], [.int (s 73 21)], (SH, s, J)) rfl ?_
  refine zr_one (if (0 : Int32) ≤ (s 73 21) then zN 64 [some (.ref 73), some (.int v1), none] [] (SH, s, J) else zN 38 [some (.ref 73), some (.int v1), none] [] (SH, s, J)) rfl (zR_if (fun hc8 => zR_go ?_) (fun hc8 => zR_go ?_))
  · rw [if_pos hc8] at h
    have he := Option.some.inj h
    subst he
    exact zr_hdr (ls2 := [some (.ref 73), some (.int v1), none]) rfl rfl (show zRun X d 152 64 [some (.ref 73), some (.int v1), none] [] (SH, s, J) r M' from w)
  · rw [if_neg hc8] at h
    refine zr_steps 1 (39, [some (.ref 73), some (.int v1), none], [.ref 73], (SH, s, J)) rfl ?_
    obtain ⟨t4, hc3, h⟩ := zbind h
    refine zr_one (some (.inr (.inl (139, [.ref 73], [], 42)))) rfl (zR_call (by omega) rfl (ok_f139_look (by omega)  _ hc3) ?_)
    refine zr_steps 1 (44, [some (.ref 73), some (.int v1), none], [.int 59, .int t4], (SH, s, J)) rfl ?_
    refine zr_one (if t4 = 59 then zN 47 [some (.ref 73), some (.int v1), none] [] (SH, s, J) else zN 64 [some (.ref 73), some (.int v1), none] [] (SH, s, J)) rfl (zR_if (fun hc7 => zR_go ?_) (fun hc7 => zR_go ?_))
    · rw [if_pos hc7] at h
      refine zr_steps 7 (58, [some (.ref 73), some (.int v1), none], [.ref 73], (SH, (zu s 73 20 ((s 73 20) + 1)), J)) rfl ?_
      obtain ⟨t6, hc5, h⟩ := zbind h
      refine zr_one (some (.inr (.inl (151, [.ref 73], [], 61)))) rfl (zR_call (by omega) rfl (ok_f151_line (by omega)  _ hc5) ?_)
      refine zr_steps 1 (31, [some (.ref 73), some (.int v1), none], [], (SH, t6, J)) rfl ?_
      have he := Option.some.inj h
      subst he
      exact zr_hdr (ls2 := [some (.ref 73), some (.int v1), none]) rfl rfl (show zRun X d 152 31 [some (.ref 73), some (.int v1), none] [] (SH, t6, J) r M' from w)
    · rw [if_neg hc7] at h
      have he := Option.some.inj h
      subst he
      exact zr_hdr (ls2 := [some (.ref 73), some (.int v1), none]) rfl rfl (show zRun X d 152 64 [some (.ref 73), some (.int v1), none] [] (SH, s, J) r M' from w))
set_option maxRecDepth 100000 in
set_option maxHeartbeats 4000000 in
theorem ok_f152_readText_L105 {X : zX} {d : Nat} {r : Option Value} {M' : zM} (hd : 204 ≤ d) (v1 : Int32) {J : (Nat → Nat → Int64)} : ∀ (n : Nat) (s x : (Int32 × (Nat → Nat → Int32))), zloop (f152_readText_L105 v1) n s = some x → (fun (x : (Int32 × (Nat → Nat → Int32))) => zRun X d 152 163 [some (.ref 73), some (.int v1), none] [] (SH, x.2, J) r M') x → (fun (s : (Int32 × (Nat → Nat → Int32))) => zRun X d 152 105 [some (.ref 73), some (.int v1), some (.int s.1)] [] (SH, s.2, J) r M') s := zloop_ok (B := (f152_readText_L105 v1)) (Wh := fun (s : (Int32 × (Nat → Nat → Int32))) => zRun X d 152 105 [some (.ref 73), some (.int v1), some (.int s.1)] [] (SH, s.2, J) r M') (Wx := fun (x : (Int32 × (Nat → Nat → Int32))) => zRun X d 152 163 [some (.ref 73), some (.int v1), none] [] (SH, x.2, J) r M') (fun s y h w => by
  unfold f152_readText_L105 at h
  refine zr_steps 3 (110, [some (.ref 73), some (.int v1), some (.int s.1)], [.int (s.2 73 23), .int s.1], (SH, s.2, J)) rfl ?_
  refine zr_one (if (s.2 73 23) ≤ s.1 then zN 163 [some (.ref 73), some (.int v1), some (.int s.1)] [] (SH, s.2, J) else zN 113 [some (.ref 73), some (.int v1), some (.int s.1)] [] (SH, s.2, J)) rfl (zR_if (fun hc15 => zR_go ?_) (fun hc15 => zR_go ?_))
  · rw [if_pos hc15] at h
    have he := Option.some.inj h
    subst he
    exact zr_hdr (ls2 := [some (.ref 73), some (.int v1), none]) rfl rfl (show zRun X d 152 163 [some (.ref 73), some (.int v1), none] [] (SH, s.2, J) r M' from w)
  · rw [if_neg hc15] at h
    refine zr_steps 12 (133, [some (.ref 73), some (.int v1), some (.int s.1)], [.int (520 + s.1), .ref 86, .int ((130 * v1) + s.1), .ref 86], (SH, s.2, J)) rfl ?_
    obtain ⟨hc11, h⟩ := zbifo h
    refine zr_one (bif zin (520 + s.1) 650 then zN 134 [some (.ref 73), some (.int v1), some (.int s.1)] [.int (s.2 86 (520 + s.1).toNatClampNeg), .int ((130 * v1) + s.1), .ref 86] (SH, s.2, J) else none) rfl (zR_bif hc11 (zR_go ?_))
    obtain ⟨hc12, h⟩ := zbifo h
    refine zr_one (bif zin ((130 * v1) + s.1) 650 then zN 135 [some (.ref 73), some (.int v1), some (.int s.1)] [] (SH, (zu s.2 86 ((130 * v1) + s.1).toNatClampNeg (s.2 86 (520 + s.1).toNatClampNeg).toInt8.toInt32), J) else none) rfl (zR_bif hc12 (zR_go ?_))
    refine zr_steps 12 (155, [some (.ref 73), some (.int v1), some (.int s.1)], [.int (520 + s.1), .ref 87, .int ((130 * v1) + s.1), .ref 87], (SH, (zu s.2 86 ((130 * v1) + s.1).toNatClampNeg (s.2 86 (520 + s.1).toNatClampNeg).toInt8.toInt32), J)) rfl ?_
    obtain ⟨hc13, h⟩ := zbifo h
    refine zr_one (bif zin (520 + s.1) 650 then zN 156 [some (.ref 73), some (.int v1), some (.int s.1)] [.int (s.2 87 (520 + s.1).toNatClampNeg), .int ((130 * v1) + s.1), .ref 87] (SH, (zu s.2 86 ((130 * v1) + s.1).toNatClampNeg (s.2 86 (520 + s.1).toNatClampNeg).toInt8.toInt32), J) else none) rfl (zR_bif hc13 (zR_go ?_))
    obtain ⟨hc14, h⟩ := zbifo h
    refine zr_one (bif zin ((130 * v1) + s.1) 650 then zN 157 [some (.ref 73), some (.int v1), some (.int s.1)] [] (SH, (zu (zu s.2 86 ((130 * v1) + s.1).toNatClampNeg (s.2 86 (520 + s.1).toNatClampNeg).toInt8.toInt32) 87 ((130 * v1) + s.1).toNatClampNeg (s.2 87 (520 + s.1).toNatClampNeg)), J) else none) rfl (zR_bif hc14 (zR_go ?_))
    refine zr_steps 2 (105, [some (.ref 73), some (.int v1), some (.int (s.1 + 1))], [], (SH, (zu (zu s.2 86 ((130 * v1) + s.1).toNatClampNeg (s.2 86 (520 + s.1).toNatClampNeg).toInt8.toInt32) 87 ((130 * v1) + s.1).toNatClampNeg (s.2 87 (520 + s.1).toNatClampNeg)), J)) rfl ?_
    have he := Option.some.inj h
    subst he
    exact zr_hdr (ls2 := [some (.ref 73), some (.int v1), some (.int (s.1 + 1))]) rfl rfl (show zRun X d 152 105 [some (.ref 73), some (.int v1), some (.int (s.1 + 1))] [] (SH, (zu (zu s.2 86 ((130 * v1) + s.1).toNatClampNeg (s.2 86 (520 + s.1).toNatClampNeg).toInt8.toInt32) 87 ((130 * v1) + s.1).toNatClampNeg (s.2 87 (520 + s.1).toNatClampNeg)), J) r M' from w))
set_option maxRecDepth 100000 in
set_option maxHeartbeats 4000000 in
theorem ok_f152_readText_L177 {X : zX} {d : Nat} {r : Option Value} {M' : zM} (hd : 204 ≤ d) (v1 : Int32) {J : (Nat → Nat → Int64)} : ∀ (n : Nat) (s x : (Int32 × (Nat → Nat → Int32))), zloop (f152_readText_L177 v1) n s = some x → (fun (x : (Int32 × (Nat → Nat → Int32))) => zRun X d 152 235 [none, none, none] [] (SH, x.2, J) r M') x → (fun (s : (Int32 × (Nat → Nat → Int32))) => zRun X d 152 177 [some (.ref 73), some (.int v1), some (.int s.1)] [] (SH, s.2, J) r M') s := zloop_ok (B := (f152_readText_L177 v1)) (Wh := fun (s : (Int32 × (Nat → Nat → Int32))) => zRun X d 152 177 [some (.ref 73), some (.int v1), some (.int s.1)] [] (SH, s.2, J) r M') (Wx := fun (x : (Int32 × (Nat → Nat → Int32))) => zRun X d 152 235 [none, none, none] [] (SH, x.2, J) r M') (fun s y h w => by
  unfold f152_readText_L177 at h
  refine zr_steps 4 (183, [some (.ref 73), some (.int v1), some (.int s.1)], [.int v1, .ref 88, .int s.1], (SH, s.2, J)) rfl ?_
  obtain ⟨hc19, h⟩ := zbifo h
  refine zr_one (bif zin v1 5 then zN 184 [some (.ref 73), some (.int v1), some (.int s.1)] [.int (s.2 88 v1.toNatClampNeg), .int s.1] (SH, s.2, J) else none) rfl (zR_bif hc19 (zR_go ?_))
  refine zr_one (if (s.2 88 v1.toNatClampNeg) ≤ s.1 then zN 235 [some (.ref 73), some (.int v1), some (.int s.1)] [] (SH, s.2, J) else zN 187 [some (.ref 73), some (.int v1), some (.int s.1)] [] (SH, s.2, J)) rfl (zR_if (fun hc24 => zR_go ?_) (fun hc24 => zR_go ?_))
  · rw [if_pos hc24] at h
    have he := Option.some.inj h
    subst he
    exact zr_hdr (ls2 := [none, none, none]) rfl rfl (show zRun X d 152 235 [none, none, none] [] (SH, s.2, J) r M' from w)
  · rw [if_neg hc24] at h
    refine zr_steps 12 (206, [some (.ref 73), some (.int v1), some (.int s.1)], [.int (244 + s.1), .ref 89, .int ((61 * v1) + s.1), .ref 89], (SH, s.2, J)) rfl ?_
    obtain ⟨hc20, h⟩ := zbifo h
    refine zr_one (bif zin (244 + s.1) 305 then zN 207 [some (.ref 73), some (.int v1), some (.int s.1)] [.int (s.2 89 (244 + s.1).toNatClampNeg), .int ((61 * v1) + s.1), .ref 89] (SH, s.2, J) else none) rfl (zR_bif hc20 (zR_go ?_))
    obtain ⟨hc21, h⟩ := zbifo h
    refine zr_one (bif zin ((61 * v1) + s.1) 305 then zN 208 [some (.ref 73), some (.int v1), some (.int s.1)] [] (SH, (zu s.2 89 ((61 * v1) + s.1).toNatClampNeg (s.2 89 (244 + s.1).toNatClampNeg).toInt16.toInt32), J) else none) rfl (zR_bif hc21 (zR_go ?_))
    refine zr_steps 12 (227, [some (.ref 73), some (.int v1), some (.int s.1)], [.int (244 + s.1), .ref 90, .int ((61 * v1) + s.1), .ref 90], (SH, (zu s.2 89 ((61 * v1) + s.1).toNatClampNeg (s.2 89 (244 + s.1).toNatClampNeg).toInt16.toInt32), J)) rfl ?_
    obtain ⟨hc22, h⟩ := zbifo h
    refine zr_one (bif zin (244 + s.1) 305 then zN 228 [some (.ref 73), some (.int v1), some (.int s.1)] [.int (s.2 90 (244 + s.1).toNatClampNeg), .int ((61 * v1) + s.1), .ref 90] (SH, (zu s.2 89 ((61 * v1) + s.1).toNatClampNeg (s.2 89 (244 + s.1).toNatClampNeg).toInt16.toInt32), J) else none) rfl (zR_bif hc22 (zR_go ?_))
    obtain ⟨hc23, h⟩ := zbifo h
    refine zr_one (bif zin ((61 * v1) + s.1) 305 then zN 229 [some (.ref 73), some (.int v1), some (.int s.1)] [] (SH, (zu (zu s.2 89 ((61 * v1) + s.1).toNatClampNeg (s.2 89 (244 + s.1).toNatClampNeg).toInt16.toInt32) 90 ((61 * v1) + s.1).toNatClampNeg (s.2 90 (244 + s.1).toNatClampNeg).toInt16.toInt32), J) else none) rfl (zR_bif hc23 (zR_go ?_))
    refine zr_steps 2 (177, [some (.ref 73), some (.int v1), some (.int (s.1 + 1))], [], (SH, (zu (zu s.2 89 ((61 * v1) + s.1).toNatClampNeg (s.2 89 (244 + s.1).toNatClampNeg).toInt16.toInt32) 90 ((61 * v1) + s.1).toNatClampNeg (s.2 90 (244 + s.1).toNatClampNeg).toInt16.toInt32), J)) rfl ?_
    have he := Option.some.inj h
    subst he
    exact zr_hdr (ls2 := [some (.ref 73), some (.int v1), some (.int (s.1 + 1))]) rfl rfl (show zRun X d 152 177 [some (.ref 73), some (.int v1), some (.int (s.1 + 1))] [] (SH, (zu (zu s.2 89 ((61 * v1) + s.1).toNatClampNeg (s.2 89 (244 + s.1).toNatClampNeg).toInt16.toInt32) 90 ((61 * v1) + s.1).toNatClampNeg (s.2 90 (244 + s.1).toNatClampNeg).toInt16.toInt32), J) r M' from w))
set_option maxRecDepth 100000 in
set_option maxHeartbeats 4000000 in
theorem ok_f152_readText {X : zX} {d : Nat} (hd : 204 ≤ d) (v1 : Int32) {I : (Nat → Nat → Int32)} {J : (Nat → Nat → Int64)} (t : (Int32 × (Nat → Nat → Int32))) (h : f152_readText v1 I = some t) : zRun X d 152 0 (zent 152 [.ref 73, .int v1]) [] (SH, I, J) (some (.int t.1)) (SH, t.2, J) := by
  unfold f152_readText at h
  refine zr_steps 16 (26, [some (.ref 73), some (.int v1), none], [.int 0, .int 4, .ref 88], (SH, (zu (zu (zu (zu I 73 20 0) 73 21 (-1)) 73 22 0) 73 23 0), J)) rfl ?_
  refine zr_one (bif zin 4 5 then zN 27 [some (.ref 73), some (.int v1), none] [] (SH, (zu (zu (zu (zu (zu I 73 20 0) 73 21 (-1)) 73 22 0) 73 23 0) 88 4 0), J) else none) rfl (zR_bif (by decide) (zR_go ?_))
  refine zr_steps 1 (28, [some (.ref 73), some (.int v1), none], [.ref 73], (SH, (zu (zu (zu (zu (zu I 73 20 0) 73 21 (-1)) 73 22 0) 73 23 0) 88 4 0), J)) rfl ?_
  obtain ⟨t2, hc1, h⟩ := zbind h
  refine zr_one (some (.inr (.inl (151, [.ref 73], [], 31)))) rfl (zR_call (by omega) rfl (ok_f151_line (by omega)  _ hc1) ?_)
  obtain ⟨s9, ho10, h⟩ := zbind h
  refine zr_hdr (ls2 := [some (.ref 73), some (.int v1), none]) rfl rfl ?_
  refine ok_f152_readText_L31 (by omega) v1 5000 t2 s9 ho10 ?_
  show zRun X d 152 64 [some (.ref 73), some (.int v1), none] [] (SH, s9, J) _ _
  refine zr_steps 2 (68, [some (.ref 73), some (.int v1), none], [.int (s9 73 21)], (SH, s9, J)) rfl ?_
  refine zr_one (if (0 : Int32) ≤ (s9 73 21) then zN 86 [some (.ref 73), some (.int v1), none] [] (SH, s9, J) else zN 71 [some (.ref 73), some (.int v1), none] [] (SH, s9, J)) rfl (zR_if (fun hc43 => zR_go ?_) (fun hc43 => zR_go ?_))
  · rw [if_pos hc43] at h
    refine zr_steps 5 (95, [some (.ref 73), some (.int v1), none], [.int (s9 73 21)], (SH, (zu s9 73 19 0), J)) rfl ?_
    refine zr_one (if (s9 73 21) < 0 then zN 103 [some (.ref 73), some (.int v1), none] [] (SH, (zu s9 73 19 0), J) else zN 98 [some (.ref 73), some (.int v1), none] [] (SH, (zu s9 73 19 0), J)) rfl (zR_if (fun hc27 => zR_go ?_) (fun hc27 => zR_go ?_))
    · rw [if_pos hc27] at h
      refine zr_steps 2 (105, [some (.ref 73), some (.int v1), some (.int 0)], [], (SH, (zu s9 73 19 0), J)) rfl ?_
      obtain ⟨s16, ho17, h⟩ := zbind h
      refine zr_hdr (ls2 := [some (.ref 73), some (.int v1), some (.int 0)]) rfl rfl ?_
      refine ok_f152_readText_L105 (by omega) v1 5000 ((0 : Int32), (zu s9 73 19 0)) s16 ho17 ?_
      show zRun X d 152 163 [some (.ref 73), some (.int v1), none] [] (SH, s16.2, J) _ _
      refine zr_steps 6 (173, [some (.ref 73), some (.int v1), none], [.int 4, .ref 88, .int v1, .ref 88], (SH, s16.2, J)) rfl ?_
      refine zr_one (bif zin 4 5 then zN 174 [some (.ref 73), some (.int v1), none] [.int (s16.2 88 4), .int v1, .ref 88] (SH, s16.2, J) else none) rfl (zR_bif (by decide) (zR_go ?_))
      obtain ⟨hc18, h⟩ := zbifo h
      refine zr_one (bif zin v1 5 then zN 175 [some (.ref 73), some (.int v1), none] [] (SH, (zu s16.2 88 v1.toNatClampNeg (s16.2 88 4)), J) else none) rfl (zR_bif hc18 (zR_go ?_))
      refine zr_steps 2 (177, [some (.ref 73), some (.int v1), some (.int 0)], [], (SH, (zu s16.2 88 v1.toNatClampNeg (s16.2 88 4)), J)) rfl ?_
      obtain ⟨s25, ho26, h⟩ := zbind h
      refine zr_hdr (ls2 := [some (.ref 73), some (.int v1), some (.int 0)]) rfl rfl ?_
      refine ok_f152_readText_L177 (by omega) v1 5000 ((0 : Int32), (zu s16.2 88 v1.toNatClampNeg (s16.2 88 4))) s25 ho26 ?_
      show zRun X d 152 235 [none, none, none] [] (SH, s25.2, J) _ _
      refine zr_steps 1 (236, [none, none, none], [.int (-1)], (SH, s25.2, J)) rfl ?_
      have he := Option.some.inj h
      subst he
      exact zr_one (some (.inr (.inr (some (.int (-1)))))) rfl (zR_ret rfl rfl)
    · rw [if_neg hc27] at h
      refine zr_steps 2 (102, [some (.ref 73), some (.int v1), none], [.int (s9 73 21)], (SH, (zu s9 73 19 0), J)) rfl ?_
      have he := Option.some.inj h
      subst he
      exact zr_one (some (.inr (.inr (some (.int (s9 73 21)))))) rfl (zR_ret rfl rfl)
  · rw [if_neg hc43] at h
    refine zr_steps 4 (79, [some (.ref 73), some (.int v1), none], [.int (s9 73 19), .int (s9 73 20)], (SH, s9, J)) rfl ?_
    refine zr_one (if (s9 73 19) ≤ (s9 73 20) then zN 86 [some (.ref 73), some (.int v1), none] [] (SH, s9, J) else zN 82 [some (.ref 73), some (.int v1), none] [] (SH, s9, J)) rfl (zR_if (fun hc42 => zR_go ?_) (fun hc42 => zR_go ?_))
    · rw [if_pos hc42] at h
      refine zr_steps 5 (95, [some (.ref 73), some (.int v1), none], [.int (s9 73 21)], (SH, (zu s9 73 19 0), J)) rfl ?_
      refine zr_one (if (s9 73 21) < 0 then zN 103 [some (.ref 73), some (.int v1), none] [] (SH, (zu s9 73 19 0), J) else zN 98 [some (.ref 73), some (.int v1), none] [] (SH, (zu s9 73 19 0), J)) rfl (zR_if (fun hc33 => zR_go ?_) (fun hc33 => zR_go ?_))
      · rw [if_pos hc33] at h
        refine zr_steps 2 (105, [some (.ref 73), some (.int v1), some (.int 0)], [], (SH, (zu s9 73 19 0), J)) rfl ?_
        obtain ⟨s28, ho29, h⟩ := zbind h
        refine zr_hdr (ls2 := [some (.ref 73), some (.int v1), some (.int 0)]) rfl rfl ?_
        refine ok_f152_readText_L105 (by omega) v1 5000 ((0 : Int32), (zu s9 73 19 0)) s28 ho29 ?_
        show zRun X d 152 163 [some (.ref 73), some (.int v1), none] [] (SH, s28.2, J) _ _
        refine zr_steps 6 (173, [some (.ref 73), some (.int v1), none], [.int 4, .ref 88, .int v1, .ref 88], (SH, s28.2, J)) rfl ?_
        refine zr_one (bif zin 4 5 then zN 174 [some (.ref 73), some (.int v1), none] [.int (s28.2 88 4), .int v1, .ref 88] (SH, s28.2, J) else none) rfl (zR_bif (by decide) (zR_go ?_))
        obtain ⟨hc30, h⟩ := zbifo h
        refine zr_one (bif zin v1 5 then zN 175 [some (.ref 73), some (.int v1), none] [] (SH, (zu s28.2 88 v1.toNatClampNeg (s28.2 88 4)), J) else none) rfl (zR_bif hc30 (zR_go ?_))
        refine zr_steps 2 (177, [some (.ref 73), some (.int v1), some (.int 0)], [], (SH, (zu s28.2 88 v1.toNatClampNeg (s28.2 88 4)), J)) rfl ?_
        obtain ⟨s31, ho32, h⟩ := zbind h
        refine zr_hdr (ls2 := [some (.ref 73), some (.int v1), some (.int 0)]) rfl rfl ?_
        refine ok_f152_readText_L177 (by omega) v1 5000 ((0 : Int32), (zu s28.2 88 v1.toNatClampNeg (s28.2 88 4))) s31 ho32 ?_
        show zRun X d 152 235 [none, none, none] [] (SH, s31.2, J) _ _
        refine zr_steps 1 (236, [none, none, none], [.int (-1)], (SH, s31.2, J)) rfl ?_
        have he := Option.some.inj h
        subst he
        exact zr_one (some (.inr (.inr (some (.int (-1)))))) rfl (zR_ret rfl rfl)
      · rw [if_neg hc33] at h
        refine zr_steps 2 (102, [some (.ref 73), some (.int v1), none], [.int (s9 73 21)], (SH, (zu s9 73 19 0), J)) rfl ?_
        have he := Option.some.inj h
        subst he
        exact zr_one (some (.inr (.inr (some (.int (s9 73 21)))))) rfl (zR_ret rfl rfl)
    · rw [if_neg hc42] at h
      refine zr_steps 1 (83, [some (.ref 73), some (.int v1), none], [.ref 73], (SH, s9, J)) rfl ?_
      obtain ⟨t35, hc34, h⟩ := zbind h
      refine zr_one (some (.inr (.inl (140, [.ref 73], [], 86)))) rfl (zR_call (by omega) rfl (ok_f140_wrong (by omega)  _ hc34) ?_)
      refine zr_steps 5 (95, [some (.ref 73), some (.int v1), none], [.int (t35 73 21)], (SH, (zu t35 73 19 0), J)) rfl ?_
      refine zr_one (if (t35 73 21) < 0 then zN 103 [some (.ref 73), some (.int v1), none] [] (SH, (zu t35 73 19 0), J) else zN 98 [some (.ref 73), some (.int v1), none] [] (SH, (zu t35 73 19 0), J)) rfl (zR_if (fun hc41 => zR_go ?_) (fun hc41 => zR_go ?_))
      · rw [if_pos hc41] at h
        refine zr_steps 2 (105, [some (.ref 73), some (.int v1), some (.int 0)], [], (SH, (zu t35 73 19 0), J)) rfl ?_
        obtain ⟨s36, ho37, h⟩ := zbind h
        refine zr_hdr (ls2 := [some (.ref 73), some (.int v1), some (.int 0)]) rfl rfl ?_
        refine ok_f152_readText_L105 (by omega) v1 5000 ((0 : Int32), (zu t35 73 19 0)) s36 ho37 ?_
        show zRun X d 152 163 [some (.ref 73), some (.int v1), none] [] (SH, s36.2, J) _ _
        refine zr_steps 6 (173, [some (.ref 73), some (.int v1), none], [.int 4, .ref 88, .int v1, .ref 88], (SH, s36.2, J)) rfl ?_
        refine zr_one (bif zin 4 5 then zN 174 [some (.ref 73), some (.int v1), none] [.int (s36.2 88 4), .int v1, .ref 88] (SH, s36.2, J) else none) rfl (zR_bif (by decide) (zR_go ?_))
        obtain ⟨hc38, h⟩ := zbifo h
        refine zr_one (bif zin v1 5 then zN 175 [some (.ref 73), some (.int v1), none] [] (SH, (zu s36.2 88 v1.toNatClampNeg (s36.2 88 4)), J) else none) rfl (zR_bif hc38 (zR_go ?_))
        refine zr_steps 2 (177, [some (.ref 73), some (.int v1), some (.int 0)], [], (SH, (zu s36.2 88 v1.toNatClampNeg (s36.2 88 4)), J)) rfl ?_
        obtain ⟨s39, ho40, h⟩ := zbind h
        refine zr_hdr (ls2 := [some (.ref 73), some (.int v1), some (.int 0)]) rfl rfl ?_
        refine ok_f152_readText_L177 (by omega) v1 5000 ((0 : Int32), (zu s36.2 88 v1.toNatClampNeg (s36.2 88 4))) s39 ho40 ?_
        show zRun X d 152 235 [none, none, none] [] (SH, s39.2, J) _ _
        refine zr_steps 1 (236, [none, none, none], [.int (-1)], (SH, s39.2, J)) rfl ?_
        have he := Option.some.inj h
        subst he
        exact zr_one (some (.inr (.inr (some (.int (-1)))))) rfl (zR_ret rfl rfl)
      · rw [if_neg hc41] at h
        refine zr_steps 2 (102, [some (.ref 73), some (.int v1), none], [.int (t35 73 21)], (SH, (zu t35 73 19 0), J)) rfl ?_
        have he := Option.some.inj h
        subst he
        exact zr_one (some (.inr (.inr (some (.int (t35 73 21)))))) rfl (zR_ret rfl rfl)
set_option maxRecDepth 100000 in
set_option maxHeartbeats 4000000 in
theorem ok_f157_law {X : zX} {d : Nat} (hd : 205 ≤ d) {I : (Nat → Nat → Int32)} {J : (Nat → Nat → Int64)} (t : (Int32 × (Nat → Nat → Int32))) (h : f157_law I = some t) : zRun X d 157 0 (zent 157 [.ref 73]) [] (SH, I, J) (some (.int t.1)) (SH, t.2, J) := by
  unfold f157_law at h
  refine zr_steps 3 (5, [some (.ref 73), none], [.int 4, .int (I 73 31)], (SH, I, J)) rfl ?_
  refine zr_one (if (I 73 31) = 4 then zN 8 [some (.ref 73), none] [] (SH, I, J) else zN 11 [some (.ref 73), none] [] (SH, I, J)) rfl (zR_if (fun hc4 => zR_go ?_) (fun hc4 => zR_go ?_))
  · rw [if_pos hc4] at h
    refine zr_steps 1 (10, [some (.ref 73), none], [.int (-3)], (SH, I, J)) rfl ?_
    have he := Option.some.inj h
    subst he
    exact zr_one (some (.inr (.inr (some (.int (-3)))))) rfl (zR_ret rfl rfl)
  · rw [if_neg hc4] at h
    refine zr_steps 3 (16, [some (.ref 73), none], [.int (I 73 31), .ref 73], (SH, I, J)) rfl ?_
    obtain ⟨t2, hc1, h⟩ := zbind h
    refine zr_one (some (.inr (.inl (152, [.ref 73, .int (I 73 31)], [], 19)))) rfl (zR_call (by omega) rfl (ok_f152_readText (by omega) (I 73 31) _ hc1) ?_)
    refine zr_steps 2 (21, [some (.ref 73), some (.int t2.1)], [.int t2.1], (SH, t2.2, J)) rfl ?_
    refine zr_one (if t2.1 < 0 then zN 29 [some (.ref 73), some (.int t2.1)] [] (SH, t2.2, J) else zN 24 [some (.ref 73), some (.int t2.1)] [] (SH, t2.2, J)) rfl (zR_if (fun hc3 => zR_go ?_) (fun hc3 => zR_go ?_))
    · rw [if_pos hc3] at h
      refine zr_steps 10 (45, [some (.ref 73), some (.int t2.1)], [.int (((t2.2 73 31) + 1) - 1)], (SH, (zu t2.2 73 31 ((t2.2 73 31) + 1)), J)) rfl ?_
      have he := Option.some.inj h
      subst he
      exact zr_one (some (.inr (.inr (some (.int (((t2.2 73 31) + 1) - 1)))))) rfl (zR_ret rfl rfl)
    · rw [if_neg hc3] at h
      refine zr_steps 3 (28, [some (.ref 73), some (.int t2.1)], [.int ((-100) - t2.1)], (SH, t2.2, J)) rfl ?_
      have he := Option.some.inj h
      subst he
      exact zr_one (some (.inr (.inr (some (.int ((-100) - t2.1)))))) rfl (zR_ret rfl rfl)
set_option maxRecDepth 100000 in
set_option maxHeartbeats 4000000 in
theorem ok_f93_set {X : zX} {d : Nat} (hd : 1 ≤ d) (v1 : Int32) (v2 : Int32) {I : (Nat → Nat → Int32)} {J : (Nat → Nat → Int64)} (t : (Int32 × (Nat → Nat → Int32))) (h : f93_set v1 v2 I = some t) : zRun X d 93 0 (zent 93 [.ref 0, .int v1, .int v2]) [] (SH, I, J) (some (.int t.1)) (SH, t.2, J) := by
  unfold f93_set at h
  refine zr_steps 1 (1, [some (.ref 0), some (.int v1), some (.int v2), none], [.int v1], (SH, I, J)) rfl ?_
  refine zr_one (if v1 = 0 then zN 4 [some (.ref 0), some (.int v1), some (.int v2), none] [] (SH, I, J) else zN 33 [some (.ref 0), some (.int v1), some (.int v2), none] [] (SH, I, J)) rfl (zR_if (fun hc28 => zR_go ?_) (fun hc28 => zR_go ?_))
  · rw [if_pos hc28] at h
    refine zr_steps 3 (8, [some (.ref 0), some (.int v1), some (.int v2), none], [.int 60, .int 1, .int v2], (SH, I, J)) rfl ?_
    obtain ⟨t2, hc1, h⟩ := zbind h
    refine zr_one (some (.inr (.inl (126, [.int v2, .int 1, .int 60], [], 11)))) rfl (zR_call (by omega) rfl (ok_f126_within (by omega) v2 1 60 _ hc1) ?_)
    refine zr_one (if t2 = 0 then zN 33 [some (.ref 0), some (.int v1), some (.int v2), none] [] (SH, I, J) else zN 14 [some (.ref 0), some (.int v1), some (.int v2), none] [] (SH, I, J)) rfl (zR_if (fun hc15 => zR_go ?_) (fun hc15 => zR_go ?_))
    · rw [if_pos hc15] at h
      refine zr_steps 2 (35, [some (.ref 0), some (.int v1), some (.int v2), none], [.int 1, .int v1], (SH, I, J)) rfl ?_
      refine zr_one (if v1 = 1 then zN 38 [some (.ref 0), some (.int v1), some (.int v2), none] [] (SH, I, J) else zN 67 [some (.ref 0), some (.int v1), some (.int v2), none] [] (SH, I, J)) rfl (zR_if (fun hc14 => zR_go ?_) (fun hc14 => zR_go ?_))
      · rw [if_pos hc14] at h
        refine zr_steps 3 (42, [some (.ref 0), some (.int v1), some (.int v2), none], [.int 9, .int 0, .int v2], (SH, I, J)) rfl ?_
        obtain ⟨t4, hc3, h⟩ := zbind h
        refine zr_one (some (.inr (.inl (126, [.int v2, .int 0, .int 9], [], 45)))) rfl (zR_call (by omega) rfl (ok_f126_within (by omega) v2 0 9 _ hc3) ?_)
        refine zr_one (if t4 = 0 then zN 67 [some (.ref 0), some (.int v1), some (.int v2), none] [] (SH, I, J) else zN 48 [some (.ref 0), some (.int v1), some (.int v2), none] [] (SH, I, J)) rfl (zR_if (fun hc9 => zR_go ?_) (fun hc9 => zR_go ?_))
        · rw [if_pos hc9] at h
          refine zr_steps 2 (69, [some (.ref 0), some (.int v1), some (.int v2), none], [.int 2, .int v1], (SH, I, J)) rfl ?_
          refine zr_one (if v1 = 2 then zN 72 [some (.ref 0), some (.int v1), some (.int v2), none] [] (SH, I, J) else zN 101 [some (.ref 0), some (.int v1), some (.int v2), none] [] (SH, I, J)) rfl (zR_if (fun hc8 => zR_go ?_) (fun hc8 => zR_go ?_))
          · rw [if_pos hc8] at h
            refine zr_steps 3 (76, [some (.ref 0), some (.int v1), some (.int v2), none], [.int 20, .int 0, .int v2], (SH, I, J)) rfl ?_
            obtain ⟨t6, hc5, h⟩ := zbind h
            refine zr_one (some (.inr (.inl (126, [.int v2, .int 0, .int 20], [], 79)))) rfl (zR_call (by omega) rfl (ok_f126_within (by omega) v2 0 20 _ hc5) ?_)
            refine zr_one (if t6 = 0 then zN 101 [some (.ref 0), some (.int v1), some (.int v2), none] [] (SH, I, J) else zN 82 [some (.ref 0), some (.int v1), some (.int v2), none] [] (SH, I, J)) rfl (zR_if (fun hc7 => zR_go ?_) (fun hc7 => zR_go ?_))
            · rw [if_pos hc7] at h
              refine zr_steps 1 (102, [some (.ref 0), some (.int v1), some (.int v2), none], [.int (-1)], (SH, I, J)) rfl ?_
              have he := Option.some.inj h
              subst he
              exact zr_one (some (.inr (.inr (some (.int (-1)))))) rfl (zR_ret rfl rfl)
            · rw [if_neg hc7] at h
              refine zr_steps 10 (104, [some (.ref 0), some (.int v1), some (.int v2), some (.int (I 1 5))], [.int (I 1 5)], (SH, (zu I 1 5 v2), J)) rfl ?_
              have he := Option.some.inj h
              subst he
              exact zr_one (some (.inr (.inr (some (.int (I 1 5)))))) rfl (zR_ret rfl rfl)
          · rw [if_neg hc8] at h
            refine zr_steps 1 (102, [some (.ref 0), some (.int v1), some (.int v2), none], [.int (-1)], (SH, I, J)) rfl ?_
            have he := Option.some.inj h
            subst he
            exact zr_one (some (.inr (.inr (some (.int (-1)))))) rfl (zR_ret rfl rfl)
        · rw [if_neg hc9] at h
          refine zr_steps 10 (104, [some (.ref 0), some (.int v1), some (.int v2), some (.int (I 1 4))], [.int (I 1 4)], (SH, (zu I 1 4 v2), J)) rfl ?_
          have he := Option.some.inj h
          subst he
          exact zr_one (some (.inr (.inr (some (.int (I 1 4)))))) rfl (zR_ret rfl rfl)
      · rw [if_neg hc14] at h
        refine zr_steps 2 (69, [some (.ref 0), some (.int v1), some (.int v2), none], [.int 2, .int v1], (SH, I, J)) rfl ?_
        refine zr_one (if v1 = 2 then zN 72 [some (.ref 0), some (.int v1), some (.int v2), none] [] (SH, I, J) else zN 101 [some (.ref 0), some (.int v1), some (.int v2), none] [] (SH, I, J)) rfl (zR_if (fun hc13 => zR_go ?_) (fun hc13 => zR_go ?_))
        · rw [if_pos hc13] at h
          refine zr_steps 3 (76, [some (.ref 0), some (.int v1), some (.int v2), none], [.int 20, .int 0, .int v2], (SH, I, J)) rfl ?_
          obtain ⟨t11, hc10, h⟩ := zbind h
          refine zr_one (some (.inr (.inl (126, [.int v2, .int 0, .int 20], [], 79)))) rfl (zR_call (by omega) rfl (ok_f126_within (by omega) v2 0 20 _ hc10) ?_)
          refine zr_one (if t11 = 0 then zN 101 [some (.ref 0), some (.int v1), some (.int v2), none] [] (SH, I, J) else zN 82 [some (.ref 0), some (.int v1), some (.int v2), none] [] (SH, I, J)) rfl (zR_if (fun hc12 => zR_go ?_) (fun hc12 => zR_go ?_))
          · rw [if_pos hc12] at h
            refine zr_steps 1 (102, [some (.ref 0), some (.int v1), some (.int v2), none], [.int (-1)], (SH, I, J)) rfl ?_
            have he := Option.some.inj h
            subst he
            exact zr_one (some (.inr (.inr (some (.int (-1)))))) rfl (zR_ret rfl rfl)
          · rw [if_neg hc12] at h
            refine zr_steps 10 (104, [some (.ref 0), some (.int v1), some (.int v2), some (.int (I 1 5))], [.int (I 1 5)], (SH, (zu I 1 5 v2), J)) rfl ?_
            have he := Option.some.inj h
            subst he
            exact zr_one (some (.inr (.inr (some (.int (I 1 5)))))) rfl (zR_ret rfl rfl)
        · rw [if_neg hc13] at h
          refine zr_steps 1 (102, [some (.ref 0), some (.int v1), some (.int v2), none], [.int (-1)], (SH, I, J)) rfl ?_
          have he := Option.some.inj h
          subst he
          exact zr_one (some (.inr (.inr (some (.int (-1)))))) rfl (zR_ret rfl rfl)
    · rw [if_neg hc15] at h
      refine zr_steps 10 (104, [some (.ref 0), some (.int v1), some (.int v2), some (.int (I 1 3))], [.int (I 1 3)], (SH, (zu I 1 3 v2), J)) rfl ?_
      have he := Option.some.inj h
      subst he
      exact zr_one (some (.inr (.inr (some (.int (I 1 3)))))) rfl (zR_ret rfl rfl)
  · rw [if_neg hc28] at h
    refine zr_steps 2 (35, [some (.ref 0), some (.int v1), some (.int v2), none], [.int 1, .int v1], (SH, I, J)) rfl ?_
    refine zr_one (if v1 = 1 then zN 38 [some (.ref 0), some (.int v1), some (.int v2), none] [] (SH, I, J) else zN 67 [some (.ref 0), some (.int v1), some (.int v2), none] [] (SH, I, J)) rfl (zR_if (fun hc27 => zR_go ?_) (fun hc27 => zR_go ?_))
    · rw [if_pos hc27] at h
      refine zr_steps 3 (42, [some (.ref 0), some (.int v1), some (.int v2), none], [.int 9, .int 0, .int v2], (SH, I, J)) rfl ?_
      obtain ⟨t17, hc16, h⟩ := zbind h
      refine zr_one (some (.inr (.inl (126, [.int v2, .int 0, .int 9], [], 45)))) rfl (zR_call (by omega) rfl (ok_f126_within (by omega) v2 0 9 _ hc16) ?_)
      refine zr_one (if t17 = 0 then zN 67 [some (.ref 0), some (.int v1), some (.int v2), none] [] (SH, I, J) else zN 48 [some (.ref 0), some (.int v1), some (.int v2), none] [] (SH, I, J)) rfl (zR_if (fun hc22 => zR_go ?_) (fun hc22 => zR_go ?_))
      · rw [if_pos hc22] at h
        refine zr_steps 2 (69, [some (.ref 0), some (.int v1), some (.int v2), none], [.int 2, .int v1], (SH, I, J)) rfl ?_
        refine zr_one (if v1 = 2 then zN 72 [some (.ref 0), some (.int v1), some (.int v2), none] [] (SH, I, J) else zN 101 [some (.ref 0), some (.int v1), some (.int v2), none] [] (SH, I, J)) rfl (zR_if (fun hc21 => zR_go ?_) (fun hc21 => zR_go ?_))
        · rw [if_pos hc21] at h
          refine zr_steps 3 (76, [some (.ref 0), some (.int v1), some (.int v2), none], [.int 20, .int 0, .int v2], (SH, I, J)) rfl ?_
          obtain ⟨t19, hc18, h⟩ := zbind h
          refine zr_one (some (.inr (.inl (126, [.int v2, .int 0, .int 20], [], 79)))) rfl (zR_call (by omega) rfl (ok_f126_within (by omega) v2 0 20 _ hc18) ?_)
          refine zr_one (if t19 = 0 then zN 101 [some (.ref 0), some (.int v1), some (.int v2), none] [] (SH, I, J) else zN 82 [some (.ref 0), some (.int v1), some (.int v2), none] [] (SH, I, J)) rfl (zR_if (fun hc20 => zR_go ?_) (fun hc20 => zR_go ?_))
          · rw [if_pos hc20] at h
            refine zr_steps 1 (102, [some (.ref 0), some (.int v1), some (.int v2), none], [.int (-1)], (SH, I, J)) rfl ?_
            have he := Option.some.inj h
            subst he
            exact zr_one (some (.inr (.inr (some (.int (-1)))))) rfl (zR_ret rfl rfl)
          · rw [if_neg hc20] at h
            refine zr_steps 10 (104, [some (.ref 0), some (.int v1), some (.int v2), some (.int (I 1 5))], [.int (I 1 5)], (SH, (zu I 1 5 v2), J)) rfl ?_
            have he := Option.some.inj h
            subst he
            exact zr_one (some (.inr (.inr (some (.int (I 1 5)))))) rfl (zR_ret rfl rfl)
        · rw [if_neg hc21] at h
          refine zr_steps 1 (102, [some (.ref 0), some (.int v1), some (.int v2), none], [.int (-1)], (SH, I, J)) rfl ?_
          have he := Option.some.inj h
          subst he
          exact zr_one (some (.inr (.inr (some (.int (-1)))))) rfl (zR_ret rfl rfl)
      · rw [if_neg hc22] at h
        refine zr_steps 10 (104, [some (.ref 0), some (.int v1), some (.int v2), some (.int (I 1 4))], [.int (I 1 4)], (SH, (zu I 1 4 v2), J)) rfl ?_
        have he := Option.some.inj h
        subst he
        exact zr_one (some (.inr (.inr (some (.int (I 1 4)))))) rfl (zR_ret rfl rfl)
    · rw [if_neg hc27] at h
      refine zr_steps 2 (69, [some (.ref 0), some (.int v1), some (.int v2), none], [.int 2, .int v1], (SH, I, J)) rfl ?_
      refine zr_one (if v1 = 2 then zN 72 [some (.ref 0), some (.int v1), some (.int v2), none] [] (SH, I, J) else zN 101 [some (.ref 0), some (.int v1), some (.int v2), none] [] (SH, I, J)) rfl (zR_if (fun hc26 => zR_go ?_) (fun hc26 => zR_go ?_))
      · rw [if_pos hc26] at h
        refine zr_steps 3 (76, [some (.ref 0), some (.int v1), some (.int v2), none], [.int 20, .int 0, .int v2], (SH, I, J)) rfl ?_
        obtain ⟨t24, hc23, h⟩ := zbind h
        refine zr_one (some (.inr (.inl (126, [.int v2, .int 0, .int 20], [], 79)))) rfl (zR_call (by omega) rfl (ok_f126_within (by omega) v2 0 20 _ hc23) ?_)
        refine zr_one (if t24 = 0 then zN 101 [some (.ref 0), some (.int v1), some (.int v2), none] [] (SH, I, J) else zN 82 [some (.ref 0), some (.int v1), some (.int v2), none] [] (SH, I, J)) rfl (zR_if (fun hc25 => zR_go ?_) (fun hc25 => zR_go ?_))
        · rw [if_pos hc25] at h
          refine zr_steps 1 (102, [some (.ref 0), some (.int v1), some (.int v2), none], [.int (-1)], (SH, I, J)) rfl ?_
          have he := Option.some.inj h
          subst he
          exact zr_one (some (.inr (.inr (some (.int (-1)))))) rfl (zR_ret rfl rfl)
        · rw [if_neg hc25] at h
          refine zr_steps 10 (104, [some (.ref 0), some (.int v1), some (.int v2), some (.int (I 1 5))], [.int (I 1 5)], (SH, (zu I 1 5 v2), J)) rfl ?_
          have he := Option.some.inj h
          subst he
          exact zr_one (some (.inr (.inr (some (.int (I 1 5)))))) rfl (zR_ret rfl rfl)
      · rw [if_neg hc26] at h
        refine zr_steps 1 (102, [some (.ref 0), some (.int v1), some (.int v2), none], [.int (-1)], (SH, I, J)) rfl ?_
        have he := Option.some.inj h
        subst he
        exact zr_one (some (.inr (.inr (some (.int (-1)))))) rfl (zR_ret rfl rfl)
set_option maxRecDepth 100000 in
set_option maxHeartbeats 4000000 in
theorem ok_f158_set {X : zX} {d : Nat} (hd : 1 ≤ d) (v1 : Int32) (v2 : Int32) {I : (Nat → Nat → Int32)} {J : (Nat → Nat → Int64)} (t : (Int32 × (Nat → Nat → Int32))) (h : f158_set v1 v2 I = some t) : zRun X d 158 0 (zent 158 [.ref 73, .int v1, .int v2]) [] (SH, I, J) (some (.int t.1)) (SH, t.2, J) := by
  unfold f158_set at h
  refine zr_steps 1 (1, [some (.ref 73), some (.int v1), some (.int v2), none], [.int v1], (SH, I, J)) rfl ?_
  refine zr_one (if v1.toInt = 0 then zN 28 [some (.ref 73), some (.int v1), some (.int v2), none] [] (SH, I, J) else (if v1.toInt = 1 then zN 52 [some (.ref 73), some (.int v1), some (.int v2), none] [] (SH, I, J) else (if v1.toInt = 2 then zN 76 [some (.ref 73), some (.int v1), some (.int v2), none] [] (SH, I, J) else zN 100 [some (.ref 73), some (.int v1), some (.int v2), none] [] (SH, I, J)))) rfl ?_
  refine zR_if (fun hc12 => zR_go ?_) (fun hc12 => ?_)
  · rw [if_pos hc12] at h
    refine zr_steps 3 (32, [some (.ref 73), some (.int v1), some (.int v2), none], [.int 60, .int 1, .int v2], (SH, I, J)) rfl ?_
    obtain ⟨t2, hc1, h⟩ := zbind h
    refine zr_one (some (.inr (.inl (129, [.int v2, .int 1, .int 60], [], 35)))) rfl (zR_call (by omega) rfl (ok_f129_in (by omega) v2 1 60 _ hc1) ?_)
    refine zr_one (if t2 = 0 then zN 38 [some (.ref 73), some (.int v1), some (.int v2), none] [] (SH, I, J) else zN 40 [some (.ref 73), some (.int v1), some (.int v2), none] [] (SH, I, J)) rfl (zR_if (fun hc3 => zR_go ?_) (fun hc3 => zR_go ?_))
    · rw [if_pos hc3] at h
      refine zr_steps 1 (39, [some (.ref 73), some (.int v1), some (.int v2), none], [.int (-1)], (SH, I, J)) rfl ?_
      have he := Option.some.inj h
      subst he
      exact zr_one (some (.inr (.inr (some (.int (-1)))))) rfl (zR_ret rfl rfl)
    · rw [if_neg hc3] at h
      refine zr_steps 7 (51, [some (.ref 73), some (.int v1), some (.int v2), some (.int (I 73 15))], [.int (I 73 15)], (SH, (zu I 73 15 v2), J)) rfl ?_
      have he := Option.some.inj h
      subst he
      exact zr_one (some (.inr (.inr (some (.int (I 73 15)))))) rfl (zR_ret rfl rfl)
  rw [if_neg hc12] at h
  refine zR_if (fun hc11 => zR_go ?_) (fun hc11 => ?_)
  · rw [if_pos hc11] at h
    refine zr_steps 3 (56, [some (.ref 73), some (.int v1), some (.int v2), none], [.int 9, .int 0, .int v2], (SH, I, J)) rfl ?_
    obtain ⟨t5, hc4, h⟩ := zbind h
    refine zr_one (some (.inr (.inl (129, [.int v2, .int 0, .int 9], [], 59)))) rfl (zR_call (by omega) rfl (ok_f129_in (by omega) v2 0 9 _ hc4) ?_)
    refine zr_one (if t5 = 0 then zN 62 [some (.ref 73), some (.int v1), some (.int v2), none] [] (SH, I, J) else zN 64 [some (.ref 73), some (.int v1), some (.int v2), none] [] (SH, I, J)) rfl (zR_if (fun hc6 => zR_go ?_) (fun hc6 => zR_go ?_))
    · rw [if_pos hc6] at h
      refine zr_steps 1 (63, [some (.ref 73), some (.int v1), some (.int v2), none], [.int (-1)], (SH, I, J)) rfl ?_
      have he := Option.some.inj h
      subst he
      exact zr_one (some (.inr (.inr (some (.int (-1)))))) rfl (zR_ret rfl rfl)
    · rw [if_neg hc6] at h
      refine zr_steps 7 (75, [some (.ref 73), some (.int v1), some (.int v2), some (.int (I 73 16))], [.int (I 73 16)], (SH, (zu I 73 16 v2), J)) rfl ?_
      have he := Option.some.inj h
      subst he
      exact zr_one (some (.inr (.inr (some (.int (I 73 16)))))) rfl (zR_ret rfl rfl)
  rw [if_neg hc11] at h
  refine zR_if (fun hc10 => zR_go ?_) (fun hc10 => ?_)
  · rw [if_pos hc10] at h
    refine zr_steps 3 (80, [some (.ref 73), some (.int v1), some (.int v2), none], [.int 20, .int 0, .int v2], (SH, I, J)) rfl ?_
    obtain ⟨t8, hc7, h⟩ := zbind h
    refine zr_one (some (.inr (.inl (129, [.int v2, .int 0, .int 20], [], 83)))) rfl (zR_call (by omega) rfl (ok_f129_in (by omega) v2 0 20 _ hc7) ?_)
    refine zr_one (if t8 = 0 then zN 86 [some (.ref 73), some (.int v1), some (.int v2), none] [] (SH, I, J) else zN 88 [some (.ref 73), some (.int v1), some (.int v2), none] [] (SH, I, J)) rfl (zR_if (fun hc9 => zR_go ?_) (fun hc9 => zR_go ?_))
    · rw [if_pos hc9] at h
      refine zr_steps 1 (87, [some (.ref 73), some (.int v1), some (.int v2), none], [.int (-1)], (SH, I, J)) rfl ?_
      have he := Option.some.inj h
      subst he
      exact zr_one (some (.inr (.inr (some (.int (-1)))))) rfl (zR_ret rfl rfl)
    · rw [if_neg hc9] at h
      refine zr_steps 7 (99, [some (.ref 73), some (.int v1), some (.int v2), some (.int (I 73 17))], [.int (I 73 17)], (SH, (zu I 73 17 v2), J)) rfl ?_
      have he := Option.some.inj h
      subst he
      exact zr_one (some (.inr (.inr (some (.int (I 73 17)))))) rfl (zR_ret rfl rfl)
  rw [if_neg hc10] at h
  refine zR_go ?_
  refine zr_steps 1 (101, [some (.ref 73), some (.int v1), some (.int v2), none], [.int (-1)], (SH, I, J)) rfl ?_
  have he := Option.some.inj h
  subst he
  exact zr_one (some (.inr (.inr (some (.int (-1)))))) rfl (zR_ret rfl rfl)
