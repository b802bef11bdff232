/-! LAW(): a text becomes a law of both -/
theorem line_ac {c st te en c' : Nat} {C AC WI : Nat → Int32} (h : yLine C AC WI c st te en c') : ∀ j, st ≤ j → j < en → ∃ m, m < 128 ∧ AC j = yn m := by
  have tok : ∀ {c ac wi : Int32} {d d' : Nat}, yTok c ac wi d d' → ∃ m, m < 128 ∧ ac = yn m := by
    rintro c ac wi d d' (⟨a, -⟩ | ⟨a, -⟩ | ⟨a, -⟩ | ⟨a, -⟩ | ⟨b, hb, -, -, a, -⟩)
    · exact ⟨1, by omega, a⟩
    · exact ⟨2, by omega, a⟩
    · exact ⟨3, by omega, a⟩
    · exact ⟨4, by omega, a⟩
    · unfold yBin at hb
      exact ⟨b, by omega, a⟩
  obtain ⟨g1, g2, g3, g4, g5⟩ := h
  intro j h1 h2
  by_cases e : te = st
  · obtain ⟨⟨dp, -, -, k⟩, -⟩ := g4 e
    have k2 := (k (j - st) (by omega)).2
    rw [show st + (j - st) = j by omega] at k2
    exact tok k2
  · obtain ⟨⟨dp, -, -, k⟩, -, ⟨dq, -, -, q⟩, -⟩ := g5 (by omega)
    by_cases e2 : j < te
    · have k2 := (k (j - st) (by omega)).2
      rw [show st + (j - st) = j by omega] at k2
      exact tok k2
    · have k2 := (q (j - te) (by omega)).2
      rw [show te + (j - te) = j by omega] at k2
      exact tok k2
theorem text_ac {nl L : Nat} {cs ts es : Nat → Nat} {A B : yI} (h : yTx nl L cs ts es A B) : ∀ k, k ≤ L → ∀ j, j < yst0 es k → ∃ m, m < 128 ∧ B 86 (520 + j) = yn m := by
  intro k
  induction k with
  | zero => intro _ j hj; exact absurd hj (Nat.not_lt_zero _)
  | succ k ih =>
    intro hk j hj
    have e : yst0 es (k + 1) = es k := by
      unfold yst0
      rw [if_neg (by omega), Nat.add_sub_cancel]
    rw [e] at hj
    by_cases c : j < yst0 es k
    · exact ih (by omega) j c
    · exact line_ac (h.2.2 k (by omega)).2.2 j (by omega) hj
theorem i8_ok : ∀ n, n < 128 → (yn n).toInt8.toInt32 = yn n := by decide +kernel
theorem i16_one : ∀ n, n < 200 → (yn n).toInt16.toInt32 = yn n := by decide +kernel
theorem copy1 {nl la : Nat} {B : yI} (hn : nl < 4) (hla : la ≤ 130) (h23 : B 73 23 = yn la) (hac : ∀ j, j < la → ∃ m, m < 128 ∧ B 86 (520 + j) = yn m) : yP (zloop (f152_readText_L105 (yn nl)) 5000 ((0 : Int32), B)) (fun x => yfr [8699, 8799] B x.2 ∧ (∀ j, j < la → x.2 86 (130 * nl + j) = B 86 (520 + j) ∧ x.2 87 (130 * nl + j) = B 87 (520 + j)) ∧ ∀ j, (j < 130 * nl ∨ 130 * nl + 130 ≤ j) → x.2 86 j = B 86 j ∧ x.2 87 j = B 87 j) := by
  refine yP_for la (fun i x => x.1 = yn i ∧ yfr [8699, 8799] B x.2 ∧ (∀ j, j < i → x.2 86 (130 * nl + j) = B 86 (520 + j) ∧ x.2 87 (130 * nl + j) = B 87 (520 + j)) ∧ ∀ j, (j < 130 * nl ∨ 130 * nl + 130 ≤ j) → x.2 86 j = B 86 j ∧ x.2 87 j = B 87 j) (k := 0) ⟨rfl, yfr_refl _, fun j hj => absurd hj (Nat.not_lt_zero _), fun _ _ => ⟨rfl, rfl⟩⟩ (by omega) (by omega) ?_ ?_
  · rintro i x hi ⟨e1, e2, e3, e4⟩
    unfold f152_readText_L105
    have i1 : (520 : Int32) + yn i = yn (520 + i) := yn_add 520 i
    have i2 : (130 : Int32) * yn nl + yn i = yn (130 * nl + i) := by
      show yn 130 * yn nl + yn i = _
      rw [yn_mul, yn_add]
    rw [e1, yn_succ, i1, i2]
    refine yP_neg (by rw [e2 73 23 rfl, h23, yn_le (by omega) (by omega)]; omega) (yP_bif (zin_yn (by omega) (by omega)) (yP_bif (zin_yn (by omega) (by omega)) (yP_bif (zin_yn (by omega) (by omega)) (yP_bif (zin_yn (by omega) (by omega)) (yP_some ?_)))))
    rw [yn_nat (n := 520 + i) (by omega), yn_nat (n := 130 * nl + i) (by omega)]
    obtain ⟨m, hm, em⟩ := hac i hi
    have v1 : x.2 86 (520 + i) = B 86 (520 + i) := (e4 _ (by omega)).1
    have v2 : x.2 87 (520 + i) = B 87 (520 + i) := (e4 _ (by omega)).2
    have v3 : (x.2 86 (520 + i)).toInt8.toInt32 = B 86 (520 + i) := by rw [v1, em, i8_ok m hm]
    rw [v3, v2]
    refine ⟨rfl, yfr_zu rfl (yfr_zu rfl e2), fun j hj => ?_, fun j hj => ?_⟩
    · dsimp only
      by_cases g : j = i
      · subst g
        rw [zu_ne (by omega), zu_same, zu_same]
        exact ⟨rfl, rfl⟩
      · rw [zu_ne (by omega), zu_nej (by omega), zu_nej (by omega), zu_ne (by omega)]
        exact e3 j (by omega)
    · dsimp only
      rw [zu_ne (by omega), zu_nej (by omega), zu_nej (by omega), zu_ne (by omega)]
      exact e4 j hj
  · rintro x ⟨e1, e2, e3, e4⟩
    unfold f152_readText_L105
    rw [e1]
    exact yP_pos (by rw [e2 73 23 rfl, h23]; exact Int32.le_refl _) (yP_some ⟨e2, e3, e4⟩)
theorem copy2 {nl L : Nat} {B : yI} (hn : nl < 4) (hL : L ≤ 61) (h88 : B 88 nl = yn L) (ht : ∀ j, j < L → (∃ m, m < 200 ∧ B 89 (244 + j) = yn m) ∧ ∃ m, m < 200 ∧ B 90 (244 + j) = yn m) : yP (zloop (f152_readText_L177 (yn nl)) 5000 ((0 : Int32), B)) (fun x => yfr [8999, 9099] B x.2 ∧ (∀ j, j < L → x.2 89 (61 * nl + j) = B 89 (244 + j) ∧ x.2 90 (61 * nl + j) = B 90 (244 + j)) ∧ ∀ j, (j < 61 * nl ∨ 61 * nl + 61 ≤ j) → x.2 89 j = B 89 j ∧ x.2 90 j = B 90 j) := by
  refine yP_for L (fun i x => x.1 = yn i ∧ yfr [8999, 9099] B x.2 ∧ (∀ j, j < i → x.2 89 (61 * nl + j) = B 89 (244 + j) ∧ x.2 90 (61 * nl + j) = B 90 (244 + j)) ∧ ∀ j, (j < 61 * nl ∨ 61 * nl + 61 ≤ j) → x.2 89 j = B 89 j ∧ x.2 90 j = B 90 j) (k := 0) ⟨rfl, yfr_refl _, fun j hj => absurd hj (Nat.not_lt_zero _), fun _ _ => ⟨rfl, rfl⟩⟩ (by omega) (by omega) ?_ ?_
  · rintro i x hi ⟨e1, e2, e3, e4⟩
    unfold f152_readText_L177
    have i1 : (244 : Int32) + yn i = yn (244 + i) := yn_add 244 i
    have i2 : (61 : Int32) * yn nl + yn i = yn (61 * nl + i) := by
      show yn 61 * yn nl + yn i = _
      rw [yn_mul, yn_add]
    rw [e1, yn_succ, i1, i2, yn_nat (n := nl) (by omega)]
    refine yP_bif (zin_yn (by omega) (by omega)) (yP_neg (by rw [e2 88 nl rfl, h88, yn_le (by omega) (by omega)]; omega) (yP_bif (zin_yn (by omega) (by omega)) (yP_bif (zin_yn (by omega) (by omega)) (yP_bif (zin_yn (by omega) (by omega)) (yP_bif (zin_yn (by omega) (by omega)) (yP_some ?_))))))
    rw [yn_nat (n := 244 + i) (by omega), yn_nat (n := 61 * nl + i) (by omega)]
    obtain ⟨⟨m, hm, em⟩, m', hm', em'⟩ := ht i hi
    have v1 : (x.2 89 (244 + i)).toInt16.toInt32 = B 89 (244 + i) := by rw [(e4 _ (by omega)).1, em, i16_one m hm]
    have v2 : (x.2 90 (244 + i)).toInt16.toInt32 = B 90 (244 + i) := by rw [(e4 _ (by omega)).2, em', i16_one m' hm']
    rw [v1, v2]
    refine ⟨rfl, yfr_zu rfl (yfr_zu rfl e2), fun j hj => ?_, fun j hj => ?_⟩
    · dsimp only
      by_cases g : j = i
      · subst g
        rw [zu_ne (by omega), zu_same, zu_same]
        exact ⟨rfl, rfl⟩
      · rw [zu_ne (by omega), zu_nej (by omega), zu_nej (by omega), zu_ne (by omega)]
        exact e3 j (by omega)
    · dsimp only
      rw [zu_ne (by omega), zu_nej (by omega), zu_nej (by omega), zu_ne (by omega)]
      exact e4 j hj
  · rintro x ⟨e1, e2, e3, e4⟩
    unfold f152_readText_L177
    rw [e1, yn_nat (n := nl) (by omega)]
    exact yP_bif (zin_yn (by omega) (by omega)) (yP_pos (by rw [e2 88 nl rfl, h88]; exact Int32.le_refl _) (yP_some ⟨e2, e3, e4⟩))
/-- a law is the same where its places are -/
theorem yLaw_cg {l : Nat} {A B A' B' : yI} (h : yLaw l A B) (h1 : ∀ j, A' (18 + l) j = A (18 + l) j) (h2 : A' 22 l = A 22 l) (h3 : B' 88 l = B 88 l) (h4 : ∀ j, j < 61 → B' 89 (61 * l + j) = B 89 (61 * l + j)) (h5 : ∀ j, j < 61 → B' 90 (61 * l + j) = B 90 (61 * l + j)) (h6 : ∀ j, j < 130 → B' 86 (130 * l + j) = B 86 (130 * l + j)) (h7 : ∀ j, j < 130 → B' 87 (130 * l + j) = B 87 (130 * l + j)) : yLaw l A' B' := by
  obtain ⟨L, cs, ts, es, g1, g2, g3, g4, g5, g6, g7⟩ := h
  refine ⟨L, cs, ts, es, g1, g2, g3, g4, by rw [h2]; exact g5, by rw [h3]; exact g6, fun k hk => ?_⟩
  obtain ⟨p1, p2, p3⟩ := g7 k hk
  have hen := p3.2.2.1
  refine ⟨by rw [h4 k (by omega)]; exact p1, by rw [h5 k (by omega)]; exact p2, yLine_cg p3 (fun j _ => h1 j) (fun j hj => h6 j (by omega)) (fun j hj => h7 j (by omega))⟩
/-- the law that was read, in its place -/
theorem yLaw_new {nl T L : Nat} {cs ts es : Nat → Nat} {A B A' B' : yI} (hL : 1 ≤ L ∧ L ≤ 61) (h : yLe nl T T L cs ts es A B) (h1 : ∀ j, A' (18 + nl) j = A (18 + nl) j) (h2 : A' 22 nl = A 22 nl) (h3 : B' 88 nl = yn L) (h4 : ∀ j, j < L → B' 89 (61 * nl + j) = B 89 (244 + j)) (h5 : ∀ j, j < L → B' 90 (61 * nl + j) = B 90 (244 + j)) (h6 : ∀ j, j < yst0 es L → B' 86 (130 * nl + j) = B 86 (520 + j)) (h7 : ∀ j, j < yst0 es L → B' 87 (130 * nl + j) = B 87 (520 + j)) : yLaw nl A' B' := by
  obtain ⟨hC, ⟨c1, c2, c3⟩, ⟨d1, d2⟩, -, x1, x2, x3⟩ := h
  have hT := hC.1
  refine ⟨L, cs, ts, es, hL.1, hL.2, x1, by omega, by rw [h2]; exact d2, h3, fun k hk => ?_⟩
  obtain ⟨⟨p1, p2⟩, ⟨p3, p4⟩, p5⟩ := x3 k hk
  refine ⟨by rw [h4 k hk]; exact p1, by rw [h5 k hk]; exact p2, yLine_cg p5 (fun j _ => h1 j) (fun j hj => h6 j (by omega)) (fun j hj => h7 j (by omega))⟩
theorem c_law {nl fd : Nat} {A B : yI} (hL : yLaws nl A B) (hP : yTape fd A B) : y2 (f92_law A) (f157_law B) (fun x y => x.1 = y.1 ∧ ∃ nl' fd', yLaws nl' x.2 y.2 ∧ yTape fd' x.2 y.2) := by
  have hL0 := hL
  have hP0 := hP
  obtain ⟨⟨n4, a7, b31⟩, hlaws⟩ := hL
  obtain ⟨⟨f120, a6, b19⟩, htape⟩ := hP
  unfold f92_law f157_law f19_becomes
  rw [a7, b31]
  by_cases e4 : nl = 4
  · subst e4
    rw [if_pos (show yn 4 = 4 from rfl), if_pos (show yn 4 = 4 from rfl)]
    exact ⟨_, _, rfl, rfl, rfl, 4, fd, hL0, hP0⟩
  · have e4' : ¬ yn nl = 4 := by
      show ¬ yn nl = yn 4
      rw [yn_inj (by omega) (by omega)]; exact e4
    rw [if_neg e4', if_neg e4', zin_yn (by omega) (by omega), yn_nat (by omega)]
    simp only [cond_true]
    unfold f152_readText f20_readLines
    have kA1 : yk (wA nl 0) A (zu (zu A 15 4 0) 22 nl 0) := yk_zu (by unfold wA; omega) (yk_zu (by unfold wA; omega) (yk_refl _))
    have kB1 : yk wL B (zu (zu (zu (zu (zu B 73 20 0) 73 21 (-1)) 73 22 0) 73 23 0) 88 4 0) := yk_zu (by unfold wL; omega) (yk_zu (by unfold wL; omega) (yk_zu (by unfold wL; omega) (yk_zu (by unfold wL; omega) (yk_zu (by unfold wL; omega) (yk_refl _)))))
    have hC0 : yC nl fd A B := ⟨⟨by omega, f120⟩, ⟨a6, a7, b19⟩, htape⟩
    have hS1 : yPs nl fd 0 ((fun _ => 0 : Nat → Nat) 0) (yst0 (fun _ => 0) 0) 0 (zu (zu A 15 4 0) 22 nl 0) (zu (zu (zu (zu (zu B 73 20 0) 73 21 (-1)) 73 22 0) 73 23 0) 88 4 0) := by
      refine ⟨yC_l hC0 kA1 kB1, ⟨by omega, Nat.le_refl _, Nat.le_refl _, by omega⟩, ⟨?_, zu_same _ _ _ _⟩, ⟨?_, ?_, ?_, ?_⟩⟩
      · rw [zu_ne (by omega), zu_same]; rfl
      · rw [zu_ne (by omega), zu_nej (by omega), zu_nej (by omega), zu_nej (by omega), zu_same]; rfl
      · rw [zu_ne (by omega), zu_nej (by omega), zu_nej (by omega), zu_same]
      · rw [zu_ne (by omega), zu_nej (by omega), zu_same]; rfl
      · rw [zu_ne (by omega), zu_same]; rfl
    have hX1 : yTx nl 0 (fun _ => 0) (fun _ => 0) (fun _ => 0) (zu (zu A 15 4 0) 22 nl 0) (zu (zu (zu (zu (zu B 73 20 0) 73 21 (-1)) 73 22 0) 73 23 0) 88 4 0) := ⟨rfl, zu_same _ _ _ _, fun k hk => absurd hk (Nat.not_lt_zero _)⟩
    generalize (zu (zu A 15 4 0) 22 nl 0) = A1 at *
    generalize (zu (zu (zu (zu (zu B 73 20 0) 73 21 (-1)) 73 22 0) 73 23 0) 88 4 0) = B1 at *
    obtain ⟨z, u, e1, e2, ⟨x1, A2⟩, rfl, kA, kB, h⟩ := text_loop (v := yn nl) fd 5000 5000 (by omega) (by omega) 0 0 _ _ _ A1 B1 (by omega) (by omega) kA1 kB1 hS1 hX1
    have e1' : zloopR f20_readLines_L2 5000 ((0 : Int32), A1) = some (.inl (x1, A2)) := e1
    rw [e1']
    obtain ⟨t2, u1, u2⟩ : ∃ t2, f151_line B1 = some t2 ∧ zloop (f152_readText_L31 (yn nl)) 5000 t2 = some u := by
      cases q : f151_line B1 with
      | none => rw [q] at e2; cases e2
      | some t2 => rw [q] at e2; exact ⟨t2, rfl, e2⟩
    simp only [u1, ob, u2]
    dsimp only at kA h
    have A27 : A2 15 7 = yn nl := by rw [kA 15 7 (by unfold wA; omega)]; exact a7
    have keepLaws : ∀ A' B' : yI, (∀ l j, l < nl → A' (18 + l) j = A2 (18 + l) j) → (∀ l, l < nl → A' 22 l = A2 22 l) → (∀ l, l < nl → B' 88 l = u 88 l) → (∀ j, j < 61 * nl → B' 89 j = u 89 j ∧ B' 90 j = u 90 j) → (∀ j, j < 130 * nl → B' 86 j = u 86 j ∧ B' 87 j = u 87 j) → ∀ l, l < nl → yLaw l A' B' := by
      intro A' B' q1 q2 q3 q4 q5 l hl
      refine yLaw_cg (hlaws l hl) (fun j => ?_) ?_ ?_ (fun j hj => ?_) (fun j hj => ?_) (fun j hj => ?_) (fun j hj => ?_)
      · rw [q1 l j hl, kA _ _ (by unfold wA; omega)]
      · rw [q2 l hl, kA _ _ (by unfold wA; omega)]
      · rw [q3 l hl, kB _ _ (by unfold wL; omega)]
      · rw [(q4 _ (by omega)).1, kB _ _ (by unfold wL; omega)]
      · rw [(q4 _ (by omega)).2, kB _ _ (by unfold wL; omega)]
      · rw [(q5 _ (by omega)).1, kB _ _ (by unfold wL; omega)]
      · rw [(q5 _ (by omega)).2, kB _ _ (by unfold wL; omega)]
    have u31 : u 73 31 = yn nl := by rw [kB 73 31 (by unfold wL; omega)]; exact b31
    have bad : ∀ (p : Nat) (w : yI), p ≤ fd → A2 15 4 = yn p → w 73 31 = yn nl → (∀ l, l < nl → w 88 l = u 88 l) → (∀ j, j < 61 * nl → w 89 j = u 89 j ∧ w 90 j = u 90 j) → (∀ j, j < 130 * nl → w 86 j = u 86 j ∧ w 87 j = u 87 j) → y2 (Option.bind (some (((-100 : Int32) - (A2 15 4)), (zu A2 15 6 0))) fun t2 => some (t2.1, t2.2)) (if yn p < 0 then some ((((zu w 73 19 0) 73 31) + 1) - 1, zu (zu w 73 19 0) 73 31 (((zu w 73 19 0) 73 31) + 1)) else some ((-100) - yn p, zu w 73 19 0)) (fun x y => x.1 = y.1 ∧ ∃ nl' fd', yLaws nl' x.2 y.2 ∧ yTape fd' x.2 y.2) := by
      intro p w hp q1 q2 q3 q4 q5
      rw [if_neg (Int32.not_lt.mpr (yn_pos (by omega))), q1]
      refine y2_some ⟨rfl, nl, 0, ⟨⟨n4, ?_, ?_⟩, ?_⟩, ⟨⟨by omega, (show zu A2 15 6 0 15 6 = 0 from zu_same _ _ _ _), (show zu w 73 19 0 73 19 = 0 from zu_same _ _ _ _)⟩, fun i hi => absurd hi (Nat.not_lt_zero _)⟩⟩
      · dsimp only
        rw [zu_nej (by omega)]; exact A27
      · dsimp only
        rw [zu_nej (by omega)]; exact q2
      · refine keepLaws _ _ (fun l j hl => ?_) (fun l hl => ?_) (fun l hl => ?_) (fun j hj => ?_) (fun j hj => ?_)
        · dsimp only
          rw [zu_ne (by omega)]
        · dsimp only
          rw [zu_ne (by omega)]
        · dsimp only
          rw [zu_ne (by omega)]; exact q3 l hl
        · dsimp only
          rw [zu_ne (by omega), zu_ne (by omega)]; exact q4 j hj
        · dsimp only
          rw [zu_ne (by omega), zu_ne (by omega)]; exact q5 j hj
    have zb : ∀ (a : Int32 × yI) (f : Int32 × yI → Option (Int32 × yI)), zbR (some (.inl a : (Int32 × yI) ⊕ (Int32 × yI))) (fun rr => some rr) f = some a := fun _ _ => rfl
    rcases h with ⟨rfl, L, cs, ts, es, hL', hLe⟩ | ⟨rfl, p, hp, hC2, q1, q2⟩
    · obtain ⟨hC2, ⟨c1, c2, c3⟩, ⟨d1, d2⟩, ⟨f1, f2, f3, f4⟩, hX⟩ := id hLe
      have g1 : ¬ (0 : Int32) ≤ u 73 21 := by rw [f2]; decide
      have g2 : u 73 19 ≤ u 73 20 := by
        rw [hC2.2.1.2.2, f1]
        exact Int32.le_refl _
      have g3 : u 73 21 < 0 := by rw [f2]; decide
      rw [if_neg g1, if_pos g2, if_pos g3]
      have hac : ∀ j, j < yst0 es L → ∃ m, m < 128 ∧ (zu u 73 19 0) 86 (520 + j) = yn m := by
        intro j hj
        rw [zu_ne (by omega)]
        exact text_ac hX L (Nat.le_refl _) j hj
      obtain ⟨s1, r1, m1, m2, m3⟩ := copy1 (nl := nl) (la := yst0 es L) (B := zu u 73 19 0) (by omega) (by omega) (by rw [zu_nej (by omega)]; exact f4) hac
      have e884 : s1.2 88 4 = yn L := by
        rw [m1 88 4 rfl, zu_ne (by omega)]; exact hX.2.1
      have hts : ∀ j, j < L → (∃ m, m < 200 ∧ (zu s1.2 88 nl (yn L)) 89 (244 + j) = yn m) ∧ ∃ m, m < 200 ∧ (zu s1.2 88 nl (yn L)) 90 (244 + j) = yn m := by
        intro j hj
        obtain ⟨⟨p1, p2⟩, ⟨-, p4⟩, p5⟩ := hX.2.2 j hj
        have p6 := p5.2.1
        rw [zu_ne (by omega), zu_ne (by omega), m1 89 _ rfl, m1 90 _ rfl, zu_ne (by omega), zu_ne (by omega)]
        exact ⟨⟨ts j, by omega, p1⟩, es j, by omega, p2⟩
      obtain ⟨s2, r2, m4, m5, m6⟩ := copy2 (nl := nl) (L := L) (B := zu s1.2 88 nl (yn L)) (by omega) hL'.2 (zu_same _ _ _ _) hts
      rw [r1, ob, zin_yn (m := nl) (by omega) (by omega), e884, yn_nat (n := nl) (by omega), r2]
      simp only [cond_true, ob]
      rw [zb, ob, if_neg (show ¬ (1 : Int32) = 0 by decide), ob, if_pos (show (-1 : Int32) < 0 by decide)]
      have B31 : s2.2 73 31 = yn nl := by
        rw [m4 73 31 rfl, zu_ne (by omega), m1 73 31 rfl, zu_nej (by omega)]; exact u31
      have k86 : ∀ j, s2.2 86 j = s1.2 86 j := fun j => by rw [m4 86 j rfl, zu_ne (by omega)]
      have k87 : ∀ j, s2.2 87 j = s1.2 87 j := fun j => by rw [m4 87 j rfl, zu_ne (by omega)]
      have k89 : ∀ j, (zu s1.2 88 nl (yn L)) 89 j = u 89 j := fun j => by rw [zu_ne (by omega), m1 89 j rfl, zu_ne (by omega)]
      have k90 : ∀ j, (zu s1.2 88 nl (yn L)) 90 j = u 90 j := fun j => by rw [zu_ne (by omega), m1 90 j rfl, zu_ne (by omega)]
      have z86 : ∀ j, (zu u 73 19 0) 86 j = u 86 j := fun j => zu_ne (by omega)
      have z87 : ∀ j, (zu u 73 19 0) 87 j = u 87 j := fun j => zu_ne (by omega)
      rw [B31, yn_ss, yn_succ]
      refine y2_some ⟨(by dsimp only; rw [A27, yn_ss]), nl + 1, 0, ⟨⟨by omega, ?_, ?_⟩, fun l hl => ?_⟩, ⟨⟨by omega, ?_, ?_⟩, fun i hi => absurd hi (Nat.not_lt_zero _)⟩⟩
      · dsimp only
        rw [zu_same, A27, yn_succ]
      · dsimp only
        rw [zu_same]
      · by_cases e : l = nl
        · subst e
          refine yLaw_new hL' hLe (fun j => ?_) ?_ ?_ (fun j hj => ?_) (fun j hj => ?_) (fun j hj => ?_) (fun j hj => ?_)
          · dsimp only
            rw [zu_ne (by omega), zu_ne (by omega)]
          · dsimp only
            rw [zu_ne (by omega), zu_ne (by omega)]
          · dsimp only
            rw [zu_ne (by omega), m4 88 l rfl, zu_same]
          · dsimp only
            rw [zu_ne (by omega), (m5 j hj).1, k89]
          · dsimp only
            rw [zu_ne (by omega), (m5 j hj).2, k90]
          · dsimp only
            rw [zu_ne (by omega), k86, (m2 j hj).1, z86]
          · dsimp only
            rw [zu_ne (by omega), k87, (m2 j hj).2, z87]
        · refine keepLaws _ _ (fun l j hl => ?_) (fun l hl => ?_) (fun l hl => ?_) (fun j hj => ?_) (fun j hj => ?_) l (by omega)
          · dsimp only
            rw [zu_ne (by omega), zu_ne (by omega)]
          · dsimp only
            rw [zu_ne (by omega), zu_ne (by omega)]
          · dsimp only
            rw [zu_ne (by omega), m4 88 l rfl, zu_nej (by omega), m1 88 l rfl, zu_ne (by omega)]
          · dsimp only
            rw [zu_ne (by omega), zu_ne (by omega), (m6 j (by omega)).1, (m6 j (by omega)).2, k89, k90]
            exact ⟨rfl, rfl⟩
          · dsimp only
            rw [zu_ne (by omega), zu_ne (by omega), k86, k87, (m3 j (by omega)).1, (m3 j (by omega)).2, z86, z87]
            exact ⟨rfl, rfl⟩
      · dsimp only
        rw [zu_nej (by omega), zu_same]; rfl
      · dsimp only
        rw [zu_nej (by omega), m4 73 19 rfl, zu_ne (by omega), m1 73 19 rfl, zu_same]; rfl
    · rcases q2 with q2 | ⟨q2, q3, q4⟩
      · rw [if_pos (show (0 : Int32) ≤ u 73 21 by rw [q2]; exact yn_pos (by omega)), if_neg (show ¬ u 73 21 < 0 by rw [q2]; exact Int32.not_lt.mpr (yn_pos (by omega))), q2]
        exact bad p u hp q1 u31 (fun _ _ => rfl) (fun _ _ => ⟨rfl, rfl⟩) (fun _ _ => ⟨rfl, rfl⟩)
      · have g1 : ¬ (0 : Int32) ≤ u 73 21 := by rw [q2]; decide
        have g2 : ¬ u 73 19 ≤ u 73 20 := by
          rw [hC2.2.1.2.2, q3, yn_le (by omega) (by omega)]; omega
        have w1 : f140_wrong u = some (zu u 73 21 (yn p)) := by
          unfold f140_wrong
          rw [if_neg g1, q3]
        rw [if_neg g1, if_neg g2, w1]
        simp only [ob]
        rw [if_neg (show ¬ (zu u 73 21 (yn p)) 73 21 < 0 by rw [zu_same]; exact Int32.not_lt.mpr (yn_pos (by omega))), zu_same]
        refine bad p _ hp q1 ?_ (fun l hl => ?_) (fun j hj => ?_) (fun j hj => ?_)
        · rw [zu_nej (by omega)]; exact u31
        · rw [zu_ne (by omega)]
        · rw [zu_ne (by omega), zu_ne (by omega)]; exact ⟨rfl, rfl⟩
        · rw [zu_ne (by omega), zu_ne (by omega)]; exact ⟨rfl, rfl⟩
