/-! LAW(): comparisons, the loops of the reference, the whole of E -/
theorem obs {α : Type} (o : Option α) : (Option.bind o fun x => some x) = o := by cases o <;> rfl
theorem t_lv4 : ∀ b, b < 257 → (ylv b = yn 4 ↔ (b = 42 ∨ b = 47 ∨ b = 37)) := by decide +kernel
theorem t_lv3 : ∀ b, b < 257 → (ylv b = yn 3 ↔ (b = 43 ∨ b = 45)) := by decide +kernel
theorem t_lv2 : ∀ b, b < 257 → (ylv b = yn 2 ↔ (b = 60 ∨ b = 61 ∨ b = 62)) := by decide +kernel
theorem t_lv1 : ∀ b, b < 257 → (ylv b = yn 1 ↔ b = 38) := by decide +kernel
theorem t_lv0 : ∀ b, b < 257 → (ylv b = yn 0 ↔ b = 124) := by decide +kernel
theorem compared_ok {nl T o D n m : Nat} (hf : yRE nl T o D ((F22 n).1 (yn 2 + 1) (yn o)) ((F145 m).2.2.1)) (hD : 1 ≤ D) : yRE nl T o (D + 1) ((F22 (n + 1)).1 (yn 2) (yn o)) ((F145 (m + 1)).2.2.2.1) := by
  intro p sz la A B hS
  show y2 (bf22_readPart (F22 n) (yn 2) (yn o) A) (bf148_compared (F145 m) B) _
  unfold bf22_readPart bf148_compared
  rw [if_pos (show yn 2 < (5 : Int32) by decide)]
  have hb0 := hS.2.1
  refine y2_bind (hf p sz la A B hS) ?_
  rintro ⟨x1, A2⟩ y h
  dsimp only
  rw [if_pos (show yn 2 = (2 : Int32) from rfl)]
  rcases h with ⟨h1, kA2, kB2, p', n', hGd⟩ | ⟨kA2, kB2, p', hB, h⟩
  · dsimp only at h1 kA2 kB2 hGd
    subst h1
    have hGd' := yGd_mono hGd (show D ≤ D + 1 by omega)
    obtain ⟨hC', ⟨g1, g2, g3, g4⟩, ⟨a1, a2⟩, ⟨b1, b2, b3, b4⟩⟩ := id hGd.2.1
    obtain ⟨b, hb, n1, n2, n3⟩ := ch_ok hC' g1 a1 b1
    have hT := hC'.1
    rw [if_neg (by decide), n2, ob, if_neg (show ¬ (0 : Int32) ≤ y 73 21 by rw [b2]; decide)]
    have q60 : yd b = 60 ↔ b = 60 := yd_m hb (m := 60) (by omega)
    have q61 : yd b = 61 ↔ b = 61 := yd_m hb (m := 61) (by omega)
    have q62 : yd b = 62 ↔ b = 62 := yd_m hb (m := 62) (by omega)
    by_cases e : ylv b = yn 2
    · obtain ⟨hbin, hb128⟩ := ylv_bin (l := 2) (by omega) e
      have hpT : p' < T := by omega
      have step := join_step (0 : Int32) hf hD hbin ⟨hb0.2.2.1, hb0.2.1⟩ hpT kA2 kB2 hGd'
      have eb : yd b = yn b := by rw [yd_n (by omega), ysb_lo b hb128]
      have right : (if yd b = 60 then Option.bind ((F145 m).2.2.1 (zu y 73 20 (y 73 20 + 1))) fun t6 => Option.bind (f141_addStep (yd b) 0 t6) fun t8 => some t8 else if yd b = 61 then Option.bind ((F145 m).2.2.1 (zu y 73 20 (y 73 20 + 1))) fun t10 => Option.bind (f141_addStep (yd b) 0 t10) fun t12 => some t12 else if yd b = 62 then Option.bind ((F145 m).2.2.1 (zu y 73 20 (y 73 20 + 1))) fun t14 => Option.bind (f141_addStep (yd b) 0 t14) fun t16 => some t16 else some y) = Option.bind ((F145 m).2.2.1 (zu y 73 20 (y 73 20 + 1))) fun t => f141_addStep (yn b) 0 t := by
        simp only [obs, eb]
        rw [eb] at q60 q61 q62
        rcases (t_lv2 b hb).mp e with c | c | c
        · rw [if_pos (q60.mpr c)]
        · rw [if_neg (fun z => absurd (q60.mp z) (by omega)), if_pos (q61.mpr c)]
        · rw [if_neg (fun z => absurd (q60.mp z) (by omega)), if_neg (fun z => absurd (q61.mp z) (by omega)), if_pos (q62.mpr c)]
      rw [right]
      obtain ⟨z, u, s1, s2, s3⟩ := step
      rw [zloopR_succ, body_eq hb n1, if_neg (show ¬ (1 : Int32) ≤ 0 by decide), if_pos e.symm, show (20000 + yc b) = 20000 + yn b by rw [yc_n (by omega)], s1, s2]
      have out : ∀ t : yI, zloopR (f22_readPart_L39 (F22 n) (yn 2) (yn o) 1) 4999 ((0 : Int32) + 1, t) = some (.inr ((0 : Int32) + 1, t)) := by
        intro t
        refine zloopR_out (n := 4998) ?_
        unfold f22_readPart_L39
        rw [if_pos (show (1 : Int32) ≤ 0 + 1 by decide)]
      rcases s3 with ⟨t, p2, n2', rfl, hpp, kA', kB', hG'⟩ | ⟨t, p2, kA', kB', hB', hz⟩
      · dsimp only
        rw [out]
        exact y2_some (Or.inl ⟨rfl, kA', kB', p2, n2', hG'⟩)
      · rcases hz with rfl | ⟨rfl, hd⟩
        · exact y2_some (Or.inr ⟨kA', kB', p2, hB', Or.inl rfl⟩)
        · dsimp only
          rw [out]
          exact y2_some (Or.inr ⟨kA', kB', p2, hB', Or.inr ⟨rfl, hd⟩⟩)
    · have nb : ¬ (b = 60 ∨ b = 61 ∨ b = 62) := fun z => e ((t_lv2 b hb).mpr z)
      rw [if_neg (fun z => nb (Or.inl (q60.mp z))), if_neg (fun z => nb (Or.inr (Or.inl (q61.mp z)))), if_neg (fun z => nb (Or.inr (Or.inr (q62.mp z))))]
      rw [zloopR_out (n := 4999) (s := ((0 : Int32), A2)) (x := ((0 : Int32), A2)) (by rw [body_eq hb n1, if_neg (show ¬ (1 : Int32) ≤ 0 by decide), if_neg (show ¬ yn 2 = ylv b from fun z => e z.symm)])]
      exact y2_some (Or.inl ⟨rfl, kA2, kB2, p', n', hGd'⟩)
  · dsimp only at kA2 hB h
    have hu : (0 : Int32) ≤ y 73 21 := by
      rw [hB.2.2.2.2.2.2.1]
      exact yn_pos (by have := hB.2.2.1; have := hB.2.1.1; omega)
    obtain ⟨b, hb, n1, n2, n3⟩ := ch_ok hB.2.1 hB.2.2.1 hB.2.2.2.1 hB.2.2.2.2.2.1
    rw [n2, ob, if_pos hu]
    rcases h with h | ⟨h, hd⟩
    · subst h
      rw [if_pos rfl]
      exact y2_some (Or.inr ⟨kA2, kB2, p', hB, Or.inl rfl⟩)
    · subst h
      rw [if_neg (by decide)]
      obtain ⟨x, x1, x2⟩ := stuck_ok (o := o) (D := D + 1) (sz0 := sz) (rc := F22 n) (v2 := yn o) (v3 := 1) (k := 4999) (l := 2) 0 (by omega) kA2 kB2 hB hd
      rw [x1]
      exact y2_some x2
theorem gs_product (m : Nat) : yGs 4 ((F145 m).1) (f146_product_L4 (F145 m)) := by
  refine ⟨fun B h => by unfold f146_product_L4; rw [if_pos h], fun B b hb h n2 => ?_⟩
  have q42 : yd b = 42 ↔ b = 42 := yd_m hb (m := 42) (by omega)
  have q47 : yd b = 47 ↔ b = 47 := yd_m hb (m := 47) (by omega)
  have q37 : yd b = 37 ↔ b = 37 := yd_m hb (m := 37) (by omega)
  unfold f146_product_L4
  rw [if_neg (show ¬ (0 : Int32) ≤ B 73 21 by rw [h]; decide)]
  simp only [n2, ob]
  by_cases e : b = 42 ∨ b = 47 ∨ b = 37
  · have eb : yd b = yn b := by rw [yd_n (by omega), ysb_lo b (by omega)]
    have right : (Option.bind ((F145 m).1 (zu B 73 20 (B 73 20 + 1))) fun t8 => Option.bind (f141_addStep (yd b) 0 t8) fun t10 => some (.inr t10)) = Option.bind (Option.bind ((F145 m).1 (zu B 73 20 (B 73 20 + 1))) fun t => f141_addStep (yn b) 0 t) fun u => some ((.inr u : yI ⊕ yI)) := by
      rw [eb]
      cases (F145 m).1 (zu B 73 20 (B 73 20 + 1)) <;> rfl
    rw [right, if_pos ((t_lv4 b hb).mpr e)]
    rcases e with c | c | c
    · rw [if_pos (q42.mpr c)]
    · rw [if_neg (fun z => absurd (q42.mp z) (by omega)), if_pos (q47.mpr c)]
    · rw [if_neg (fun z => absurd (q42.mp z) (by omega)), if_neg (fun z => absurd (q47.mp z) (by omega)), if_pos (q37.mpr c)]
  · rw [if_neg (fun z => e (Or.inl (q42.mp z))), if_neg (fun z => e (Or.inr (Or.inl (q47.mp z)))), if_neg (fun z => e (Or.inr (Or.inr (q37.mp z)))), if_neg (fun z => e ((t_lv4 b hb).mp z))]
theorem gs_sum (m : Nat) : yGs 3 ((F145 m).2.1) (f147_sum_L4 (F145 m)) := by
  refine ⟨fun B h => by unfold f147_sum_L4; rw [if_pos h], fun B b hb h n2 => ?_⟩
  have q43 : yd b = 43 ↔ b = 43 := yd_m hb (m := 43) (by omega)
  have q45 : yd b = 45 ↔ b = 45 := yd_m hb (m := 45) (by omega)
  unfold f147_sum_L4
  rw [if_neg (show ¬ (0 : Int32) ≤ B 73 21 by rw [h]; decide)]
  simp only [n2, ob]
  by_cases e : b = 43 ∨ b = 45
  · have eb : yd b = yn b := by rw [yd_n (by omega), ysb_lo b (by omega)]
    have right : (Option.bind ((F145 m).2.1 (zu B 73 20 (B 73 20 + 1))) fun t8 => Option.bind (f141_addStep (yd b) 0 t8) fun t10 => some (.inr t10)) = Option.bind (Option.bind ((F145 m).2.1 (zu B 73 20 (B 73 20 + 1))) fun t => f141_addStep (yn b) 0 t) fun u => some ((.inr u : yI ⊕ yI)) := by
      rw [eb]
      cases (F145 m).2.1 (zu B 73 20 (B 73 20 + 1)) <;> rfl
    rw [right, if_pos ((t_lv3 b hb).mpr e)]
    rcases e with c | c
    · rw [if_pos (q43.mpr c)]
    · rw [if_neg (fun z => absurd (q43.mp z) (by omega)), if_pos (q45.mpr c)]
  · rw [if_neg (fun z => e (Or.inl (q43.mp z))), if_neg (fun z => e (Or.inr (q45.mp z))), if_neg (fun z => e ((t_lv3 b hb).mp z))]
theorem gs_both (m : Nat) : yGs 1 ((F145 m).2.2.2.1) (f149_both_L4 (F145 m)) := by
  refine ⟨fun B h => by unfold f149_both_L4; rw [if_pos h], fun B b hb h n2 => ?_⟩
  have q38 : yd b = 38 ↔ b = 38 := yd_m hb (m := 38) (by omega)
  unfold f149_both_L4
  rw [if_neg (show ¬ (0 : Int32) ≤ B 73 21 by rw [h]; decide)]
  simp only [n2, ob]
  by_cases e : b = 38
  · subst e
    rw [if_pos (q38.mpr rfl), if_pos ((t_lv1 38 hb).mpr rfl)]
    cases (F145 m).2.2.2.1 (zu B 73 20 (B 73 20 + 1)) <;> rfl
  · rw [if_neg (fun z => e (q38.mp z)), if_neg (fun z => e ((t_lv1 b hb).mp z))]
theorem gs_either (m : Nat) : yGs 0 ((F145 m).2.2.2.2.1) (f150_either_L4 (F145 m)) := by
  refine ⟨fun B h => by unfold f150_either_L4; rw [if_pos h], fun B b hb h n2 => ?_⟩
  have q38 : yd b = 124 ↔ b = 124 := yd_m hb (m := 124) (by omega)
  unfold f150_either_L4
  rw [if_neg (show ¬ (0 : Int32) ≤ B 73 21 by rw [h]; decide)]
  simp only [n2, ob]
  by_cases e : b = 124
  · subst e
    rw [if_pos (q38.mpr rfl), if_pos ((t_lv0 124 hb).mpr rfl)]
    cases (F145 m).2.2.2.2.1 (zu B 73 20 (B 73 20 + 1)) <;> rfl
  · rw [if_neg (fun z => e (q38.mp z)), if_neg (fun z => e ((t_lv0 b hb).mp z))]
theorem levels_ok {nl T o D n m : Nat} (hD : 1 ≤ D) (h : yRE nl T o D ((F22 n).2.1 (yn o)) ((F145 m).1)) : yRE nl T o (D + 5) ((F22 (n + 6)).1 (yn 0) (yn o)) ((F145 (m + 5)).2.2.2.2.2) := by
  have h5 : yRE nl T o D ((F22 (n + 1)).1 (yn 4 + 1) (yn o)) ((F145 m).1) := part5_ok h
  have h4 : yRE nl T o (D + 1) ((F22 (n + 2)).1 (yn 3 + 1) (yn o)) ((F145 (m + 1)).2.1) := join_ok (l := 4) (by omega) (by omega) h5 (gs_product m) hD
  have h3 : yRE nl T o (D + 2) ((F22 (n + 3)).1 (yn 2 + 1) (yn o)) ((F145 (m + 2)).2.2.1) := join_ok (l := 3) (by omega) (by omega) h4 (gs_sum (m + 1)) (by omega)
  have h2 : yRE nl T o (D + 3) ((F22 (n + 4)).1 (yn 1 + 1) (yn o)) ((F145 (m + 3)).2.2.2.1) := compared_ok h3 (by omega)
  have h1 : yRE nl T o (D + 4) ((F22 (n + 5)).1 (yn 0 + 1) (yn o)) ((F145 (m + 4)).2.2.2.2.1) := join_ok (l := 1) (by omega) (by omega) h2 (gs_both (m + 3)) (by omega)
  exact join_ok (l := 0) (by omega) (by omega) h1 (gs_either (m + 4)) (by omega)
theorem yRE_mono {nl T o D E : Nat} {f : yI → Option (Int32 × yI)} {g : yI → Option yI} (h : yRE nl T o D f g) (hD : D ≤ E) : yRE nl T o E f g := by
  intro p sz la A B hS
  refine y2_mono (h p sz la A B hS) ?_
  rintro x y (⟨h1, h2, h3, p', n', h4⟩ | h)
  · exact Or.inl ⟨h1, h2, h3, p', n', yGd_mono h4 hD⟩
  · exact Or.inr h
theorem opens_ok (nl T : Nat) : ∀ (i : Nat), i ≤ 6 → ∀ n m : Nat, yRE nl T (6 - i) (5 * i + 1) ((F22 (8 * i + 2 + n)).2.1 (yn (6 - i))) ((F145 (6 * i + 1 + m)).1) := by
  intro i
  induction i with
  | zero =>
    intro _ n m
    have e1 : 8 * 0 + 2 + n = n + 2 := by omega
    have e2 : 6 * 0 + 1 + m = m + 1 := by omega
    rw [e1, e2]
    exact operand_ok (o := 6) (by omega) (by omega) (fun h => absurd h (by omega)) (fun h => absurd h (by omega))
  | succ i ih =>
    intro hi n m
    have e1 : 8 * (i + 1) + 2 + n = 8 * i + 2 + n + 6 + 2 := by omega
    have e2 : 6 * (i + 1) + 1 + m = 6 * i + 1 + m + 5 + 1 := by omega
    have e3 : 6 - (i + 1) + 1 = 6 - i := by omega
    rw [e1, e2]
    refine operand_ok (o := 6 - (i + 1)) (D := 5 * (i + 1) + 1) (by omega) (by omega) (fun _ => ?_) (fun _ => ?_)
    · rw [e3]
      exact levels_ok (by omega) (ih (by omega) n m)
    · rw [e3]
      have := ih (by omega) (n + 6) (m + 5)
      exact yRE_mono this (by omega)
theorem E_ok (nl T : Nat) : yRE nl T 0 60 (f22_readPart 200 0 0) (f150_either 200) := by
  have h := levels_ok (by omega) (opens_ok nl T 6 (by omega) 144 158)
  exact yRE_mono h (by omega)
