/-! LAW(): numbers, operands -/
theorem num_ok {nl T p sz la o b : Nat} {A B : yI} (hS : yPs nl T p sz la o A B) (hp : p < T) (hb : ydg b = true) (e : A 16 p = yn b) : y2 (f26_readNumber A) (f144_figure B) (fun x y => yOut nl T p sz la o 1 A B (1, x) y) := by
  have bnd := hS.2.1
  have hT := hS.1.1
  have key : y2 (zloop f26_readNumber_L4 5000 ((0 : Int32), (0 : Int32), A)) (zloop f144_figure_L4 5000 ((0 : Int32), (0 : Int32), B)) (fun (x y : Int32 × Int32 × yI) => ∃ k v, (k ≤ 4 ∧ 1 ≤ k ∧ v < 10 ^ k) ∧ (x.1 = yn v ∧ y.1 = yn v ∧ y.2.1 = yn k) ∧ yPs nl T (p + k) sz la o x.2.2 y.2.2 ∧ yk (wA nl sz) A x.2.2 ∧ yk (wB la) B y.2.2) := by
    refine y2_loop (fun j (x y : Int32 × Int32 × yI) => ∃ k v, (k + j = 4 ∧ v < 10 ^ k) ∧ (x.1 = yn v ∧ y.1 = yn v ∧ x.2.1 = yn k ∧ y.2.1 = yn k) ∧ yPs nl T (p + k) sz la o x.2.2 y.2.2 ∧ yk (wA nl sz) A x.2.2 ∧ yk (wB la) B y.2.2) ?_ 5000 4 _ _ (by omega) ⟨0, 0, ⟨by omega, by omega⟩, ⟨rfl, rfl, rfl, rfl⟩, hS, yk_refl _, yk_refl _⟩
    rintro j ⟨x1, x2, A'⟩ ⟨y1, y2', B'⟩ ⟨k, v, ⟨hk, hv⟩, ⟨e1, e2, e3, e4⟩, hS', kA, kB⟩
    dsimp only at e1 e2 e3 e4 hS' kA kB
    subst e1 e2 e3 e4
    unfold f26_readNumber_L4 f144_figure_L4
    dsimp only
    have four : (4 : Int32) ≤ yn k ↔ 4 ≤ k := yn_le (a := 4) (by omega) (by omega)
    by_cases g : 4 ≤ k
    · rw [if_pos (four.mpr g), if_pos (four.mpr g)]
      exact y2_some ⟨k, v, ⟨by omega, by omega, hv⟩, ⟨rfl, rfl, rfl⟩, hS', kA, kB⟩
    · rw [if_neg (fun z => g (four.mp z)), if_neg (fun z => g (four.mp z))]
      obtain ⟨hC', ⟨g1, g2, g3, g4⟩, ⟨a1, a2⟩, ⟨b1, b2, b3, b4⟩⟩ := id hS'
      obtain ⟨c, hc, n1, n2, n3⟩ := ch_ok hC' g1 a1 b1
      simp only [n1, n2, ob, t_dig c hc, t_dig2 c hc]
      cases hd : ydg c with
      | false =>
        have k0 : 1 ≤ k := by
          by_cases z : k = 0
          · exfalso
            subst z
            rcases n3 with ⟨n3, -⟩ | ⟨-, n4, n3⟩
            · have : p + 0 = T := n3
              omega
            · rw [kA 16 (p + 0) (by unfold wA; omega)] at n3
              have n3 : A 16 p = yn c := n3
              rw [e, yn_inj (by rw [ydg_t] at hb; omega) (by omega)] at n3
              rw [n3, hd] at hb
              cases hb
          · omega
        rw [if_pos (show (bif false then (1 : Int32) else 0) = 0 from rfl), if_pos (show (bif false then (1 : Int32) else 0) = 0 from rfl)]
        exact y2_some ⟨k, v, ⟨by omega, k0, hv⟩, ⟨rfl, rfl, rfl⟩, hS', kA, kB⟩
      | true =>
        rw [if_neg (show ¬ (bif true then (1 : Int32) else 0) = 0 by decide), if_neg (show ¬ (bif true then (1 : Int32) else 0) = 0 by decide)]
        have hd' := ydg_t.mp hd
        have hpT : p + k < T := by
          rcases n3 with ⟨n3, n4⟩ | ⟨n3, -, -⟩
          · omega
          · exact n3
        obtain ⟨q1, q2, q3⟩ := adv_ok sz la hS' hpT
        have w1 : yn v * 10 + yc c - 48 = yn (v * 10 + c - 48) := by
          rw [yc_n (by omega), show (10 : Int32) = yn 10 from rfl, show (48 : Int32) = yn 48 from rfl, yn_mul, yn_add, yn_sub (by omega)]
        have w2 : 10 * yn v + yd c - 48 = yn (v * 10 + c - 48) := by
          rw [yd_n (by omega), ysb_lo c (by omega), show (10 : Int32) = yn 10 from rfl, show (48 : Int32) = yn 48 from rfl, yn_mul, yn_add, yn_sub (by omega), Nat.mul_comm]
        refine y2_some ⟨j - 1, by omega, k + 1, v * 10 + c - 48, ⟨by omega, ?_⟩, ⟨w1, w2, yn_succ k, yn_succ k⟩, q1, yk_trans kA q2 (fun _ _ z => z), yk_trans kB q3 (fun _ _ z => z)⟩
        rw [Nat.pow_succ]
        omega
  unfold f26_readNumber f144_figure
  obtain ⟨x, y, e1, e2, k, v, ⟨hk4, hk1, hv⟩, ⟨v1, v2, v3⟩, hS', kA, kB⟩ := key
  obtain ⟨x1, x2, A'⟩ := x
  obtain ⟨y1, y2', B'⟩ := y
  dsimp only at v1 v2 v3 hS' kA kB
  subst v1 v2 v3
  rw [e1, e2, ob, ob]
  dsimp only
  have v4 : v < 10000 := Nat.lt_of_lt_of_le hv (Nat.pow_le_pow_right (by omega) hk4)
  have nk : ¬ yn k = 0 := by
    show ¬ yn k = yn 0
    rw [yn_inj (by omega) (by omega)]; omega
  obtain ⟨hC', ⟨g1, g2, g3, g4⟩, ⟨a1, a2⟩, ⟨b1, b2, b3, b4⟩⟩ := id hS'
  obtain ⟨c, hc, n1, n2, n3⟩ := ch_ok hC' g1 a1 b1
  rw [if_neg nk, n2, ob, t_dig2 c hc, ob, write_ok hC' a2 (by omega), ob]
  have kA' : yk (wA nl sz) A (zu (zu A' (18 + nl) sz (yn v)) 22 nl (yn (sz + 1))) := yk_zu (by unfold wA; omega) (yk_zu (by unfold wA; omega) kA)
  cases hd : ydg c with
  | false =>
    rw [if_pos (show (bif false then (1 : Int32) else 0) = 0 from rfl), show f141_addStep (1 : Int32) (yn v) B' = _ from add_ok (m := 1) b4 (by omega) (by omega) (yn v), ob]
    have kB' : yk (wB la) B (zu (zu (zu B' 86 (520 + la) (yn 1)) 87 (520 + la) (yn v)) 73 23 (yn (la + 1))) := yk_zu (by unfold wB; omega) (yk_zu (by unfold wB; omega) (yk_zu (by unfold wB; omega) kB))
    refine y2_some (Or.inl ⟨rfl, kA', kB', p + k, 1, ⟨by omega, by omega⟩, ⟨yC_k hS.1 kA' kB', ⟨by omega, by omega, by omega, g4⟩, ⟨?_, by dsimp only; exact zu_same _ _ _ _⟩, ⟨?_, ?_, ?_, zu_same _ _ _ _⟩⟩, ?_⟩)
    · dsimp only
      rw [zu_ne (by omega), zu_ne (by omega)]; exact a1
    · rw [zu_nej (by omega), zu_ne (by omega), zu_ne (by omega)]; exact b1
    · rw [zu_nej (by omega), zu_ne (by omega), zu_ne (by omega)]; exact b2
    · rw [zu_nej (by omega), zu_ne (by omega), zu_ne (by omega)]; exact b3
    · refine yG_one (Or.inl ⟨?_, rfl, v, v4, ?_, ?_⟩)
      · rw [zu_ne (by omega), zu_ne (by omega), zu_same]; rfl
      · dsimp only
        rw [zu_ne (by omega), zu_same]
      · rw [zu_ne (by omega), zu_same]
  | true =>
    have hd' := ydg_t.mp hd
    rw [if_neg (show ¬ (bif true then (1 : Int32) else 0) = 0 by decide)]
    unfold f140_wrong
    rw [b2, if_neg (show ¬ (0 : Int32) ≤ -1 by decide), ob, b1, show f141_addStep (1 : Int32) (yn v) (zu B' 73 21 (yn (p + k))) = _ from add_ok (m := 1) (la := la) (by rw [zu_nej (by omega)]; exact b4) (by omega) (by omega) (yn v), ob]
    have kB' : yk (wB la) B (zu (zu (zu (zu B' 73 21 (yn (p + k))) 86 (520 + la) (yn 1)) 87 (520 + la) (yn v)) 73 23 (yn (la + 1))) := yk_zu (by unfold wB; omega) (yk_zu (by unfold wB; omega) (yk_zu (by unfold wB; omega) (yk_zu (by unfold wB; omega) kB)))
    have hpT : p + k < T ∧ A' 16 (p + k) = yn c := by
      rcases n3 with ⟨n3, n4⟩ | ⟨n3, -, n4⟩
      · omega
      · exact ⟨n3, n4⟩
    refine y2_some (Or.inr ⟨wA0 kA', wB0 kB', p + k, ⟨by omega, yC_k hS.1 kA' kB', g1, ?_, ⟨sz + 1, by omega, by dsimp only; exact zu_same _ _ _ _⟩, ?_, ?_, la + 1, by omega, zu_same _ _ _ _⟩, Or.inr ⟨rfl, hpT.1, c, hd, ?_⟩⟩)
    · dsimp only
      rw [zu_ne (by omega), zu_ne (by omega)]; exact a1
    · rw [zu_nej (by omega), zu_ne (by omega), zu_ne (by omega), zu_nej (by omega)]; exact b1
    · rw [zu_nej (by omega), zu_ne (by omega), zu_ne (by omega), zu_same]
    · dsimp only
      rw [zu_ne (by omega), zu_ne (by omega)]
      exact hpT.2
/-- where a byte is wrong for both -/
theorem wrong_ok {nl T p sz la o D : Nat} {A B : yI} (hS : yPs nl T p sz la o A B) : f140_wrong B = some (zu B 73 21 (yn p)) ∧ yOut nl T p sz la o D A B (0, A) (zu B 73 21 (yn p)) := by
  obtain ⟨hC', ⟨g1, g2, g3, g4⟩, ⟨a1, a2⟩, ⟨b1, b2, b3, b4⟩⟩ := id hS
  have kB : yk (wB la) B (zu B 73 21 (yn p)) := yk_zu (by unfold wB; omega) (yk_refl _)
  refine ⟨?_, Or.inr ⟨yk_refl _, wB0 kB, p, ⟨by omega, yC_k hC' (yk_refl (W := wA nl sz) A) kB, g1, a1, ⟨sz, by have := hC'.1; omega, a2⟩, ?_, zu_same _ _ _ _, la, by omega, ?_⟩, Or.inl rfl⟩⟩
  · unfold f140_wrong
    rw [b2, if_neg (show ¬ (0 : Int32) ≤ -1 by decide), b1]
  · rw [zu_nej (by omega)]; exact b1
  · rw [zu_nej (by omega)]; exact b4
/-- no operand begins here -/
theorem none_ok {nl T p sz la o D b : Nat} {A B : yI} (hS : yPs nl T p sz la o A B) (hb : b < 257) (hd : ydg b = false) (n2 : f139_look B = some (yd b)) : y2 (some ((0 : Int32), A)) (f144_figure B) (yOut nl T p sz la o D A B) := by
  obtain ⟨hC', ⟨g1, g2, g3, g4⟩, ⟨a1, a2⟩, ⟨b1, b2, b3, b4⟩⟩ := id hS
  have hT := hC'.1
  have l1 : zloop f144_figure_L4 5000 ((0 : Int32), (0 : Int32), B) = some ((0 : Int32), (0 : Int32), B) := by
    refine zloop_out (n := 4999) ?_
    unfold f144_figure_L4
    dsimp only
    rw [if_neg (by decide), n2, ob, t_dig2 b hb, ob, hd, if_pos (show (bif false then (1 : Int32) else 0) = 0 from rfl)]
  obtain ⟨w1, w2⟩ := wrong_ok (D := D) hS
  unfold f144_figure
  rw [l1, ob, if_pos rfl, w1, ob, show f141_addStep (1 : Int32) 0 (zu B 73 21 (yn p)) = _ from add_ok (m := 1) (la := la) (by rw [zu_nej (by omega)]; exact b4) (by omega) (by omega) 0, ob]
  have kB' : yk (wB la) B (zu (zu (zu (zu B 73 21 (yn p)) 86 (520 + la) (yn 1)) 87 (520 + la) 0) 73 23 (yn (la + 1))) := yk_zu (by unfold wB; omega) (yk_zu (by unfold wB; omega) (yk_zu (by unfold wB; omega) (yk_zu (by unfold wB; omega) (yk_refl _))))
  refine y2_some (Or.inr ⟨yk_refl _, wB0 kB', p, ⟨by omega, yC_k hC' (yk_refl (W := wA nl sz) A) kB', g1, a1, ⟨sz, by omega, a2⟩, ?_, ?_, la + 1, by omega, zu_same _ _ _ _⟩, Or.inl rfl⟩)
  · rw [zu_nej (by omega), zu_ne (by omega), zu_ne (by omega), zu_nej (by omega)]; exact b1
  · rw [zu_nej (by omega), zu_ne (by omega), zu_ne (by omega), zu_same]
/-- behind a step into an operand that is opened: what the inner one leaves, as what the outer one does -/
theorem open_st {nl T p sz la o : Nat} {A B : yI} (hS : yPs nl T p sz la o A B) (hp : p < T) (ho : o < 6) : f143_opens B = some (1, zu (zu B 73 22 (B 73 22 + 1)) 73 20 (B 73 20 + 1)) ∧ yPs nl T (p + 1) sz la (o + 1) (zu A 15 4 (A 15 4 + 1)) (zu (zu B 73 22 (B 73 22 + 1)) 73 20 (B 73 20 + 1)) ∧ yk (wA nl sz) A (zu A 15 4 (A 15 4 + 1)) ∧ yk (wB la) B (zu (zu B 73 22 (B 73 22 + 1)) 73 20 (B 73 20 + 1)) := by
  obtain ⟨hC', ⟨g1, g2, g3, g4⟩, ⟨a1, a2⟩, ⟨b1, b2, b3, b4⟩⟩ := id hS
  have k1 : yk (wA nl sz) A (zu A 15 4 (A 15 4 + 1)) := yk_zu (by unfold wA; omega) (yk_refl _)
  have k2 : yk (wB la) B (zu (zu B 73 22 (B 73 22 + 1)) 73 20 (B 73 20 + 1)) := yk_zu (by unfold wB; omega) (yk_zu (by unfold wB; omega) (yk_refl _))
  refine ⟨?_, ⟨yC_k hC' k1 k2, ⟨by omega, by omega, by omega, by omega⟩, ⟨?_, ?_⟩, ⟨?_, ?_, ?_, ?_⟩⟩, k1, k2⟩
  · unfold f143_opens
    rw [if_neg]
    rw [b3]
    show ¬ yn o = yn 6
    rw [yn_inj (by omega) (by omega)]; omega
  · rw [zu_same, a1, yn_succ]
  · rw [zu_ne (by omega)]; exact a2
  · rw [zu_same, b1, yn_succ]
  · rw [zu_nej (by omega), zu_nej (by omega)]; exact b2
  · rw [zu_nej (by omega), zu_same, b3, yn_succ]
  · rw [zu_nej (by omega), zu_nej (by omega)]; exact b4
theorem open_no {nl T p sz la D : Nat} {A B : yI} (hS : yPs nl T p sz la 6 A B) : ∃ u, f143_opens B = some (0, u) ∧ yOut nl T p sz la 6 D A B (0, A) u := by
  obtain ⟨hC', ⟨g1, g2, g3, g4⟩, ⟨a1, a2⟩, ⟨b1, b2, b3, b4⟩⟩ := id hS
  obtain ⟨w1, w2⟩ := wrong_ok (D := D) hS
  refine ⟨_, ?_, w2⟩
  unfold f143_opens
  rw [if_pos (show B 73 22 = 6 by rw [b3]; rfl), w1, ob]
