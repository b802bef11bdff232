/-! LAW(): operands that are opened, all operands -/
theorem yOut_01 {nl T p sz la o D : Nat} {A B : yI} {x : Int32 × yI} {y : yI} (h : yOut nl T p sz la o D A B x y) : x.1 = 0 ∨ x.1 = 1 := by
  rcases h with ⟨h, -⟩ | ⟨-, -, q, -, h | ⟨h, -⟩⟩
  · exact Or.inr h
  · exact Or.inl h
  · exact Or.inr h
theorem guard_ok {nl T p sz la o D : Nat} {A B : yI} {f : Option (Int32 × yI)} {g : Option yI} (h : y2 f g (yOut nl T p sz la o D A B)) : y2 (Option.bind f fun t => if (t.1 = 0 ∨ t.1 = 1) then some (t.1, t.2) else none) g (yOut nl T p sz la o D A B) := by
  obtain ⟨x, y, e1, e2, e3⟩ := h
  rw [e1, ob, if_pos (yOut_01 e3)]
  exact ⟨_, _, rfl, e2, e3⟩
/-- a bad end, with a step more -/
theorem bad_add {nl T p0 la0 p lm m : Nat} {A B A' : yI} (hm : m < 128) (hl0 : la0 ≤ p0) (hb : yPb nl T p lm A B) (hlm : lm ≤ la0 + (p - p0)) (hp : p0 ≤ p) (kA : yk (wA nl 0) A A') (hA : A' 15 4 = A 15 4) (hA' : ∃ sz, sz ≤ 121 ∧ A' 22 nl = yn sz) (wi : Int32) : ∃ u, f141_addStep (yn m) wi B = some u ∧ yBd nl T p0 la0 p A' u ∧ yk (wB 0) B u := by
  obtain ⟨hC, hpT, a1, -, b1, b2, la, hla, b3⟩ := hb
  have hT := hC.1
  have k1 : yk (wB 0) B (zu (zu (zu B 86 (520 + la) (yn m)) 87 (520 + la) wi) 73 23 (yn (la + 1))) := yk_zu (by unfold wB; omega) (yk_zu (by unfold wB; omega) (yk_zu (by unfold wB; omega) (yk_refl _)))
  refine ⟨_, add_ok b3 (by omega) hm wi, ⟨hp, yC_k hC kA k1, hpT, by rw [hA]; exact a1, hA', ?_, ?_, la + 1, by omega, zu_same _ _ _ _⟩, k1⟩
  · rw [zu_nej (by omega), zu_ne (by omega), zu_ne (by omega)]; exact b1
  · rw [zu_nej (by omega), zu_ne (by omega), zu_ne (by omega)]; exact b2
/-- ! and - ahead of an operand -/
theorem unary_ok {nl T p sz la o D m : Nat} {c : Int32} {A B A1 B1 : yI} {x : Int32 × yI} {y : yI} (hS : yPs nl T p sz la o A B) (hD : 1 ≤ D) (kA : yk (wA nl sz) A A1) (kB : yk (wB la) B B1) (h : yOut nl T (p + 1) sz la (o + 1) D A1 B1 x y) (hc : (c = 20033 ∧ m = 3) ∨ (c = 20126 ∧ m = 4)) : y2 (if x.1 = 0 then some (0, x.2) else Option.bind (f29_write c x.2) fun t10 => some (1, t10)) (Option.bind (f141_addStep (yn m) 0 (zu y 73 22 (y 73 22 - 1))) fun t10 => some t10) (yOut nl T p sz la o D A B) := by
  obtain ⟨x1, A2⟩ := x
  have hm : m < 128 := by omega
  have hb0 := hS.2.1
  have hT := hS.1.1
  dsimp only
  rcases h with ⟨h1, kA2, kB2, p', n, ⟨hn1, hn2⟩, hS', hG⟩ | ⟨kA2, kB2, p', ⟨hp', hB⟩, h⟩
  · dsimp only at h1 kA2 kB2 hS' hG
    subst h1
    obtain ⟨hC', ⟨g1, g2, g3, g4⟩, ⟨a1, a2⟩, ⟨b1, b2, b3, b4⟩⟩ := hS'
    have k0 : yk (wB 0) y (zu y 73 22 (y 73 22 - 1)) := yk_zu (by unfold wB; omega) (yk_refl _)
    rw [if_neg (by decide), write_ok hC' a2 (by omega), ob, add_ok (la := la + n) (by rw [zu_nej (by omega)]; exact b4) (by omega) hm, ob]
    have kA3 : yk (wA nl sz) A (zu (zu A2 (18 + nl) (sz + n) c) 22 nl (yn (sz + n + 1))) := yk_zu (by unfold wA; omega) (yk_zu (by unfold wA; omega) (yk_trans kA kA2 (fun _ _ z => z)))
    have kB3 : yk (wB la) B (zu (zu (zu (zu y 73 22 (y 73 22 - 1)) 86 (520 + (la + n)) (yn m)) 87 (520 + (la + n)) 0) 73 23 (yn (la + n + 1))) := yk_zu (by unfold wB; omega) (yk_zu (by unfold wB; omega) (yk_zu (by unfold wB; omega) (yk_zu (by unfold wB; omega) (yk_trans kB kB2 (fun _ _ z => z)))))
    refine y2_some (Or.inl ⟨rfl, kA3, kB3, p', n + 1, ⟨by omega, by omega⟩, ⟨yC_k hS.1 kA3 kB3, ⟨g1, by omega, by omega, by omega⟩, ⟨?_, by dsimp only; exact zu_same _ _ _ _⟩, ⟨?_, ?_, ?_, zu_same _ _ _ _⟩⟩, ?_⟩)
    · dsimp only
      rw [zu_ne (by omega), zu_ne (by omega)]; exact a1
    · rw [zu_nej (by omega), zu_ne (by omega), zu_ne (by omega), zu_nej (by omega)]; exact b1
    · rw [zu_nej (by omega), zu_ne (by omega), zu_ne (by omega), zu_nej (by omega)]; exact b2
    · rw [zu_nej (by omega), zu_ne (by omega), zu_ne (by omega), zu_same, b3]
      exact yn_sub (a := o + 1) (b := 1) (by omega)
    · refine yG_un (yG_cg hG (fun j hj => ?_) (fun j hj => ?_) (fun j hj => ?_)) hD ?_
      · dsimp only
        rw [zu_ne (by omega), zu_nej (by omega)]
      · rw [zu_ne (by omega), zu_ne (by omega), zu_nej (by omega), zu_ne (by omega)]
      · rw [zu_ne (by omega), zu_nej (by omega), zu_ne (by omega), zu_ne (by omega)]
      · have i1 : 520 + la + n = 520 + (la + n) := by omega
        dsimp only
        rw [i1, zu_ne (by omega), zu_same, zu_ne (by omega), zu_ne (by omega), zu_same, zu_ne (by omega), zu_same]
        rcases hc with ⟨rfl, rfl⟩ | ⟨rfl, rfl⟩
        · exact Or.inr (Or.inr (Or.inl ⟨rfl, rfl, by omega, rfl⟩))
        · exact Or.inr (Or.inr (Or.inr (Or.inl ⟨rfl, rfl, by omega, rfl⟩)))
  · dsimp only at kA2 hB h
    obtain ⟨hC', hpT, a1, ⟨s', hs', a2⟩, b1, b2, l', hl', b3⟩ := id hB
    have k0 : yk (wB 0) y (zu y 73 22 (y 73 22 - 1)) := yk_zu (by unfold wB; omega) (yk_refl _)
    have hB' : yPb nl T p' (la + (p' - (p + 1)) + 1) A2 (zu y 73 22 (y 73 22 - 1)) := by
      refine ⟨yC_k hC' (yk_refl (W := wA nl 0) A2) k0, hpT, a1, ⟨s', hs', a2⟩, ?_, ?_, l', hl', ?_⟩
      · rw [zu_nej (by omega)]; exact b1
      · rw [zu_nej (by omega)]; exact b2
      · rw [zu_nej (by omega)]; exact b3
    have kA' : yk (wA nl 0) A A2 := yk_trans (wA0 kA) kA2 (fun _ _ z => z)
    have kB' : yk (wB 0) B (zu y 73 22 (y 73 22 - 1)) := yk_trans (yk_trans (wB0 kB) kB2 (fun _ _ z => z)) k0 (fun _ _ z => z)
    rcases h with h | ⟨h, hd, b, hb1, hb2⟩
    · subst h
      obtain ⟨u, u1, u2, u3⟩ := bad_add (p0 := p) (la0 := la) hm (by omega) hB' (by omega) (by omega) (yk_refl (W := wA nl 0) A2) rfl ⟨s', hs', a2⟩ 0
      rw [if_pos rfl, u1, ob]
      exact y2_some (Or.inr ⟨kA', yk_trans kB' u3 (fun _ _ z => z), p', u2, Or.inl rfl⟩)
    · subst h
      obtain ⟨A3, w1, w2, w3, w4⟩ := write_any hC' a2 hs' c
      obtain ⟨u, u1, u2, u3⟩ := bad_add (p0 := p) (la0 := la) hm (by omega) hB' (by omega) (by omega) w2 w3 w4 0
      rw [if_neg (by decide), w1, ob, u1, ob]
      refine y2_some (Or.inr ⟨yk_trans kA' w2 (fun _ _ z => z), yk_trans kB' u3 (fun _ _ z => z), p', u2, Or.inr ⟨rfl, hd, b, hb1, ?_⟩⟩)
      dsimp only
      rw [w2 16 p' (by unfold wA; omega)]
      exact hb2
/-- what is in ( ) -/
theorem paren_ok {nl T p sz la o D : Nat} {A B A1 B1 : yI} {x : Int32 × yI} {y : yI} (hS : yPs nl T p sz la o A B) (kA : yk (wA nl sz) A A1) (kB : yk (wB la) B B1) (h : yOut nl T (p + 1) sz la (o + 1) D A1 B1 x y) : y2 (if x.1 = 0 then some (0, x.2) else Option.bind (f28_next x.2) fun t4 => if t4 = 41 then some (1, (zu x.2 15 4 ((x.2 15 4) + 1))) else some (0, x.2)) (if (y 73 21) < 0 then Option.bind (f139_look y) fun t30 => if t30 = 41 then some (zu (zu y 73 20 ((y 73 20) + 1)) 73 22 ((y 73 22) - 1)) else Option.bind (f140_wrong y) fun t32 => some t32 else some y) (yOut nl T p sz la o D A B) := by
  obtain ⟨x1, A2⟩ := x
  have hb0 := hS.2.1
  have hT := hS.1.1
  dsimp only
  rcases h with ⟨h1, kA2, kB2, p', n, ⟨hn1, hn2⟩, hS', hG⟩ | ⟨kA2, kB2, p', ⟨hp', hB⟩, h⟩
  · dsimp only at h1 kA2 kB2 hS' hG
    subst h1
    obtain ⟨hC', ⟨g1, g2, g3, g4⟩, ⟨a1, a2⟩, ⟨b1, b2, b3, b4⟩⟩ := id hS'
    obtain ⟨b, hb, n1, n2, n3⟩ := ch_ok hC' g1 a1 b1
    rw [if_neg (by decide), n1, ob, if_pos (show y 73 21 < 0 by rw [b2]; decide), n2, ob]
    have c41 : yc b = 41 ↔ b = 41 := yc_m hb (m := 41) (by omega)
    have q41 : yd b = 41 ↔ b = 41 := yd_m hb (m := 41) (by omega)
    by_cases e : b = 41
    · have hpT : p' < T := by omega
      rw [if_pos (c41.mpr e), if_pos (q41.mpr e)]
      have kA3 : yk (wA nl sz) A (zu A2 15 4 (A2 15 4 + 1)) := yk_zu (by unfold wA; omega) (yk_trans kA kA2 (fun _ _ z => z))
      have kB3 : yk (wB la) B (zu (zu y 73 20 (y 73 20 + 1)) 73 22 (y 73 22 - 1)) := yk_zu (by unfold wB; omega) (yk_zu (by unfold wB; omega) (yk_trans kB kB2 (fun _ _ z => z)))
      refine y2_some (Or.inl ⟨rfl, kA3, kB3, p' + 1, n, ⟨by omega, by omega⟩, ⟨yC_k hS.1 kA3 kB3, ⟨by omega, by omega, by omega, by omega⟩, ⟨?_, ?_⟩, ⟨?_, ?_, ?_, ?_⟩⟩, ?_⟩)
      · dsimp only
        rw [zu_same, a1, yn_succ]
      · dsimp only
        rw [zu_ne (by omega)]; exact a2
      · rw [zu_nej (by omega), zu_same, b1, yn_succ]
      · rw [zu_nej (by omega), zu_nej (by omega)]; exact b2
      · rw [zu_same, b3]
        exact yn_sub (a := o + 1) (b := 1) (by omega)
      · rw [zu_nej (by omega), zu_nej (by omega)]; exact b4
      · refine yG_cg hG (fun j hj => ?_) (fun j hj => ?_) (fun j hj => ?_)
        · dsimp only
          rw [zu_ne (by omega)]
        · rw [zu_ne (by omega), zu_ne (by omega)]
        · rw [zu_ne (by omega), zu_ne (by omega)]
    · rw [if_neg (fun z => e (c41.mp z)), if_neg (fun z => e (q41.mp z))]
      obtain ⟨w1, w2⟩ := wrong_ok (D := D) hS'
      rw [w1, ob]
      have kB : yk (wB 0) B (zu y 73 21 (yn p')) := yk_zu (by unfold wB; omega) (yk_trans (wB0 kB) (wB0 kB2) (fun _ _ z => z))
      refine y2_some (Or.inr ⟨yk_trans (wA0 kA) (wA0 kA2) (fun _ _ z => z), kB, p', ⟨by omega, yC_k hC' (yk_refl (W := wA nl 0) A2) (yk_zu (W := wB 0) (by unfold wB; omega) (yk_refl _)), g1, a1, ⟨sz + n, by omega, a2⟩, ?_, zu_same _ _ _ _, la + n, by omega, ?_⟩, Or.inl rfl⟩)
      · rw [zu_nej (by omega)]; exact b1
      · rw [zu_nej (by omega)]; exact b4
  · dsimp only at kA2 hB h
    obtain ⟨hC', hpT, a1, ⟨s', hs', a2⟩, b1, b2, l', hl', b3⟩ := id hB
    rw [if_neg (show ¬ y 73 21 < 0 by rw [b2]; exact Int32.not_lt.mpr (yn_pos (by omega)))]
    have done : yOut nl T p sz la o D A B (0, A2) y := Or.inr ⟨yk_trans (wA0 kA) kA2 (fun _ _ z => z), yk_trans (wB0 kB) kB2 (fun _ _ z => z), p', ⟨by omega, hC', hpT, a1, ⟨s', hs', a2⟩, b1, b2, l', by omega, b3⟩, Or.inl rfl⟩
    rcases h with h | ⟨h, hd, b, hb1, hb2⟩
    · subst h
      rw [if_pos rfl]
      exact y2_some done
    · subst h
      rw [ydg_t] at hb1
      rw [if_neg (by decide), nx_ok hC' hd a1 hb2, ob, if_neg (by
        show ¬ yn b = yn 41
        rw [yn_inj (by omega) (by omega)]; omega)]
      exact y2_some done
theorem operand_ok {nl T o D n m : Nat} (ho : o ≤ 6) (hD : 1 ≤ D) (hE : o < 6 → yRE nl T (o + 1) D ((F22 n).1 0 (yn (o + 1))) ((F145 m).2.2.2.2.2)) (hO : o < 6 → yRE nl T (o + 1) D ((F22 n).2.1 (yn (o + 1))) ((F145 m).1)) : yRE nl T o D ((F22 (n + 2)).2.1 (yn o)) ((F145 (m + 1)).1) := by
  intro p sz la A B hS
  show y2 (bf24_readOperand (F22 (n + 1)) (yn o) A) (bf145_operand (F145 m) B) _
  obtain ⟨hC', ⟨g1, g2, g3, g4⟩, ⟨a1, a2⟩, ⟨b1, b2, b3, b4⟩⟩ := id hS
  have hT := hC'.1
  obtain ⟨b, hb, n1, n2, n3⟩ := ch_ok hC' g1 a1 b1
  unfold bf24_readOperand bf145_operand
  simp only [n1, n2, ob, t_dig b hb, t_nm b hb]
  have six : (6 : Int32) ≤ yn o ↔ o = 6 := by
    rw [show (6 : Int32) = yn 6 from rfl, yn_le (by omega) (by omega)]
    omega
  have q33 : yd b = 33 ↔ b = 33 := yd_m hb (m := 33) (by omega)
  have q40 : yd b = 40 ↔ b = 40 := yd_m hb (m := 40) (by omega)
  have q45 : yd b = 45 ↔ b = 45 := yd_m hb (m := 45) (by omega)
  have c33 : yc b = 33 ↔ b = 33 := yc_m hb (m := 33) (by omega)
  have c40 : yc b = 40 ↔ b = 40 := yc_m hb (m := 40) (by omega)
  have c45 : yc b = 45 ↔ b = 45 := yc_m hb (m := 45) (by omega)
  have m1 : ((-1 : Int32) < 0) := by decide
  cases hd : ydg b with
  | true =>
    have hd' := ydg_t.mp hd
    have nm : ynm b = -1 := by
      rcases t_nmv b hb with h | ⟨-, -, h⟩
      · exact h
      · rw [hd] at h; cases h
    have hpT : p < T ∧ A 16 p = yn b := by
      rcases n3 with ⟨-, n4⟩ | ⟨n3, -, n4⟩
      · omega
      · exact ⟨n3, n4⟩
    rw [if_neg (show ¬ (bif true then (1 : Int32) else 0) = 0 by decide), nm, if_pos m1, if_neg (fun z => absurd (q33.mp z) (by omega)), if_neg (fun z => absurd (q45.mp z) (by omega)), if_neg (fun z => absurd (q40.mp z) (by omega))]
    obtain ⟨x, y, e1, e2, e3⟩ := num_ok hS hpT.1 hd hpT.2
    rw [e1, e2, ob, ob]
    refine y2_some ?_
    rcases e3 with ⟨h1, h2, h3, p', n', ⟨h4, h5, h6⟩⟩ | h
    · exact Or.inl ⟨h1, h2, h3, p', n', h4, h5, yG_mono h6 hD⟩
    · exact Or.inr h
  | false =>
    rw [if_pos (show (bif false then (1 : Int32) else 0) = 0 from rfl)]
    rcases n3 with ⟨hpT, e256⟩ | ⟨hpT, hb256, n4⟩
    · subst e256
      have nm : ynm 256 = -1 := rfl
      have nn : ¬ (0 : Int32) ≤ yc 256 := by decide
      rw [if_neg nn, nm, if_pos m1, if_neg (fun z => absurd (q33.mp z) (by omega)), if_neg (fun z => absurd (q45.mp z) (by omega)), if_neg (fun z => absurd (q40.mp z) (by omega)), if_neg (fun z => absurd (c40.mp z) (by omega)), if_neg (fun z => absurd (c33.mp z) (by omega)), if_neg (fun z => absurd (c45.mp z) (by omega)), ite_self]
      have := none_ok (D := D) hS hb hd n2
      obtain ⟨x, y, e1, e2, e3⟩ := this
      rw [e2, ob]
      cases e1
      exact y2_some e3
    · have e0 : yc b = yn b := yc_n hb256
      have nn : (0 : Int32) ≤ yc b := by rw [e0]; exact yn_pos (by omega)
      rw [if_pos nn, show f219_indexOf ((yc b).toUInt32 % 65536).toInt32 A = some (ynm b) by rw [e0]; exact t_nm2 hb256 A, ob]
      rcases t_nmv b hb with nm | ⟨⟨j, hj, nm⟩, hb128, -⟩
      · rw [nm, if_pos m1, if_pos m1]
        have e6 : yn o + 1 = yn (o + 1) := yn_succ o
        have none := none_ok (D := D) hS hb hd n2
        by_cases o6 : o = 6
        · subst o6
          rw [if_pos (six.mpr rfl)]
          obtain ⟨u, u1, u2⟩ := open_no (D := D) hS
          rw [u1]
          simp only [ob]
          by_cases c1 : b = 33
          · rw [if_pos (q33.mpr c1)]
            exact y2_some u2
          · rw [if_neg (fun z => c1 (q33.mp z))]
            by_cases c2 : b = 45
            · rw [if_pos (q45.mpr c2)]
              exact y2_some u2
            · rw [if_neg (fun z => c2 (q45.mp z))]
              by_cases c3 : b = 40
              · rw [if_pos (q40.mpr c3)]
                exact y2_some u2
              · rw [if_neg (fun z => c3 (q40.mp z))]
                obtain ⟨x, y, e1, e2, e3⟩ := none
                rw [e2, ob]
                cases e1
                exact y2_some e3
        · rw [if_neg (fun z => o6 (six.mp z)), e6]
          obtain ⟨p1, p2, p3, p4⟩ := open_st hS hpT (by omega)
          rw [p1]
          simp only [ob]
          by_cases c3 : b = 40
          · rw [if_pos (c40.mpr c3), if_neg (fun z => absurd (q33.mp z) (by omega)), if_neg (fun z => absurd (q45.mp z) (by omega)), if_pos (q40.mpr c3), if_neg (show ¬ (1 : Int32) = 0 by decide)]
            refine guard_ok ?_
            show y2 (bf25_readOpened (F22 n) (yc b) (yn (o + 1)) _) _ _
            unfold bf25_readOpened
            rw [if_pos (c40.mpr c3)]
            exact y2_bind (hE (by omega) _ _ _ _ _ p2) fun x y h => paren_ok hS p3 p4 h
          · rw [if_neg (fun z => c3 (c40.mp z))]
            by_cases c1 : b = 33
            · rw [if_pos (c33.mpr c1), if_pos (q33.mpr c1), if_neg (show ¬ (1 : Int32) = 0 by decide)]
              refine guard_ok ?_
              show y2 (bf25_readOpened (F22 n) (yc b) (yn (o + 1)) _) _ _
              unfold bf25_readOpened
              rw [if_neg (fun z => c3 (c40.mp z))]
              refine y2_bind (hO (by omega) _ _ _ _ _ p2) fun x y h => ?_
              rw [if_pos (c33.mpr c1), if_pos (q33.mpr c1)]
              exact unary_ok (m := 3) hS hD p3 p4 h (Or.inl ⟨rfl, rfl⟩)
            · rw [if_neg (fun z => c1 (c33.mp z)), if_neg (fun z => c1 (q33.mp z))]
              by_cases c2 : b = 45
              · rw [if_pos (c45.mpr c2), if_pos (q45.mpr c2), if_neg (show ¬ (1 : Int32) = 0 by decide)]
                refine guard_ok ?_
                show y2 (bf25_readOpened (F22 n) (yc b) (yn (o + 1)) _) _ _
                unfold bf25_readOpened
                rw [if_neg (fun z => c3 (c40.mp z))]
                refine y2_bind (hO (by omega) _ _ _ _ _ p2) fun x y h => ?_
                rw [if_neg (fun z => c1 (c33.mp z)), if_neg (fun z => c1 (q33.mp z))]
                exact unary_ok (m := 4) hS hD p3 p4 h (Or.inr ⟨rfl, rfl⟩)
              · rw [if_neg (fun z => c2 (c45.mp z)), if_neg (fun z => c2 (q45.mp z)), if_neg (fun z => c3 (q40.mp z))]
                obtain ⟨x, y, e1, e2, e3⟩ := none
                rw [e2, ob]
                cases e1
                exact y2_some e3
      · have jn : ¬ yn j < 0 := Int32.not_lt.mpr (yn_pos (by omega))
        obtain ⟨q1, q2, q3⟩ := adv_ok sz la hS hpT
        rw [nm, if_neg jn, if_neg jn]
        rw [write_ok q1.1 q1.2.2.1.2 (by omega), ob, show f141_addStep (2 : Int32) (yn j) B = _ from add_ok (m := 2) b4 (by omega) (by omega) (yn j), ob]
        have kA : yk (wA nl sz) A (zu (zu (zu A 15 4 (A 15 4 + 1)) (18 + nl) sz (10000 + yn j)) 22 nl (yn (sz + 1))) := yk_zu (by unfold wA; omega) (yk_zu (by unfold wA; omega) q2)
        have kB0 : yk (wB la) B (zu (zu (zu B 86 (520 + la) (yn 2)) 87 (520 + la) (yn j)) 73 23 (yn (la + 1))) := yk_zu (by unfold wB; omega) (yk_zu (by unfold wB; omega) (yk_zu (by unfold wB; omega) (yk_refl _)))
        have e20 : (zu (zu (zu B 86 (520 + la) (yn 2)) 87 (520 + la) (yn j)) 73 23 (yn (la + 1))) 73 20 = yn p := by
          rw [zu_nej (by omega), zu_ne (by omega), zu_ne (by omega)]; exact b1
        have e21 : (zu (zu (zu B 86 (520 + la) (yn 2)) 87 (520 + la) (yn j)) 73 23 (yn (la + 1))) 73 21 = -1 := by
          rw [zu_nej (by omega), zu_ne (by omega), zu_ne (by omega)]; exact b2
        have e22 : (zu (zu (zu B 86 (520 + la) (yn 2)) 87 (520 + la) (yn j)) 73 23 (yn (la + 1))) 73 22 = yn o := by
          rw [zu_nej (by omega), zu_ne (by omega), zu_ne (by omega)]; exact b3
        have e23 : (zu (zu (zu B 86 (520 + la) (yn 2)) 87 (520 + la) (yn j)) 73 23 (yn (la + 1))) 73 23 = yn (la + 1) := zu_same _ _ _ _
        have e86 : (zu (zu (zu B 86 (520 + la) (yn 2)) 87 (520 + la) (yn j)) 73 23 (yn (la + 1))) 86 (520 + la) = yn 2 := by
          rw [zu_ne (by omega), zu_ne (by omega), zu_same]
        have e87 : (zu (zu (zu B 86 (520 + la) (yn 2)) 87 (520 + la) (yn j)) 73 23 (yn (la + 1))) 87 (520 + la) = yn j := by
          rw [zu_ne (by omega), zu_same]
        generalize (zu (zu (zu B 86 (520 + la) (yn 2)) 87 (520 + la) (yn j)) 73 23 (yn (la + 1))) = Z at *
        have kB : yk (wB la) B (zu Z 73 20 (Z 73 20 + 1)) := yk_zu (by unfold wB; omega) kB0
        refine y2_some (Or.inl ⟨rfl, kA, kB, p + 1, 1, ⟨by omega, by omega⟩, ⟨yC_k hC' kA kB, ⟨by omega, by omega, by omega, g4⟩, ⟨?_, by dsimp only; exact zu_same _ _ _ _⟩, ⟨?_, ?_, ?_, ?_⟩⟩, yG_mono (yG_one (Or.inr (Or.inl ⟨?_, rfl, j, hj, ?_, ?_⟩))) hD⟩)
        · dsimp only
          rw [zu_ne (by omega), zu_ne (by omega), zu_same, a1, yn_succ]
        · rw [zu_same, e20, yn_succ]
        · rw [zu_nej (by omega)]; exact e21
        · rw [zu_nej (by omega)]; exact e22
        · rw [zu_nej (by omega)]; exact e23
        · rw [zu_ne (by omega)]; exact e86
        · dsimp only
          rw [zu_ne (by omega), zu_same]
          exact yn_add 10000 j
        · rw [zu_ne (by omega)]; exact e87
