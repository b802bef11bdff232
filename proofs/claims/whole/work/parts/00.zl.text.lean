/-! LAW(): the whole text -/
theorem yTx_cg {nl L : Nat} {cs ts es : Nat → Nat} {A B A' B' : yI} (h : yTx nl L cs ts es A B) (h1 : ∀ j, A' (18 + nl) j = A (18 + nl) j) (h2 : ∀ a j, a ≠ 73 → B' a j = B a j) : yTx nl L cs ts es A' B' := by
  have e1 : A' (18 + nl) = A (18 + nl) := funext h1
  have e2 : B' 86 = B 86 := funext fun j => h2 86 j (by omega)
  have e3 : B' 87 = B 87 := funext fun j => h2 87 j (by omega)
  have e4 : B' 88 = B 88 := funext fun j => h2 88 j (by omega)
  have e5 : B' 89 = B 89 := funext fun j => h2 89 j (by omega)
  have e6 : B' 90 = B 90 := funext fun j => h2 90 j (by omega)
  unfold yTx
  rw [e1, e2, e3, e4, e5, e6]
  exact h
def yTQ (nl T : Nat) (A B : yI) (z : (Int32 × yI) ⊕ (Int32 × yI)) (u : yI) : Prop := ∃ x, z = .inl x ∧ yk (wA nl 0) A x.2 ∧ yk wL B u ∧ ((x.1 = 1 ∧ ∃ L cs ts es, (1 ≤ L ∧ L ≤ 61) ∧ yLe nl T T L cs ts es x.2 u) ∨ (x.1 = 0 ∧ ∃ p, p ≤ T ∧ yC nl T x.2 u ∧ x.2 15 4 = yn p ∧ (u 73 21 = yn p ∨ (u 73 21 = -1 ∧ u 73 20 = yn p ∧ p < T))))
theorem L31_f {v : Int32} {B : yI} (k : Nat) (h : (0 : Int32) ≤ B 73 21) : zloop (f152_readText_L31 v) (k + 1) B = some B := by
  refine zloop_out ?_
  unfold f152_readText_L31
  rw [if_pos h]
theorem L31_o {v : Int32} {B : yI} {b : Nat} (k : Nat) (h : B 73 21 = -1) (n2 : f139_look B = some (yd b)) (hb : b < 257) (hne : ¬ b = 59) : zloop (f152_readText_L31 v) (k + 1) B = some B := by
  refine zloop_out ?_
  unfold f152_readText_L31
  have q : ¬ yd b = 59 := fun z => hne ((yd_m hb (m := 59) (by omega)).mp z)
  rw [if_neg (show ¬ (0 : Int32) ≤ B 73 21 by rw [h]; decide), n2, ob, if_neg q]
theorem L31_i {v : Int32} {B : yI} (k : Nat) (h : B 73 21 = -1) (n2 : f139_look B = some (yd 59)) : zloop (f152_readText_L31 v) (k + 1) B = Option.bind (f151_line (zu B 73 20 (B 73 20 + 1))) fun t => zloop (f152_readText_L31 v) k t := by
  rw [zloop_sum]
  have e : f152_readText_L31 v B = Option.bind (f151_line (zu B 73 20 (B 73 20 + 1))) fun t6 => some (.inr t6) := by
    unfold f152_readText_L31
    rw [if_neg (show ¬ (0 : Int32) ≤ B 73 21 by rw [h]; decide), n2, ob, if_pos (show yd 59 = 59 by decide)]
  rw [e]
  cases f151_line (zu B 73 20 (B 73 20 + 1)) <;> rfl
theorem text_loop {nl T : Nat} {A0 B0 : yI} {v : Int32} : ∀ (r k1 k2 : Nat), r < k1 → r < k2 → ∀ (L p : Nat) (cs ts es : Nat → Nat) (A B : yI), T - p ≤ r → 2 * L ≤ p → yk (wA nl 0) A0 A → yk wL B0 B → yPs nl T p (cs L) (yst0 es L) 0 A B → yTx nl L cs ts es A B → y2 (zloopR f20_readLines_L2 k1 (yn L, A)) (Option.bind (f151_line B) fun t => zloop (f152_readText_L31 v) k2 t) (yTQ nl T A0 B0) := by
  intro r
  induction r with
  | zero =>
    intro k1 k2 h1 h2 L p cs ts es A B hr hL kA kB hS hX
    have hp := hS.2.1.1
    have hT := hS.1.1
    obtain ⟨k1, rfl⟩ : ∃ k, k1 = k + 1 := ⟨k1 - 1, by omega⟩
    obtain ⟨k2, rfl⟩ : ∃ k, k2 = k + 1 := ⟨k2 - 1, by omega⟩
    obtain ⟨⟨x1, A2⟩, y, e1, e2, kA2, kB2, h⟩ := line_ok hS hX hL
    dsimp only at kA2 h
    have g : ¬ (120 : Int32) < yn L := by
      show ¬ yn 120 < yn L
      rw [yn_lt (by omega) (by omega)]; omega
    have e : f20_readLines_L2 (yn L, A) = (if x1 = 0 then some (.inl ((0 : Int32), A2)) else if (A2 15 4) = (A2 15 6) then some (.inl (1, A2)) else Option.bind (f28_next A2) fun t4 => if t4 = 59 then some (.inr (.inr ((yn L + 1), (zu A2 15 4 ((A2 15 4) + 1))))) else some (.inl (0, A2)) : Option ((Int32 × yI) ⊕ ((Int32 × yI) ⊕ (Int32 × yI)))) := by
      unfold f20_readLines_L2
      rw [if_neg g, e1, ob]
    rw [zloopR_succ, e, e2, ob]
    rcases h with ⟨h, p', cs', ts', es', hpp, hLe⟩ | ⟨p', hp', hC', a1, b2, h⟩
    · exfalso
      have := hLe.2.1.1
      omega
    · dsimp only at a1 hC' h
      have hu : (0 : Int32) ≤ y 73 21 := by rw [b2]; exact yn_pos (by omega)
      rw [L31_f k2 hu]
      rcases h with h | ⟨h, hd, b, hb1, hb2⟩
      · rw [if_pos h]
        exact y2_some ⟨(0, A2), rfl, yk_trans kA kA2 (fun _ _ z => z), yk_trans kB kB2 (fun _ _ z => z), Or.inr ⟨rfl, p', hp', hC', a1, Or.inl b2⟩⟩
      · have hb3 := ydg_t.mp hb1
        have q59 : ¬ yn b = 59 := by
          show ¬ yn b = yn 59
          rw [yn_inj (by omega) (by omega)]; omega
        rw [if_neg (show ¬ x1 = 0 by rw [h]; decide), if_neg (show ¬ A2 15 4 = A2 15 6 by
          rw [a1, hC'.2.1.1, yn_inj (by omega) (by omega)]; omega), nx_ok hC' hd a1 hb2, ob, if_neg q59]
        exact y2_some ⟨(0, A2), rfl, yk_trans kA kA2 (fun _ _ z => z), yk_trans kB kB2 (fun _ _ z => z), Or.inr ⟨rfl, p', hp', hC', a1, Or.inl b2⟩⟩
  | succ r ih =>
    intro k1 k2 h1 h2 L p cs ts es A B hr hL kA kB hS hX
    have hp := hS.2.1.1
    have hT := hS.1.1
    obtain ⟨k1, rfl⟩ : ∃ k, k1 = k + 1 := ⟨k1 - 1, by omega⟩
    obtain ⟨k2, rfl⟩ : ∃ k, k2 = k + 1 := ⟨k2 - 1, by omega⟩
    obtain ⟨⟨x1, A2⟩, y, e1, e2, kA2, kB2, h⟩ := line_ok hS hX hL
    dsimp only at kA2 h
    have g : ¬ (120 : Int32) < yn L := by
      show ¬ yn 120 < yn L
      rw [yn_lt (by omega) (by omega)]; omega
    have e : f20_readLines_L2 (yn L, A) = (if x1 = 0 then some (.inl ((0 : Int32), A2)) else if (A2 15 4) = (A2 15 6) then some (.inl (1, A2)) else Option.bind (f28_next A2) fun t4 => if t4 = 59 then some (.inr (.inr ((yn L + 1), (zu A2 15 4 ((A2 15 4) + 1))))) else some (.inl (0, A2)) : Option ((Int32 × yI) ⊕ ((Int32 × yI) ⊕ (Int32 × yI)))) := by
      unfold f20_readLines_L2
      rw [if_neg g, e1, ob]
    rw [zloopR_succ, e, e2, ob]
    have kA' : yk (wA nl 0) A0 A2 := yk_trans kA kA2 (fun _ _ z => z)
    have kB' : yk wL B0 y := yk_trans kB kB2 (fun _ _ z => z)
    rcases h with ⟨h, p', cs', ts', es', hpp, hLe⟩ | ⟨p', hp', hC', a1, b2, h⟩
    · obtain ⟨hC', ⟨c1, c2, c3⟩, ⟨d1, d2⟩, ⟨f1, f2, f3, f4⟩, hX'⟩ := id hLe
      have aT := hC'.2.1.1
      obtain ⟨b, hb, n1, n2, n3⟩ := ch_ok hC' c1 d1 f1
      rw [if_neg (show ¬ x1 = 0 by rw [h]; decide)]
      by_cases eT : p' = T
      · subst eT
        have : b = 256 := by omega
        subst this
        rw [if_pos (show A2 15 4 = A2 15 6 by rw [d1, aT]), L31_o k2 f2 n2 (by omega) (by omega)]
        exact y2_some ⟨(1, A2), rfl, kA', kB', Or.inl ⟨rfl, L + 1, cs', ts', es', ⟨by omega, by omega⟩, hLe⟩⟩
      · rw [if_neg (show ¬ A2 15 4 = A2 15 6 by rw [d1, aT, yn_inj (by omega) (by omega)]; exact eT), n1, ob]
        have c59 : yc b = 59 ↔ b = 59 := yc_m hb (m := 59) (by omega)
        by_cases e9 : b = 59
        · subst e9
          rw [if_pos (c59.mpr rfl), L31_i k2 f2 n2]
          dsimp only
          rw [yn_succ]
          have hpT : p' < T := by omega
          have k3 : yk (wA nl 0) A2 (zu A2 15 4 (A2 15 4 + 1)) := yk_zu (by unfold wA; omega) (yk_refl _)
          have k4 : yk wL y (zu y 73 20 (y 73 20 + 1)) := yk_zu (by unfold wL; omega) (yk_refl _)
          refine ih k1 k2 (by omega) (by omega) (L + 1) (p' + 1) cs' ts' es' _ _ (by omega) (by omega) (yk_trans kA' k3 (fun _ _ z => z)) (yk_trans kB' k4 (fun _ _ z => z)) ⟨yC_l hC' k3 k4, ⟨by omega, by omega, by omega, by omega⟩, ⟨?_, ?_⟩, ⟨?_, ?_, ?_, ?_⟩⟩ (yTx_cg hX' (fun j => zu_ne (by omega)) (fun a j ha => zu_ne ha))
          · rw [zu_same, d1, yn_succ]
          · rw [zu_ne (by omega)]; exact d2
          · rw [zu_same, f1, yn_succ]
          · rw [zu_nej (by omega)]; exact f2
          · rw [zu_nej (by omega)]; exact f3
          · rw [zu_nej (by omega)]; exact f4
        · rw [if_neg (fun z => e9 (c59.mp z)), L31_o k2 f2 n2 hb e9]
          exact y2_some ⟨(0, A2), rfl, kA', kB', Or.inr ⟨rfl, p', c1, hC', d1, Or.inr ⟨f2, f1, by omega⟩⟩⟩
    · dsimp only at a1 hC' h
      have hu : (0 : Int32) ≤ y 73 21 := by rw [b2]; exact yn_pos (by omega)
      rw [L31_f k2 hu]
      rcases h with h | ⟨h, hd, b, hb1, hb2⟩
      · rw [if_pos h]
        exact y2_some ⟨(0, A2), rfl, kA', kB', Or.inr ⟨rfl, p', hp', hC', a1, Or.inl b2⟩⟩
      · have hb3 := ydg_t.mp hb1
        have q59 : ¬ yn b = 59 := by
          show ¬ yn b = yn 59
          rw [yn_inj (by omega) (by omega)]; omega
        rw [if_neg (show ¬ x1 = 0 by rw [h]; decide), if_neg (show ¬ A2 15 4 = A2 15 6 by
          rw [a1, hC'.2.1.1, yn_inj (by omega) (by omega)]; omega), nx_ok hC' hd a1 hb2, ob, if_neg q59]
        exact y2_some ⟨(0, A2), rfl, kA', kB', Or.inr ⟨rfl, p', hp', hC', a1, Or.inl b2⟩⟩
