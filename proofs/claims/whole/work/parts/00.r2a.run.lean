/-! A RUN, noon 24: those who are due come in -/
def yDue (S D : Nat) (A B : yI) : Prop := ∀ t c, t ≤ S → c < 32 → ∃ d, d ≤ D ∧ A 32 (32 * t + c) = yn d ∧ B 99 (32 * t + c) = yn d
def yBase (a w s S D : Nat) (A B : yI) : Prop := yTw a w s A B ∧ yWish a s S A B ∧ yAll s A ∧ yNone a s A ∧ yDue S D A B
def yArr (a w s S D K t i k : Nat) (x : Int32 × yI) (y : Int32 × Int32 × yI) : Prop := x.1 = yn k ∧ y.2.1 = yn k ∧ y.1 = x.2 2 i - x.2 31 i ∧ yBase a w s S D x.2 y.2.2 ∧ yCell (fun c => if c < 8 * i + k then K + D else K) x.2 y.2.2 ∧ yCo x.2 28 29 32 S (fun c => if c < 8 * i + k then t + 1 else t)
theorem yDue_ag {S D : Nat} {A B A' B' : yI} (hA : ∀ j, A' 32 j = A 32 j) (hB : ∀ j, B' 99 j = B 99 j) (h : yDue S D A B) : yDue S D A' B' := by
  intro t c ht hc
  rw [hA, hB]
  exact h t c ht hc
theorem arr_step {a w s S D K t i k : Nat} (hS : t ≤ S) (hS60 : S ≤ 60) (hi : i < a) (hk : k < s) (hK : K + D < 1000000000) {x : Int32 × yI} {y : Int32 × Int32 × yI} (h : yArr a w s S D K t i k x y) : y2 (f44_arrive_24_L15 (yn t) (yn i) x) (f167_arrive_L26 (yn t) (yn i) y) (yL0 (fun _ _ => False) (yArr a w s S D K t i (k + 1))) := by
  obtain ⟨x1, A⟩ := x
  obtain ⟨R, y1, B⟩ := y
  obtain ⟨e1, e2, e3, ⟨hT, hW, hAll, hN, hD⟩, hC, hCo⟩ := h
  dsimp only at e1 e2 e3 hT hW hAll hN hD hC hCo
  subst e1 e2
  have hT0 := hT
  obtain ⟨⟨⟨ha, hw, hs⟩, ⟨a1, a2, a3⟩, ⟨b1, b2, b3⟩⟩, -⟩ := hT
  obtain ⟨xx, yy, c1, c2, c3, c4, c5⟩ := hC (8 * i + k) (by omega)
  dsimp only at c5
  rw [if_neg (by omega)] at c5
  obtain ⟨d, hd, d1, d2⟩ := hD t (8 * i + k) hS (by omega)
  unfold f44_arrive_24_L15 f167_arrive_L26
  dsimp only
  have i1 : yn i * 8 + yn k = yn (8 * i + k) := by
    show yn i * yn 8 + yn k = _
    rw [yn_mul, yn_add]; congr 1; omega
  have i2 : 8 * yn i + yn k = yn (8 * i + k) := by
    show yn 8 * yn i + yn k = _
    rw [yn_mul, yn_add]
  have i3 : yn t * 32 + yn (8 * i + k) = yn (32 * t + (8 * i + k)) := by
    show yn t * yn 32 + _ = _
    rw [yn_mul, yn_add]; congr 1; omega
  have i4 : 32 * yn t + yn (8 * i + k) = yn (32 * t + (8 * i + k)) := by
    show yn 32 * yn t + _ = _
    rw [yn_mul, yn_add]
  rw [if_neg (show ¬ A 1 2 ≤ yn k by rw [a3, yn_le (by omega) (by omega)]; omega), if_neg (show ¬ B 73 9 ≤ yn k by rw [b3, yn_le (by omega) (by omega)]; omega), i1, i2, i3, i4]
  have hz : zin (yn (8 * i + k)) 32 = true := zin_yn (by omega) (by omega)
  have hz4 : zin (yn i) 4 = true := zin_yn (by omega) (by omega)
  have hzd : zin (yn (32 * t + (8 * i + k))) 1952 = true := zin_yn (by omega) (by omega)
  have hzc : zin (yn (32 * t + (8 * i + k))) 4864 = true := zin_yn (by omega) (by omega)
  refine y2_bifL hz (y2_bifL hzd (y2_bifL hz (y2_bifL hz (y2_bifL hz4 (y2_bifL hz4 (y2_bifL hz (y2_bifL hz (y2_bifL hz (y2_bifL hz (y2_bifL hz4 (y2_bifL hz4 ?_)))))))))))
  refine y2_bifR hz (y2_bifR hzc (y2_bifR hz (y2_bifR hz ?_)))
  simp only [zu_same]
  rw [yn_nat (n := 8 * i + k) (by omega), yn_nat (n := 32 * t + (8 * i + k)) (by omega), yn_nat (n := i) (by omega), c1, c2, c3, c4, d1, d2, yn_add, yn_succ]
  have step : ∀ (n : Nat) (R' : Int32) (B' : yI), n ≤ yy + d → zmin (yn (yy + d)) (zmax 0 (A 2 i - A 31 i)) = yn n → R' = R - yn n → (∀ c, B' 97 c = if c = 8 * i + k then yn (xx + n) else B 97 c) → (∀ c, B' 98 c = if c = 8 * i + k then yn (yy + d - n) else B 98 c) → yfr [9799, 9899] B B' → yArr a w s S D K t i (k + 1) (yn (k + 1), zu (zu (zu (zu A 29 (8 * i + k) (yn (yy + d))) 29 (8 * i + k) (yn (yy + d) - zmin (yn (yy + d)) (zmax 0 (A 2 i - A 31 i)))) 28 (8 * i + k) (yn xx + zmin (yn (yy + d)) (zmax 0 (A 2 i - A 31 i)))) 31 i (A 31 i + zmin (yn (yy + d)) (zmax 0 (A 2 i - A 31 i)))) (R', yn (k + 1), B') := by
    intro n R' B' hn hmin hR h97 h98 hfr
    rw [hmin, yn_sub hn, yn_add]
    have fA : yfr [2899, 2999, 3199] A (zu (zu (zu (zu A 29 (8 * i + k) (yn (yy + d))) 29 (8 * i + k) (yn (yy + d - n))) 28 (8 * i + k) (yn (xx + n))) 31 i (A 31 i + yn n)) := yfr_zu rfl (yfr_zu rfl (yfr_zu rfl (yfr_zu rfl (yfr_refl _))))
    have q28 : ∀ c, (zu (zu (zu (zu A 29 (8 * i + k) (yn (yy + d))) 29 (8 * i + k) (yn (yy + d - n))) 28 (8 * i + k) (yn (xx + n))) 31 i (A 31 i + yn n)) 28 c = if c = 8 * i + k then yn (xx + n) else A 28 c := fun c => by simp [zu_at]
    have q29 : ∀ c, (zu (zu (zu (zu A 29 (8 * i + k) (yn (yy + d))) 29 (8 * i + k) (yn (yy + d - n))) 28 (8 * i + k) (yn (xx + n))) 31 i (A 31 i + yn n)) 29 c = if c = 8 * i + k then yn (yy + d - n) else A 29 c := fun c => by
      simp only [zu_at]
      by_cases e : c = 8 * i + k <;> simp [e]
    have q31 : ∀ j, (zu (zu (zu (zu A 29 (8 * i + k) (yn (yy + d))) 29 (8 * i + k) (yn (yy + d - n))) 28 (8 * i + k) (yn (xx + n))) 31 i (A 31 i + yn n)) 31 j = if j = i then A 31 i + yn n else A 31 j := fun j => by simp [zu_at]
    have q2 : ∀ j, (zu (zu (zu (zu A 29 (8 * i + k) (yn (yy + d))) 29 (8 * i + k) (yn (yy + d - n))) 28 (8 * i + k) (yn (xx + n))) 31 i (A 31 i + yn n)) 2 j = A 2 j := fun j => fA 2 j rfl
    generalize (zu (zu (zu (zu A 29 (8 * i + k) (yn (yy + d))) 29 (8 * i + k) (yn (yy + d - n))) 28 (8 * i + k) (yn (xx + n))) 31 i (A 31 i + yn n)) = Z at fA q28 q29 q31 q2
    refine ⟨rfl, rfl, ?_, ⟨yTw_ag (yag_fr rfl fA) (yag_fr rfl hfr) hT0, yWish_ag (yag_fr rfl fA) (yag_fr rfl hfr) hW, ?_, ?_, ?_⟩, ?_, ?_⟩
    · dsimp only
      rw [hR, e3, q2, q31, if_pos rfl, i_sub_add]
    · refine all_upd (i := i) (k := k) (d := yn n) (by omega) hk hs hAll (fA 25 2 rfl) (fA 25 3 rfl) (fun c => ?_) (fun j => ?_)
      · dsimp only
        rw [q28]
        by_cases e : c = 8 * i + k
        · rw [if_pos e, if_pos e, e, c1, yn_add]
        · rw [if_neg e, if_neg e]
      · dsimp only
        rw [q31]
        by_cases e : j = i
        · rw [if_pos e, if_pos e, e]
        · rw [if_neg e, if_neg e]
    · intro i' k' hi' hk' ho
      dsimp only
      rw [q28, if_neg (by omega)]
      exact hN i' k' hi' hk' ho
    · exact yDue_ag (fun j => fA 32 j rfl) (fun j => hfr 99 j rfl) hD
    · intro c hc
      dsimp only
      rw [q28, q29, h97, h98]
      by_cases e : c = 8 * i + k
      · rw [if_pos e, if_pos e, if_pos e, if_pos e, if_pos (by omega)]
        exact ⟨xx + n, yy + d - n, rfl, rfl, rfl, rfl, by omega⟩
      · rw [if_neg e, if_neg e, if_neg e, if_neg e]
        obtain ⟨x', y', u1, u2, u3, u4, u5⟩ := hC c hc
        dsimp only at u5
        refine ⟨x', y', u1, u2, u3, u4, ?_⟩
        by_cases g : c < 8 * i + k
        · rw [if_pos g] at u5
          rw [if_pos (by omega)]; exact u5
        · rw [if_neg g] at u5
          rw [if_neg (by omega)]; exact u5
    · dsimp only
      refine yCo_arr (t := t) (e := 8 * i + k) (xx := xx) (yy := yy) (d := d) (n := n) hS (fun c hc => ?_) (by rw [if_neg (by omega)]) (by rw [if_pos (by omega)]) c1 c3 d1 hn (by omega) q28 q29 (fun j => fA 32 j rfl) hCo
      by_cases g : c < 8 * i + k
      · rw [if_pos g, if_pos (by omega)]
      · rw [if_neg g, if_neg (by omega)]
  have skip : zmin (yn (yy + d)) (zmax 0 (A 2 i - A 31 i)) = yn 0 → yArr a w s S D K t i (k + 1) (yn (k + 1), zu (zu (zu (zu A 29 (8 * i + k) (yn (yy + d))) 29 (8 * i + k) (yn (yy + d) - zmin (yn (yy + d)) (zmax 0 (A 2 i - A 31 i)))) 28 (8 * i + k) (yn xx + zmin (yn (yy + d)) (zmax 0 (A 2 i - A 31 i)))) 31 i (A 31 i + zmin (yn (yy + d)) (zmax 0 (A 2 i - A 31 i)))) (R, yn (k + 1), zu B 98 (8 * i + k) (yn (yy + d))) := by
    intro h0
    refine step 0 R _ (by omega) h0 (Int32.sub_zero R).symm ?_ ?_ (yfr_zu rfl (yfr_refl _))
    · intro c
      rw [zu_ne (by decide)]
      by_cases e : c = 8 * i + k
      · rw [if_pos e, e, c2]; rfl
      · rw [if_neg e]
    · intro c
      simp [zu_at]
  have move : ∀ n, n ≤ yy + d → zmin (yn (yy + d)) (zmax 0 (A 2 i - A 31 i)) = yn n → yArr a w s S D K t i (k + 1) (yn (k + 1), zu (zu (zu (zu A 29 (8 * i + k) (yn (yy + d))) 29 (8 * i + k) (yn (yy + d) - zmin (yn (yy + d)) (zmax 0 (A 2 i - A 31 i)))) 28 (8 * i + k) (yn xx + zmin (yn (yy + d)) (zmax 0 (A 2 i - A 31 i)))) 31 i (A 31 i + zmin (yn (yy + d)) (zmax 0 (A 2 i - A 31 i)))) (R - yn n, yn (k + 1), zu (zu (zu B 98 (8 * i + k) (yn (yy + d))) 98 (8 * i + k) (yn (yy + d) - yn n)) 97 (8 * i + k) (yn xx + yn n)) := by
    intro n hn h0
    refine step n _ _ hn h0 rfl ?_ ?_ (yfr_zu rfl (yfr_zu rfl (yfr_zu rfl (yfr_refl _))))
    · intro c
      rw [yn_add]
      simp [zu_at]
    · intro c
      rw [yn_sub hn]
      simp only [zu_at]
      by_cases e : c = 8 * i + k <;> simp [e]
  have hR : R = A 2 i - A 31 i := e3
  by_cases cc : R ≤ yn (yy + d)
  · rw [if_pos cc]
    by_cases c0 : (0 : Int32) < R
    · rw [if_pos c0]
      refine y2_bifR hz (y2_bifR hz (y2_bifR hz (y2_bifR hz (y2_some ?_))))
      obtain ⟨r, hr, er⟩ := yn_nn (Int32.le_of_lt c0)
      have hr2 : r ≤ yy + d := by
        rw [er, yn_le hr (by omega)] at cc; exact cc
      have hm : zmin (yn (yy + d)) (zmax 0 (A 2 i - A 31 i)) = yn r := by
        rw [← hR, er]
        have : zmax 0 (yn r) = yn r := by
          unfold zmax
          rw [er] at c0
          rw [if_pos c0]
        rw [this, zmin_yn (by omega) hr]
        congr 1; omega
      have mv := move r hr2 hm
      rw [← er] at mv
      exact mv
    · rw [if_neg c0]
      refine y2_some (skip ?_)
      rw [← hR]
      have : zmax 0 R = yn 0 := by
        unfold zmax
        rw [if_neg c0]; rfl
      rw [this, zmin_yn (by omega) (by omega)]
      congr 1; omega
  · rw [if_neg cc]
    have hm : zmin (yn (yy + d)) (zmax 0 (A 2 i - A 31 i)) = yn (yy + d) := by
      rw [← hR]
      have h1 : yn (yy + d) < R := Int32.not_le.mp cc
      have h2 : (0 : Int32) < R := Int32.lt_of_le_of_lt (yn_pos (by omega)) h1
      have : zmax 0 R = R := by
        unfold zmax
        rw [if_pos h2]
      rw [this]
      unfold zmin
      rw [if_neg (Int32.not_lt.mpr (Int32.le_of_lt h1))]
    refine y2_bifR hz ?_
    by_cases c0 : (0 : Int32) < yn (yy + d)
    · rw [if_pos c0]
      refine y2_bifR hz (y2_bifR hz (y2_bifR hz (y2_bifR hz (y2_some ?_))))
      exact move _ (Nat.le_refl _) hm
    · rw [if_neg c0]
      refine y2_some (skip ?_)
      rw [hm]
      have c0 : ¬ yn 0 < yn (yy + d) := c0
      rw [yn_lt (by omega) (by omega)] at c0
      congr 1; omega
theorem arrive {a w s S D K t : Nat} (hS : t ≤ S) (hS60 : S ≤ 60) (hK : K + D < 1000000000) {A B : yI} (hB : yBase a w s S D A B) (hC : yCell (fun _ => K) A B) (hCo : yCo A 28 29 32 S (fun _ => t)) : y2 (f44_arrive_24 (yn t) A) (f167_arrive (yn t) B) (fun A' B' => yBase a w s S D A' B' ∧ yCell (fun _ => K + D) A' B' ∧ yCo A' 28 29 32 S (fun _ => t + 1)) := by
  have up : ∀ {b b' : Nat → Nat} {A B : yI}, (∀ c, b c ≤ b' c) → yCell b A B → yCell b' A B := by
    intro b b' A B hb h c hc
    obtain ⟨x, y, u1, u2, u3, u4, u5⟩ := h c hc
    exact ⟨x, y, u1, u2, u3, u4, Nat.le_trans u5 (hb c)⟩
  unfold f44_arrive_24 f167_arrive
  refine y2_bind (R := fun x y => yBase a w s S D x.2 y.2 ∧ yCell (fun _ => K + D) x.2 y.2 ∧ yCo x.2 28 29 32 S (fun _ => t + 1)) ?_ fun x y h => y2_some h
  have ha4 := hB.1.1.1.1
  have hCo0 : yCo A 28 29 32 S (fun c => if c < 8 * 0 then t + 1 else t) := yCo_T0 hCo
  refine y2_for a (fun i x y => x.1 = yn i ∧ y.1 = yn i ∧ yBase a w s S D x.2 y.2 ∧ yCell (fun c => if c < 8 * i then K + D else K) x.2 y.2 ∧ yCo x.2 28 29 32 S (fun c => if c < 8 * i then t + 1 else t)) (k := 0) ⟨rfl, rfl, hB, up (fun c => by rw [if_neg (by omega)]; exact Nat.le_refl _) hC, ?_⟩ (by omega) (by omega) ?_ ?_
  · dsimp only
    exact hCo0
  · rintro i ⟨x1, A1⟩ ⟨y1, B1⟩ - hi ⟨e1, e2, h1, h2, hCo1⟩
    dsimp only at e1 e2 h1 h2 hCo1
    subst e1 e2
    have h10 := h1
    obtain ⟨⟨⟨⟨ha, hw, hs⟩, ⟨a1, a2, a3⟩, ⟨b1, b2, b3⟩⟩, hE, hSq, -⟩, hW, hAll, hN, hD⟩ := h1
    unfold f44_arrive_24_L2 f167_arrive_L2
    dsimp only
    rw [if_neg (show ¬ A1 1 0 ≤ yn i by rw [a1, yn_le (by omega) (by omega)]; omega), if_neg (show ¬ B1 73 1 ≤ yn i by rw [b1, yn_le (by omega) (by omega)]; omega)]
    refine y2_bifR (zin_yn (by omega) (by omega)) ?_
    rw [inSq hs (by omega) b3 hW hAll h2, ob, yn_nat (n := i) (by omega), (hSq i hi).1.2]
    refine y2_bind (R := fun x y => yBase a w s S D x.2 y.2.2 ∧ yCell (fun c => if c < 8 * (i + 1) then K + D else K) x.2 y.2.2 ∧ yCo x.2 28 29 32 S (fun c => if c < 8 * (i + 1) then t + 1 else t)) ?_ fun x y h => y2_some ⟨yn_succ i, yn_succ i, h⟩
    refine y2_for s (yArr a w s S D K t i) (k := 0) ⟨rfl, rfl, rfl, h10, h2, hCo1⟩ (by omega) (by omega) ?_ ?_
    · intro k x y _ hk h
      exact arr_step hS hS60 hi hk hK h
    · rintro ⟨x1, A2⟩ ⟨y1, y2', B2⟩ ⟨e1, e2, e3, h3, h4, hCo2⟩
      dsimp only at e1 e2 e3 h3 h4 hCo2
      subst e1 e2
      unfold f44_arrive_24_L15 f167_arrive_L26
      dsimp only
      rw [if_pos (show A2 1 2 ≤ yn s by rw [h3.1.1.2.1.2.2]; exact Int32.le_refl _), if_pos (show B2 73 9 ≤ yn s by rw [h3.1.1.2.2.2.2]; exact Int32.le_refl _)]
      refine y2_some ⟨h3, up (fun c => ?_) h4, yCo_T1 (by omega) hCo2⟩
      by_cases g : c < 8 * i + s
      · rw [if_pos g, if_pos (by omega)]; exact Nat.le_refl _
      · rw [if_neg g]
        split <;> omega
  · rintro ⟨x1, A1⟩ ⟨y1, B1⟩ ⟨e1, e2, h1, h2, hCo1⟩
    dsimp only at e1 e2 h1 h2 hCo1
    subst e1 e2
    unfold f44_arrive_24_L2 f167_arrive_L2
    dsimp only
    rw [if_pos (show A1 1 0 ≤ yn a by rw [h1.1.1.2.1.1]; exact Int32.le_refl _), if_pos (show B1 73 1 ≤ yn a by rw [h1.1.1.2.2.1]; exact Int32.le_refl _)]
    exact y2_some ⟨h1, up (fun c => by split <;> omega) h2, yCo_T2 hCo1⟩
