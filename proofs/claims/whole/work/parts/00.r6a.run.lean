/-! A RUN, noon 24: all set out; a minute ends; a minute -/
theorem free1 {w : Nat} {A : yI} (hw : w ≤ 12) (a2 : A 1 1 = yn w) (v : Int32) : yP (zloop (f45_go_24_L2 v) 5000 ((0 : Int32), A)) (fun x => yfr w_f45_go_24_L2 A x.2 ∧ ∀ j e, j < w → e < 2 → x.2 35 (2 * j + e) = A 7 j) := by
  refine yP_with (P := fun x => ∀ j e, j < w → e < 2 → x.2 35 (2 * j + e) = A 7 j) ?_ (fun x e h => ⟨(frl_f45_go_24_L2 v 5000 _) x e, h⟩)
  refine yP_for w (fun i x => x.1 = yn i ∧ x.2 1 1 = yn w ∧ (∀ j, x.2 7 j = A 7 j) ∧ ∀ j e, j < i → e < 2 → x.2 35 (2 * j + e) = A 7 j) (k := 0) ⟨rfl, a2, fun _ => rfl, fun j _ hj => absurd hj (Nat.not_lt_zero _)⟩ (by omega) (by omega) ?_ ?_
  · rintro i x hi ⟨e1, e2, e3, e4⟩
    unfold f45_go_24_L2
    have t1 : 2 * yn i = yn (2 * i) := by
      show yn 2 * yn i = _
      rw [yn_mul]
    rw [e1, t1, yn_succ, yn_succ]
    refine yP_neg (by rw [e2, yn_le (by omega) (by omega)]; omega) (yP_bif (zin_yn (by omega) (by omega)) (yP_bif (zin_yn (by omega) (by omega)) (yP_bif (zin_yn (by omega) (by omega)) (yP_bif (zin_yn (by omega) (by omega)) (yP_some ?_)))))
    rw [yn_nat (n := i) (by omega), yn_nat (n := 2 * i) (by omega), yn_nat (n := 2 * i + 1) (by omega), e3]
    refine ⟨rfl, by simpa [zu_at] using e2, fun j => by simpa [zu_at] using e3 j, fun j e hj he => ?_⟩
    simp only [zu_at]
    by_cases c : j = i
    · subst c
      have he2 : e = 0 ∨ e = 1 := by omega
      rcases he2 with rfl | rfl <;> simp
    · rw [if_neg (by omega), if_neg (by omega)]
      exact e4 j e (by omega) he
  · rintro x ⟨e1, e2, e3, e4⟩
    unfold f45_go_24_L2
    rw [e1]
    exact yP_pos (by rw [e2]; exact Int32.le_refl _) (yP_some e4)
theorem free2 {B : yI} (v v2 : Int32) : yP (zloop (f170_go_L2 v v2) 5000 ((0 : Int32), B)) (fun x => yfr w_f170_go_L2 B x.2 ∧ ∀ j, j < 24 → x.2 102 j = 0) := by
  refine yP_with (P := fun x => ∀ j, j < 24 → x.2 102 j = 0) ?_ (fun x e h => ⟨(frl_f170_go_L2 v v2 5000 _) x e, h⟩)
  refine yP_for 24 (fun i x => x.1 = yn i ∧ ∀ j, j < i → x.2 102 j = 0) (k := 0) ⟨rfl, fun j hj => absurd hj (Nat.not_lt_zero _)⟩ (by omega) (by omega) ?_ ?_
  · rintro i x hi ⟨e1, e4⟩
    unfold f170_go_L2
    rw [e1, yn_succ]
    refine yP_neg (by show ¬ yn 24 ≤ yn i
                      rw [yn_le (by omega) (by omega)]; omega) (yP_bif (zin_yn (by omega) (by omega)) (yP_some ?_))
    rw [yn_nat (n := i) (by omega)]
    refine ⟨rfl, fun j hj => ?_⟩
    simp only [zu_at]
    by_cases c : j = i
    · subst c; simp
    · rw [if_neg (by omega)]
      exact e4 j (by omega)
  · rintro x ⟨e1, e4⟩
    unfold f170_go_L2
    rw [e1]
    exact yP_pos (Int32.le_refl _) (yP_some e4)
theorem go {a w s S D K nl t : Nat} (ha0 : 0 < a) (ht : t < S) (hS60 : S ≤ 60) (hK : K < 1000000000) (hD : D < 100000000) {A B : yI} (hB : yBase a w s S D A B) (hC : yCell (fun _ => K) A B) (hG : yBeg a (t + 1) A B) (hSe : ySeen a S t A) (hL : yLaws nl A B) (hCo : yCo A 28 29 32 S (fun _ => t + 1)) : y2 (f45_go_24 (yn t) A) (f170_go (yn t) (yn (S - t)) B) (fun A' B' => yBase a w s S (D + 3168) A' B' ∧ yCell (fun _ => K) A' B' ∧ yBeg a (t + 1) A' B' ∧ yLaws nl A' B' ∧ yCo A' 28 29 32 S (fun _ => t + 1)) := by
  obtain ⟨hT, hW, hAll, hN, hDu⟩ := id hB
  obtain ⟨⟨⟨ha, hw, hs⟩, ⟨a1, a2, a3⟩, ⟨b1, b2, b3⟩⟩, -, -, hWy, -⟩ := id hT
  unfold f45_go_24 f170_go
  obtain ⟨⟨x1, A1⟩, e1, fA, g1⟩ := free1 hw a2 (yn t)
  obtain ⟨⟨x2, B1⟩, e2, fB, g2⟩ := free2 (B := B) (yn t) (yn (S - t))
  dsimp only at fA g1 fB g2
  rw [e1, e2, ob, ob]
  have h1 : yGo a w s S D K nl t A1 B1 := by
    refine ⟨⟨yTw_ag (yag_fr rfl fA) (yag_fr rfl fB) hT, yWish_ag (yag_fr rfl fA) (yag_fr rfl fB) hW, ?_, ?_, yDue_ag (fun j => fA 32 j rfl) (fun j => fB 99 j rfl) hDu⟩, ?_, beg_ag (fun j => fA 34 j rfl) (fun j => fB 101 j rfl) hG, seen_ag (fA 25 1 rfl) (fA 24 12 rfl) (fun j _ => fA 36 j rfl) (fun j => fA 34 j rfl) hSe, yLaws_ag (yag_fr rfl fA) (yag_fr rfl fB) hL, ?_, yCo_same (fun c => fA 28 c rfl) (fun c => fA 29 c rfl) (fun j => fA 32 j rfl) hCo⟩
    · intro i hi
      have : yst A1 i = yst A i := by unfold yst; rw [fA 25 2 rfl, fA 25 3 rfl]
      rw [fA 31 i rfl, this, hAll i hi]
      exact congrArg (fun z => yst A i + z) (ysum_congr fun x _ => (fA 28 _ rfl).symm)
    · intro i k hi hk ho
      rw [fA 28 _ rfl]
      exact hN i k hi hk ho
    · intro c hc
      rw [fA 28 c rfl, fA 29 c rfl, fB 97 c rfl, fB 98 c rfl]
      exact hC c hc
    · intro j e hj he
      obtain ⟨-, -, -, ⟨⟨m, hm1, hm, em⟩, -⟩⟩ := hWy j hj
      rw [g1 j e hj he, g2 _ (by omega), fA 7 j rfl, em]
      exact ⟨m, 0, rfl, rfl, rfl, by omega⟩
  dsimp only
  have loops : y2 (zloop (f45_go_24_L57 (yn t)) 5000 ((0 : Int32), A1)) (zloop (f170_go_L23 (yn t) (yn (S - t))) 5000 ((0 : Int32), B1)) (fun x y => yGo a w s S (D + 3168) K nl t x.2 y.2) := by
    refine y2_for s (fun k x y => x.1 = yn k ∧ y.1 = yn k ∧ yGo a w s S (D + 396 * k) K nl t x.2 y.2) (k := 0) ⟨rfl, rfl, h1⟩ (by omega) (by omega) ?_ ?_
    · rintro k ⟨x1, A2⟩ ⟨y1, B2⟩ - hk ⟨u1, u2, u3⟩
      dsimp only at u1 u2 u3
      subst u1 u2
      have u4 := u3.1.1.1
      unfold f45_go_24_L57 f170_go_L23
      dsimp only
      rw [if_neg (show ¬ A2 1 2 ≤ yn k by rw [u4.2.1.2.2, yn_le (by omega) (by omega)]; omega), if_neg (show ¬ B2 73 9 ≤ yn k by rw [u4.2.2.2.2, yn_le (by omega) (by omega)]; omega)]
      refine y2_bind (R := fun x y => yGo a w s S (D + 396 * (k + 1)) K nl t x.2 y.2) ?_ fun x y h => y2_some ⟨yn_succ k, yn_succ k, h⟩
      refine y2_for a (fun i x y => x.1 = yn i ∧ y.1 = yn i ∧ yGo a w s S (D + 396 * k + 99 * i) K nl t x.2 y.2) (k := 0) ⟨rfl, rfl, u3⟩ (by omega) (by omega) ?_ ?_
      · rintro i ⟨x1, A3⟩ ⟨y1, B3⟩ - hi ⟨v1, v2, v3⟩
        dsimp only at v1 v2 v3
        subst v1 v2
        refine y2_mono (go_step ha0 ht hS60 hK (by omega) hk hi v3) ?_
        rintro (x | x) (y | y) h
        · exact absurd h id
        · exact absurd h id
        · exact absurd h id
        · have e : D + 396 * k + 99 * (i + 1) = D + 396 * k + 99 * i + 99 := by omega
          exact ⟨h.1, h.2.1, by rw [e]; exact h.2.2⟩
      · rintro ⟨x1, A3⟩ ⟨y1, B3⟩ ⟨v1, v2, v3⟩
        dsimp only at v1 v2 v3
        subst v1 v2
        have v4 := v3.1.1.1
        unfold f45_go_24_L70 f170_go_L34
        dsimp only
        rw [if_pos (show A3 1 0 ≤ yn a by rw [v4.2.1.1]; exact Int32.le_refl _), if_pos (show B3 73 1 ≤ yn a by rw [v4.2.2.1]; exact Int32.le_refl _)]
        exact y2_some (go_up (by omega) v3)
    · rintro ⟨x1, A2⟩ ⟨y1, B2⟩ ⟨u1, u2, u3⟩
      dsimp only at u1 u2 u3
      subst u1 u2
      have u4 := u3.1.1.1
      unfold f45_go_24_L57 f170_go_L23
      dsimp only
      rw [if_pos (show A2 1 2 ≤ yn s by rw [u4.2.1.2.2]; exact Int32.le_refl _), if_pos (show B2 73 9 ≤ yn s by rw [u4.2.2.2.2]; exact Int32.le_refl _)]
      exact y2_some (go_up (by omega) u3)
  obtain ⟨x, y, k1, k2, k3⟩ := loops
  rw [k1, k2]
  exact ⟨_, _, rfl, rfl, k3.1, k3.2.1, k3.2.2.1, k3.2.2.2.2.1, k3.2.2.2.2.2.2⟩
/-- the least so far at the stroke's early minutes -/
def ylst (A : yI) (S ea c : Nat) : Nat → Int32
  | 0 => 200
  | T + 1 => if S ≤ T + ea then zmin (ylst A S ea c T) (A 33 (32 * T + c)) else ylst A S ea c T
theorem ylst_ag {A A' : yI} {S ea c : Nat} : ∀ {T : Nat}, (∀ t, t < T → A' 33 (32 * t + c) = A 33 (32 * t + c)) → ylst A' S ea c T = ylst A S ea c T
  | 0, _ => rfl
  | T + 1, h => by
    unfold ylst
    rw [ylst_ag (fun t ht => h t (by omega)), h T (by omega)]
def yEnd (a s S T : Nat) (A B : yI) : Prop := (∀ t c, t < T → c < 32 → B 100 (32 * t + c) = A 33 (32 * t + c) ∧ ∃ x, x ≤ 200 ∧ A 33 (32 * t + c) = yn x) ∧ (∀ t i k, t < T → i < 4 → k < 8 → (a ≤ i ∨ s ≤ k) → A 33 (32 * t + (8 * i + k)) = 0) ∧ ∃ ea, ea ≤ 20 ∧ A 1 5 = yn ea ∧ ∀ c, c < 32 → A 30 c = ylst A S ea c T
theorem early {t S ea : Nat} (ht : t < 1000) (hS : S < 1000) (he : ea < 1000) : yn t < yn S - yn ea ↔ ¬ S ≤ t + ea := by
  rw [Int32.lt_iff_toInt_lt, Int32.toInt_sub, yn_toInt (by omega), yn_toInt (by omega), yn_toInt (by omega), Int.bmod_eq_of_le (by omega) (by omega)]
  omega
theorem endm {a s S K t : Nat} {b : Nat → Nat} {A B : yI} (v : Int32) (ht : t ≤ S) (hS60 : S ≤ 60) (hS0 : A 25 0 = yn S) (hK : ∀ c, b c < 1000000000) (hC : yCell b A B) (hN : yNone a s A) (h200 : ∀ c, c < 32 → yV A 28 c ≤ 200) (hE : yEnd a s S t A B) : yP (f48_end_24 (yn t) A) (fun A' => yfr w_f48_end_24 A A' ∧ ∀ B', (∀ e, e < 32 → B' 100 (32 * t + e) = B 97 e) → (∀ e, e < 32 * t → B' 100 e = B 100 e) → yEnd a s S (t + 1) A' B') := by
  refine yP_with (P := fun A' => ∀ B', (∀ e, e < 32 → B' 100 (32 * t + e) = B 97 e) → (∀ e, e < 32 * t → B' 100 e = B 100 e) → yEnd a s S (t + 1) A' B') ?_ (fun x e h => ⟨(fr_f48_end_24 (yn t) A) x e, h⟩)
  obtain ⟨h1, h2, ea, h3, h4, h5⟩ := hE
  unfold f48_end_24
  have i1 : yn t * 32 = yn (32 * t) := by
    show yn t * yn 32 = _
    rw [yn_mul]; congr 1; omega
  have zc : zcpok 0 (yn (32 * t)) 32 32 1952 = true := zcpok_yn (p := 0) (q := 32 * t) (n := 32) (by omega) (by omega) (by decide) (by decide)
  have k0 : (0 : Int32).toNatClampNeg = 0 := by decide
  have k32 : (32 : Int32).toNatClampNeg = 32 := by decide
  have cp : ∀ b j, zcp A 28 33 0 (yn (32 * t)) 32 b j = if b = 33 ∧ 32 * t ≤ j ∧ j < 32 * t + 32 then A 28 (j - 32 * t) else A b j := by
    intro b j
    rw [zcp_at, yn_nat (by omega), k0, k32, Nat.zero_add]
  rw [i1]
  refine yP_bif zc ?_
  rw [hS0, h4]
  -- what both endings show
  have fin : ∀ (A' : yI), (∀ j, A' 33 j = zcp A 28 33 0 (yn (32 * t)) 32 33 j) → A' 1 5 = yn ea → (∀ c, c < 32 → A' 30 c = if S ≤ t + ea then zmin (A 30 c) (A 28 c) else A 30 c) → ∀ B', (∀ e, e < 32 → B' 100 (32 * t + e) = B 97 e) → (∀ e, e < 32 * t → B' 100 e = B 100 e) → yEnd a s S (t + 1) A' B' := by
    intro A' q1 q2 q3 B' r1 r2
    have old : ∀ t' c, t' < t → c < 32 → A' 33 (32 * t' + c) = A 33 (32 * t' + c) := by
      intro t' c ht' hc
      rw [q1, cp, if_neg (by omega)]
    have new : ∀ c, c < 32 → A' 33 (32 * t + c) = A 28 c := by
      intro c hc
      rw [q1, cp, if_pos (by omega)]
      congr 1; omega
    refine ⟨fun t' c ht' hc => ?_, fun t' i k ht' hi hk ho => ?_, ea, h3, q2, fun c hc => ?_⟩
    · by_cases e : t' = t
      · subst e
        obtain ⟨x, y, c1, c2, c3, c4, c5⟩ := hC c hc
        have := hK c
        have h3 := h200 c hc
        rw [yV_yn c1 (by omega)] at h3
        rw [new c hc, r1 c hc, c1, c2]
        exact ⟨rfl, x, by omega, rfl⟩
      · rw [old t' c (by omega) hc, r2 _ (by omega)]
        exact h1 t' c (by omega) hc
    · by_cases e : t' = t
      · subst e
        rw [new _ (by omega)]
        exact hN i k hi hk ho
      · rw [old t' _ (by omega) (by omega)]
        exact h2 t' i k (by omega) hi hk ho
    · have eo : ylst A' S ea c t = ylst A S ea c t := ylst_ag fun t' ht' => old t' c ht' hc
      rw [q3 c hc]
      show _ = if S ≤ t + ea then zmin (ylst A' S ea c t) (A' 33 (32 * t + c)) else ylst A' S ea c t
      rw [eo, new c hc, h5 c hc]
  by_cases c : S ≤ t + ea
  · refine yP_neg (by rw [early (by omega) (by omega) (by omega)]; exact fun z => z c) ?_
    refine yP_bind ?_
    refine yP_mono (P := fun x => (∀ j, x.2 33 j = zcp A 28 33 0 (yn (32 * t)) 32 33 j) ∧ x.2 1 5 = yn ea ∧ ∀ c, c < 32 → x.2 30 c = zmin (A 30 c) (A 28 c)) ?_ ?_
    · refine yP_for 32 (fun i x => x.1 = yn i ∧ (∀ j, x.2 33 j = zcp A 28 33 0 (yn (32 * t)) 32 33 j) ∧ x.2 1 5 = yn ea ∧ (∀ c, x.2 28 c = A 28 c) ∧ ∀ c, c < 32 → x.2 30 c = if c < i then zmin (A 30 c) (A 28 c) else A 30 c) (k := 0) ⟨rfl, fun _ => rfl, ?_, fun c => ?_, fun c hc => ?_⟩ (by omega) (by omega) ?_ ?_
      · dsimp only
        rw [cp, if_neg (by omega)]; exact h4
      · dsimp only
        rw [cp, if_neg (by omega)]
      · dsimp only
        rw [cp, if_neg (by omega), if_neg (by omega)]
      · rintro i x hi ⟨e1, e2, e3, e4, e5⟩
        unfold f48_end_24_L39
        rw [e1, yn_succ]
        refine yP_neg (by show ¬ yn 32 ≤ yn i
                          rw [yn_le (by omega) (by omega)]; omega) (yP_bif (zin_yn (by omega) (by omega)) (yP_bif (zin_yn (by omega) (by omega)) (yP_bif (zin_yn (by omega) (by omega)) (yP_some ?_))))
        rw [yn_nat (n := i) (by omega), e4, e5 i hi, if_neg (by omega)]
        refine ⟨rfl, fun j => ?_, ?_, fun c => ?_, fun c hc => ?_⟩
        · dsimp only
          rw [zu_ne (by decide)]; exact e2 j
        · dsimp only
          rw [zu_ne (by decide)]; exact e3
        · dsimp only
          rw [zu_ne (by decide)]; exact e4 c
        · simp only [zu_at]
          by_cases g : c = i
          · subst g; simp
          · rw [if_neg (by omega), e5 c hc]
            by_cases g2 : c < i
            · rw [if_pos g2, if_pos (by omega)]
            · rw [if_neg g2, if_neg (by omega)]
      · rintro x ⟨e1, e2, e3, e4, e5⟩
        unfold f48_end_24_L39
        rw [e1]
        refine yP_pos (Int32.le_refl _) (yP_some ⟨e2, e3, fun c hc => ?_⟩)
        dsimp only
        rw [e5 c hc, if_pos hc]
    · rintro x ⟨e1, e2, e3⟩
      refine yP_some (fin _ e1 e2 fun c' hc' => ?_)
      rw [if_pos c]; exact e3 c' hc'
  · refine yP_pos (by rw [early (by omega) (by omega) (by omega)]; exact c) (yP_some (fin _ (fun _ => rfl) ?_ fun c' hc' => ?_))
    · rw [cp, if_neg (by omega)]; exact h4
    · rw [cp, if_neg (by omega), if_neg c]
