/-! LAST, FLOW, WANTING -/
theorem yTown_WB {a w s : Nat} {A B : yI} (hT : yTown a w s A B) : yWB a w A B := by
  obtain ⟨-, -, -, hWy, -⟩ := hT
  intro i hi
  obtain ⟨⟨p, q, hp, hq, hne, e4, e5⟩, ⟨e6, e7⟩, ⟨⟨m, hm1, hm, e8⟩, e9⟩, -⟩ := hWy i hi
  exact ⟨p, q, m, hp, hq, hm1, hm, e4, e5, e8, by rw [e6, e4], by rw [e7, e5], by rw [e9, e8]⟩
theorem i_sub_nn {x y : Nat} (hx : x < 2147483648) (hy : y < 2147483648) : ((0 : Int32) ≤ yn x - yn y ↔ y ≤ x) := by
  rw [Int32.le_iff_toInt_le, Int32.toInt_sub, yn_toInt hx, yn_toInt hy, Int.bmod_eq_of_le (by omega) (by omega)]
  have e0 : (0 : Int32).toInt = 0 := by decide
  omega
/-- LAST, of both -/
theorem last_e {a w s : Nat} {A B : yI} (hT : yTown a w s A B) (hF : yMF A w) {k p q : Nat} (hk : k < s) (hp : p < a) (hq : q < a) : ∃ r, (r = -2 ∨ ∃ m, m < 2147483648 ∧ r = yn m) ∧ f77_lastMinute (yn k) (yn p) (yn q) A = some r ∧ yP (f179_lastOf (yn k) (yn p) (yn q) B) (fun x => x.1 = r) := by
  have hWB := yTown_WB hT
  obtain ⟨⟨⟨ha, hw, hs⟩, ⟨a1, a2, a3⟩, ⟨b1, b2, b3⟩⟩, ⟨⟨⟨st, st1, st2, est⟩, s2⟩, -⟩, hSq, hWy, hSo⟩ := hT
  obtain ⟨-, -, -, ⟨⟨pc, pc1, pc2, epc⟩, p2⟩, -⟩ := hSo k hk
  obtain ⟨F1, F2⟩ := hF
  have hb := F2.2.1 p q (by omega) (by omega)
  have ef := F1 p q (by omega) (by omega)
  unfold INF at hb
  have hpf : pc * yf A p q ≤ 3 * 1000000 := Nat.mul_le_mul pc2 hb
  have ix : yn p * 4 + yn q = yn (4 * p + q) := by
    show yn p * yn 4 + yn q = _
    rw [yn_mul, yn_add]; congr 1; omega
  refine ⟨if pc * yf A p q ≤ st then yn (st - pc * yf A p q) else -2, ?_, ?_, ?_⟩
  · by_cases c : pc * yf A p q ≤ st
    · rw [if_pos c]; exact Or.inr ⟨_, by omega, rfl⟩
    · rw [if_neg c]; exact Or.inl rfl
  · unfold f77_lastMinute
    rw [ix, zin_yn (by omega) (by omega), zin_yn (by omega) (by omega), yn_nat (by omega), yn_nat (by omega), est, epc, ef, yn_mul]
    show (if _ then _ else _) = _
    by_cases c : pc * yf A p q ≤ st
    · rw [if_pos c, if_pos ((i_sub_nn (by omega) (by omega)).mpr c), yn_sub c]
    · rw [if_neg c, if_neg (fun z => c ((i_sub_nn (by omega) (by omega)).mp z))]
  · unfold f179_lastOf
    refine yP_bind (yP_with (f177_P ha hw hp hq b1 b2 hWB F2) ?_)
    rintro ⟨x1, C⟩ e hx
    have fr : yfr w_f177_fewest B C := yfr2 (fr_f177_fewest _ _ B) e
    dsimp only at hx ⊢
    have c83 : C 83 k = yn pc := by rw [fr 83 k rfl, p2, epc]
    have c15 : C 73 15 = yn st := by rw [fr 73 15 rfl, s2, est]
    subst hx
    by_cases c : yf A p q < INF
    · rw [if_pos c]
      refine yP_neg (Int32.not_lt.mpr (yn_pos (by omega))) (yP_bif (zin_yn (by omega) (by omega)) ?_)
      by_cases c2 : pc * yf A p q ≤ st
      · refine yP_pos (by rw [yn_nat (n := k) (by omega), c83, c15, yn_mul]; exact (yn_le (by omega) (by omega)).mpr c2) (yP_bif (zin_yn (by omega) (by omega)) (yP_some ?_))
        dsimp only
        rw [if_pos c2, yn_nat (n := k) (by omega), c83, c15, yn_mul, yn_sub c2]
      · refine yP_neg (by rw [yn_nat (n := k) (by omega), c83, c15, yn_mul]; exact fun z => c2 ((yn_le (by omega) (by omega)).mp z)) (yP_some ?_)
        dsimp only
        rw [if_neg c2]
    · rw [if_neg c]
      refine yP_pos (by decide) (yP_some ?_)
      unfold INF at c
      have : yf A p q = 1000000 := by omega
      rw [this, if_neg (by omega)]
theorem c_last {a w s : Nat} {A B : yI} (hT : yTown a w s A B) (hF : yMF A w) (v1 : Int32) : ∃ r B', f99_last v1 A = some r ∧ f181_last v1 B = some (r, B') := by
  have hT0 := hT
  obtain ⟨⟨⟨ha, hw, hs⟩, ⟨a1, a2, a3⟩, ⟨b1, b2, b3⟩⟩, -⟩ := hT
  unfold f99_last f181_last
  by_cases h0 : v1 < 0
  · refine ⟨-1, B, ?_, ?_⟩
    · unfold f101_isSortAndWay; rw [if_pos h0]; rfl
    · unfold f180_isTrip; rw [if_pos h0]; rfl
  · obtain ⟨v, hv, rfl⟩ := yn_nn (Int32.not_lt.mp h0)
    have d100 : yn v / 100 = yn (v / 100) := yn_div (d := 100) hv (by decide)
    rw [f101_e ha hs a1 a3 hv, f180_e ha hs b1 b3 hv, yn_mod10 hv, yn_div10 hv, yn_mod10 (m := v / 10) (by omega), d100]
    simp only [ob, yb_ite0]
    by_cases ht : yTrip a s v
    · rw [if_pos ht, if_pos ht]
      obtain ⟨r, -, e1, ⟨x1, C⟩, e2, e3⟩ := last_e hT0 hF ht.1 ht.2.1 ht.2.2.1
      dsimp only at e3
      subst e3
      exact ⟨x1, C, by rw [e1]; rfl, by rw [e2]; rfl⟩
    · rw [if_neg ht, if_neg ht]
      exact ⟨_, _, rfl, rfl⟩
theorem i_mul0 (x : Int32) : x * 0 = 0 := Int32.mul_zero
theorem c_flow {a w s : Nat} {A B : yI} (hT : yTown a w s A B) (v1 : Int32) : ∃ r, f100_flow v1 A = some r ∧ f182_flow v1 B = some r := by
  obtain ⟨⟨⟨ha, hw, hs⟩, ⟨a1, a2, a3⟩, ⟨b1, b2, b3⟩⟩, ⟨⟨q3, s2⟩, -⟩, hSq, hWy, hSo⟩ := hT
  unfold f100_flow f182_flow
  by_cases h0 : v1 < 0
  · refine ⟨-1, ?_, ?_⟩
    · unfold f101_isSortAndWay; rw [if_pos h0]; rfl
    · unfold f180_isTrip; rw [if_pos h0]; rfl
  · obtain ⟨v, hv, rfl⟩ := yn_nn (Int32.not_lt.mp h0)
    have d100 : yn v / 100 = yn (v / 100) := yn_div (d := 100) hv (by decide)
    rw [f101_e ha hs a1 a3 hv, f180_e ha hs b1 b3 hv, yn_mod10 hv, yn_div10 hv, yn_mod10 (m := v / 10) (by omega), d100]
    simp only [ob, yb_ite0]
    by_cases ht : yTrip a s v
    · rw [if_pos ht, if_pos ht]
      unfold f78_mostOver
      have key : y2 (zloop (f78_mostOver_L6 (yn (v / 100)) (yn (v / 10 % 10)) (yn (v % 10)) A) 5000 ((0 : Int32), (0 : Int32))) (zloop (f182_flow_L14 (yn v) B) 5000 ((0 : Int32), (0 : Int32))) (fun x y => x.1 = y.1) := by
        refine y2_for w (fun i x y => x.1 = y.1 ∧ x.2 = yn i ∧ y.2 = yn i) (k := 0) ⟨rfl, rfl, rfl⟩ (by omega) (by omega) ?_ ?_
        · rintro i x y - hi ⟨e1, e2, e3⟩
          obtain ⟨-, ⟨r1, r2⟩, ⟨-, r3⟩, ⟨-, r4⟩⟩ := hWy i hi
          obtain ⟨-, -, -, ⟨-, r5⟩, -⟩ := hSo (v / 100) ht.1
          have hk := ht.1
          unfold f78_mostOver_L6 f182_flow_L14 f169_doesLead
          rw [a2, b2, e2, e3, yn_mod10 hv, yn_div10 hv, yn_mod10 (m := v / 10) (by omega), d100, if_neg (show ¬ yn w ≤ yn i by rw [yn_le (by omega) (by omega)]; omega), if_neg (show ¬ yn w ≤ yn i by rw [yn_le (by omega) (by omega)]; omega), yn_nat (n := i) (by omega), yn_nat (n := v / 100) (by omega), zin_yn (m := i) (by omega) (by omega), zin_yn (m := v / 100) (by omega) (by omega), r1, r2, r3, r4, r5, s2, e1, yn_succ]
          generalize A 1 3 + 1 - A 11 (v / 100) * A 6 i = L
          have hz : zmax 0 L = if L ≤ 0 then 0 else L := by
            unfold zmax
            by_cases c : L ≤ 0
            · rw [if_pos c, if_neg (Int32.not_lt.mpr c)]
            · rw [if_neg c, if_pos (Int32.not_le.mp c)]
          rw [hz]
          simp only [cond_true]
          have fin : ∀ {x : Int32}, y2 (some (.inr (x, yn (i + 1)))) (some (.inr (x, yn (i + 1)))) (yL0 (fun _ _ => False) (fun (x y : Int32 × Int32) => x.1 = y.1 ∧ x.2 = yn (i + 1) ∧ y.2 = yn (i + 1))) := ⟨_, _, rfl, rfl, rfl, rfl, rfl⟩
          by_cases c : L ≤ 0
          · rw [if_pos c, if_pos c, i_mul0, Int32.add_zero]
            repeat' split
            all_goals exact fin
          · rw [if_neg c, if_neg c]
            repeat' split
            all_goals first
              | exact fin
              | (simp_all; done)
        · rintro x y ⟨e1, e2, e3⟩
          unfold f78_mostOver_L6 f182_flow_L14
          rw [a2, b2, e2, e3, if_pos (Int32.le_refl _), if_pos (Int32.le_refl _)]
          exact y2_some e1
      obtain ⟨x, y, k1, k2, k3⟩ := key
      rw [k1, k2]
      exact ⟨x.1, rfl, by rw [k3]; rfl⟩
    · rw [if_neg ht, if_neg ht]
      exact ⟨_, rfl, rfl⟩
/-- a sum -/
def ysum (f : Nat → Int32) : Nat → Int32
  | 0 => 0
  | n + 1 => ysum f n + f n
theorem ysum_congr {f g : Nat → Int32} : ∀ {n : Nat}, (∀ i, i < n → f i = g i) → ysum f n = ysum g n
  | 0, _ => rfl
  | n + 1, h => by
    unfold ysum
    rw [ysum_congr (fun i hi => h i (by omega)), h n (by omega)]
def ywant (A : yI) (v : Int32) (s : Nat) : Int32 := ysum (fun i => if A 9 i = v then A 8 i else 0) s
theorem f74_e {A : yI} {s : Nat} (a3 : A 1 2 = yn s) (hs : s ≤ 8) (v : Int32) : f74_wanting v A = some (ywant A v s) := by
  refine yP_eq ?_
  unfold f74_wanting ywant
  refine yP_bind ?_
  refine yP_for s (fun i x => x.1 = ysum (fun i => if A 9 i = v then A 8 i else 0) i ∧ x.2 = yn i) (k := 0) ⟨rfl, rfl⟩ (by omega) (by omega) ?_ ?_
  · rintro i x hi ⟨e1, e2⟩
    unfold f74_wanting_L4
    rw [e1, e2]
    refine yP_neg (by rw [a3, yn_le (by omega) (by omega)]; omega) (yP_bif (zin_yn (by omega) (by omega)) ?_)
    rw [yn_nat (by omega), yn_succ]
    refine yP_ite (fun c => yP_bif (zin_yn (by omega) (by omega)) (yP_some ⟨?_, rfl⟩)) (fun c => yP_some ⟨?_, rfl⟩)
    · show _ = ysum _ i + (if A 9 i = v then A 8 i else 0)
      rw [if_pos c]
    · show _ = ysum _ i + (if A 9 i = v then A 8 i else 0)
      rw [if_neg c]
  · rintro x ⟨e1, e2⟩
    unfold f74_wanting_L4
    rw [e1, e2]
    exact yP_pos (by rw [a3]; exact Int32.le_refl _) (yP_some (yP_some rfl))
theorem f183_e {a w s : Nat} {A B : yI} (hT : yTown a w s A B) (v : Int32) : f183_wanting v B = some (ywant A v s) := by
  obtain ⟨⟨⟨ha, hw, hs⟩, ⟨a1, a2, a3⟩, ⟨b1, b2, b3⟩⟩, -, hSq, hWy, hSo⟩ := hT
  refine yP_eq ?_
  unfold f183_wanting ywant
  refine yP_bind ?_
  refine yP_for s (fun i x => x.1 = ysum (fun i => if A 9 i = v then A 8 i else 0) i ∧ x.2 = yn i) (k := 0) ⟨rfl, rfl⟩ (by omega) (by omega) ?_ ?_
  · rintro i x hi ⟨e1, e2⟩
    obtain ⟨⟨-, r1⟩, ⟨-, r2⟩, -⟩ := hSo i hi
    unfold f183_wanting_L4
    rw [e1, e2]
    refine yP_neg (by rw [b3, yn_le (by omega) (by omega)]; omega) (yP_bif (zin_yn (by omega) (by omega)) ?_)
    rw [yn_nat (by omega), yn_succ, r2, r1]
    refine yP_ite (fun c => yP_bif (zin_yn (by omega) (by omega)) (yP_some ⟨?_, rfl⟩)) (fun c => yP_some ⟨?_, rfl⟩)
    · show _ = ysum _ i + (if A 9 i = v then A 8 i else 0)
      rw [if_pos c]
    · show _ = ysum _ i + (if A 9 i = v then A 8 i else 0)
      rw [if_neg c, Int32.add_zero]
  · rintro x ⟨e1, e2⟩
    unfold f183_wanting_L4
    rw [e1, e2]
    exact yP_pos (by rw [b3]; exact Int32.le_refl _) (yP_some (yP_some rfl))
