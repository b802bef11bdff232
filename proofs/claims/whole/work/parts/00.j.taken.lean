/-! TAKEN, SORTS -/
theorem under_e (v0 v1 : Int32) (h0 : yKd v0) (h1 : yKd v1) (I : yI) : ∃ r, (r = 0 ∨ r = 1) ∧ f3_isUnder v0 v1 I = some r ∧ f196_isUnder v0 v1 = some r := by
  rcases h0 with rfl | rfl | rfl | rfl | rfl | rfl | rfl | rfl <;> rcases h1 with rfl | rfl | rfl | rfl | rfl | rfl | rfl | rfl <;>
    first
    | exact ⟨0, Or.inl rfl, rfl, rfl⟩
    | exact ⟨1, Or.inr rfl, rfl, rfl⟩
theorem yKd_of {v : Int32} (h : 0 ≤ v ∧ v ≤ 7) : yKd v := by
  obtain ⟨m, -, hm, rfl⟩ := yq_of (lo := 0) (hi := 7) (by omega) (by omega) h.1 h.2
  have hm8 : m = 0 ∨ m = 1 ∨ m = 2 ∨ m = 3 ∨ m = 4 ∨ m = 5 ∨ m = 6 ∨ m = 7 := by omega
  unfold yKd
  rcases hm8 with rfl | rfl | rfl | rfl | rfl | rfl | rfl | rfl <;> decide
theorem c_taken {nb : Nat} {A B : yI} {JA JB : yJ} (hA : yActs nb A B) (h : ySh nb A B JA JB) (v1 v2 : Int32) : ∃ r, f124_taken v1 v2 A = some r ∧ f217_taken v1 v2 B = some r := by
  obtain ⟨⟨hb, h2, h3⟩, h4, -⟩ := hA
  unfold f124_taken f217_taken
  rw [f127_e, f210_e, f2_e, f129_e]
  simp only [ob, yb_ite0]
  by_cases hv : yIs 6 v1
  · rw [if_pos hv, if_pos hv]
    by_cases hk : 0 ≤ v2 ∧ v2 ≤ 7
    · rw [if_pos hk, if_pos hk]
      obtain ⟨i, hi, rfl⟩ := hv
      rw [zin_yn (by omega) (by omega), yn_nat (by omega), zshelf_yn hi]
      simp only [cond_true]
      rcases (h i hi).1 with q | q | ⟨t, n, q⟩
      · rw [(empty_e q).1, ob, if_neg (by decide), if_pos q.2.2.2]
        exact ⟨_, rfl, rfl⟩
      · rw [(body_e hb q).1, ob, if_pos rfl, if_neg (body_b hb q).1, if_neg (body_b hb q).2, f4_e h2 hb]
        obtain ⟨b, hb2, q1, q2, q3, q4⟩ := q
        rw [q1, q4, ob, yb_ite0, if_pos ⟨b, hb2, rfl⟩, zin_yn (by omega) (by omega), yn_nat (by omega)]
        simp only [cond_true]
        obtain ⟨k1, k2⟩ := h4 b hb2
        obtain ⟨r, hr, u1, u2⟩ := under_e (A 58 b) v2 k1 (yKd_of hk) A
        rw [k2, u1, u2, ob]
        rcases hr with rfl | rfl <;> exact ⟨_, rfl, rfl⟩
      · rw [(row_e q).1, ob, if_pos rfl, if_neg (row_b q).1, if_pos (row_b q).2.1, f4_e h2 hb, q.2.2.1, ob, yb_ite0, if_neg]
        · exact ⟨_, rfl, rfl⟩
        · rintro ⟨m, hm, e⟩
          exact yn_ne1 (n := m) (by omega) e.symm
    · rw [if_neg hk, if_neg hk]; exact ⟨_, rfl, rfl⟩
  · rw [if_neg hv, if_neg hv]; exact ⟨_, rfl, rfl⟩
/-- what two loop bodies give alike: both return, both leave, or both go on -/
def yL {ρ ρ' σ σ' : Type} (Q : ρ ⊕ σ → ρ' ⊕ σ' → Prop) (R : σ → σ' → Prop) : ρ ⊕ (σ ⊕ σ) → ρ' ⊕ (σ' ⊕ σ') → Prop
  | .inl x, .inl x' => Q (.inl x) (.inl x')
  | .inr (.inl x), .inr (.inl x') => Q (.inr x) (.inr x')
  | .inr (.inr x), .inr (.inr x') => R x x'
  | _, _ => False
theorem y2_loopR {ρ ρ' σ σ' : Type} {B : σ → Option (ρ ⊕ (σ ⊕ σ))} {B' : σ' → Option (ρ' ⊕ (σ' ⊕ σ'))} {Q : ρ ⊕ σ → ρ' ⊕ σ' → Prop} (R : Nat → σ → σ' → Prop) (hb : ∀ j s s', R j s s' → y2 (B s) (B' s') (yL Q (fun x x' => ∃ j', j' < j ∧ R j' x x'))) : ∀ (n j : Nat) (s : σ) (s' : σ'), j < n → R j s s' → y2 (zloopR B n s) (zloopR B' n s') Q := by
  intro n
  induction n with
  | zero => intro j s s' h; exact absurd h (Nat.not_lt_zero _)
  | succ n ih =>
    intro j s s' hj hs
    obtain ⟨y, y', h1, h2, h3⟩ := hb j s s' hs
    unfold zloopR
    rw [h1, h2]
    rcases y with x | x | x <;> rcases y' with x' | x' | x'
    · exact ⟨_, _, rfl, rfl, h3⟩
    · exact absurd h3 id
    · exact absurd h3 id
    · exact absurd h3 id
    · exact ⟨_, _, rfl, rfl, h3⟩
    · exact absurd h3 id
    · exact absurd h3 id
    · exact absurd h3 id
    · obtain ⟨j', hj', h4⟩ := h3
      exact ih j' x x' (by omega) h4
def yL0 {σ σ' : Type} (Q : σ → σ' → Prop) (R : σ → σ' → Prop) : σ ⊕ σ → σ' ⊕ σ' → Prop
  | .inl x, .inl x' => Q x x'
  | .inr x, .inr x' => R x x'
  | _, _ => False
theorem y2_loop {σ σ' : Type} {B : σ → Option (σ ⊕ σ)} {B' : σ' → Option (σ' ⊕ σ')} {Q : σ → σ' → Prop} (R : Nat → σ → σ' → Prop) (hb : ∀ j s s', R j s s' → y2 (B s) (B' s') (yL0 Q (fun x x' => ∃ j', j' < j ∧ R j' x x'))) : ∀ (n j : Nat) (s : σ) (s' : σ'), j < n → R j s s' → y2 (zloop B n s) (zloop B' n s') Q := by
  intro n
  induction n with
  | zero => intro j s s' h; exact absurd h (Nat.not_lt_zero _)
  | succ n ih =>
    intro j s s' hj hs
    obtain ⟨y, y', h1, h2, h3⟩ := hb j s s' hs
    unfold zloop
    rw [h1, h2]
    rcases y with x | x <;> rcases y' with x' | x'
    · exact ⟨_, _, rfl, rfl, h3⟩
    · exact absurd h3 id
    · exact absurd h3 id
    · obtain ⟨j', hj', h4⟩ := h3
      exact ih j' x x' (by omega) h4
/-- two loops that count together from k up to N -/
theorem y2_for {σ σ' : Type} {B : σ → Option (σ ⊕ σ)} {B' : σ' → Option (σ' ⊕ σ')} {Q : σ → σ' → Prop} (N : Nat) (R : Nat → σ → σ' → Prop) {n k : Nat} {s : σ} {s' : σ'} (h0 : R k s s') (hk : k ≤ N) (hn : N < n + k) (hb : ∀ i s s', k ≤ i → i < N → R i s s' → y2 (B s) (B' s') (yL0 (fun _ _ => False) (R (i + 1)))) (he : ∀ s s', R N s s' → y2 (B s) (B' s') (yL0 Q (fun _ _ => False))) : y2 (zloop B n s) (zloop B' n s') Q := by
  refine y2_loop (fun j s s' => ∃ i, k ≤ i ∧ i + j = N ∧ R i s s') ?_ n (N - k) s s' (by omega) ⟨k, by omega, by omega, h0⟩
  rintro j s s' ⟨i, hik, hi, hs⟩
  by_cases h : i < N
  · refine y2_mono (hb i s s' hik h hs) ?_
    rintro (x | x) (x' | x') h2
    · exact absurd h2 id
    · exact absurd h2 id
    · exact absurd h2 id
    · exact ⟨N - (i + 1), by omega, i + 1, by omega, by omega, h2⟩
  · have : i = N := by omega
    subst this
    refine y2_mono (he s s' hs) ?_
    rintro (x | x) (x' | x') h2
    · exact h2
    · exact absurd h2 id
    · exact absurd h2 id
    · exact absurd h2 id
theorem zloopR_succ {σ ρ : Type} (B : σ → Option (ρ ⊕ (σ ⊕ σ))) (n : Nat) (s : σ) : zloopR B (n + 1) s = match B s with
    | none => none
    | some (.inl x) => some (.inl x)
    | some (.inr (.inl x)) => some (.inr x)
    | some (.inr (.inr s')) => zloopR B n s' := rfl
theorem l_ofi (x : Int32) : x.toInt64.toInt = x.toInt := Int32.toInt_toInt64 x
theorem y2_bifR {α β : Type} {o : Option α} {c : Bool} {a : Option β} {R : α → β → Prop} (h : c = true) (w : y2 o a R) : y2 o (bif c then a else none) R := by
  rw [h]; exact w
theorem y2_bifL {α β : Type} {o : Option β} {c : Bool} {a : Option α} {R : α → β → Prop} (h : c = true) (w : y2 a o R) : y2 (bif c then a else none) o R := by
  rw [h]; exact w
/-- small longs -/
def yl (n : Nat) : Int64 := Int64.ofNat n
theorem yl_add (a b : Nat) : yl a + yl b = yl (a + b) := (Int64.ofNat_add a b).symm
theorem yl_mul (a b : Nat) : yl a * yl b = yl (a * b) := (Int64.ofNat_mul a b).symm
theorem yl_toInt {n : Nat} (h : n < 9223372036854775808) : (yl n).toInt = n := Int64.toInt_ofNat_of_lt (by omega)
theorem yl_lt {a b : Nat} (ha : a < 9223372036854775808) (hb : b < 9223372036854775808) : yl a < yl b ↔ a < b := by
  rw [Int64.lt_iff_toInt_lt, yl_toInt ha, yl_toInt hb]
  omega
theorem yn_l {n : Nat} (h : n < 2147483648) : (yn n).toInt64 = yl n := by
  apply Int64.toInt_inj.mp
  rw [yl_toInt (by omega), Int32.toInt_toInt64, yn_toInt h]
theorem yl_i {n : Nat} (h : n < 2147483648) : (yl n).toInt32 = yn n := by
  apply Int32.toInt_inj.mp
  rw [Int64.toInt_toInt32, yl_toInt (by omega), yn_toInt h, Int.bmod_eq_of_le (by omega) (by omega)]
/-- the invariant of both loops of sorts() -/
def ySI (a w s i m n : Nat) (j : Nat) (x x' : Int32 × yI) : Prop := ∃ c, c + j = n ∧ x.1 = yn c ∧ x'.1 = yn c ∧ x.2 (61 + 2 * i) 2 = yn m ∧ x'.2 111 i = yn m ∧ ∃ s', s ≤ s' ∧ yTown a w s' x.2 x'.2
def ySQ (a w s : Nat) : (Int32 × yI) ⊕ (Int32 × yI) → (Int32 × yI) ⊕ (Int32 × yI) → Prop
  | .inl x, .inl x' => x.1 = x'.1 ∧ ∃ s', s ≤ s' ∧ yTown a w s' x.2 x'.2
  | .inr x, .inr x' => ∃ s', s ≤ s' ∧ yTown a w s' x.2 x'.2
  | _, _ => False
theorem sorts_step {a w s i m n p : Nat} {JA JB : yJ} (hi : i < 6) (hn : n ≤ 8) (hm : m ≤ 60) (hp : p < 2147483648) (h : ∀ k, k < 60 → JB 112 (60 * i + k) = JA (62 + 2 * i) k) : ∀ j x x', ySI a w s i m n j x x' → y2 (f90_sortsFrom_L3 (61 + 2 * i) (yn p) (yn n) JA x) (f137_sorts_L58 (yn i) (yn p) (yn n) JB x') (yL (ySQ a w s) (fun y y' => ∃ j', j' < j ∧ ySI a w s i m n j' y y')) := by
  rintro j ⟨c1, A1⟩ ⟨c2, B1⟩ ⟨c, hc, e1, e2, e3, e4, s1, hs1, hT1⟩
  dsimp only at e1 e2 e3 e4 hT1
  subst e1 e2
  unfold f90_sortsFrom_L3 f137_sorts_L58
  dsimp only
  refine y2_ite Iff.rfl (fun _ => y2_some ⟨s1, hs1, hT1⟩) fun hnc => ?_
  rw [yn_le (by omega) (by omega)] at hnc
  have E1 : (yn p).toInt64 + 3 * (yn c).toInt64 = yl (p + 3 * c) := by
    rw [yn_l hp, yn_l (n := c) (by omega)]
    show yl p + yl 3 * yl c = _
    rw [yl_mul, yl_add]
  have E2 : (yn p).toInt64 + (3 * yn c).toInt64 = yl (p + 3 * c) := by
    have : (3 : Int32) * yn c = yn (3 * c) := yn_mul 3 c
    rw [this, yn_l hp, yn_l (n := 3 * c) (by omega), yl_add]
  have E3 : yl (p + 3 * c) + 3 = yl (p + 3 * c + 3) := yl_add _ 3
  have E4 : yl (p + 3 * c) + 2 = yl (p + 3 * c + 2) := yl_add _ 2
  have hneg : ¬ lg_cmp (yl (p + 3 * c)) 0 < (0 : Int32) := by
    show ¬ lg_cmp (yl (p + 3 * c)) (yl 0) < (0 : Int32)
    rw [lg_neg, yl_lt (by omega) (by omega)]
    omega
  have q1 : lg_cmp (yl (p + 3 * c + 3)) (A1 (61 + 2 * i) 2).toInt64 ≤ (0 : Int32) ↔ p + 3 * c + 3 ≤ m := by
    rw [e3, yn_l (by omega), lg_le0, yl_lt (by omega) (by omega)]
    omega
  have q2 : (0 : Int32) ≤ lg_cmp (yl (p + 3 * c + 2)) (B1 111 i).toInt64 ↔ m ≤ p + 3 * c + 2 := by
    rw [e4, yn_l (by omega), lg_ge0, yl_lt (by omega) (by omega)]
    omega
  rw [yn_nat (n := i) (by omega), E1, E2, E3, E4, if_neg hneg]
  refine y2_bifR (zin_yn (by omega) (by omega)) ?_
  by_cases hfit : p + 3 * c + 3 ≤ m
  · rw [if_pos (q1.mpr hfit), if_neg (fun z => absurd (q2.mp z) (by omega))]
    have I0 : (yl (p + 3 * c)).toInt32 = yn (p + 3 * c) := yl_i (by omega)
    have I1 : yn (p + 3 * c) + 1 = yn (p + 3 * c + 1) := yn_succ _
    have I2 : yn (p + 3 * c) + 2 = yn (p + 3 * c + 2) := yn_add _ 2
    have J0 : 60 * yn i + yn (p + 3 * c) = yn (60 * i + (p + 3 * c)) := by
      show yn 60 * yn i + _ = _
      rw [yn_mul, yn_add]
    have J1 : yn (60 * i + (p + 3 * c)) + 1 = yn (60 * i + (p + 3 * c + 1)) := yn_succ _
    have J2 : yn (60 * i + (p + 3 * c)) + 2 = yn (60 * i + (p + 3 * c + 2)) := yn_add _ 2
    rw [I0, I1, I2, J0, J1, J2, f57_ok (n := m) (by omega) hm e3, f57_ok (n := m) (by omega) hm e3, f57_ok (n := m) (by omega) hm e3, zin_yn (by omega) (by omega), zin_yn (by omega) (by omega), zin_yn (by omega) (by omega), yn_nat (by omega), yn_nat (by omega), yn_nat (by omega)]
    simp only [cond_true, ob]
    rw [h _ (by omega), h _ (by omega), h _ (by omega)]
    have hT1' := hT1
    obtain ⟨⟨⟨ha, hw, hs⟩, ⟨a1, a2, a3⟩, ⟨b1, b2, b3⟩⟩, -⟩ := hT1'
    rw [f134_e b1 ha, b3, ob, yb_ite0]
    by_cases hok : ySoOk a (JA (62 + 2 * i) (p + 3 * c)).toInt32 (JA (62 + 2 * i) (p + 3 * c + 1)).toInt32 (JA (62 + 2 * i) (p + 3 * c + 2)).toInt32
    · rw [f68_ok a1 ha a3 hs _ _ _ hok]
      by_cases e8 : s1 = 8
      · subst e8
        rw [if_pos rfl, ob, if_neg (show ¬ (0 : Int32) ≤ -3 by decide), if_pos (show yn 8 = 8 from rfl)]
        exact y2_some ⟨rfl, 8, hs1, hT1⟩
      · have e82 : ¬ yn s1 = 8 := by
          show ¬ yn s1 = yn 8
          rw [yn_inj (by omega) (by omega)]; exact e8
        rw [if_neg e8, ob, if_pos (yn_pos (by omega)), if_neg e82, if_pos hok, f135_ok b3 (by omega), ob]
        refine y2_some ⟨n - (c + 1), by omega, c + 1, by omega, yn_succ c, yn_succ c, ?_, ?_, s1 + 1, by omega, ySoNew_T hT1 (by omega) hok⟩
        · dsimp only
          unfold ySoNew
          simp only [zu_at]
          rw [if_neg (by omega), if_neg (by omega), if_neg (by omega), if_neg (by omega), if_neg (by omega), if_neg (by omega)]
          exact e3
        · dsimp only
          unfold ySoNewB
          simpa [zu_at] using e4
    · rw [f68_bad (s := s1) a1 ha _ _ _ hok, ob, if_neg (show ¬ (0 : Int32) ≤ -1 by decide), if_neg hok]
      refine y2_of rfl (y := .inl (yn c, B1)) ?_ ⟨rfl, s1, hs1, hT1⟩
      split <;> rfl
  · rw [if_neg (fun z => hfit (q1.mp z)), if_pos (q2.mpr (by omega))]
    exact y2_some ⟨rfl, s1, hs1, hT1⟩
/-- sorts from a row: what both do at the same place of it -/
theorem c_sorts {a w s nb : Nat} {A B : yI} {JA JB : yJ} (hb : nb ≤ 50) (hT : yTown a w s A B) (h : ySh nb A B JA JB) (v1 v2 v3 : Int32) : y2 (f89_sorts v1 v2 v3 A JA) (f137_sorts v1 v2 v3 B JB) (fun x y => x.1 = y.1 ∧ ∃ s', s ≤ s' ∧ yTown a w s' x.2 y.2) := by
  have done : ∀ {r : Int32}, y2 (some (r, A)) (some (r, B)) (fun x y => x.1 = y.1 ∧ ∃ s', s ≤ s' ∧ yTown a w s' x.2 y.2) := ⟨_, _, rfl, rfl, rfl, s, by omega, hT⟩
  unfold f89_sorts f137_sorts
  rw [f127_e, f210_e, f126_e, f129_e]
  simp only [ob, yb_ite0]
  by_cases hv : yIs 6 v1
  · rw [if_pos hv, if_pos hv]
    by_cases hk : 1 ≤ v3 ∧ v3 ≤ 8
    · rw [if_pos hk, if_pos hk]
      obtain ⟨i, hi, rfl⟩ := hv
      obtain ⟨n, hn1, hn, rfl⟩ := yq_of (lo := 1) (hi := 8) (by omega) (by omega) hk.1 hk.2
      rw [zin_yn (by omega) (by omega), yn_nat (by omega), zshelf_yn hi]
      simp only [cond_true]
      rcases (h i hi).1 with q | q | ⟨t, m, q⟩
      · rw [(empty_e q).2, ob, if_neg (by decide), if_neg (by decide), if_pos q.2.2.2, if_pos q.2.2.2]
        exact done
      · rw [(body_e hb q).2.2, ob, if_pos rfl, if_neg (body_b hb q).1, if_neg]
        · exact done
        · intro z
          exact (body_b hb q).2 (by rw [z]; decide)
      · have r55 := (row_e q).2.2.2 1 (by omega)
        have r55 : f55_refusal (61 + 2 * i) 1 A = some (if 1 = t then 0 else -12) := r55
        rw [r55, ob]
        have ht := q.1
        have hB3 : B 110 i = -3 ↔ 1 = t := by
          rw [q.2.2.2.2.2.1]
          have ht5 : t = 0 ∨ t = 1 ∨ t = 2 ∨ t = 3 ∨ t = 4 := by omega
          rcases ht5 with rfl | rfl | rfl | rfl | rfl <;> decide
        rw [if_neg (row_b q).1]
        by_cases et : 1 = t
        · rw [if_pos et, if_neg (by decide), if_pos rfl, if_pos (hB3.mpr et), if_neg (row_b q).1]
          subst et
          have hm := q.2.1
          by_cases h0 : 0 ≤ v2
          · rw [if_pos h0]
            obtain ⟨p, hp, rfl⟩ := yn_nn h0
            have key : y2 (zloopR (f90_sortsFrom_L3 (61 + 2 * i) (yn p) (yn n) JA) 5000 ((0 : Int32), A)) (zloopR (f137_sorts_L58 (yn i) (yn p) (yn n) JB) 5000 ((0 : Int32), B)) (ySQ a w s) :=
              y2_loopR (ySI a w s i m n) (sorts_step hi hn hm hp (h i hi).2) 5000 n _ _ (by omega) ⟨0, by omega, rfl, rfl, q.2.2.2.2.1, q.2.2.2.2.2.2.1, s, by omega, hT⟩
            unfold f90_sortsFrom
            obtain ⟨y, y', k1, k2, k3⟩ := key
            rw [k1, k2]
            rcases y with x | x <;> rcases y' with x' | x'
            · exact ⟨_, _, rfl, rfl, k3⟩
            · exact absurd k3 id
            · exact absurd k3 id
            · obtain ⟨s', g1, g2⟩ := k3
              exact ⟨_, _, rfl, rfl, rfl, s', g1, g2⟩
          · rw [if_neg h0]
            have e1 : f137_sorts_L58 (yn i) v2 (yn n) JB ((0 : Int32), B) = some (.inl (0, B)) := by
              unfold f137_sorts_L58
              dsimp only
              have e0 : (3 * (0 : Int32)).toInt64.toInt = 0 := by decide
              have hv2 : v2.toInt < 0 := by
                rw [Int32.not_le, Int32.lt_iff_toInt_lt] at h0
                exact h0
              have r2 := i32_rg v2
              have t0 : (0 : Int64).toInt = 0 := by decide
              rw [if_neg, if_pos]
              · rw [lg_neg, i64_lt, l_add (by rw [l_ofi, e0]; omega) (by rw [l_ofi, e0]; omega), l_ofi, e0]
                omega
              · show ¬ yn n ≤ yn 0
                rw [yn_le (by omega) (by omega)]
                omega
            rw [zloopR_succ (n := 4999), e1]
            exact done
        · rw [if_neg et, if_pos rfl, if_neg (fun z => et (hB3.mp z))]
          exact done
    · rw [if_neg hk, if_neg hk]; exact done
  · rw [if_neg hv, if_neg hv]; exact done
