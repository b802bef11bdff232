/-! WHO THERE IS OF A SORT: in the squares, outside, still due: never more than there were at first -/
def yV (A : yI) (f c : Nat) : Nat := (A f c).toNatClampNeg
theorem yV_yn {A : yI} {f c x : Nat} (h : A f c = yn x) (hx : x < 2147483648) : yV A f c = x := by
  unfold yV
  rw [h, yn_nat hx]
/-- the sum from T on, n of them -/
def yTl (d : Nat → Nat) : Nat → Nat → Nat
  | _, 0 => 0
  | T, n + 1 => d T + yTl d (T + 1) n
theorem yTl_le {d d' : Nat → Nat} : ∀ {n T : Nat}, (∀ t, T ≤ t → t < T + n → d' t ≤ d t) → yTl d' T n ≤ yTl d T n
  | 0, _, _ => Nat.le_refl _
  | n + 1, T, h => by
    have h1 := h T (Nat.le_refl _) (by omega)
    have h2 := yTl_le (d := d) (d' := d') (n := n) (T := T + 1) (fun t h1 h2 => h t (by omega) (by omega))
    show d' T + yTl d' (T + 1) n ≤ d T + yTl d (T + 1) n
    omega
theorem yTl_zero : ∀ {n T : Nat}, yTl (fun _ => 0) T n = 0
  | 0, _ => rfl
  | n + 1, T => by
    show 0 + yTl (fun _ => 0) (T + 1) n = 0
    rw [yTl_zero]
theorem yTl_add {d d' : Nat → Nat} {m z : Nat} : ∀ {n T : Nat}, (∀ t, T ≤ t → t < T + n → t ≠ m → d' t ≤ d t) → (T ≤ m → m < T + n → d' m ≤ d m + z) → yTl d' T n ≤ yTl d T n + z
  | 0, _, _, _ => Nat.zero_le _
  | n + 1, T, h, hm => by
    show d' T + yTl d' (T + 1) n ≤ d T + yTl d (T + 1) n + z
    by_cases e : T = m
    · have h1 := hm (by omega) (by omega)
      have h2 := yTl_le (d := d) (d' := d') (n := n) (T := T + 1) (fun t h1 h2 => h t (by omega) (by omega) (by omega))
      rw [← e] at h1
      omega
    · have h1 := h T (by omega) (by omega) e
      have h2 := yTl_add (d := d) (d' := d') (m := m) (z := z) (n := n) (T := T + 1) (fun t h1 h2 h3 => h t (by omega) (by omega) h3) (fun h1 h2 => hm (by omega) (by omega))
      omega
/-- a later beginning leaves no more -/
theorem yTl_late {d : Nat → Nat} {N : Nat} : ∀ {j T : Nat}, yTl d (T + j) (N - (T + j)) ≤ yTl d T (N - T)
  | 0, _ => Nat.le_refl _
  | j + 1, T => by
    have ih := yTl_late (d := d) (N := N) (j := j) (T := T + 1)
    have e : T + 1 + j = T + (j + 1) := by omega
    rw [e] at ih
    refine Nat.le_trans ih ?_
    by_cases h : T < N
    · obtain ⟨n, hn⟩ : ∃ n, N - T = n + 1 := ⟨N - T - 1, by omega⟩
      have hn' : N - (T + 1) = n := by omega
      rw [hn, hn']
      show _ ≤ d T + yTl d (T + 1) n
      omega
    · have h1 : N - (T + 1) = 0 := by omega
      rw [h1]
      exact Nat.zero_le _
/-- of a cell: there (f), outside (g), due from minute T on to S (h) -/
def yWt (A : yI) (f g h S T c : Nat) : Nat := yV A f c + yV A g c + yTl (fun t => yV A h (32 * t + c)) T (S + 1 - T)
/-- of each sort 200 at most -/
def yCo (A : yI) (f g h S : Nat) (T : Nat → Nat) : Prop := ∀ k, k < 8 → yWt A f g h S (T k) k + yWt A f g h S (T (8 + k)) (8 + k) + yWt A f g h S (T (16 + k)) (16 + k) + yWt A f g h S (T (24 + k)) (24 + k) ≤ 200
theorem yCo_le {A A' : yI} {f g h S : Nat} {T T' : Nat → Nat} (hw : ∀ c, c < 32 → yWt A' f g h S (T' c) c ≤ yWt A f g h S (T c) c) (H : yCo A f g h S T) : yCo A' f g h S T' := by
  intro k hk
  have h0 := hw k (by omega)
  have h1 := hw (8 + k) (by omega)
  have h2 := hw (16 + k) (by omega)
  have h3 := hw (24 + k) (by omega)
  have h4 := H k hk
  omega
theorem yCo_T {A : yI} {f g h S : Nat} {T T' : Nat → Nat} (hT : ∀ c, c < 32 → T c ≤ T' c) (H : yCo A f g h S T) : yCo A f g h S T' := by
  refine yCo_le (fun c hc => ?_) H
  have h1 := hT c hc
  have h2 := yTl_late (d := fun t => yV A h (32 * t + c)) (N := S + 1) (j := T' c - T c) (T := T c)
  have e : T c + (T' c - T c) = T' c := by omega
  rw [e] at h2
  unfold yWt
  omega
theorem yCo_T0 {A : yI} {f g h S t u : Nat} (H : yCo A f g h S (fun _ => t)) : yCo A f g h S (fun c => if c < u then t + 1 else t) := by
  refine yCo_T (T := fun _ => t) (fun c _ => ?_) H
  by_cases q : c < u
  · rw [if_pos q]; omega
  · rw [if_neg q]; exact Nat.le_refl _
theorem yCo_T1 {A : yI} {f g h S t u v : Nat} (huv : u ≤ v) (H : yCo A f g h S (fun c => if c < u then t + 1 else t)) : yCo A f g h S (fun c => if c < v then t + 1 else t) := by
  refine yCo_T (T := fun c => if c < u then t + 1 else t) (fun c _ => ?_) H
  by_cases q : c < u
  · rw [if_pos q, if_pos (by omega)]; exact Nat.le_refl _
  · rw [if_neg q]
    by_cases q2 : c < v
    · rw [if_pos q2]; omega
    · rw [if_neg q2]; exact Nat.le_refl _
theorem yCo_T2 {A : yI} {f g h S t u : Nat} (H : yCo A f g h S (fun c => if c < u then t + 1 else t)) : yCo A f g h S (fun _ => t + 1) := by
  refine yCo_T (T := fun c => if c < u then t + 1 else t) (fun c _ => ?_) H
  by_cases q : c < u
  · rw [if_pos q]; exact Nat.le_refl _
  · rw [if_neg q]; omega
theorem yCo_same {A A' : yI} {f g h S : Nat} {T : Nat → Nat} (hf : ∀ c, A' f c = A f c) (hg : ∀ c, A' g c = A g c) (hh : ∀ j, A' h j = A h j) (H : yCo A f g h S T) : yCo A' f g h S T := by
  refine yCo_le (fun c _ => Nat.le_of_eq ?_) H
  unfold yWt yV
  simp only [hf, hg, hh]
/-- those who are due come in, or wait outside -/
theorem yCo_arr {A A' : yI} {f g h S t e xx yy d n : Nat} {T T' : Nat → Nat} (ht : t ≤ S) (hT : ∀ c, c ≠ e → T' c = T c) (hT0 : T e = t) (hT1 : T' e = t + 1) (c1 : A f e = yn xx) (c3 : A g e = yn yy) (d1 : A h (32 * t + e) = yn d) (hn : n ≤ yy + d) (hb : xx + yy + d < 2147483648) (q28 : ∀ c, A' f c = if c = e then yn (xx + n) else A f c) (q29 : ∀ c, A' g c = if c = e then yn (yy + d - n) else A g c) (q32 : ∀ j, A' h j = A h j) (H : yCo A f g h S T) : yCo A' f g h S T' := by
  refine yCo_le (fun c _ => ?_) H
  by_cases ec : c = e
  · subst ec
    rw [hT0, hT1]
    obtain ⟨z, hz⟩ : ∃ z, S + 1 - t = z + 1 := ⟨S - t, by omega⟩
    have hz' : S + 1 - (t + 1) = z := by omega
    have e1 : yV A' f c = xx + n := yV_yn (by rw [q28, if_pos rfl]) (by omega)
    have e2 : yV A' g c = yy + d - n := yV_yn (by rw [q29, if_pos rfl]) (by omega)
    have e3 : yV A f c = xx := yV_yn c1 (by omega)
    have e4 : yV A g c = yy := yV_yn c3 (by omega)
    have e5 : yV A h (32 * t + c) = d := yV_yn d1 (by omega)
    have e6 : (fun t => yV A' h (32 * t + c)) = fun t => yV A h (32 * t + c) := funext fun t => by
      unfold yV
      rw [q32]
    unfold yWt
    rw [hz, hz', e6, e1, e2, e3, e4]
    show _ ≤ xx + yy + (yV A h (32 * t + c) + yTl (fun t => yV A h (32 * t + c)) (t + 1) z)
    rw [e5]
    omega
  · rw [hT c ec]
    refine Nat.le_of_eq ?_
    unfold yWt yV
    simp only [q28, q29, q32, if_neg ec]
theorem yCo_four {k k' i n : Nat} (hi : i < 4) (hk : k < 8) (hk' : k' < 8) : (if k' = 8 * i + k then n else 0) + (if 8 + k' = 8 * i + k then n else 0) + (if 16 + k' = 8 * i + k then n else 0) + (if 24 + k' = 8 * i + k then n else 0) = if k' = k then n else 0 := by
  by_cases e : k' = k
  · subst e
    rw [if_pos rfl]
    have hi4 : i = 0 ∨ i = 1 ∨ i = 2 ∨ i = 3 := by omega
    rcases hi4 with rfl | rfl | rfl | rfl
    · rw [if_pos (by omega), if_neg (by omega), if_neg (by omega), if_neg (by omega)]; omega
    · rw [if_neg (by omega), if_pos (by omega), if_neg (by omega), if_neg (by omega)]; omega
    · rw [if_neg (by omega), if_neg (by omega), if_pos (by omega), if_neg (by omega)]; omega
    · rw [if_neg (by omega), if_neg (by omega), if_neg (by omega), if_pos (by omega)]; omega
  · rw [if_neg e, if_neg (by omega), if_neg (by omega), if_neg (by omega), if_neg (by omega)]
/-- n of a sort set out -/
theorem yCo_go {A A' : yI} {f g h S i q k m n x D : Nat} {T : Nat → Nat} (hi : i < 4) (hq : q < 4) (hk : k < 8) (hx : x < 2147483648) (c1 : A f (8 * i + k) = yn x) (hn : n ≤ x) (hb : D + n < 2147483648) (hD : ∀ r, r < 32 * (S + 1) → ∃ d, d ≤ D ∧ A h r = yn d) (q28 : ∀ c, A' f c = if c = 8 * i + k then yn (x - n) else A f c) (q29 : ∀ c, A' g c = A g c) (q32 : ∀ r, r < 32 * (S + 1) → A' h r = if r = 32 * m + (8 * q + k) then A h r + yn n else A h r) (H : yCo A f g h S T) : yCo A' f g h S T := by
  have key : ∀ c, c < 32 → yWt A' f g h S (T c) c + (if c = 8 * i + k then n else 0) ≤ yWt A f g h S (T c) c + (if c = 8 * q + k then n else 0) := by
    intro c hc
    have e1 : yV A' f c + (if c = 8 * i + k then n else 0) = yV A f c := by
      by_cases ec : c = 8 * i + k
      · rw [if_pos ec, yV_yn (x := x - n) (by rw [q28, if_pos ec]) (by omega), yV_yn (A := A) (x := x) (by rw [ec]; exact c1) hx]
        omega
      · rw [if_neg ec]
        unfold yV
        rw [q28, if_neg ec]
        rfl
    have e2 : yV A' g c = yV A g c := by
      unfold yV
      rw [q29]
    have e3 : yTl (fun t => yV A' h (32 * t + c)) (T c) (S + 1 - T c) ≤ yTl (fun t => yV A h (32 * t + c)) (T c) (S + 1 - T c) + (if c = 8 * q + k then n else 0) := by
      by_cases ec : c = 8 * q + k
      · rw [if_pos ec]
        refine yTl_add (m := m) (fun t h1 h2 hne => ?_) (fun h1 h2 => ?_)
        · unfold yV
          rw [q32 _ (by omega), if_neg (by omega)]
          exact Nat.le_refl _
        · obtain ⟨d, hd, ed⟩ := hD (32 * m + c) (by omega)
          rw [yV_yn (A := A') (x := d + n) (by rw [q32 _ (by omega), if_pos (by omega), ed, yn_add]) (by omega), yV_yn ed (by omega)]
          exact Nat.le_refl _
      · rw [if_neg ec]
        refine yTl_le (fun t h1 h2 => ?_)
        unfold yV
        rw [q32 _ (by omega), if_neg (by omega)]
        exact Nat.le_refl _
    unfold yWt
    omega
  intro k' hk'
  have h0 := key k' (by omega)
  have h1 := key (8 + k') (by omega)
  have h2 := key (16 + k') (by omega)
  have h3 := key (24 + k') (by omega)
  have h4 := H k' hk'
  have h5 := yCo_four (n := n) hi hk hk'
  have h6 := yCo_four (n := n) hq hk hk'
  generalize (if k' = 8 * i + k then n else 0) = a0 at *
  generalize (if 8 + k' = 8 * i + k then n else 0) = a1 at *
  generalize (if 16 + k' = 8 * i + k then n else 0) = a2 at *
  generalize (if 24 + k' = 8 * i + k then n else 0) = a3 at *
  generalize (if k' = 8 * q + k then n else 0) = b0 at *
  generalize (if 8 + k' = 8 * q + k then n else 0) = b1 at *
  generalize (if 16 + k' = 8 * q + k then n else 0) = b2 at *
  generalize (if 24 + k' = 8 * q + k then n else 0) = b3 at *
  generalize (if k' = k then n else 0) = a4 at *
  omega
theorem yCo_200 {A : yI} {f g h S c : Nat} {T : Nat → Nat} (H : yCo A f g h S T) (hc : c < 32) : yV A f c ≤ 200 := by
  have h1 := H (c % 8) (by omega)
  have hc4 : c = c % 8 ∨ c = 8 + c % 8 ∨ c = 16 + c % 8 ∨ c = 24 + c % 8 := by omega
  unfold yWt at h1
  rcases hc4 with e | e | e | e
  · rw [e]; omega
  · rw [e]; omega
  · rw [e]; omega
  · rw [e]; omega
theorem yCo_start {A : yI} {f g h S s : Nat} {hm mn : Nat → Int32} (g0 : ∀ c, c < 32 → A g c = 0) (h0 : ∀ j, j < 32 * (S + 1) → A h j = 0) (f0 : ∀ i k, i < 4 → k < 8 → A f (8 * i + k) = if k < s ∧ hm k = yn i then mn k else 0) (m2 : ∀ k, k < s → ∃ m, m ≤ 200 ∧ mn k = yn m) : yCo A f g h S (fun _ => 0) := by
  intro k hk
  dsimp only
  have wt : ∀ c, c < 32 → yWt A f g h S 0 c = yV A f c := by
    intro c hc
    have e1 : yV A g c = 0 := yV_yn (x := 0) (g0 _ hc) (by omega)
    have e2 : yTl (fun t => yV A h (32 * t + c)) 0 (S + 1 - 0) ≤ yTl (fun _ => 0) 0 (S + 1 - 0) := yTl_le fun t _ ht => by
      rw [yV_yn (x := 0) (h0 _ (by omega)) (by omega)]
      exact Nat.le_refl _
    rw [yTl_zero] at e2
    unfold yWt
    omega
  rw [wt k (by omega), wt (8 + k) (by omega), wt (16 + k) (by omega), wt (24 + k) (by omega)]
  have f00 := f0 0 k (by omega) hk
  have f01 := f0 1 k (by omega) hk
  have f02 := f0 2 k (by omega) hk
  have f03 := f0 3 k (by omega) hk
  have z0 : 8 * 0 + k = k := by omega
  have z1 : 8 * 1 + k = 8 + k := by omega
  have z2 : 8 * 2 + k = 16 + k := by omega
  have z3 : 8 * 3 + k = 24 + k := by omega
  rw [z0] at f00
  rw [z1] at f01
  rw [z2] at f02
  rw [z3] at f03
  have no : ∀ {c : Nat} {i : Nat}, A f c = (if k < s ∧ hm k = yn i then mn k else 0) → ¬ (k < s ∧ hm k = yn i) → yV A f c = 0 := by
    intro c i h1 h2
    rw [if_neg h2] at h1
    exact yV_yn (x := 0) h1 (by omega)
  by_cases ks : k < s
  · obtain ⟨m, hm2, em⟩ := m2 k ks
    have some : ∀ {c : Nat} {i : Nat}, A f c = (if k < s ∧ hm k = yn i then mn k else 0) → yV A f c ≤ 200 := by
      intro c i h1
      by_cases h2 : k < s ∧ hm k = yn i
      · rw [if_pos h2, em] at h1
        rw [yV_yn h1 (by omega)]
        exact hm2
      · rw [no h1 h2]
        omega
    have other : ∀ {i j : Nat}, i < 4 → j < 4 → i ≠ j → hm k = yn i → ¬ (k < s ∧ hm k = yn j) := by
      rintro i j hi hj hne e ⟨-, e2⟩
      rw [e, yn_inj (by omega) (by omega)] at e2
      exact hne e2
    by_cases e0 : hm k = yn 0
    · have v := some f00
      have v1 := no f01 (other (by omega) (by omega) (by omega) e0)
      have v2 := no f02 (other (by omega) (by omega) (by omega) e0)
      have v3 := no f03 (other (by omega) (by omega) (by omega) e0)
      omega
    · have v0 := no f00 (fun z => e0 z.2)
      by_cases e1 : hm k = yn 1
      · have v := some f01
        have v2 := no f02 (other (by omega) (by omega) (by omega) e1)
        have v3 := no f03 (other (by omega) (by omega) (by omega) e1)
        omega
      · have v1 := no f01 (fun z => e1 z.2)
        by_cases e2 : hm k = yn 2
        · have v := some f02
          have v3 := no f03 (other (by omega) (by omega) (by omega) e2)
          omega
        · have v2 := no f02 (fun z => e2 z.2)
          have v := some f03
          omega
  · have v0 := no f00 (fun z => ks z.1)
    have v1 := no f01 (fun z => ks z.1)
    have v2 := no f02 (fun z => ks z.1)
    have v3 := no f03 (fun z => ks z.1)
    omega
