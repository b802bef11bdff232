/-! CHANGES: MEND, UNDO, REDO -/
/-- a value for MANY of a sort (t 0) or HOLDS of a square (t 1) -/
def yMv (a s : Nat) (n t v : Int32) : Prop := (t = 0 ∧ yIs s n ∧ yq v 0 200) ∨ (t = 1 ∧ yIs a n ∧ yq v 0 999)
def yChg (a s d u : Nat) (A B : yI) : Prop := (d + u ≤ 40 ∧ A 52 5 = yn d ∧ A 52 4 = yn (d + u) ∧ B 73 32 = yn d ∧ B 73 33 = yn u) ∧ ∀ i, i < d + u → (yMv a s (A 53 i) (A 54 i) (A 55 i) ∧ yMv a s (A 53 i) (A 54 i) (A 56 i)) ∧ B 93 i = A 54 i ∧ B 94 i = A 53 i ∧ B 95 i = A 55 i ∧ B 96 i = A 56 i
def kCA : List Nat := [5204, 5205, 5399, 5499, 5599, 5699]
def kCB : List Nat := [7332, 7333, 9399, 9499, 9599, 9699]
theorem yChg_ag {a s d u : Nat} {A B A' B' : yI} (hA : yag kCA A A') (hB : yag kCB B B') (h : yChg a s d u A B) : yChg a s d u A' B' := by
  have f1 : A' 52 4 = A 52 4 := hA 52 4 rfl
  have f2 : A' 52 5 = A 52 5 := hA 52 5 rfl
  have g1 : ∀ i, A' 53 i = A 53 i := fun i => hA 53 i rfl
  have g2 : ∀ i, A' 54 i = A 54 i := fun i => hA 54 i rfl
  have g3 : ∀ i, A' 55 i = A 55 i := fun i => hA 55 i rfl
  have g4 : ∀ i, A' 56 i = A 56 i := fun i => hA 56 i rfl
  have e1 : B' 73 32 = B 73 32 := hB 73 32 rfl
  have e2 : B' 73 33 = B 73 33 := hB 73 33 rfl
  have d1 : ∀ i, B' 93 i = B 93 i := fun i => hB 93 i rfl
  have d2 : ∀ i, B' 94 i = B 94 i := fun i => hB 94 i rfl
  have d3 : ∀ i, B' 95 i = B 95 i := fun i => hB 95 i rfl
  have d4 : ∀ i, B' 96 i = B 96 i := fun i => hB 96 i rfl
  unfold yChg at *
  simp only [f1, f2, g1, g2, g3, g4, e1, e2, d1, d2, d3, d4]
  exact h
theorem yMv_mono {a s a' s' : Nat} {n t v : Int32} (ha : a ≤ a') (hs : s ≤ s') (h : yMv a s n t v) : yMv a' s' n t v := by
  rcases h with ⟨h1, ⟨i, hi, h2⟩, h3⟩ | ⟨h1, ⟨i, hi, h2⟩, h3⟩
  · exact Or.inl ⟨h1, ⟨i, by omega, h2⟩, h3⟩
  · exact Or.inr ⟨h1, ⟨i, by omega, h2⟩, h3⟩
theorem yChg_mono {a s a' s' d u : Nat} {A B : yI} (ha : a ≤ a') (hs : s ≤ s') (h : yChg a s d u A B) : yChg a' s' d u A B :=
  ⟨h.1, fun i hi => ⟨⟨yMv_mono ha hs (h.2 i hi).1.1, yMv_mono ha hs (h.2 i hi).1.2⟩, (h.2 i hi).2⟩⟩
/-- a value is put in its place -/
theorem mended {a w s : Nat} {A B : yI} (hT : yTown a w s A B) {n t v : Int32} (h : yMv a s n t v) : ∃ o A' B', f69_mended n t v A = some (o, A') ∧ f159_valueAt t n B = some o ∧ f160_lays t n v B = some B' ∧ yMv a s n t o ∧ yTown a w s A' B' ∧ (o = v → A' = A ∧ B' = B) := by
  obtain ⟨⟨⟨ha, hw, hs⟩, ⟨a1, a2, a3⟩, ⟨b1, b2, b3⟩⟩, hSet, hSq, hWy, hSo⟩ := hT
  have same : ∀ (I : yI) (k j : Nat), zu I k j (I k j) = I := by
    intro I k j
    funext b c
    rw [zu_at]
    by_cases h : b = k ∧ c = j
    · rw [if_pos h, h.1, h.2]
    · rw [if_neg h]
  rcases h with ⟨rfl, ⟨i, hi, rfl⟩, hv⟩ | ⟨rfl, ⟨i, hi, rfl⟩, hv⟩
  · unfold f69_mended f159_valueAt f160_lays
    rw [if_pos rfl, if_pos rfl, if_pos rfl, zin_yn (by omega) (by omega), yn_nat (by omega)]
    obtain ⟨⟨r1, r2⟩, r3⟩ := hSo i hi
    rw [r2]
    refine ⟨_, _, _, rfl, rfl, rfl, Or.inl ⟨rfl, ⟨i, hi, rfl⟩, r1⟩, ⟨⟨⟨ha, hw, hs⟩, ?_, ?_⟩, ?_, ?_, ?_, ?_⟩, ?_⟩
    · simp [zu_at, a1, a2, a3]
    · simp [zu_at, b1, b2, b3]
    · simpa [ySet, zu_at] using hSet
    · intro j hj; simpa [zu_at] using hSq j hj
    · intro j hj; simp only [zu_at]; simpa using hWy j hj
    · intro j hj
      by_cases e : j = i
      · subst e
        obtain ⟨-, r4⟩ := hSo j hj
        simpa [zu_at, hv] using r4
      · simpa [zu_at, e] using hSo j hj
    · intro e
      rw [← e]
      exact ⟨same A 8 i, by rw [← r2]; exact same B 80 i⟩
  · unfold f69_mended f159_valueAt f160_lays
    have e1 : ¬ (1 : Int32) = 0 := by decide
    rw [if_neg e1, if_neg e1, if_neg e1, zin_yn (by omega) (by omega), yn_nat (by omega)]
    obtain ⟨⟨r1, r2⟩, r3⟩ := hSq i hi
    rw [r2]
    refine ⟨_, _, _, rfl, rfl, rfl, Or.inr ⟨rfl, ⟨i, hi, rfl⟩, r1⟩, ⟨⟨⟨ha, hw, hs⟩, ?_, ?_⟩, ?_, ?_, ?_, ?_⟩, ?_⟩
    · simp [zu_at, a1, a2, a3]
    · simp [zu_at, b1, b2, b3]
    · simpa [ySet, zu_at] using hSet
    · intro j hj
      by_cases e : j = i
      · subst e
        simpa [zu_at, hv] using r3
      · simpa [zu_at, e] using hSq j hj
    · intro j hj; simp only [zu_at]; simpa using hWy j hj
    · intro j hj; simpa [zu_at] using hSo j hj
    · intro e
      rw [← e]
      exact ⟨same A 2 i, by rw [← r2]; exact same B 74 i⟩
def ysh (d : Nat) : Nat := if d = 40 then 1 else 0
theorem f13_P {d : Nat} {A : yI} (hd : d ≤ 40) (h5 : A 52 5 = yn d) (n t o v : Int32) : yP (f13_add n t o v A) (fun A' => A' 52 5 = yn (d - ysh d + 1) ∧ A' 52 4 = yn (d - ysh d + 1) ∧ ∀ i, i ≤ d - ysh d → A' 53 i = (if i = d - ysh d then n else A 53 (i + ysh d)) ∧ A' 54 i = (if i = d - ysh d then t else A 54 (i + ysh d)) ∧ A' 55 i = (if i = d - ysh d then o else A 55 (i + ysh d)) ∧ A' 56 i = (if i = d - ysh d then v else A 56 (i + ysh d))) := by
  unfold f13_add ysh
  by_cases e : d = 40
  · subst e
    have h40 : A 52 5 = 40 := h5
    rw [if_pos h40]
    have hz : zcpok 1 0 39 40 40 = true := by decide
    have k1 : (1 : Int32).toNatClampNeg = 1 := by decide
    have k0 : (0 : Int32).toNatClampNeg = 0 := by decide
    have k39 : (39 : Int32).toNatClampNeg = 39 := by decide
    have h39 : (40 : Int32) - 1 = yn 39 := by decide
    unfold f14_forgetFirst
    rw [hz]
    simp only [cond_true, ob]
    have g : (zu (zcp (zcp (zcp (zcp A 53 53 1 0 39) 54 54 1 0 39) 55 55 1 0 39) 56 56 1 0 39) 52 5 ((A 52 5) - 1)) 52 5 = yn 39 := by
      rw [zu_same, h40, h39]
    rw [g, zin_yn (by omega) (by omega), yn_nat (by omega), yn_succ]
    refine yP_some ⟨?_, ?_, ?_⟩
    · simp [zu_at]
    · simp [zu_at]
    · intro i hi
      simp only [if_pos] at hi ⊢
      by_cases ei : i = 39
      · subst ei
        simp [zu_at, zcp_at]
      · have : i < 39 := by omega
        simp [zu_at, zcp_at, ei, k1, k0, k39, this, Nat.add_comm]
  · have h40 : ¬ A 52 5 = 40 := by
      rw [h5]
      show ¬ yn d = yn 40
      rw [yn_inj (by omega) (by omega)]; exact e
    rw [if_neg h40, h5, zin_yn (by omega) (by omega), yn_nat (by omega), yn_succ]
    refine yP_some ⟨?_, ?_, ?_⟩
    · simp [zu_at, e]
    · simp [zu_at, e]
    · intro i hi
      simp only [if_neg e] at hi ⊢
      by_cases ei : i = d
      · subst ei
        simp [zu_at]
      · simp [zu_at, ei]
theorem f161_L {B : yI} (v1 v2 v3 v4 : Int32) : yP (zloop (f161_changes_L34 v1 v2 v3 v4) 5000 ((1 : Int32), B)) (fun x => ∀ i, i < 39 → x.2 93 i = B 93 (i + 1) ∧ x.2 94 i = B 94 (i + 1) ∧ x.2 95 i = B 95 (i + 1) ∧ x.2 96 i = B 96 (i + 1)) := by
  refine yP_for 40 (fun k s => s.1 = yn k ∧ 1 ≤ k ∧ ∀ i, s.2 93 i = B 93 (if i + 1 < k then i + 1 else i) ∧ s.2 94 i = B 94 (if i + 1 < k then i + 1 else i) ∧ s.2 95 i = B 95 (if i + 1 < k then i + 1 else i) ∧ s.2 96 i = B 96 (if i + 1 < k then i + 1 else i)) (k := 1) ⟨rfl, by omega, fun i => ?_⟩ (by omega) (by omega) ?_ ?_
  · have : ¬ i + 1 < 1 := by omega
    simp [this]
  · rintro k s hk ⟨e, hk1, h⟩
    unfold f161_changes_L34
    have e40 : ¬ (40 : Int32) ≤ yn k := by
      show ¬ yn 40 ≤ yn k
      rw [yn_le (by omega) (by omega)]; omega
    have em : yn k - 1 = yn (k - 1) := yn_sub (b := 1) (by omega)
    rw [e, if_neg e40, em, zin_yn (by omega) (by omega), zin_yn (by omega) (by omega), yn_nat (by omega), yn_nat (by omega), yn_succ]
    refine yP_some ⟨rfl, by omega, fun i => ?_⟩
    obtain ⟨g1, g2, g3, g4⟩ := h i
    obtain ⟨f1, f2, f3, f4⟩ := h k
    have nk : ¬ k + 1 < k := by omega
    rw [if_neg nk] at f1 f2 f3 f4
    simp only [zu_at]
    by_cases ei : i = k - 1
    · subst ei
      have e1 : k - 1 + 1 < k + 1 := by omega
      have e2 : k - 1 + 1 = k := by omega
      simp [f1, f2, f3, f4, e2]
    · by_cases h1 : i + 1 < k
      · have h2 : i < k := by omega
        simp [ei, g1, g2, g3, g4, h1, h2]
      · have h2 : ¬ i < k := by omega
        simp [ei, g1, g2, g3, g4, h1, h2]
  · rintro s ⟨e, hk1, h⟩
    unfold f161_changes_L34
    rw [e]
    refine yP_pos (Int32.le_refl _) (yP_some ?_)
    intro i hi
    have h1 : i + 1 < 40 := by omega
    simpa [h1] using h i
theorem yfr_of {α : Type} {o : Option α} {x : α} {W : List Nat} {A : yI} {m : α → yI} (hf : yF o (fun x => yfr W A (m x))) (h : o = some x) : yfr W A (m x) := hf x h
theorem yfr2 {α : Type} {o : Option (α × yI)} {r : α} {A' : yI} {W : List Nat} {A : yI} (hf : yF o (fun x => yfr W A x.2)) (h : o = some (r, A')) : yfr W A A' := hf _ h
theorem mendCore {a w s d u : Nat} {A B : yI} (hT : yTown a w s A B) (hC : yChg a s d u A B) {n t v : Int32} (h : yMv a s n t v) : ∃ o A' A'' B', f69_mended n t v A = some (o, A') ∧ (o = v → A' = A ∧ f161_changes t n v B = some (o, B)) ∧ (o ≠ v → f13_add n t o v A' = some A'' ∧ f161_changes t n v B = some (o, B') ∧ yTown a w s A'' B' ∧ ∃ d', yChg a s d' 0 A'' B') := by
  obtain ⟨⟨hdu, c1, c2, c3, c4⟩, hc⟩ := hC
  obtain ⟨o, A', B0, m1, m2, -, m4, -, m6⟩ := mended hT h
  by_cases e : o = v
  · refine ⟨o, A', A, B, m1, fun _ => ⟨(m6 e).1, ?_⟩, fun q => absurd e q⟩
    unfold f161_changes
    rw [m2, ob, if_pos e]
  · have fA := yfr2 (fr_f69_mended n t v A) m1
    have hd40 : d ≤ 40 := by omega
    have c1' : A' 52 5 = yn d := by rw [fA 52 5 rfl]; exact c1
    obtain ⟨A'', n1, n2, n3, n4⟩ := f13_P hd40 c1' n t o v
    have fA2 := yfr_of (m := fun x => x) (fr_f13_add n t o v A') n1
    have arr : ∀ i, A' 53 i = A 53 i ∧ A' 54 i = A 54 i ∧ A' 55 i = A 55 i ∧ A' 56 i = A 56 i := fun i => ⟨fA 53 i rfl, fA 54 i rfl, fA 55 i rfl, fA 56 i rfl⟩
    -- the reference
    have hB : ∃ Bs, yag kTB B Bs ∧ (Bs 73 32 = yn (d - ysh d + 1) ∧ Bs 73 33 = 0 ∧ ∀ i, i ≤ d - ysh d → Bs 93 i = (if i = d - ysh d then t else B 93 (i + ysh d)) ∧ Bs 94 i = (if i = d - ysh d then n else B 94 (i + ysh d)) ∧ Bs 95 i = (if i = d - ysh d then o else B 95 (i + ysh d)) ∧ Bs 96 i = (if i = d - ysh d then v else B 96 (i + ysh d))) ∧ ∀ B', f160_lays t n v Bs = some B' → f161_changes t n v B = some (o, B') := by
      unfold ysh
      by_cases e4 : d = 40
      · subst e4
        obtain ⟨⟨sk, sB⟩, l1, l2⟩ := f161_L (B := zu B 73 33 0) t n v o
        dsimp only at l2
        have fs := (frl_f161_changes_L34 t n v o 5000 _) _ l1
        have fs : yfr w_f161_changes_L34 (zu B 73 33 0) sB := fs
        have s32 : sB 73 32 = 40 := by rw [fs 73 32 rfl, zu_nej (by decide)]; exact c3
        have s33 : sB 73 33 = 0 := by rw [fs 73 33 rfl, zu_same]
        have h39 : (40 : Int32) - 1 = yn 39 := by decide
        refine ⟨zu (zu (zu (zu (zu (zu sB 73 32 (yn 39)) 93 39 t) 94 39 n) 95 39 o) 96 39 v) 73 32 (yn 40), ?_, ⟨?_, ?_, ?_⟩, ?_⟩
        · intro b k hk
          have z : zu B 73 33 0 b k = B b k := by
            rw [zu_at, if_neg]
            rintro ⟨rfl, rfl⟩
            cases hk
          rw [← z, ← fs b k (ydis_mem rfl hk)]
          simp only [zu_at]
          have k1 : ¬ (b = 73 ∧ k = 32) := by rintro ⟨rfl, rfl⟩; cases hk
          have k2 : ¬ (b = 96 ∧ k = 39) := by rintro ⟨rfl, rfl⟩; cases hk
          have k3 : ¬ (b = 95 ∧ k = 39) := by rintro ⟨rfl, rfl⟩; cases hk
          have k4 : ¬ (b = 94 ∧ k = 39) := by rintro ⟨rfl, rfl⟩; cases hk
          have k5 : ¬ (b = 93 ∧ k = 39) := by rintro ⟨rfl, rfl⟩; cases hk
          rw [if_neg k1, if_neg k2, if_neg k3, if_neg k4, if_neg k5, if_neg k1]
        · simp [zu_at]
        · simp [zu_at, s33]
        · intro i hi
          simp only [if_pos] at hi ⊢
          by_cases ei : i = 39
          · subst ei
            simp [zu_at]
          · obtain ⟨g1, g2, g3, g4⟩ := l2 i (by omega)
            have z : ∀ b j, b ≠ 73 → zu B 73 33 0 b j = B b j := fun b j hb => zu_ne hb
            rw [z _ _ (by decide)] at g1 g2 g3 g4
            simp [zu_at, ei, g1, g2, g3, g4]
        · intro B' hB'
          unfold f161_changes
          have c3' : B 73 32 = 40 := c3
          rw [m2, ob, if_neg e, if_pos c3', l1, ob]
          dsimp only
          rw [s32, h39, zin_yn (by omega) (by omega), yn_nat (by omega)]
          simp only [cond_true]
          rw [yn_succ, hB']
          rfl
      · have e40 : ¬ B 73 32 = 40 := by
          rw [c3]
          show ¬ yn d = yn 40
          rw [yn_inj (by omega) (by omega)]; exact e4
        refine ⟨zu (zu (zu (zu (zu (zu B 73 33 0) 93 d t) 94 d n) 95 d o) 96 d v) 73 32 (yn (d + 1)), ?_, ⟨?_, ?_, ?_⟩, ?_⟩
        · intro b k hk
          simp only [zu_at]
          have k0 : ¬ (b = 73 ∧ k = 33) := by rintro ⟨rfl, rfl⟩; cases hk
          have k1 : ¬ (b = 73 ∧ k = 32) := by rintro ⟨rfl, rfl⟩; cases hk
          have k2 : ¬ (b = 96 ∧ k = d) := by rintro ⟨rfl, rfl⟩; cases hk
          have k3 : ¬ (b = 95 ∧ k = d) := by rintro ⟨rfl, rfl⟩; cases hk
          have k4 : ¬ (b = 94 ∧ k = d) := by rintro ⟨rfl, rfl⟩; cases hk
          have k5 : ¬ (b = 93 ∧ k = d) := by rintro ⟨rfl, rfl⟩; cases hk
          rw [if_neg k1, if_neg k2, if_neg k3, if_neg k4, if_neg k5, if_neg k0]
        · simp [zu_at, e4]
        · simp [zu_at]
        · intro i hi
          simp only [if_neg e4] at hi ⊢
          by_cases ei : i = d
          · subst ei
            simp [zu_at]
          · simp [zu_at, ei]
        · intro B' hB'
          unfold f161_changes
          rw [m2, ob, if_neg e, if_neg e40, c3, zin_yn (by omega) (by omega), yn_nat (by omega)]
          simp only [cond_true]
          rw [yn_succ, hB']
          rfl
    obtain ⟨Bs, r1, ⟨r2, r3, r4⟩, r5⟩ := hB
    obtain ⟨o', A2, B', p1, -, p3, -, p5, -⟩ := mended (yTown_ag (yag_refl _) r1 hT) h
    rw [m1] at p1
    obtain ⟨rfl, rfl⟩ := Prod.mk.inj (Option.some.inj p1)
    have fB := yfr_of (m := fun x => x) (fr_f160_lays t n v Bs) p3
    refine ⟨o, A', A'', B', m1, fun q => absurd q e, fun _ => ⟨n1, r5 B' p3, yTown_ag (yag_fr rfl fA2) (yag_refl _) p5, d - ysh d + 1, ?_⟩⟩
    have hsh : d - ysh d < 40 := by unfold ysh; split <;> omega
    have hsh2 : ∀ i, i < d - ysh d → i + ysh d < d + u := by
      intro i hi
      omega
    refine ⟨⟨by omega, n2, n3, by rw [fB 73 32 rfl]; exact r2, by rw [fB 73 33 rfl]; exact r3⟩, fun i hi => ?_⟩
    have hi : i ≤ d - ysh d := by omega
    obtain ⟨x1, x2, x3, x4⟩ := n4 i hi
    obtain ⟨y1, y2, y3, y4⟩ := r4 i hi
    rw [fB 93 i rfl, fB 94 i rfl, fB 95 i rfl, fB 96 i rfl, x1, x2, x3, x4, y1, y2, y3, y4]
    by_cases ei : i = d - ysh d
    · simp only [if_pos ei]
      exact ⟨⟨m4, h⟩, trivial, trivial, trivial, trivial⟩
    · simp only [if_neg ei]
      rw [(arr _).1, (arr _).2.1, (arr _).2.2.1, (arr _).2.2.2]
      exact hc _ (hsh2 i (by omega))
theorem c_mend {a w s d u : Nat} {A B : yI} (hT : yTown a w s A B) (hC : yChg a s d u A B) (v1 v2 v3 : Int32) : y2 (f94_mend v1 v2 v3 A) (f164_mend v1 v2 v3 B) (fun x y => x.1 = y.1 ∧ yTown a w s x.2 y.2 ∧ ∃ d' u', yChg a s d' u' x.2 y.2) := by
  have hT0 := hT
  obtain ⟨⟨⟨ha, hw, hs⟩, ⟨a1, a2, a3⟩, ⟨b1, b2, b3⟩⟩, -⟩ := hT
  have done : ∀ {r : Int32}, y2 (some (r, A)) (some (r, B)) (fun x y => x.1 = y.1 ∧ yTown a w s x.2 y.2 ∧ ∃ d' u', yChg a s d' u' x.2 y.2) := ⟨_, _, rfl, rfl, rfl, hT0, d, u, hC⟩
  have n10 : ¬ (1 : Int32) = 0 := by decide
  have n01 : ¬ (0 : Int32) = 1 := by decide
  unfold f94_mend f164_mend
  simp only [f61_e a1 ha, f130_e b1 ha, f62_e a3 hs, f131_e b3 hs, f126_e, f129_e, ob, yb_ite0]
  by_cases h0 : v2 = 0
  · subst h0
    simp only [if_neg n01, if_true]
    by_cases h1 : yIs s v1
    · rw [if_pos h1, if_pos h1]
      by_cases h2 : 0 ≤ v3 ∧ v3 ≤ 200
      · rw [if_pos h2, if_pos h2]
        obtain ⟨o, A', A'', B', m1, m2, m3⟩ := mendCore hT0 hC (n := v1) (t := 0) (v := v3) (Or.inl ⟨rfl, h1, yq_of (by omega) (by omega) h2.1 h2.2⟩)
        rw [m1]
        simp only [ob]
        by_cases e : o = v3
        · have m2 := m2 e
          rw [if_pos e, m2.2, m2.1]
          exact done
        · obtain ⟨m3, m4, m5, d', m6⟩ := m3 e
          rw [if_neg e, m3, m4]
          exact ⟨_, _, rfl, rfl, rfl, m5, d', 0, m6⟩
      · rw [if_neg h2, if_neg h2]
        exact done
    · rw [if_neg h1, if_neg h1]
      exact done
  · rw [if_neg h0, if_neg h0]
    by_cases h4 : v2 = 1
    · subst h4
      rw [if_pos rfl, if_pos rfl]
      by_cases h1 : yIs a v1
      · rw [if_pos h1, if_pos h1]
        by_cases h2 : 0 ≤ v3 ∧ v3 ≤ 999
        · rw [if_pos h2, if_pos h2]
          obtain ⟨o, A', A'', B', m1, m2, m3⟩ := mendCore hT0 hC (n := v1) (t := 1) (v := v3) (Or.inr ⟨rfl, h1, yq_of (by omega) (by omega) h2.1 h2.2⟩)
          rw [m1]
          simp only [ob]
          by_cases e : o = v3
          · have m2 := m2 e
            rw [if_pos e, m2.2, m2.1]
            exact done
          · obtain ⟨m3, m4, m5, d', m6⟩ := m3 e
            rw [if_neg e, m3, m4]
            exact ⟨_, _, rfl, rfl, rfl, m5, d', 0, m6⟩
        · rw [if_neg h2, if_neg h2]
          exact done
      · rw [if_neg h1, if_neg h1]
        exact done
    · rw [if_neg h4, if_neg h4]
      exact done
theorem c_undo {a w s d u : Nat} {A B : yI} (hT : yTown a w s A B) (hC : yChg a s d u A B) : y2 (f113_undo A) (f162_undo B) (fun x y => x.1 = y.1 ∧ yTown a w s x.2 y.2 ∧ ∃ d' u', yChg a s d' u' x.2 y.2) := by
  have hC0 := hC
  obtain ⟨⟨hdu, c1, c2, c3, c4⟩, hc⟩ := hC
  unfold f113_undo f15_back f162_undo
  rw [c1, c3, c4]
  cases d with
  | zero => exact ⟨_, _, rfl, rfl, rfl, hT, 0, u, hC0⟩
  | succ d =>
    have e0 : ¬ yn (d + 1) = 0 := by
      show ¬ yn (d + 1) = yn 0
      rw [yn_inj (by omega) (by omega)]; omega
    have em : yn (d + 1) - 1 = yn d := yn_sub (a := d + 1) (b := 1) (by omega)
    rw [if_neg e0, if_neg e0, em, zin_yn (by omega) (by omega), yn_nat (by omega), yn_succ]
    simp only [cond_true]
    obtain ⟨⟨h1, h2⟩, r1, r2, r3, r4⟩ := hc d (by omega)
    rw [r1, r2, r3]
    have hT' : yTown a w s (zu A 52 5 (yn d)) (zu (zu B 73 32 (yn d)) 73 33 (yn (u + 1))) := by
      refine yTown_ag ?_ ?_ hT
      · exact yag_fr (W := [5205]) rfl (yfr_zu rfl (yfr_refl _))
      · exact yag_fr (W := [7332, 7333]) rfl (yfr_zu rfl (yfr_zu rfl (yfr_refl _)))
    obtain ⟨o, A', B', m1, -, m3, -, m5, -⟩ := mended hT' h1
    have fA := yfr2 (fr_f69_mended _ _ _ _) m1
    have fB := yfr_of (m := fun x => x) (fr_f160_lays _ _ _ _) m3
    rw [m1, m3]
    simp only [ob]
    have z1 : A' 52 5 = yn d := by rw [fA 52 5 rfl, zu_same]
    have z2 : A' 52 4 = yn (d + 1 + u) := by rw [fA 52 4 rfl, zu_nej (by decide)]; exact c2
    have z3 : B' 73 32 = yn d := by rw [fB 73 32 rfl, zu_nej (by decide), zu_same]
    have z4 : B' 73 33 = yn (u + 1) := by rw [fB 73 33 rfl, zu_same]
    refine ⟨_, _, rfl, rfl, ?_⟩
    dsimp only
    refine ⟨by rw [z1, z3], m5, d, u + 1, ⟨⟨by omega, z1, by rw [z2]; congr 1; omega, z3, z4⟩, fun i hi => ?_⟩⟩
    rw [fA 53 i rfl, fA 54 i rfl, fA 55 i rfl, fA 56 i rfl, fB 93 i rfl, fB 94 i rfl, fB 95 i rfl, fB 96 i rfl]
    simpa [zu_at] using hc i (by omega)
theorem c_redo {a w s d u : Nat} {A B : yI} (hT : yTown a w s A B) (hC : yChg a s d u A B) : y2 (f114_redo A) (f163_redo B) (fun x y => x.1 = y.1 ∧ yTown a w s x.2 y.2 ∧ ∃ d' u', yChg a s d' u' x.2 y.2) := by
  have hC0 := hC
  obtain ⟨⟨hdu, c1, c2, c3, c4⟩, hc⟩ := hC
  unfold f114_redo f16_again f163_redo
  rw [c1, c2, c3, c4]
  cases u with
  | zero => exact ⟨(-5, A), (-5, B), by rw [Nat.add_zero, if_pos rfl]; rfl, rfl, rfl, hT, d, 0, hC0⟩
  | succ u =>
    have e0 : ¬ yn (u + 1) = 0 := by
      show ¬ yn (u + 1) = yn 0
      rw [yn_inj (by omega) (by omega)]; omega
    have e1 : ¬ yn d = yn (d + (u + 1)) := by
      rw [yn_inj (by omega) (by omega)]; omega
    rw [if_neg e0, if_neg e1, zin_yn (by omega) (by omega), yn_nat (by omega)]
    simp only [cond_true]
    obtain ⟨⟨h1, h2⟩, r1, r2, r3, r4⟩ := hc d (by omega)
    rw [r1, r2, r4]
    obtain ⟨o, A', B', m1, -, m3, -, m5, -⟩ := mended hT h2
    have fA := yfr2 (fr_f69_mended _ _ _ _) m1
    have fB := yfr_of (m := fun x => x) (fr_f160_lays _ _ _ _) m3
    rw [m1, m3]
    simp only [ob]
    have z1 : A' 52 5 = yn d := by rw [fA 52 5 rfl]; exact c1
    have z2 : A' 52 4 = yn (d + (u + 1)) := by rw [fA 52 4 rfl]; exact c2
    have z3 : B' 73 32 = yn d := by rw [fB 73 32 rfl]; exact c3
    have z4 : B' 73 33 = yn (u + 1) := by rw [fB 73 33 rfl]; exact c4
    have em : yn (u + 1) - 1 = yn u := yn_sub (a := u + 1) (b := 1) (by omega)
    rw [z1, z2, z3, z4, yn_succ, em]
    have e2 : yn (d + (u + 1)) - yn (d + 1) = yn u := by
      rw [yn_sub (by omega)]; congr 1; omega
    rw [e2]
    refine ⟨_, _, rfl, rfl, ?_⟩
    dsimp only
    refine ⟨rfl, ?_, d + 1, u, ⟨⟨by omega, ?_, ?_, ?_, ?_⟩, fun i hi => ?_⟩⟩
    · refine yTown_ag ?_ ?_ m5
      · exact yag_fr (W := [5205]) rfl (yfr_zu rfl (yfr_refl _))
      · exact yag_fr (W := [7332, 7333]) rfl (yfr_zu rfl (yfr_zu rfl (yfr_refl _)))
    · simp [zu_at]
    · simp only [zu_at]
      simp [z2]; congr 1; omega
    · simp [zu_at]
    · simp [zu_at]
    · simp only [zu_at]
      simp
      rw [fA 53 i rfl, fA 54 i rfl, fA 55 i rfl, fA 56 i rfl, fB 93 i rfl, fB 94 i rfl, fB 95 i rfl, fB 96 i rfl]
      exact hc i (by omega)
