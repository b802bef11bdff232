/-! ACTS -/
theorem y2_bind {α β γ δ : Type} {o : Option α} {o' : Option β} {k : α → Option γ} {k' : β → Option δ} {R : α → β → Prop} {S : γ → δ → Prop} (h : y2 o o' R) (hk : ∀ x y, R x y → y2 (k x) (k' y) S) : y2 (Option.bind o k) (Option.bind o' k') S := by
  obtain ⟨x, y, rfl, rfl, h⟩ := h
  exact hk x y h
theorem y2_some {α β : Type} {x : α} {y : β} {R : α → β → Prop} (h : R x y) : y2 (some x) (some y) R := ⟨x, y, rfl, rfl, h⟩
theorem y2_mono {α β : Type} {o : Option α} {o' : Option β} {R S : α → β → Prop} (h : y2 o o' R) (hk : ∀ x y, R x y → S x y) : y2 o o' S := by
  obtain ⟨x, y, e, f, h⟩ := h
  exact ⟨x, y, e, f, hk x y h⟩
theorem y2_ite {α β : Type} {c d : Prop} {i : Decidable c} {j : Decidable d} {a a' : Option α} {b b' : Option β} {R : α → β → Prop} (h : c ↔ d) (h1 : c → y2 a b R) (h2 : ¬ c → y2 a' b' R) : y2 (@ite _ c i a a') (@ite _ d j b b') R := by
  by_cases hc : c
  · rw [if_pos hc, if_pos (h.mp hc)]; exact h1 hc
  · rw [if_neg hc, if_neg (fun q => hc (h.mpr q))]; exact h2 hc
/-- while an act runs: n bodies have begun -/
def yRun (b : Nat) (kd : Int32) (n : Nat) (A B : yI) : Prop := A 57 3 = yn n ∧ B 73 68 = yn n ∧ (∀ i, i < n → i < 24 → B 109 i = A 59 i) ∧ A 57 4 = kd ∧ A 57 5 = yn b ∧ B 108 b = kd
theorem begin_l {b n : Nat} {kd : Int32} {A B : yI} (hn : n < 1000) (h : yRun b kd n A B) (c : Int32) : y2 (f7_begin c A) (f193_ran c B) (fun x y => yRun b kd (n + 1) x y) := by
  obtain ⟨h1, h2, h3, h4, h5, h6⟩ := h
  unfold f7_begin f193_ran
  rw [h1, h2, yn_succ]
  by_cases e : 24 ≤ n
  · have e1 : (24 : Int32) ≤ yn n := by
      show yn 24 ≤ yn n
      rw [yn_le (by omega) (by omega)]; exact e
    rw [if_pos e1, if_pos e1]
    refine y2_some ⟨?_, ?_, ?_, ?_, ?_, ?_⟩
    · simp [zu_at]
    · simp [zu_at]
    · intro i hi hi2
      simpa [zu_at] using h3 i (by omega) hi2
    · simpa [zu_at] using h4
    · simpa [zu_at] using h5
    · simpa [zu_at] using h6
  · have e1 : ¬ (24 : Int32) ≤ yn n := by
      show ¬ yn 24 ≤ yn n
      rw [yn_le (by omega) (by omega)]; exact e
    rw [if_neg e1, if_neg e1, zin_yn (by omega) (by omega), yn_nat (by omega)]
    refine y2_some ⟨?_, ?_, ?_, ?_, ?_, ?_⟩
    · simp [zu_at]
    · simp [zu_at]
    · intro i hi hi2
      by_cases ei : i = n
      · subst ei; simp [zu_at]
      · simpa [zu_at, ei] using h3 i (by omega) hi2
    · simpa [zu_at] using h4
    · simpa [zu_at] using h5
    · simpa [zu_at] using h6
/-- both have given the same, and at most m bodies more have begun -/
def yAR (b : Nat) (kd : Int32) (n : Nat) (x y : Int32 × yI) : Prop := x.1 = y.1 ∧ ∃ n', n' ≤ n ∧ yRun b kd n' x.2 y.2
theorem plainGoes_l {b n k : Nat} {kd : Int32} {A B : yI} (hn : n < 1000) (h : yRun b kd n A B) (x : Int32) : y2 (F8 (k + 1) 0 x A) (f197_plainGoes (yn b) x B) (yAR b kd (n + 1)) := by
  show y2 (Option.bind (f7_begin 1 A) fun t => some (x + t 57 5, t)) _ _
  unfold f197_plainGoes
  refine y2_bind (begin_l hn h 1) fun A' B' h' => y2_some ⟨?_, n + 1, by omega, h'⟩
  show x + A' 57 5 = x + yn b
  rw [h'.2.2.2.2.1]
theorem bestGoes_l {b n k : Nat} {kd : Int32} {A B : yI} (hn : n < 999) (h : yRun b kd n A B) (x : Int32) : y2 (F8 (k + 2) 6 x A) (f198_bestGoes (yn b) x B) (yAR b kd (n + 2)) := by
  show y2 (Option.bind (f7_begin 70 A) fun t => Option.bind (F8 (k + 1) 0 x t) fun u => some (u.1 * 2, u.2)) _ _
  unfold f198_bestGoes
  refine y2_bind (begin_l (by omega) h 70) fun A' B' h' => ?_
  refine y2_bind (plainGoes_l (by omega) h' x) fun u v ⟨h1, n', hn', h2⟩ => y2_some ⟨?_, n', by omega, h2⟩
  show u.1 * 2 = v.1 * 2
  rw [h1]
def yKd (kd : Int32) : Prop := kd = 0 ∨ kd = 1 ∨ kd = 2 ∨ kd = 3 ∨ kd = 4 ∨ kd = 5 ∨ kd = 6 ∨ kd = 7
theorem goes_l {b n : Nat} {kd : Int32} {A B : yI} (hk : yKd kd) (hb : b < 50) (hn : n < 900) (h : yRun b kd n A B) (x : Int32) : y2 (f8_goes 200 kd x A) (f199_goes (yn b) x B) (yAR b kd (n + 3)) := by
  unfold f199_goes
  rw [zin_yn (by omega) (by omega), yn_nat (by omega), h.2.2.2.2.2]
  have up : ∀ {m} {u v : Int32 × yI}, m ≤ n + 3 → yAR b kd m u v → yAR b kd (n + 3) u v := fun hm h => ⟨h.1, h.2.choose, by have := h.2.choose_spec.1; omega, h.2.choose_spec.2⟩
  have plain : y2 (F8 200 0 x A) (Option.bind (f197_plainGoes (yn b) x B) fun t => some (t.1, t.2)) (yAR b kd (n + 3)) := by
    obtain ⟨u, v, e1, e2, h3⟩ := plainGoes_l (k := 199) (by omega) h x
    exact ⟨u, v, e1, by rw [e2]; rfl, up (by omega) h3⟩
  have fast : y2 (Option.bind (f7_begin 20 A) fun t => Option.bind (F8 199 0 x t) fun u => some (u.1 + 3, u.2)) (Option.bind (f193_ran 20 B) fun t17 => Option.bind (f197_plainGoes (yn b) x t17) fun t19 => some ((t19.1 + 3), t19.2)) (yAR b kd (n + 3)) := by
    refine y2_bind (begin_l (by omega) h 20) fun A' B' h' => ?_
    refine y2_bind (plainGoes_l (k := 198) (by omega) h' x) fun u v h3 => y2_some ⟨?_, (up (by omega) h3).2⟩
    show u.1 + 3 = v.1 + 3
    rw [h3.1]
  rcases hk with rfl | rfl | rfl | rfl | rfl | rfl | rfl | rfl
  · exact plain
  · exact fast
  · exact plain
  · exact plain
  · exact fast
  · exact fast
  · obtain ⟨u, v, e1, e2, h3⟩ := bestGoes_l (k := 198) (by omega) h x
    exact ⟨u, v, e1, by show (Option.bind (f198_bestGoes (yn b) x B) fun t => some (t.1, t.2)) = _; rw [e2]; rfl, up (by omega) h3⟩
  · show y2 (Option.bind (f7_begin 81 A) fun t => Option.bind (F8 199 6 x t) fun u => some (u.1 - 1, u.2)) (Option.bind (f193_ran 81 B) fun t6 => Option.bind (f198_bestGoes (yn b) x t6) fun t8 => some ((t8.1 - 1), t8.2)) _
    refine y2_bind (begin_l (by omega) h 81) fun A' B' h' => ?_
    refine y2_bind (bestGoes_l (k := 197) (by omega) h' x) fun u v h3 => y2_some ⟨?_, (up (by omega) h3).2⟩
    show u.1 - 1 = v.1 - 1
    rw [h3.1]
theorem yAR_up {b m n : Nat} {kd : Int32} {u v : Int32 × yI} (hm : m ≤ n) (h : yAR b kd m u v) : yAR b kd n u v := by
  obtain ⟨h1, n', h2, h3⟩ := h
  exact ⟨h1, n', by omega, h3⟩
theorem y2_tail {b n : Nat} {kd : Int32} {o : Option (Int32 × yI)} {o' : Option (Int32 × yI)} (h : y2 o o' (yAR b kd n)) : y2 o (Option.bind o' fun t => some (t.1, t.2)) (yAR b kd n) := by
  obtain ⟨u, v, rfl, rfl, h⟩ := h
  exact ⟨u, v, rfl, rfl, h⟩
theorem plainWaits_l {b n k : Nat} {kd : Int32} {A B : yI} (hn : n < 1000) (h : yRun b kd n A B) (x : Int32) (f : Int32) (hf : f = 0 ∨ f = 2 ∨ f = 4 ∨ f = 1 ∨ f = 6 ∨ f = 7) : y2 (F10 (k + 1) f x A) (f203_plainWaits (yn b) x B) (yAR b kd (n + 1)) := by
  have e : F10 (k + 1) f x A = Option.bind (f7_begin 11 A) fun t => some (x ^^^ t 57 5, t) := by
    rcases hf with rfl | rfl | rfl | rfl | rfl | rfl <;> rfl
  rw [e]
  unfold f203_plainWaits
  refine y2_bind (begin_l hn h 11) fun A' B' h' => y2_some ⟨?_, n + 1, by omega, h'⟩
  show x ^^^ A' 57 5 = x ^^^ yn b
  rw [h'.2.2.2.2.1]
theorem waits_l {b n : Nat} {kd : Int32} {A B : yI} (hk : yKd kd) (hb : b < 50) (hn : n < 800) (h : yRun b kd n A B) (x : Int32) : y2 (f10_waits 200 kd x A) (f204_waits (yn b) x B) (yAR b kd (n + 6)) := by
  have hk0 := hk
  unfold f204_waits
  rw [zin_yn (by omega) (by omega), yn_nat (by omega), h.2.2.2.2.2]
  have plain : ∀ f, (f = 0 ∨ f = 2 ∨ f = 4 ∨ f = 1 ∨ f = 6 ∨ f = 7) → y2 (F10 200 f x A) (Option.bind (f203_plainWaits (yn b) x B) fun t => some (t.1, t.2)) (yAR b kd (n + 6)) := fun f hf =>
    y2_tail (y2_mono (plainWaits_l (k := 199) (by omega) h x f hf) fun _ _ h => yAR_up (by omega) h)
  rcases hk with e | e | e | e | e | e | e | e <;> subst e
  · exact plain 0 (by decide)
  · exact plain 1 (by decide)
  · exact plain 2 (by decide)
  · show y2 (Option.bind (f7_begin 40 A) fun t => Option.bind (F10 199 2 x t) fun u => some (u.1 * 3, u.2)) (Option.bind (f193_ran 40 B) fun t3 => Option.bind (f203_plainWaits (yn b) x t3) fun t5 => some ((t5.1 * 3), t5.2)) _
    refine y2_bind (begin_l (by omega) h 40) fun A' B' h' => ?_
    refine y2_bind (plainWaits_l (k := 198) (by omega) h' x 2 (by decide)) fun u v h3 => y2_some ⟨?_, (yAR_up (n := n + 6) (by omega) h3).2⟩
    show u.1 * 3 = v.1 * 3
    rw [h3.1]
  · exact plain 4 (by decide)
  · show y2 (Option.bind (f7_begin 60 A) fun t => Option.bind (F10 199 4 x t) fun u => Option.bind (f8_goes 200 (u.2 57 4) 2 u.2) fun w => some (u.1 - w.1, w.2)) (Option.bind (f193_ran 60 B) fun t8 => Option.bind (f203_plainWaits (yn b) x t8) fun t10 => Option.bind (f199_goes (yn b) 2 t10.2) fun t12 => some ((t10.1 - t12.1), t12.2)) _
    refine y2_bind (begin_l (by omega) h 60) fun A' B' h' => ?_
    refine y2_bind (plainWaits_l (k := 198) (by omega) h' x 4 (by decide)) fun u v h3 => ?_
    obtain ⟨e1, n', hn', h4⟩ := h3
    rw [h4.2.2.2.1]
    refine y2_bind (goes_l hk0 hb (by omega) h4 2) fun w z h5 => y2_some ⟨?_, (yAR_up (n := n + 6) (by omega) h5).2⟩
    show u.1 - w.1 = v.1 - z.1
    rw [e1, h5.1]
  · exact plain 6 (by decide)
  · exact plain 7 (by decide)
theorem plainSees_l {b n k : Nat} {kd : Int32} {A B : yI} (hk : yKd kd) (hb : b < 50) (hn : n < 800) (h : yRun b kd n A B) (x : Int32) (f : Int32) (hf : f = 0 ∨ f = 1 ∨ f = 4 ∨ f = 5 ∨ f = 6) : y2 (F9 (k + 1) f x A) (f200_plainSees (yn b) x B) (yAR b kd (n + 4)) := by
  have e : F9 (k + 1) f x A = Option.bind (f7_begin 10 A) fun t => Option.bind (f8_goes 200 (t 57 4) x t) fun u => some (u.1 * 2, u.2) := by
    rcases hf with rfl | rfl | rfl | rfl | rfl <;> rfl
  rw [e]
  unfold f200_plainSees
  refine y2_bind (begin_l (by omega) h 10) fun A' B' h' => ?_
  rw [h'.2.2.2.1]
  refine y2_bind (goes_l hk hb (by omega) h' x) fun u v h3 => y2_some ⟨?_, (yAR_up (n := n + 4) (by omega) h3).2⟩
  show u.1 * 2 = v.1 * 2
  rw [h3.1]
theorem followSees_l {b n k : Nat} {kd : Int32} {A B : yI} (hk : yKd kd) (hb : b < 50) (hn : n < 700) (h : yRun b kd n A B) (x : Int32) : y2 (F9 (k + 2) 2 x A) (f201_followSees (yn b) x B) (yAR b kd (n + 5)) := by
  show y2 (Option.bind (f7_begin 30 A) fun t => Option.bind (F9 (k + 1) 0 x t) fun u => some (-u.1, u.2)) _ _
  unfold f201_followSees
  refine y2_bind (begin_l (by omega) h 30) fun A' B' h' => ?_
  refine y2_bind (plainSees_l hk hb (by omega) h' x 0 (by decide)) fun u v h3 => y2_some ⟨?_, (yAR_up (n := n + 5) (by omega) h3).2⟩
  show -u.1 = -v.1
  rw [h3.1]
theorem sees_l {b n : Nat} {kd : Int32} {A B : yI} (hk : yKd kd) (hb : b < 50) (hn : n < 600) (h : yRun b kd n A B) (x : Int32) : y2 (f9_sees 200 kd x A) (f202_sees (yn b) x B) (yAR b kd (n + 12)) := by
  have hk0 := hk
  unfold f202_sees
  rw [zin_yn (by omega) (by omega), yn_nat (by omega), h.2.2.2.2.2]
  have plain : ∀ f, (f = 0 ∨ f = 1 ∨ f = 4 ∨ f = 5 ∨ f = 6) → y2 (F9 200 f x A) (Option.bind (f200_plainSees (yn b) x B) fun t => some (t.1, t.2)) (yAR b kd (n + 12)) := fun f hf =>
    y2_tail (y2_mono (plainSees_l (k := 199) hk0 hb (by omega) h x f hf) fun _ _ h => yAR_up (by omega) h)
  rcases hk with e | e | e | e | e | e | e | e <;> subst e
  · exact plain 0 (by decide)
  · exact plain 1 (by decide)
  · exact y2_tail (y2_mono (followSees_l (k := 198) hk0 hb (by omega) h x) fun _ _ h => yAR_up (by omega) h)
  · show y2 (Option.bind (f7_begin 41 A) fun t => Option.bind (F9 199 2 (x + 1) t) fun u => some (u.1, u.2)) (Option.bind (f193_ran 41 B) fun t3 => Option.bind (f201_followSees (yn b) (x + 1) t3) fun t5 => some (t5.1, t5.2)) _
    refine y2_bind (begin_l (by omega) h 41) fun A' B' h' => ?_
    refine y2_bind (followSees_l (k := 197) hk0 hb (by omega) h' (x + 1)) fun u v h3 => y2_some ⟨h3.1, (yAR_up (n := n + 12) (by omega) h3).2⟩
  · exact plain 4 (by decide)
  · exact plain 5 (by decide)
  · exact plain 6 (by decide)
  · show y2 (Option.bind (f7_begin 80 A) fun t => Option.bind (F9 199 6 x t) fun u => Option.bind (f10_waits 200 (u.2 57 4) 2 u.2) fun w => some (u.1 + w.1, w.2)) (Option.bind (f193_ran 80 B) fun t8 => Option.bind (f200_plainSees (yn b) x t8) fun t10 => Option.bind (f204_waits (yn b) 2 t10.2) fun t12 => some ((t10.1 + t12.1), t12.2)) _
    refine y2_bind (begin_l (by omega) h 80) fun A' B' h' => ?_
    refine y2_bind (plainSees_l (k := 198) hk0 hb (by omega) h' x 6 (by decide)) fun u v h3 => ?_
    obtain ⟨e1, n', hn', h4⟩ := h3
    rw [h4.2.2.2.1]
    refine y2_bind (waits_l hk0 hb (by omega) h4 2) fun w z h5 => y2_some ⟨?_, (yAR_up (n := n + 12) (by omega) h5).2⟩
    show u.1 + w.1 = v.1 + z.1
    rw [e1, h5.1]
theorem plainTells_l {b n k : Nat} {kd : Int32} {A B : yI} (hk : yKd kd) (hb : b < 50) (hn : n < 500) (h : yRun b kd n A B) (x : Int32) (f : Int32) (hf : f = 0 ∨ f = 1 ∨ f = 2 ∨ f = 3 ∨ f = 6 ∨ f = 7) : y2 (F11 (k + 1) f x A) (f205_plainTells (yn b) x B) (yAR b kd (n + 20)) := by
  have e : F11 (k + 1) f x A = Option.bind (f7_begin 2 A) fun t => Option.bind (f9_sees 200 (t 57 4) x t) fun u => Option.bind (f10_waits 200 (u.2 57 4) 1 u.2) fun w => some (u.1 - w.1, w.2) := by
    rcases hf with rfl | rfl | rfl | rfl | rfl | rfl <;> rfl
  rw [e]
  unfold f205_plainTells
  refine y2_bind (begin_l (by omega) h 2) fun A' B' h' => ?_
  rw [h'.2.2.2.1]
  refine y2_bind (sees_l hk hb (by omega) h' x) fun u v h3 => ?_
  obtain ⟨e1, n', hn', h4⟩ := h3
  rw [h4.2.2.2.1]
  refine y2_bind (waits_l hk hb (by omega) h4 1) fun w z h5 => y2_some ⟨?_, (yAR_up (n := n + 20) (by omega) h5).2⟩
  show u.1 - w.1 = v.1 - z.1
  rw [e1, h5.1]
theorem leadTells_l {b n k : Nat} {kd : Int32} {A B : yI} (hk : yKd kd) (hb : b < 50) (hn : n < 400) (h : yRun b kd n A B) (x : Int32) : y2 (F11 (k + 2) 4 x A) (f206_leadTells (yn b) x B) (yAR b kd (n + 21)) := by
  show y2 (Option.bind (f7_begin 50 A) fun t => Option.bind (F11 (k + 1) 1 x t) fun u => some (u.1 ^^^ 5, u.2)) _ _
  unfold f206_leadTells
  refine y2_bind (begin_l (by omega) h 50) fun A' B' h' => ?_
  refine y2_bind (plainTells_l hk hb (by omega) h' x 1 (by decide)) fun u v h3 => y2_some ⟨?_, (yAR_up (n := n + 21) (by omega) h3).2⟩
  show u.1 ^^^ 5 = v.1 ^^^ 5
  rw [h3.1]
theorem tells_l {b n : Nat} {kd : Int32} {A B : yI} (hk : yKd kd) (hb : b < 50) (hn : n < 300) (h : yRun b kd n A B) (x : Int32) : y2 (f11_tells 200 kd x A) (f207_telling (yn b) x B) (yAR b kd (n + 22)) := by
  have hk0 := hk
  unfold f207_telling
  rw [zin_yn (by omega) (by omega), yn_nat (by omega), h.2.2.2.2.2]
  have plain : ∀ f, (f = 0 ∨ f = 1 ∨ f = 2 ∨ f = 3 ∨ f = 6 ∨ f = 7) → y2 (F11 200 f x A) (Option.bind (f205_plainTells (yn b) x B) fun t => some (t.1, t.2)) (yAR b kd (n + 22)) := fun f hf =>
    y2_tail (y2_mono (plainTells_l (k := 199) hk0 hb (by omega) h x f hf) fun _ _ h => yAR_up (by omega) h)
  rcases hk with e | e | e | e | e | e | e | e <;> subst e
  · exact plain 0 (by decide)
  · exact plain 1 (by decide)
  · exact plain 2 (by decide)
  · exact plain 3 (by decide)
  · exact y2_tail (y2_mono (leadTells_l (k := 198) hk0 hb (by omega) h x) fun _ _ h => yAR_up (by omega) h)
  · show y2 (Option.bind (f7_begin 61 A) fun t => Option.bind (F11 199 4 x t) fun u => some (u.1 + 1, u.2)) (Option.bind (f193_ran 61 B) fun t3 => Option.bind (f206_leadTells (yn b) x t3) fun t5 => some ((t5.1 + 1), t5.2)) _
    refine y2_bind (begin_l (by omega) h 61) fun A' B' h' => ?_
    refine y2_bind (leadTells_l (k := 197) hk0 hb (by omega) h' x) fun u v h3 => y2_some ⟨?_, (yAR_up (n := n + 22) (by omega) h3).2⟩
    show u.1 + 1 = v.1 + 1
    rw [h3.1]
  · exact plain 6 (by decide)
  · exact plain 7 (by decide)
def yActs (nb : Nat) (A B : yI) : Prop := (nb ≤ 50 ∧ A 57 2 = yn nb ∧ B 73 66 = yn nb) ∧ (∀ i, i < nb → yKd (A 58 i) ∧ B 108 i = A 58 i) ∧ ∃ n, n < 1000 ∧ A 57 3 = yn n ∧ B 73 68 = yn n ∧ ∀ i, i < n → i < 24 → B 109 i = A 59 i
def kAA : List Nat := [5702, 5703, 5899, 5999]
def kAB : List Nat := [7366, 7368, 10899, 10999]
theorem yActs_ag {nb : Nat} {A B A' B' : yI} (hA : yag kAA A A') (hB : yag kAB B B') (h : yActs nb A B) : yActs nb A' B' := by
  have f1 : A' 57 2 = A 57 2 := hA 57 2 rfl
  have f2 : A' 57 3 = A 57 3 := hA 57 3 rfl
  have g1 : ∀ i, A' 58 i = A 58 i := fun i => hA 58 i rfl
  have g2 : ∀ i, A' 59 i = A 59 i := fun i => hA 59 i rfl
  have e1 : B' 73 66 = B 73 66 := hB 73 66 rfl
  have e2 : B' 73 68 = B 73 68 := hB 73 68 rfl
  have d1 : ∀ i, B' 108 i = B 108 i := fun i => hB 108 i rfl
  have d2 : ∀ i, B' 109 i = B 109 i := fun i => hB 109 i rfl
  unfold yActs at *
  simp only [f1, f2, g1, g2, e1, e2, d1, d2]
  exact h
theorem f4_e {nb : Nat} {A : yI} (h : A 57 2 = yn nb) (hb : nb ≤ 50) (v : Int32) : f4_isBody v A = some (yb (yIs nb v)) := by
  unfold f4_isBody
  rw [h]
  by_cases h1 : v < 0
  · rw [if_pos h1, yb_f]; rw [yIs_iff (by omega)]; exact fun h => Int32.not_le.mpr h1 h.1
  · rw [if_neg h1]
    by_cases h2 : yn nb ≤ v
    · rw [if_pos h2, yb_f]; rw [yIs_iff (by omega)]; exact fun h => Int32.not_le.mpr h.2 h2
    · rw [if_neg h2, yb_t]; rw [yIs_iff (by omega)]; exact ⟨Int32.not_lt.mp h1, Int32.not_le.mp h2⟩
theorem f192_e {nb : Nat} {B : yI} (h : B 73 66 = yn nb) (hb : nb ≤ 50) (v : Int32) : f192_isBody v B = some (yb (yIs nb v)) := by
  unfold f192_isBody
  rw [f129_e, h]
  show (if _ then _ else _) = _
  rw [yb_guard, yb_congr (yIs_in (by omega))]
theorem f2_e (v : Int32) : f2_isKind v = some (yb (0 ≤ v ∧ v ≤ 7)) := f126_e v 0 7
theorem c_body {nb : Nat} {A B : yI} (h : yActs nb A B) (v : Int32) : y2 (f115_body v A) (f195_body v B) (fun x y => x.1 = y.1 ∧ ∃ nb', nb ≤ nb' ∧ yActs nb' x.2 y.2) := by
  have h0 := h
  obtain ⟨⟨h1, h2, h3⟩, h4, n, h5, h6, h7, h8⟩ := h
  unfold f115_body f5_add f195_body
  rw [f2_e, f129_e]
  simp only [ob, yb_ite0]
  by_cases hv : 0 ≤ v ∧ v ≤ 7
  · rw [if_pos hv, if_pos hv, h2, h3]
    by_cases e : nb = 50
    · subst e
      exact ⟨(-3, A), (-3, B), rfl, rfl, rfl, 50, by omega, h0⟩
    · have e2 : ¬ yn nb = 50 := by
        show ¬ yn nb = yn 50
        rw [yn_inj (by omega) (by omega)]; exact e
      rw [if_neg e2, if_neg e2, zin_yn (by omega) (by omega), yn_nat (by omega), yn_ss, yn_succ]
      refine ⟨_, _, rfl, rfl, ?_⟩
      dsimp only
      refine ⟨rfl, nb + 1, by omega, ⟨by omega, ?_, ?_⟩, ?_, n, h5, ?_, ?_, ?_⟩
      · simp [zu_at]
      · simp [zu_at]
      · intro i hi
        by_cases ei : i = nb
        · subst ei
          obtain ⟨m, -, hm, rfl⟩ := yq_of (lo := 0) (hi := 7) (by omega) (by omega) hv.1 hv.2
          have hm8 : m = 0 ∨ m = 1 ∨ m = 2 ∨ m = 3 ∨ m = 4 ∨ m = 5 ∨ m = 6 ∨ m = 7 := by omega
          have : yKd (yn m) := by
            unfold yKd
            rcases hm8 with rfl | rfl | rfl | rfl | rfl | rfl | rfl | rfl <;> decide
          simp [zu_at, this]
        · simpa [zu_at, ei] using h4 i (by omega)
      · simpa [zu_at] using h6
      · simpa [zu_at] using h7
      · intro i hi hi2; simpa [zu_at] using h8 i hi hi2
  · rw [if_neg hv, if_neg hv]
    exact ⟨_, _, rfl, rfl, rfl, nb, by omega, h0⟩
theorem c_act {nb : Nat} {A B : yI} (h : yActs nb A B) (v1 v2 v3 : Int32) : y2 (f116_act v1 v2 v3 A) (f208_act v1 v2 v3 B) (fun x y => x.1 = y.1 ∧ yActs nb x.2 y.2) := by
  obtain ⟨⟨h1, h2, h3⟩, h4, n, h5, h6, h7, h8⟩ := h
  have hA0 : zu A 57 3 0 57 2 = yn nb := by rw [zu_nej (by decide)]; exact h2
  have hB0 : zu B 73 68 0 73 66 = yn nb := by rw [zu_nej (by decide)]; exact h3
  unfold f116_act f6_play f208_act
  rw [f4_e hA0 h1, f192_e hB0 h1, f129_e]
  simp only [ob, yb_ite0]
  by_cases hb : yIs nb v1
  · rw [if_pos hb, if_pos hb]
    obtain ⟨b, hb, rfl⟩ := hb
    rw [zin_yn (by omega) (by omega), yn_nat (by omega)]
    simp only [cond_true]
    obtain ⟨k1, k2⟩ := h4 b hb
    have hR : yRun b (A 58 b) 0 (zu (zu (zu A 57 3 0) 57 4 (A 58 b)) 57 5 (yn b)) (zu B 73 68 0) := by
      refine ⟨?_, ?_, fun i hi => absurd hi (Nat.not_lt_zero _), ?_, ?_, ?_⟩
      · simp [zu_at]; rfl
      · simp [zu_at]; rfl
      · simp [zu_at]
      · simp [zu_at]
      · simpa [zu_at] using k2
    have fin : ∀ {f : Int32 → Int32 → yI → Option (Int32 × yI)} {g : Int32 → Int32 → yI → Option (Int32 × yI)} {m : Nat}, (m ≤ 30) → (∀ x, y2 (f (A 58 b) x (zu (zu (zu A 57 3 0) 57 4 (A 58 b)) 57 5 (yn b))) (g (yn b) x (zu B 73 68 0)) (yAR b (A 58 b) (0 + m))) → (∀ x, yF (f (A 58 b) x (zu (zu (zu A 57 3 0) 57 4 (A 58 b)) 57 5 (yn b))) (fun t => yfr [5703, 5999] (zu (zu (zu A 57 3 0) 57 4 (A 58 b)) 57 5 (yn b)) t.2)) → (∀ x, yF (g (yn b) x (zu B 73 68 0)) (fun t => yfr [7368, 10999] (zu B 73 68 0) t.2)) → y2 (Option.bind (f (A 58 b) v3 (zu (zu (zu A 57 3 0) 57 4 (A 58 b)) 57 5 (yn b))) fun t => some (t.1, t.2)) (Option.bind (g (yn b) v3 (zu B 73 68 0)) fun t => some (t.1, t.2)) (fun x y => x.1 = y.1 ∧ yActs nb x.2 y.2) := by
      intro f g m hm h f1 g1
      obtain ⟨⟨u1, u2⟩, ⟨w1, w2⟩, e1, e2, h9, n', hn', r1, r2, r3, -⟩ := h v3
      have fA : yfr [5703, 5999] (zu (zu (zu A 57 3 0) 57 4 (A 58 b)) 57 5 (yn b)) u2 := f1 v3 _ e1
      have fB : yfr [7368, 10999] (zu B 73 68 0) w2 := g1 v3 _ e2
      rw [e1, e2]
      refine ⟨(u1, u2), (w1, w2), rfl, rfl, h9, ⟨h1, ?_, ?_⟩, ?_, n', by omega, r1, r2, r3⟩
      · show u2 57 2 = _
        rw [fA 57 2 rfl]; simpa [zu_at] using h2
      · show w2 73 66 = _
        rw [fB 73 66 rfl]; simpa [zu_at] using h3
      · intro i hi
        dsimp only
        rw [fA 58 i rfl, fB 108 i rfl]
        simpa [zu_at] using h4 i hi
    by_cases hv : 0 ≤ v2 ∧ v2 ≤ 3
    · rw [if_pos hv]
      obtain ⟨m, -, hm, rfl⟩ := yq_of (lo := 0) (hi := 3) (by omega) (by omega) hv.1 hv.2
      have hm8 : m = 0 ∨ m = 1 ∨ m = 2 ∨ m = 3 := by omega
      rcases hm8 with rfl | rfl | rfl | rfl
      · obtain ⟨x, y, e1, e2, e3⟩ := fin (m := 3) (by omega) (fun x => goes_l k1 (by omega) (by omega) hR x) (fun x => fr_f8_goes 200 _ x _) (fun x => fr_f199_goes _ x _)
        refine ⟨x, y, ?_, e2, e3⟩
        show Option.bind (Option.bind (f8_goes 200 _ _ _) _) _ = _
        rw [e1]; rfl
      · obtain ⟨x, y, e1, e2, e3⟩ := fin (m := 12) (by omega) (fun x => sees_l k1 (by omega) (by omega) hR x) (fun x => fr_f9_sees 200 _ x _) (fun x => fr_f202_sees _ x _)
        refine ⟨x, y, ?_, e2, e3⟩
        show Option.bind (Option.bind (f9_sees 200 _ _ _) _) _ = _
        rw [e1]; rfl
      · obtain ⟨x, y, e1, e2, e3⟩ := fin (m := 6) (by omega) (fun x => waits_l k1 (by omega) (by omega) hR x) (fun x => fr_f10_waits 200 _ x _) (fun x => fr_f204_waits _ x _)
        refine ⟨x, y, ?_, e2, e3⟩
        show Option.bind (Option.bind (f10_waits 200 _ _ _) _) _ = _
        rw [e1]; rfl
      · obtain ⟨x, y, e1, e2, e3⟩ := fin (m := 22) (by omega) (fun x => tells_l k1 (by omega) (by omega) hR x) (fun x => fr_f11_tells 200 _ x _) (fun x => fr_f207_telling _ x _)
        refine ⟨x, y, ?_, e2, e3⟩
        show Option.bind (Option.bind (f11_tells 200 _ _ _) _) _ = _
        rw [e1]; rfl
    · rw [if_neg hv]
      have n0 : ¬ v2.toInt = 0 := fun q => hv (by rw [show v2 = 0 from Int32.toInt_inj.mp q]; decide)
      have n1 : ¬ v2.toInt = 1 := fun q => hv (by rw [show v2 = 1 from Int32.toInt_inj.mp q]; decide)
      have n2 : ¬ v2.toInt = 2 := fun q => hv (by rw [show v2 = 2 from Int32.toInt_inj.mp q]; decide)
      have n3 : ¬ v2.toInt = 3 := fun q => hv (by rw [show v2 = 3 from Int32.toInt_inj.mp q]; decide)
      rw [if_neg n0, if_neg n1, if_neg n2, if_neg n3]
      refine ⟨_, _, rfl, rfl, rfl, ⟨h1, ?_, ?_⟩, ?_, 0, by omega, ?_, ?_, fun i hi => absurd hi (Nat.not_lt_zero _)⟩
      · simpa [zu_at] using h2
      · simpa [zu_at] using h3
      · intro i hi; simpa [zu_at] using h4 i hi
      · simp [zu_at]; rfl
      · simp [zu_at]; rfl
  · rw [if_neg hb, if_neg hb]
    refine ⟨_, _, rfl, rfl, rfl, ⟨h1, ?_, ?_⟩, ?_, 0, by omega, ?_, ?_, fun i hi => absurd hi (Nat.not_lt_zero _)⟩
    · simpa [zu_at] using h2
    · simpa [zu_at] using h3
    · intro i hi; simpa [zu_at] using h4 i hi
    · simp [zu_at]; rfl
    · simp [zu_at]; rfl
theorem zmin_yn {a b : Nat} (ha : a < 2147483648) (hb : b < 2147483648) : zmin (yn a) (yn b) = yn (min a b) := by
  unfold zmin
  by_cases h : b < a
  · rw [if_pos ((yn_lt hb ha).mpr h)]; congr 1; omega
  · rw [if_neg (fun q => h ((yn_lt hb ha).mp q))]; congr 1; omega
theorem c_trace {nb : Nat} {A B : yI} (h : yActs nb A B) (v : Int32) : ∃ r, f117_trace v A = some r ∧ f194_trace v B = some r := by
  obtain ⟨⟨h1, h2, h3⟩, h4, n, h5, h6, h7, h8⟩ := h
  unfold f117_trace f194_trace
  have e24 : zmin (yn n) 24 = yn (min n 24) := zmin_yn (b := 24) (by omega) (by decide)
  rw [h6, h7, e24, f126_e, ← yb_congr (yIs_in (n := min n 24) (v := v) (by omega))]
  simp only [ob, yb_ite0]
  by_cases hv : yIs (min n 24) v
  · rw [if_pos hv]
    obtain ⟨i, hi, rfl⟩ := hv
    have a1 : ¬ yn i < 0 := by
      show ¬ yn i < yn 0
      rw [yn_lt (by omega) (by omega)]; omega
    have a2 : ¬ yn n ≤ yn i := by rw [yn_le (by omega) (by omega)]; omega
    have a3 : ¬ (24 : Int32) ≤ yn i := by
      show ¬ yn 24 ≤ yn i
      rw [yn_le (by omega) (by omega)]; omega
    rw [if_neg a1, if_neg a2, if_neg a3, zin_yn (by omega) (by omega), yn_nat (by omega)]
    exact ⟨_, rfl, by rw [h8 i (by omega) (by omega)]; rfl⟩
  · rw [if_neg hv]
    refine ⟨-1, rfl, ?_⟩
    by_cases a1 : v < 0
    · rw [if_pos a1]
    · rw [if_neg a1]
      by_cases a2 : yn n ≤ v
      · rw [if_pos a2]
      · rw [if_neg a2]
        by_cases a3 : (24 : Int32) ≤ v
        · rw [if_pos a3]
        · exfalso
          apply hv
          obtain ⟨m, hm, rfl⟩ := yn_nn (Int32.not_lt.mp a1)
          rw [yn_le (by omega) (by omega)] at a2
          have a3 : ¬ yn 24 ≤ yn m := a3
          rw [yn_le (by omega) (by omega)] at a3
          exact ⟨m, by omega, rfl⟩
