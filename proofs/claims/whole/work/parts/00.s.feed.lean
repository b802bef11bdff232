/-! FEED; FEWER, SOONER: runs in thought -/
def yTape (fd : Nat) (A B : yI) : Prop := (fd ≤ 120 ∧ A 15 6 = yn fd ∧ B 73 19 = yn fd) ∧ ∀ i, i < fd → ∃ b, b < 256 ∧ A 16 i = yn b ∧ B 85 i = (yn b).toInt8.toInt32.toInt8.toInt32
def kPA : List Nat := [1506, 1699]
def kPB : List Nat := [7319, 8599]
theorem yTape_ag {fd : Nat} {A B A' B' : yI} (hA : yag kPA A A') (hB : yag kPB B B') (h : yTape fd A B) : yTape fd A' B' := by
  obtain ⟨⟨h1, h2, h3⟩, h4⟩ := h
  refine ⟨⟨h1, by rw [hA 15 6 rfl]; exact h2, by rw [hB 73 19 rfl]; exact h3⟩, fun i hi => ?_⟩
  rw [hA 16 i rfl, hB 85 i rfl]
  exact h4 i hi
theorem c_feed {fd : Nat} {A B : yI} (h : yTape fd A B) (v : Int32) : y2 (f91_feed v A) (f138_feed v B) (fun x y => x.1 = y.1 ∧ ∃ fd', yTape fd' x.2 y.2) := by
  have h0 := h
  obtain ⟨⟨h1, h2, h3⟩, h4⟩ := h
  unfold f91_feed f138_feed f18_take
  rw [f126_e, f129_e]
  simp only [ob, yb_ite0]
  by_cases hv : 0 ≤ v ∧ v ≤ 255
  · rw [if_pos hv, if_pos hv, h2, h3]
    by_cases e : fd = 120
    · subst e
      exact ⟨(-3, A), (-3, B), rfl, rfl, rfl, 120, h0⟩
    · have e2 : ¬ yn fd = 120 := by
        show ¬ yn fd = yn 120
        rw [yn_inj (by omega) (by omega)]; exact e
      obtain ⟨b, -, hb, rfl⟩ := yq_of (lo := 0) (hi := 255) (by omega) (by omega) hv.1 hv.2
      rw [if_neg e2, if_neg e2, zin_yn (by omega) (by omega), yn_nat (by omega), yn_succ]
      refine ⟨_, _, rfl, rfl, ?_⟩
      dsimp only
      refine ⟨rfl, fd + 1, ⟨by omega, zu_same _ _ _ _, zu_same _ _ _ _⟩, fun i hi => ?_⟩
      by_cases g : i = fd
      · subst g
        exact ⟨b, by omega, by simp [zu_at], by simp [zu_at]⟩
      · obtain ⟨b', q1, q2, q3⟩ := h4 i (by omega)
        exact ⟨b', q1, by simpa [zu_at, g] using q2, by simpa [zu_at, g] using q3⟩
  · rw [if_neg hv, if_neg hv]
    exact ⟨_, _, rfl, rfl, rfl, fd, h0⟩
/-- the reference's wishes when nothing is thought -/
def yTrans (B : yI) : Prop := B 73 45 = 0 ∧ B 73 47 = -1 ∧ B 73 50 = -1
/-- a wish as the town is, for the noon thought -/
theorem asIn_T {a w s : Nat} {A B : yI} (hT : yTown a w s A B) (hR : yTrans B) (h2 : yIs 4 (A 39 2)) : ∃ (A' : yI) (S : Nat), f81_asIn_39 A = some A' ∧ A 1 3 = yn S ∧ B 73 15 = yn S ∧ yWishT a s S A' B ∧ yfr [3900, 3901, 3903, 3904, 4099, 4199] A A' := by
  obtain ⟨⟨⟨ha, hw, hs⟩, -⟩, ⟨⟨⟨S, hS1, hS, eS⟩, r3⟩, ⟨⟨lg, hl1, hl, el⟩, r4⟩, -⟩, -, -, hSo⟩ := hT
  obtain ⟨t1, t2, t3⟩ := hR
  unfold f81_asIn_39
  have zc : zcpok 0 0 8 8 8 = true := by decide
  have k0 : (0 : Int32).toNatClampNeg = 0 := by decide
  have k8 : (8 : Int32).toNatClampNeg = 8 := by decide
  rw [zc]
  have fr : yfr [3900, 3901, 3903, 3904, 4099, 4199] A (zcp (zcp (zu (zu (zu (zu A 39 0 (A 1 3)) 39 1 (A 1 4)) 39 3 0) 39 4 (-1)) 10 40 0 0 8) 12 41 0 0 8) := yfr_zcp (fun _ => rfl) (yfr_zcp (fun _ => rfl) (yfr_zu rfl (yfr_zu rfl (yfr_zu rfl (yfr_zu rfl (yfr_refl _))))))
  have q0 : (zcp (zcp (zu (zu (zu (zu A 39 0 (A 1 3)) 39 1 (A 1 4)) 39 3 0) 39 4 (-1)) 10 40 0 0 8) 12 41 0 0 8) 39 0 = yn S := by simp [zcp_at, zu_at, eS]
  have q1 : (zcp (zcp (zu (zu (zu (zu A 39 0 (A 1 3)) 39 1 (A 1 4)) 39 3 0) 39 4 (-1)) 10 40 0 0 8) 12 41 0 0 8) 39 1 = yn lg := by simp [zcp_at, zu_at, el]
  have q3 : (zcp (zcp (zu (zu (zu (zu A 39 0 (A 1 3)) 39 1 (A 1 4)) 39 3 0) 39 4 (-1)) 10 40 0 0 8) 12 41 0 0 8) 39 3 = 0 := by simp [zcp_at, zu_at]
  have q4 : (zcp (zcp (zu (zu (zu (zu A 39 0 (A 1 3)) 39 1 (A 1 4)) 39 3 0) 39 4 (-1)) 10 40 0 0 8) 12 41 0 0 8) 39 4 = -1 := by simp [zcp_at, zu_at]
  have q40 : ∀ k, k < 8 → (zcp (zcp (zu (zu (zu (zu A 39 0 (A 1 3)) 39 1 (A 1 4)) 39 3 0) 39 4 (-1)) 10 40 0 0 8) 12 41 0 0 8) 40 k = A 10 k := fun k hk => by simp [zcp_at, zu_at, k0, k8, hk]
  have q41 : ∀ k, k < 8 → (zcp (zcp (zu (zu (zu (zu A 39 0 (A 1 3)) 39 1 (A 1 4)) 39 3 0) 39 4 (-1)) 10 40 0 0 8) 12 41 0 0 8) 41 k = A 12 k := fun k hk => by simp [zcp_at, zu_at, k0, k8, hk]
  refine ⟨_, S, rfl, eS, by rw [r3, eS], ?_, fr⟩
  generalize zcp (zcp (zu (zu (zu (zu A 39 0 (A 1 3)) 39 1 (A 1 4)) 39 3 0) 39 4 (-1)) 10 40 0 0 8) 12 41 0 0 8 = Z at fr q0 q1 q3 q4 q40 q41
  refine ⟨⟨q0, hS1, hS⟩, ⟨⟨lg, by omega, hl, q1⟩, by rw [r4, el, q1]⟩, ⟨by rw [fr 39 2 rfl]; exact h2, ⟨0, by omega, by omega, q3⟩, by rw [t1, q3], Or.inl q3⟩, ⟨by rw [t2, q4], Or.inl q4⟩, fun k hk => ?_, fun k hk => ?_⟩
  · obtain ⟨-, -, ⟨p1, p2⟩, -⟩ := hSo k hk
    rw [q40 k (by omega)]
    exact ⟨p2, p1⟩
  · obtain ⟨-, -, -, -, ⟨p1, p2⟩⟩ := hSo k hk
    rw [q41 k (by omega), t3, if_neg (yn_ne1 (by omega)), p2]
    exact ⟨p1, rfl⟩
