/-! RUNS IN THOUGHT: SOONER, FEWER -/
/-- what a run in thought may leave changed -/
def kWT : List Nat := [1505, 2399, 3812, 3813, 3814, 3816, 3817, 3818, 3819, 3900, 3901, 3902, 3903, 3904, 3905, 3906, 4099, 4199, 4299, 4399, 4499, 4599, 4699, 4799, 4899, 4999, 5099, 5199]
def kWR : List Nat := [7352, 7353, 7354, 9199, 9299, 9799, 9899, 9999, 10099, 10199, 10299, 10399]
/-- all that a run in thought needs -/
def yRdy (a w s nl : Nat) (A B : yI) : Prop := yTown a w s A B ∧ yMD A w ∧ yLaws nl A B ∧ yTrans B ∧ yIs 4 (A 39 2)
/-- both have answered alike and are left as they were but for what is thought -/
def yThQ (A B : yI) (x y : Int32 × yI) : Prop := x.1 = y.1 ∧ yfr kWT A x.2 ∧ yIs 4 (x.2 39 2) ∧ yfr kWR B y.2
theorem done_th {A B : yI} (h : yIs 4 (A 39 2)) {r : Int32} : y2 (some (r, A)) (some (r, B)) (yThQ A B) := ⟨_, _, rfl, rfl, rfl, yfr_refl _, h, yfr_refl _⟩
theorem sq0 {a : Nat} (ha : a ≤ 4) : (yn a = 0) ↔ a = 0 := by
  show yn a = yn 0 ↔ _
  rw [yn_inj (by omega) (by omega)]
theorem c_sooner {a w s nl : Nat} {A B : yI} (h : yRdy a w s nl A B) (v : Int32) : y2 (f104_sooner v A) (f186_sooner v B) (yThQ A B) := by
  obtain ⟨hT, hD, hL, hR, h2⟩ := h
  obtain ⟨⟨ha, hw, hs⟩, ⟨a1, a2, a3⟩, ⟨b1, b2, b3⟩⟩ := hT.1
  unfold f104_sooner f186_sooner
  rw [f126_e, f129_e]
  simp only [ob, yb_ite0]
  by_cases hv : 0 ≤ v ∧ v ≤ 9
  · rw [if_pos hv, if_pos hv, a1, b1]
    by_cases e : a = 0
    · rw [if_pos ((sq0 ha).mpr e), if_pos ((sq0 ha).mpr e)]
      exact done_th h2
    · rw [if_neg (fun z => e ((sq0 ha).mp z)), if_neg (fun z => e ((sq0 ha).mp z))]
      obtain ⟨A1, S, e1, eS, eS', hW, fr⟩ := asIn_T hT hR h2
      obtain ⟨l, -, hl, rfl⟩ := yq_of (lo := 0) (hi := 9) (by omega) (by omega) hv.1 hv.2
      have frB : yfr [7316] B (zu B 73 16 (yn l)) := yfr_zu rfl (yfr_refl _)
      have frA : yfr [3900, 3901, 3903, 3904, 4099, 4199] A (zu A1 39 1 (yn l)) := yfr_zu rfl fr
      have hW1 : yWishT a s S (zu A1 39 1 (yn l)) (zu B 73 16 (yn l)) := by
        obtain ⟨w0, w1, w2, w3, w4, w5⟩ := hW
        refine ⟨by simpa [zu_at] using w0, ⟨⟨l, by omega, hl, zu_same _ _ _ _⟩, by rw [zu_same, zu_same]⟩, by simpa [zu_at] using w2, by simpa [zu_at] using w3, by simpa [zu_at] using w4, by simpa [zu_at] using w5⟩
      have hTw : yTw a w s (zu A1 39 1 (yn l)) (zu B 73 16 (yn l)) := yTw_ag (yag_fr rfl frA) (yag_fr rfl frB) (yTown_Tw hT hD)
      have hL1 : yLaws nl (zu A1 39 1 (yn l)) (zu B 73 16 (yn l)) := yLaws_ag (yag_fr rfl frA) (yag_fr rfl frB) hL
      obtain ⟨A2, y, e2, e3, e4, -⟩ := passT (by omega) hTw hW1 hL1
      have f2 : yfr w_f40_pass_38 (zu A1 39 1 (yn l)) A2 := (fr_f40_pass_38 _) _ e2
      have f3 : yfr w_f171_goTo (zu B 73 16 (yn l)) y.2 := (fr_f171_goTo _ _) _ e3
      rw [e1, ob, e2, ob, eS', e3, ob]
      refine y2_some ⟨e4.symm, yfr_trans _ _ _ (yfr_mono rfl frA) (yfr_mono rfl f2), ?_, ?_⟩
      · dsimp only
        rw [f2 39 2 rfl]
        exact hW1.2.2.1.1
      · intro b k hk
        dsimp only
        rw [zu_at]
        by_cases g : b = 73 ∧ k = 16
        · rw [if_pos g, g.1, g.2]
        · rw [if_neg g, f3 b k hk, zu_at, if_neg g]
  · rw [if_neg hv, if_neg hv]
    exact done_th h2
theorem ywant_yn {a w s : Nat} {A B : yI} (hT : yTown a w s A B) (v : Int32) : ∃ m, m ≤ 200 * s ∧ ywant A v s = yn m := by
  have hSo := hT.2.2.2.2
  have : ∀ n, n ≤ s → ∃ m, m ≤ 200 * n ∧ ywant A v n = yn m := by
    intro n
    induction n with
    | zero => intro _; exact ⟨0, by omega, rfl⟩
    | succ n ih =>
      intro hn
      obtain ⟨m, hm, em⟩ := ih (by omega)
      obtain ⟨⟨⟨k, -, hk, ek⟩, -⟩, -⟩ := hSo n (by omega)
      show ∃ m, m ≤ 200 * (n + 1) ∧ ywant A v n + (if A 9 n = v then A 8 n else 0) = yn m
      rw [em]
      by_cases c : A 9 n = v
      · rw [if_pos c, ek, yn_add]; exact ⟨m + k, by omega, rfl⟩
      · rw [if_neg c, Int32.add_zero]; exact ⟨m, by omega, rfl⟩
  exact this s (Nat.le_refl s)
theorem c_fewer {a w s nl : Nat} {A B : yI} (h : yRdy a w s nl A B) (v : Int32) : y2 (f102_fewer v A) (f184_fewer v B) (yThQ A B) := by
  obtain ⟨hT, hD, hL, hR, h2⟩ := h
  obtain ⟨⟨ha, hw, hs⟩, ⟨a1, a2, a3⟩, ⟨b1, b2, b3⟩⟩ := hT.1
  obtain ⟨m0, hm0, e0⟩ := ywant_yn hT 0
  obtain ⟨m1', hm1, e1⟩ := ywant_yn hT 1
  unfold f102_fewer f184_fewer f75_fewerWant
  rw [f126_e, f129_e, f74_e a3 hs, f74_e a3 hs, f183_e hT, f183_e hT, e0, e1]
  simp only [ob, yb_ite0]
  by_cases hv : 0 ≤ v ∧ v ≤ 1
  · rw [if_pos hv, if_pos hv]
    have c0 : yn m0 - yn m1' = 0 ↔ yn m0 = yn m1' := by
      constructor
      · intro z
        have := congrArg (fun x => x + yn m1') z
        simpa using this
      · intro z; rw [z, Int32.sub_self]
    by_cases e : yn m0 = yn m1'
    · rw [if_pos (c0.mpr e), if_pos e, ob, if_pos rfl, ite_self]
      exact done_th h2
    · rw [if_neg (fun z => e (c0.mp z)), if_neg e]
      have a0 : ¬ a = 0 := by
        intro z
        have : s = 0 := by
          by_cases q : s = 0
          · exact q
          · obtain ⟨-, -, ⟨⟨i, hi, -⟩, -⟩, -⟩ := hT.2.2.2.2 0 (by omega)
            omega
        subst this
        apply e
        have : m0 = 0 := by omega
        have : m1' = 0 := by omega
        subst m0 m1'
        rfl
      have run : ∀ few : Int32, (few = 0 ∨ few = 1) → y2 (if v = 0 then some (few, A) else if few = -2 then some (few, A) else if A 1 0 = 0 then some (-5, A) else Option.bind (f81_asIn_39 A) fun t6 => Option.bind (f40_pass_38 t6) fun t8 => if (t8 38 17) = few then some (1, t8) else some (0, t8)) (if v = 0 then some (few, B) else Option.bind (f171_goTo (B 73 15) B) fun t12 => if t12.1 = few then some (1, t12.2) else some (0, t12.2)) (yThQ A B) := by
        intro few hfew
        by_cases g : v = 0
        · rw [if_pos g, if_pos g]; exact done_th h2
        · rw [if_neg g, if_neg g, if_neg (show ¬ few = -2 by rcases hfew with rfl | rfl <;> decide), if_neg (show ¬ A 1 0 = 0 by rw [a1]; exact fun z => a0 ((sq0 ha).mp z))]
          obtain ⟨A1, S, k1, eS, eS', hW, fr⟩ := asIn_T hT hR h2
          have hTw : yTw a w s A1 B := yTw_ag (yag_fr rfl fr) (yag_refl _) (yTown_Tw hT hD)
          have hL1 : yLaws nl A1 B := yLaws_ag (yag_fr rfl fr) (yag_refl _) hL
          obtain ⟨A2, y, k2, k3, k4, -⟩ := passT (by omega) hTw hW hL1
          have f2 : yfr w_f40_pass_38 A1 A2 := (fr_f40_pass_38 _) _ k2
          have f3 : yfr w_f171_goTo B y.2 := (fr_f171_goTo _ _) _ k3
          have keep : yfr kWT A A2 ∧ yIs 4 (A2 39 2) ∧ yfr kWR B y.2 := ⟨yfr_trans _ _ _ (yfr_mono rfl fr) (yfr_mono rfl f2), by rw [f2 39 2 rfl]; exact hW.2.2.1.1, f3⟩
          rw [k1, ob, k2, ob, eS', k3, ob, ← k4]
          exact y2_ite Iff.rfl (fun _ => y2_some ⟨rfl, keep⟩) fun _ => y2_some ⟨rfl, keep⟩
      by_cases c : yn m1' ≤ yn m0
      · rw [if_pos c]
        rw [yn_le (by omega) (by omega)] at c
        rw [if_pos ((i_sub_nn (by omega) (by omega)).mpr c), ob]
        exact run 1 (Or.inr rfl)
      · rw [if_neg c]
        rw [yn_le (by omega) (by omega)] at c
        rw [if_neg (fun z => c ((i_sub_nn (by omega) (by omega)).mp z)), ob]
        exact run 0 (Or.inl rfl)
  · rw [if_neg hv, if_neg hv]
    exact done_th h2
