/-! A RUN, noon 24: the whole of it -/
/-- what both show of a run to S -/
def yDone (a s S : Nat) (A B : yI) : Prop := A 25 0 = yn S ∧ (∃ f, f < a ∧ A 24 16 = yn f) ∧ B 73 53 = A 24 16 ∧ B 73 52 = A 24 17 ∧ B 73 54 = A 24 18 ∧ (∀ i, i < a → B 103 i = A 37 i) ∧ A 24 13 = yn a ∧ A 24 14 = yn s ∧ (∀ t c, t < S + 1 → c < 32 → B 100 (32 * t + c) = A 33 (32 * t + c)) ∧ (∀ t i k, t < S + 1 → i < 4 → k < 8 → s ≤ k → A 33 (32 * t + (8 * i + k)) = 0) ∧ ∃ c : Nat → Int32, (∀ i, i < 32 → B 97 i = c i) ∧ (∀ i k, i < 4 → k < 8 → s ≤ k → c (8 * i + k) = 0) ∧ (A 25 3 = 0 → A 24 19 = ywant A 0 s + ywant A 1 s - ysum (fun k => c k) 8 - ysum (fun k => c (8 + k)) 8 - ysum (fun k => c (16 + k)) 8 - ysum (fun k => c (24 + k)) 8)
theorem pass {a w s S nl : Nat} {A B : yI} (ha0 : 0 < a) (hT : yTw a w s A B) (hW : yWish a s S A B) (hL : yLaws nl A B) : y2 (f40_pass_24 A) (f171_goTo (yn S) B) (fun A' y => y.1 = A' 24 17 ∧ yDone a s S A' y.2) := by
  obtain ⟨w0, w1, w2⟩ := hW.1
  obtain ⟨A0, x1, x2, x3, e0, e1, e2, e3, hP, g13, g14, fA0, fB0⟩ := start hT hW hL
  obtain ⟨x, A1, A2, y, B1, z, k1, k2, k3, k4, k5, k6, q1, q2, hB, hC, hE, hL2⟩ := minutes ha0 w2 hP
  have fA1 : yfr w_f44_arrive_24 x.2 A1 := (fr_f44_arrive_24 (yn S) x.2) _ k2
  have fx : yfr w_f40_pass_24_L6 A0 x.2 := (frl_f40_pass_24_L6 5000 ((0 : Int32), A0)) _ k1
  have fA2 : yfr w_f48_end_24 A1 A2 := (fr_f48_end_24 (yn S) A1) _ k3
  obtain ⟨hT2, hW2, hAll2, hN2, -⟩ := hB
  obtain ⟨⟨ha, hw, hs⟩, ⟨a1, a2, a3⟩, -⟩ := hT2.1
  obtain ⟨h1, h2, ea, hea, eea, h30⟩ := hE
  have hC33 : ∀ c, c < 32 → z.2 97 c = A2 28 c := by
    intro c hc
    obtain ⟨u, v, c1, c2, -⟩ := hC c hc
    rw [c1, c2]
  have h97 : ∀ c, c < 32 → z.2 97 c = A2 33 (32 * S + c) := by
    intro c hc
    have e100 : z.2 100 (32 * S + c) = B1 97 c := by
      obtain ⟨z', ez, -, kz, -⟩ := kept_l2 (B := B1) (t := S) w2
      rw [k6] at ez
      cases ez
      exact kz c hc
    have fz : yfr w_f171_goTo_L183 B1 z.2 := (frl_f171_goTo_L183 (yn S) 5000 ((0 : Int32), B1)) _ k6
    rw [fz 97 c rfl, ← e100]
    exact (h1 S c (by omega) hc).1
  have hZ : ∀ i k, i < 4 → k < 8 → s ≤ k → ylst A2 S ea (8 * i + k) (S + 1) = 0 := by
    intro i k hi hk hsk
    have last : ylst A2 S ea (8 * i + k) (S + 1) = zmin (ylst A2 S ea (8 * i + k) S) (A2 33 (32 * S + (8 * i + k))) := by
      show (if S ≤ S + ea then _ else _) = _
      rw [if_pos (by omega)]
    obtain ⟨u, hu, eu⟩ := ylst_yn (A := A2) (S := S) (ea := ea) (c := 8 * i + k) (T := S) (fun t ht => (h1 t _ (by omega) (by omega)).2)
    rw [last, eu, h2 S i k (by omega) hi hk (Or.inr hsk)]
    show zmin (yn u) (yn 0) = yn 0
    rw [zmin_yn (by omega) (by omega), Nat.min_zero]
  obtain ⟨A3, e4, t1, t2, t3, t4, t5⟩ := tally (B := z.2) ha0 hT2 hW2 w2 hea eea h30 hZ
  have fA3 : yfr w_f49_tally_24 A2 A3 := (fr_f49_tally_24 A2) _ e4
  obtain ⟨B3, e5, u1, u2, u3, u4⟩ := counts ha0 hT2 hW2 h97 w2 hea eea h1
  have fB3 : yfr w_f173_counts z.2 B3 := (fr_f173_counts (yn S) z.2) _ e5
  have hful := yful_lt (f := ycnt A2 S ea s) (n := a) ha0
  unfold f40_pass_24 f171_goTo
  rw [e0, e1, ob, ob, e2, ob, e3, ob, k4, ob, k5, ob, k6, ob, e5, ob, k1, ob, q1, k2, ob, q2, k3, ob, e4, ob]
  refine y2_some ⟨by dsimp only; rw [u3, t3], ?_⟩
  dsimp only
  refine ⟨?_, ⟨_, hful, t2⟩, by rw [u2, t2], by rw [u3, t3], by rw [u4, t4], fun i hi => by rw [u1 i hi, t1 i (by omega)], ?_, ?_, fun t c ht hc => ?_, fun t i k ht hi hk hsk => ?_, fun c => A2 28 c, fun i hi => ?_, fun i k hi hk hsk => hN2 i k hi hk (Or.inr hsk), fun h0 => ?_⟩
  · rw [fA3 25 0 rfl, fA2 25 0 rfl]; exact q2
  · rw [fA3 24 13 rfl, fA2 24 13 rfl, fA1 24 13 rfl, fx 24 13 rfl, g13]; exact hT.1.2.1.1
  · rw [fA3 24 14 rfl, fA2 24 14 rfl, fA1 24 14 rfl, fx 24 14 rfl, g14]; exact hT.1.2.1.2.2
  · rw [fB3 100 _ rfl, fA3 33 _ rfl]
    exact (h1 t c ht hc).1
  · rw [fA3 33 _ rfl]
    exact h2 t i k ht hi hk (Or.inr hsk)
  · rw [fB3 97 i rfl]; exact hC33 i hi
  · have st0 : A2 25 3 = 0 := by rw [← fA3 25 3 rfl]; exact h0
    have all : ∀ i, i < 4 → A2 31 i = ysum (fun k => A2 28 (8 * i + k)) 8 := by
      intro i hi
      have : yst A2 i = 0 := by unfold yst; rw [st0, ite_self]
      rw [hAll2 i hi, this, Int32.zero_add]
      exact (ysum_zero (n := 8) (m := s) (by omega) (fun j p1 p2 => hN2 i j hi p2 (Or.inr p1))).symm
    have wt : ∀ v, ywant A3 v s = ywant A2 v s := fun v => ysum_congr fun i _ => by rw [fA3 9 i rfl, fA3 8 i rfl]
    rw [t5, wt, wt, st0, Int32.add_zero]
    show ywant A2 0 s + ywant A2 1 s - A2 31 0 - A2 31 1 - A2 31 2 - A2 31 3 = _
    rw [all 0 (by omega), all 1 (by omega), all 2 (by omega), all 3 (by omega)]
    have z0 : (fun k => A2 28 (8 * 0 + k)) = (fun k => A2 28 k) := funext fun k => by rw [Nat.mul_zero, Nat.zero_add]
    rw [z0]
