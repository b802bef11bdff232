def w_f188_paid : List Nat := [7345, 7346, 7352, 7353, 7354, 9199, 9299, 9799, 9899, 9999, 10099, 10199, 10299, 10399]
set_option maxRecDepth 10000 in
set_option maxHeartbeats 4000000 in
theorem fr_f188_paid (v1 : Int32) (I : (Nat → Nat → Int32)) : yF (f188_paid v1 I) (fun x => yfr w_f188_paid I x.2) := by
  unfold f188_paid
  have h0 : yfr w_f188_paid I I := yfr_refl _
  repeat' (first
    | with_reducible refine yfr_zu ?_ ?_
    | with_reducible refine yfr_zcp (fun _ => rfl) ?_
    | with_reducible assumption
    | with_reducible exact yfr_refl _
    | exact (rfl : (_ : Bool) = true)
    | with_reducible exact yF_none
    | with_reducible refine yF_some ?_
    | exact yrow0 (by assumption) ⟨rfl, rfl, rfl, rfl⟩
    | with_reducible refine yF_bif ?_
    | with_reducible refine yF_ite ?_ ?_
    | with_reducible refine yF_bindI (V := w_f188_paid) (I0 := I) (frl_f188_paid_L20 _ _ _) ?_ ?_ ?_
    | with_reducible refine yF_bind0 ?_
    | with_reducible intro _
    | dsimp only)
def w_f83_follow_39 : List Nat := [3904, 3905, 3906]
set_option maxRecDepth 10000 in
set_option maxHeartbeats 4000000 in
theorem fr_f83_follow_39 (v1 : Int32) (v2 : Int32) (v3 : Int32) (I : (Nat → Nat → Int32)) : yF (f83_follow_39 v1 v2 v3 I) (fun x => yfr w_f83_follow_39 I x) := by
  unfold f83_follow_39
  have h0 : yfr w_f83_follow_39 I I := yfr_refl _
  repeat' (first
    | with_reducible refine yfr_zu ?_ ?_
    | with_reducible refine yfr_zcp (fun _ => rfl) ?_
    | with_reducible assumption
    | with_reducible exact yfr_refl _
    | exact (rfl : (_ : Bool) = true)
    | with_reducible exact yF_none
    | with_reducible refine yF_some ?_
    | exact yrow0 (by assumption) ⟨rfl, rfl, rfl, rfl⟩
    | with_reducible refine yF_bif ?_
    | with_reducible refine yF_ite ?_ ?_
    | with_reducible refine yF_bind0 ?_
    | with_reducible intro _
    | dsimp only)
def w_f109_lead_L49 : List Nat := [1505, 2399, 3812, 3813, 3814, 3816, 3817, 3818, 3819, 3900, 3901, 3903, 3904, 3905, 3906, 4099, 4199, 4299, 4399, 4499, 4599, 4699, 4799, 4899, 4999, 5099, 5199]
set_option maxRecDepth 10000 in
set_option maxHeartbeats 4000000 in
theorem fr_f109_lead_L49 (v2 : Int32) (v3 : Int32) (s : (Int32 × (Nat → Nat → Int32))) : yF (f109_lead_L49 v2 v3 s) (fun y => match y with
    | .inl x => yfr w_f109_lead_L49 s.2 x.2
    | .inr (.inl x) => yfr w_f109_lead_L49 s.2 x.2
    | .inr (.inr x) => yfr w_f109_lead_L49 s.2 x.2) := by
  unfold f109_lead_L49
  have h0 : yfr w_f109_lead_L49 s.2 s.2 := yfr_refl _
  repeat' (first
    | with_reducible refine yfr_zu ?_ ?_
    | with_reducible refine yfr_zcp (fun _ => rfl) ?_
    | with_reducible assumption
    | with_reducible exact yfr_refl _
    | exact (rfl : (_ : Bool) = true)
    | with_reducible exact yF_none
    | with_reducible refine yF_some ?_
    | exact yrow0 (by assumption) ⟨rfl, rfl, rfl, rfl⟩
    | with_reducible refine yF_bif ?_
    | with_reducible refine yF_ite ?_ ?_
    | with_reducible refine yF_bindI (V := w_f109_lead_L49) (I0 := s.2) (fr_f81_asIn_39 _) ?_ ?_ ?_
    | with_reducible refine yF_bindI (V := w_f109_lead_L49) (I0 := s.2) (fr_f83_follow_39 _ _ _ _) ?_ ?_ ?_
    | with_reducible refine yF_bindI (V := w_f109_lead_L49) (I0 := s.2) (fr_f40_pass_38 _) ?_ ?_ ?_
    | with_reducible refine yF_bind0 ?_
    | with_reducible intro _
    | dsimp only)
theorem frl_f109_lead_L49 (v2 : Int32) (v3 : Int32) (n : Nat) (s : (Int32 × (Nat → Nat → Int32))) : yF (zloopR (f109_lead_L49 v2 v3) n s) (yS (fun x => yfr w_f109_lead_L49 s.2 x.2) (fun x => yfr w_f109_lead_L49 s.2 x.2)) :=
  yF_loopR (R := fun a b => yfr w_f109_lead_L49 a.2 b.2) (S := fun (a : (Int32 × (Nat → Nat → Int32))) (b : (Int32 × (Nat → Nat → Int32))) => yfr w_f109_lead_L49 a.2 b.2) (fun a b c h1 h2 => yfr_trans a.2 b.2 c.2 h1 h2) (fun (a b : (Int32 × (Nat → Nat → Int32))) (c : (Int32 × (Nat → Nat → Int32))) h1 h2 => yfr_trans a.2 b.2 c.2 h1 h2) (fun s y hy => by
    have h := fr_f109_lead_L49 v2 v3 s y hy
    rcases y with y | y | y
    · exact h
    · exact h
    · exact h) n s
def w_f109_lead : List Nat := [1505, 2399, 3812, 3813, 3814, 3816, 3817, 3818, 3819, 3900, 3901, 3903, 3904, 3905, 3906, 4099, 4199, 4299, 4399, 4499, 4599, 4699, 4799, 4899, 4999, 5099, 5199]
set_option maxRecDepth 10000 in
set_option maxHeartbeats 4000000 in
theorem fr_f109_lead (v1 : Int32) (I : (Nat → Nat → Int32)) : yF (f109_lead v1 I) (fun x => yfr w_f109_lead I x.2) := by
  unfold f109_lead
  have h0 : yfr w_f109_lead I I := yfr_refl _
  repeat' (first
    | with_reducible refine yfr_zu ?_ ?_
    | with_reducible refine yfr_zcp (fun _ => rfl) ?_
    | with_reducible assumption
    | with_reducible exact yfr_refl _
    | exact (rfl : (_ : Bool) = true)
    | with_reducible exact yF_none
    | with_reducible refine yF_some ?_
    | exact yrow0 (by assumption) ⟨rfl, rfl, rfl, rfl⟩
    | with_reducible refine yF_bif ?_
    | with_reducible refine yF_ite ?_ ?_
    | with_reducible refine yF_zbRI (V := w_f109_lead) (I0 := I) (frl_f109_lead_L49 _ _ _ _) ?_ ?_ ?_ ?_
    | with_reducible refine yF_bind0 ?_
    | with_reducible intro _
    | dsimp only)
def w_f189_lead_L54 : List Nat := [7348, 7352, 7353, 7354, 9199, 9299, 9799, 9899, 9999, 10099, 10199, 10299, 10399]
set_option maxRecDepth 10000 in
set_option maxHeartbeats 4000000 in
theorem fr_f189_lead_L54 (v1 : Int32) (s : (Int32 × Int32 × (Nat → Nat → Int32))) : yF (f189_lead_L54 v1 s) (fun y => match y with
    | .inl x => yfr w_f189_lead_L54 s.2.2 x.2.2
    | .inr x => yfr w_f189_lead_L54 s.2.2 x.2.2) := by
  unfold f189_lead_L54
  have h0 : yfr w_f189_lead_L54 s.2.2 s.2.2 := yfr_refl _
  repeat' (first
    | with_reducible refine yfr_zu ?_ ?_
    | with_reducible refine yfr_zcp (fun _ => rfl) ?_
    | with_reducible assumption
    | with_reducible exact yfr_refl _
    | exact (rfl : (_ : Bool) = true)
    | with_reducible exact yF_none
    | with_reducible refine yF_some ?_
    | exact yrow0 (by assumption) ⟨rfl, rfl, rfl, rfl⟩
    | with_reducible refine yF_bif ?_
    | with_reducible refine yF_ite ?_ ?_
    | with_reducible refine yF_bindI (V := w_f189_lead_L54) (I0 := s.2.2) (fr_f171_goTo _ _) ?_ ?_ ?_
    | with_reducible refine yF_bind0 ?_
    | with_reducible intro _
    | dsimp only)
theorem frl_f189_lead_L54 (v1 : Int32) (n : Nat) (s : (Int32 × Int32 × (Nat → Nat → Int32))) : yF (zloop (f189_lead_L54 v1) n s) (fun x => yfr w_f189_lead_L54 s.2.2 x.2.2) :=
  yF_loop (R := fun a b => yfr w_f189_lead_L54 a.2.2 b.2.2) (fun _ => yfr_refl _) (fun a b c h1 h2 => yfr_trans a.2.2 b.2.2 c.2.2 h1 h2) (fun s y hy => by
    have h := fr_f189_lead_L54 v1 s y hy
    rcases y with y | y
    · exact h
    · exact h) n s
def w_f189_lead : List Nat := [7347, 7348, 7349, 7352, 7353, 7354, 9199, 9299, 9799, 9899, 9999, 10099, 10199, 10299, 10399]
set_option maxRecDepth 10000 in
set_option maxHeartbeats 4000000 in
theorem fr_f189_lead (v1 : Int32) (I : (Nat → Nat → Int32)) : yF (f189_lead v1 I) (fun x => yfr w_f189_lead I x.2) := by
  unfold f189_lead
  have h0 : yfr w_f189_lead I I := yfr_refl _
  repeat' (first
    | with_reducible refine yfr_zu ?_ ?_
    | with_reducible refine yfr_zcp (fun _ => rfl) ?_
    | with_reducible assumption
    | with_reducible exact yfr_refl _
    | exact (rfl : (_ : Bool) = true)
    | with_reducible exact yF_none
    | with_reducible refine yF_some ?_
    | exact yrow0 (by assumption) ⟨rfl, rfl, rfl, rfl⟩
    | with_reducible refine yF_bif ?_
    | with_reducible refine yF_ite ?_ ?_
    | with_reducible refine yF_bindI (V := w_f189_lead) (I0 := I) (frl_f189_lead_L54 _ _ _) ?_ ?_ ?_
    | with_reducible refine yF_bind0 ?_
    | with_reducible intro _
    | dsimp only)
def w_f110_serves_L39 : List Nat := [1505, 2399, 3812, 3813, 3814, 3816, 3817, 3818, 3819, 3900, 3901, 3903, 3904, 4099, 4199, 4299, 4399, 4499, 4599, 4699, 4799, 4899, 4999, 5099, 5199]
set_option maxRecDepth 10000 in
set_option maxHeartbeats 4000000 in
theorem fr_f110_serves_L39 (v1 : Int32) (s : (Int32 × Int32 × Int32 × Int32 × Int32 × (Nat → Nat → Int32))) : yF (f110_serves_L39 v1 s) (fun y => match y with
    | .inl x => yfr w_f110_serves_L39 s.2.2.2.2.2 x.2.2.2.2.2
    | .inr x => yfr w_f110_serves_L39 s.2.2.2.2.2 x.2.2.2.2.2) := by
  unfold f110_serves_L39
  have h0 : yfr w_f110_serves_L39 s.2.2.2.2.2 s.2.2.2.2.2 := yfr_refl _
  repeat' (first
    | with_reducible refine yfr_zu ?_ ?_
    | with_reducible refine yfr_zcp (fun _ => rfl) ?_
    | with_reducible assumption
    | with_reducible exact yfr_refl _
    | exact (rfl : (_ : Bool) = true)
    | with_reducible exact yF_none
    | with_reducible refine yF_some ?_
    | exact yrow0 (by assumption) ⟨rfl, rfl, rfl, rfl⟩
    | with_reducible refine yF_bif ?_
    | with_reducible refine yF_ite ?_ ?_
    | with_reducible refine yF_bindI (V := w_f110_serves_L39) (I0 := s.2.2.2.2.2) (fr_f81_asIn_39 _) ?_ ?_ ?_
    | with_reducible refine yF_bindI (V := w_f110_serves_L39) (I0 := s.2.2.2.2.2) (fr_f40_pass_38 _) ?_ ?_ ?_
    | with_reducible refine yF_bind0 ?_
    | with_reducible intro _
    | dsimp only)
theorem frl_f110_serves_L39 (v1 : Int32) (n : Nat) (s : (Int32 × Int32 × Int32 × Int32 × Int32 × (Nat → Nat → Int32))) : yF (zloop (f110_serves_L39 v1) n s) (fun x => yfr w_f110_serves_L39 s.2.2.2.2.2 x.2.2.2.2.2) :=
  yF_loop (R := fun a b => yfr w_f110_serves_L39 a.2.2.2.2.2 b.2.2.2.2.2) (fun _ => yfr_refl _) (fun a b c h1 h2 => yfr_trans a.2.2.2.2.2 b.2.2.2.2.2 c.2.2.2.2.2 h1 h2) (fun s y hy => by
    have h := fr_f110_serves_L39 v1 s y hy
    rcases y with y | y
    · exact h
    · exact h) n s
def w_f110_serves : List Nat := [1505, 2399, 3812, 3813, 3814, 3816, 3817, 3818, 3819, 3900, 3901, 3903, 3904, 4099, 4199, 4299, 4399, 4499, 4599, 4699, 4799, 4899, 4999, 5099, 5199]
set_option maxRecDepth 10000 in
set_option maxHeartbeats 4000000 in
theorem fr_f110_serves (v1 : Int32) (I : (Nat → Nat → Int32)) : yF (f110_serves v1 I) (fun x => yfr w_f110_serves I x.2) := by
  unfold f110_serves
  have h0 : yfr w_f110_serves I I := yfr_refl _
  repeat' (first
    | with_reducible refine yfr_zu ?_ ?_
    | with_reducible refine yfr_zcp (fun _ => rfl) ?_
    | with_reducible assumption
    | with_reducible exact yfr_refl _
    | exact (rfl : (_ : Bool) = true)
    | with_reducible exact yF_none
    | with_reducible refine yF_some ?_
    | exact yrow0 (by assumption) ⟨rfl, rfl, rfl, rfl⟩
    | with_reducible refine yF_bif ?_
    | with_reducible refine yF_ite ?_ ?_
    | with_reducible refine yF_bindI (V := w_f110_serves) (I0 := I) (frl_f110_serves_L39 _ _ _) ?_ ?_ ?_
    | with_reducible refine yF_bind0 ?_
    | with_reducible intro _
    | dsimp only)
def w_f190_serves_L35 : List Nat := [7351, 7352, 7353, 7354, 9199, 9299, 9799, 9899, 9999, 10099, 10199, 10299, 10399]
set_option maxRecDepth 10000 in
set_option maxHeartbeats 4000000 in
theorem fr_f190_serves_L35 (v1 : Int32) (s : (Int32 × Int32 × Int32 × Int32 × (Nat → Nat → Int32))) : yF (f190_serves_L35 v1 s) (fun y => match y with
    | .inl x => yfr w_f190_serves_L35 s.2.2.2.2 x.2.2.2.2
    | .inr x => yfr w_f190_serves_L35 s.2.2.2.2 x.2.2.2.2) := by
  unfold f190_serves_L35
  have h0 : yfr w_f190_serves_L35 s.2.2.2.2 s.2.2.2.2 := yfr_refl _
  repeat' (first
    | with_reducible refine yfr_zu ?_ ?_
    | with_reducible refine yfr_zcp (fun _ => rfl) ?_
    | with_reducible assumption
    | with_reducible exact yfr_refl _
    | exact (rfl : (_ : Bool) = true)
    | with_reducible exact yF_none
    | with_reducible refine yF_some ?_
    | exact yrow0 (by assumption) ⟨rfl, rfl, rfl, rfl⟩
    | with_reducible refine yF_bif ?_
    | with_reducible refine yF_ite ?_ ?_
    | with_reducible refine yF_bindI (V := w_f190_serves_L35) (I0 := s.2.2.2.2) (fr_f171_goTo _ _) ?_ ?_ ?_
    | with_reducible refine yF_bind0 ?_
    | with_reducible intro _
    | dsimp only)
theorem frl_f190_serves_L35 (v1 : Int32) (n : Nat) (s : (Int32 × Int32 × Int32 × Int32 × (Nat → Nat → Int32))) : yF (zloop (f190_serves_L35 v1) n s) (fun x => yfr w_f190_serves_L35 s.2.2.2.2 x.2.2.2.2) :=
  yF_loop (R := fun a b => yfr w_f190_serves_L35 a.2.2.2.2 b.2.2.2.2) (fun _ => yfr_refl _) (fun a b c h1 h2 => yfr_trans a.2.2.2.2 b.2.2.2.2 c.2.2.2.2 h1 h2) (fun s y hy => by
    have h := fr_f190_serves_L35 v1 s y hy
    rcases y with y | y
    · exact h
    · exact h) n s
def w_f190_serves : List Nat := [7350, 7351, 7352, 7353, 7354, 9199, 9299, 9799, 9899, 9999, 10099, 10199, 10299, 10399]
set_option maxRecDepth 10000 in
set_option maxHeartbeats 4000000 in
theorem fr_f190_serves (v1 : Int32) (I : (Nat → Nat → Int32)) : yF (f190_serves v1 I) (fun x => yfr w_f190_serves I x.2) := by
  unfold f190_serves
  have h0 : yfr w_f190_serves I I := yfr_refl _
  repeat' (first
    | with_reducible refine yfr_zu ?_ ?_
    | with_reducible refine yfr_zcp (fun _ => rfl) ?_
    | with_reducible assumption
    | with_reducible exact yfr_refl _
    | exact (rfl : (_ : Bool) = true)
    | with_reducible exact yF_none
    | with_reducible refine yF_some ?_
    | exact yrow0 (by assumption) ⟨rfl, rfl, rfl, rfl⟩
    | with_reducible refine yF_bif ?_
    | with_reducible refine yF_ite ?_ ?_
    | with_reducible refine yF_bindI (V := w_f190_serves) (I0 := I) (frl_f190_serves_L35 _ _ _) ?_ ?_ ?_
    | with_reducible refine yF_bind0 ?_
    | with_reducible intro _
    | dsimp only)
def w_f191_judge_L89 : List Nat := [10699]
set_option maxRecDepth 10000 in
set_option maxHeartbeats 4000000 in
theorem fr_f191_judge_L89 (v1 : Int32) (v2 : Int32) (v3 : Int32) (v4 : Int32) (J : (Nat → Nat → Int64)) (s : (Int32 × Int32 × (Nat → Nat → Int32))) : yF (f191_judge_L89 v1 v2 v3 v4 J s) (fun y => match y with
    | .inl x => yfr w_f191_judge_L89 s.2.2 x.2.2
    | .inr x => yfr w_f191_judge_L89 s.2.2 x.2.2) := by
  unfold f191_judge_L89
  have h0 : yfr w_f191_judge_L89 s.2.2 s.2.2 := yfr_refl _
  repeat' (first
    | with_reducible refine yfr_zu ?_ ?_
    | with_reducible refine yfr_zcp (fun _ => rfl) ?_
    | with_reducible assumption
    | with_reducible exact yfr_refl _
    | exact (rfl : (_ : Bool) = true)
    | with_reducible exact yF_none
    | with_reducible refine yF_some ?_
    | exact yrow0 (by assumption) ⟨rfl, rfl, rfl, rfl⟩
    | with_reducible refine yF_bif ?_
    | with_reducible refine yF_ite ?_ ?_
    | with_reducible refine yF_bindI (V := w_f191_judge_L89) (I0 := s.2.2) (fr_f179_lastOf _ _ _ _) ?_ ?_ ?_
    | with_reducible refine yF_bind0 ?_
    | with_reducible intro _
    | dsimp only)
theorem frl_f191_judge_L89 (v1 : Int32) (v2 : Int32) (v3 : Int32) (v4 : Int32) (J : (Nat → Nat → Int64)) (n : Nat) (s : (Int32 × Int32 × (Nat → Nat → Int32))) : yF (zloop (f191_judge_L89 v1 v2 v3 v4 J) n s) (fun x => yfr w_f191_judge_L89 s.2.2 x.2.2) :=
  yF_loop (R := fun a b => yfr w_f191_judge_L89 a.2.2 b.2.2) (fun _ => yfr_refl _) (fun a b c h1 h2 => yfr_trans a.2.2 b.2.2 c.2.2 h1 h2) (fun s y hy => by
    have h := fr_f191_judge_L89 v1 v2 v3 v4 J s y hy
    rcases y with y | y
    · exact h
    · exact h) n s
def w_f191_judge_L56 : List Nat := [10699]
set_option maxRecDepth 10000 in
set_option maxHeartbeats 4000000 in
theorem fr_f191_judge_L56 (v1 : Int32) (J : (Nat → Nat → Int64)) (s : (Int32 × Int32 × (Nat → Nat → Int32))) : yF (f191_judge_L56 v1 J s) (fun y => match y with
    | .inl x => yfr w_f191_judge_L56 s.2.2 x.2
    | .inr (.inl x) => yfr w_f191_judge_L56 s.2.2 x.2.2
    | .inr (.inr x) => yfr w_f191_judge_L56 s.2.2 x.2.2) := by
  unfold f191_judge_L56
  have h0 : yfr w_f191_judge_L56 s.2.2 s.2.2 := yfr_refl _
  repeat' (first
    | with_reducible refine yfr_zu ?_ ?_
    | with_reducible refine yfr_zcp (fun _ => rfl) ?_
    | with_reducible assumption
    | with_reducible exact yfr_refl _
    | exact (rfl : (_ : Bool) = true)
    | with_reducible exact yF_none
    | with_reducible refine yF_some ?_
    | exact yrow0 (by assumption) ⟨rfl, rfl, rfl, rfl⟩
    | with_reducible refine yF_bif ?_
    | with_reducible refine yF_ite ?_ ?_
    | with_reducible refine yF_bindI (V := w_f191_judge_L56) (I0 := s.2.2) (frl_f191_judge_L89 _ _ _ _ _ _ _) ?_ ?_ ?_
    | with_reducible refine yF_bind0 ?_
    | with_reducible intro _
    | dsimp only)
theorem frl_f191_judge_L56 (v1 : Int32) (J : (Nat → Nat → Int64)) (n : Nat) (s : (Int32 × Int32 × (Nat → Nat → Int32))) : yF (zloopR (f191_judge_L56 v1 J) n s) (yS (fun x => yfr w_f191_judge_L56 s.2.2 x.2) (fun x => yfr w_f191_judge_L56 s.2.2 x.2.2)) :=
  yF_loopR (R := fun a b => yfr w_f191_judge_L56 a.2.2 b.2.2) (S := fun (a : (Int32 × Int32 × (Nat → Nat → Int32))) (b : (Int32 × (Nat → Nat → Int32))) => yfr w_f191_judge_L56 a.2.2 b.2) (fun a b c h1 h2 => yfr_trans a.2.2 b.2.2 c.2.2 h1 h2) (fun (a b : (Int32 × Int32 × (Nat → Nat → Int32))) (c : (Int32 × (Nat → Nat → Int32))) h1 h2 => yfr_trans a.2.2 b.2.2 c.2 h1 h2) (fun s y hy => by
    have h := fr_f191_judge_L56 v1 J s y hy
    rcases y with y | y | y
    · exact h
    · exact h
    · exact h) n s
def w_f191_judge : List Nat := [10699]
set_option maxRecDepth 10000 in
set_option maxHeartbeats 4000000 in
theorem fr_f191_judge (v1 : Int32) (I : (Nat → Nat → Int32)) (J : (Nat → Nat → Int64)) : yF (f191_judge v1 I J) (fun x => yfr w_f191_judge I x.2) := by
  unfold f191_judge
  have h0 : yfr w_f191_judge I I := yfr_refl _
  repeat' (first
    | with_reducible refine yfr_zu ?_ ?_
    | with_reducible refine yfr_zcp (fun _ => rfl) ?_
    | with_reducible assumption
    | with_reducible exact yfr_refl _
    | exact (rfl : (_ : Bool) = true)
    | with_reducible exact yF_none
    | with_reducible refine yF_some ?_
    | exact yrow0 (by assumption) ⟨rfl, rfl, rfl, rfl⟩
    | with_reducible refine yF_bif ?_
    | with_reducible refine yF_ite ?_ ?_
    | with_reducible refine yF_zbRI (V := w_f191_judge) (I0 := I) (frl_f191_judge_L56 _ _ _ _) ?_ ?_ ?_ ?_
    | with_reducible refine yF_bind0 ?_
    | with_reducible intro _
    | dsimp only)
def w_f15_back : List Nat := [299, 899, 5205]
set_option maxRecDepth 10000 in
set_option maxHeartbeats 4000000 in
theorem fr_f15_back (I : (Nat → Nat → Int32)) : yF (f15_back I) (fun x => yfr w_f15_back I x.2) := by
  unfold f15_back
  have h0 : yfr w_f15_back I I := yfr_refl _
  repeat' (first
    | with_reducible refine yfr_zu ?_ ?_
    | with_reducible refine yfr_zcp (fun _ => rfl) ?_
    | with_reducible assumption
    | with_reducible exact yfr_refl _
    | exact (rfl : (_ : Bool) = true)
    | with_reducible exact yF_none
    | with_reducible refine yF_some ?_
    | exact yrow0 (by assumption) ⟨rfl, rfl, rfl, rfl⟩
    | with_reducible refine yF_bif ?_
    | with_reducible refine yF_ite ?_ ?_
    | with_reducible refine yF_bindI (V := w_f15_back) (I0 := I) (fr_f69_mended _ _ _ _) ?_ ?_ ?_
    | with_reducible refine yF_bind0 ?_
    | with_reducible intro _
    | dsimp only)
def w_f113_undo : List Nat := [299, 899, 5205]
set_option maxRecDepth 10000 in
set_option maxHeartbeats 4000000 in
theorem fr_f113_undo (I : (Nat → Nat → Int32)) : yF (f113_undo I) (fun x => yfr w_f113_undo I x.2) := by
  unfold f113_undo
  have h0 : yfr w_f113_undo I I := yfr_refl _
  repeat' (first
    | with_reducible refine yfr_zu ?_ ?_
    | with_reducible refine yfr_zcp (fun _ => rfl) ?_
    | with_reducible assumption
    | with_reducible exact yfr_refl _
    | exact (rfl : (_ : Bool) = true)
    | with_reducible exact yF_none
    | with_reducible refine yF_some ?_
    | exact yrow0 (by assumption) ⟨rfl, rfl, rfl, rfl⟩
    | with_reducible refine yF_bif ?_
    | with_reducible refine yF_ite ?_ ?_
    | with_reducible refine yF_bindI (V := w_f113_undo) (I0 := I) (fr_f15_back _) ?_ ?_ ?_
    | with_reducible refine yF_bind0 ?_
    | with_reducible intro _
    | dsimp only)
def w_f162_undo : List Nat := [7332, 7333, 7499, 8099]
set_option maxRecDepth 10000 in
set_option maxHeartbeats 4000000 in
theorem fr_f162_undo (I : (Nat → Nat → Int32)) : yF (f162_undo I) (fun x => yfr w_f162_undo I x.2) := by
  unfold f162_undo
  have h0 : yfr w_f162_undo I I := yfr_refl _
  repeat' (first
    | with_reducible refine yfr_zu ?_ ?_
    | with_reducible refine yfr_zcp (fun _ => rfl) ?_
    | with_reducible assumption
    | with_reducible exact yfr_refl _
    | exact (rfl : (_ : Bool) = true)
    | with_reducible exact yF_none
    | with_reducible refine yF_some ?_
    | exact yrow0 (by assumption) ⟨rfl, rfl, rfl, rfl⟩
    | with_reducible refine yF_bif ?_
    | with_reducible refine yF_ite ?_ ?_
    | with_reducible refine yF_bindI (V := w_f162_undo) (I0 := I) (fr_f160_lays _ _ _ _) ?_ ?_ ?_
    | with_reducible refine yF_bind0 ?_
    | with_reducible intro _
    | dsimp only)
def w_f16_again : List Nat := [299, 899, 5205]
set_option maxRecDepth 10000 in
set_option maxHeartbeats 4000000 in
theorem fr_f16_again (I : (Nat → Nat → Int32)) : yF (f16_again I) (fun x => yfr w_f16_again I x.2) := by
  unfold f16_again
  have h0 : yfr w_f16_again I I := yfr_refl _
  repeat' (first
    | with_reducible refine yfr_zu ?_ ?_
    | with_reducible refine yfr_zcp (fun _ => rfl) ?_
    | with_reducible assumption
    | with_reducible exact yfr_refl _
    | exact (rfl : (_ : Bool) = true)
    | with_reducible exact yF_none
    | with_reducible refine yF_some ?_
    | exact yrow0 (by assumption) ⟨rfl, rfl, rfl, rfl⟩
    | with_reducible refine yF_bif ?_
    | with_reducible refine yF_ite ?_ ?_
    | with_reducible refine yF_bindI (V := w_f16_again) (I0 := I) (fr_f69_mended _ _ _ _) ?_ ?_ ?_
    | with_reducible refine yF_bind0 ?_
    | with_reducible intro _
    | dsimp only)
def w_f114_redo : List Nat := [299, 899, 5205]
set_option maxRecDepth 10000 in
set_option maxHeartbeats 4000000 in
theorem fr_f114_redo (I : (Nat → Nat → Int32)) : yF (f114_redo I) (fun x => yfr w_f114_redo I x.2) := by
  unfold f114_redo
  have h0 : yfr w_f114_redo I I := yfr_refl _
  repeat' (first
    | with_reducible refine yfr_zu ?_ ?_
    | with_reducible refine yfr_zcp (fun _ => rfl) ?_
    | with_reducible assumption
    | with_reducible exact yfr_refl _
    | exact (rfl : (_ : Bool) = true)
    | with_reducible exact yF_none
    | with_reducible refine yF_some ?_
    | exact yrow0 (by assumption) ⟨rfl, rfl, rfl, rfl⟩
    | with_reducible refine yF_bif ?_
    | with_reducible refine yF_ite ?_ ?_
    | with_reducible refine yF_bindI (V := w_f114_redo) (I0 := I) (fr_f16_again _) ?_ ?_ ?_
    | with_reducible refine yF_bind0 ?_
    | with_reducible intro _
    | dsimp only)
def w_f163_redo : List Nat := [7332, 7333, 7499, 8099]
set_option maxRecDepth 10000 in
set_option maxHeartbeats 4000000 in
theorem fr_f163_redo (I : (Nat → Nat → Int32)) : yF (f163_redo I) (fun x => yfr w_f163_redo I x.2) := by
  unfold f163_redo
  have h0 : yfr w_f163_redo I I := yfr_refl _
  repeat' (first
    | with_reducible refine yfr_zu ?_ ?_
    | with_reducible refine yfr_zcp (fun _ => rfl) ?_
    | with_reducible assumption
    | with_reducible exact yfr_refl _
    | exact (rfl : (_ : Bool) = true)
    | with_reducible exact yF_none
    | with_reducible refine yF_some ?_
    | exact yrow0 (by assumption) ⟨rfl, rfl, rfl, rfl⟩
    | with_reducible refine yF_bif ?_
    | with_reducible refine yF_ite ?_ ?_
    | with_reducible refine yF_bindI (V := w_f163_redo) (I0 := I) (fr_f160_lays _ _ _ _) ?_ ?_ ?_
    | with_reducible refine yF_bind0 ?_
    | with_reducible intro _
    | dsimp only)
def w_f5_add : List Nat := [5702, 5899]
set_option maxRecDepth 10000 in
set_option maxHeartbeats 4000000 in
theorem fr_f5_add (v1 : Int32) (I : (Nat → Nat → Int32)) : yF (f5_add v1 I) (fun x => yfr w_f5_add I x.2) := by
  unfold f5_add
  have h0 : yfr w_f5_add I I := yfr_refl _
  repeat' (first
    | with_reducible refine yfr_zu ?_ ?_
    | with_reducible refine yfr_zcp (fun _ => rfl) ?_
    | with_reducible assumption
    | with_reducible exact yfr_refl _
    | exact (rfl : (_ : Bool) = true)
    | with_reducible exact yF_none
    | with_reducible refine yF_some ?_
    | exact yrow0 (by assumption) ⟨rfl, rfl, rfl, rfl⟩
    | with_reducible refine yF_bif ?_
    | with_reducible refine yF_ite ?_ ?_
    | with_reducible refine yF_bind0 ?_
    | with_reducible intro _
    | dsimp only)
def w_f115_body : List Nat := [5702, 5899]
set_option maxRecDepth 10000 in
set_option maxHeartbeats 4000000 in
theorem fr_f115_body (v1 : Int32) (I : (Nat → Nat → Int32)) : yF (f115_body v1 I) (fun x => yfr w_f115_body I x.2) := by
  unfold f115_body
  have h0 : yfr w_f115_body I I := yfr_refl _
  repeat' (first
    | with_reducible refine yfr_zu ?_ ?_
    | with_reducible refine yfr_zcp (fun _ => rfl) ?_
    | with_reducible assumption
    | with_reducible exact yfr_refl _
    | exact (rfl : (_ : Bool) = true)
    | with_reducible exact yF_none
    | with_reducible refine yF_some ?_
    | exact yrow0 (by assumption) ⟨rfl, rfl, rfl, rfl⟩
    | with_reducible refine yF_bif ?_
    | with_reducible refine yF_ite ?_ ?_
    | with_reducible refine yF_bindI (V := w_f115_body) (I0 := I) (fr_f5_add _ _) ?_ ?_ ?_
    | with_reducible refine yF_bind0 ?_
    | with_reducible intro _
    | dsimp only)
def w_f195_body : List Nat := [7366, 10899]
set_option maxRecDepth 10000 in
set_option maxHeartbeats 4000000 in
theorem fr_f195_body (v1 : Int32) (I : (Nat → Nat → Int32)) : yF (f195_body v1 I) (fun x => yfr w_f195_body I x.2) := by
  unfold f195_body
  have h0 : yfr w_f195_body I I := yfr_refl _
  repeat' (first
    | with_reducible refine yfr_zu ?_ ?_
    | with_reducible refine yfr_zcp (fun _ => rfl) ?_
    | with_reducible assumption
    | with_reducible exact yfr_refl _
    | exact (rfl : (_ : Bool) = true)
    | with_reducible exact yF_none
    | with_reducible refine yF_some ?_
    | exact yrow0 (by assumption) ⟨rfl, rfl, rfl, rfl⟩
    | with_reducible refine yF_bif ?_
    | with_reducible refine yF_ite ?_ ?_
    | with_reducible refine yF_bind0 ?_
    | with_reducible intro _
    | dsimp only)
def w_f7_begin : List Nat := [5703, 5999]
set_option maxRecDepth 10000 in
set_option maxHeartbeats 4000000 in
theorem fr_f7_begin (v1 : Int32) (I : (Nat → Nat → Int32)) : yF (f7_begin v1 I) (fun x => yfr w_f7_begin I x) := by
  unfold f7_begin
  have h0 : yfr w_f7_begin I I := yfr_refl _
  repeat' (first
    | with_reducible refine yfr_zu ?_ ?_
    | with_reducible refine yfr_zcp (fun _ => rfl) ?_
    | with_reducible assumption
    | with_reducible exact yfr_refl _
    | exact (rfl : (_ : Bool) = true)
    | with_reducible exact yF_none
    | with_reducible refine yF_some ?_
    | exact yrow0 (by assumption) ⟨rfl, rfl, rfl, rfl⟩
    | with_reducible refine yF_bif ?_
    | with_reducible refine yF_ite ?_ ?_
    | with_reducible refine yF_bind0 ?_
    | with_reducible intro _
    | dsimp only)
def w_F8 : List Nat := [5703, 5999]
abbrev yrc_F8 (rc : ((Int32 → Int32 → (Nat → Nat → Int32) → Option (Int32 × (Nat → Nat → Int32))))) : Prop := (∀ v1 v2 I, yF (rc v1 v2 I) (fun x => yfr w_F8 I x.2))
def w_bf8_goes : List Nat := [5703, 5999]
set_option maxRecDepth 10000 in
set_option maxHeartbeats 4000000 in
theorem fr_bf8_goes (rc : ((Int32 → Int32 → (Nat → Nat → Int32) → Option (Int32 × (Nat → Nat → Int32))))) (v1 : Int32) (v2 : Int32) (I : (Nat → Nat → Int32)) (hrc : yrc_F8 rc) : yF (bf8_goes rc v1 v2 I) (fun x => yfr w_bf8_goes I x.2) := by
  unfold bf8_goes
  have h0 : yfr w_bf8_goes I I := yfr_refl _
  repeat' (first
    | with_reducible refine yfr_zu ?_ ?_
    | with_reducible refine yfr_zcp (fun _ => rfl) ?_
    | with_reducible assumption
    | with_reducible exact yfr_refl _
    | exact (rfl : (_ : Bool) = true)
    | with_reducible exact yF_none
    | with_reducible refine yF_some ?_
    | exact yrow0 (by assumption) ⟨rfl, rfl, rfl, rfl⟩
    | with_reducible refine yF_bif ?_
    | with_reducible refine yF_ite ?_ ?_
    | with_reducible refine yF_bindI (V := w_bf8_goes) (I0 := I) (hrc _ _ _) ?_ ?_ ?_
    | with_reducible refine yF_bindI (V := w_bf8_goes) (I0 := I) (fr_f7_begin _ _) ?_ ?_ ?_
    | with_reducible refine yF_bind0 ?_
    | with_reducible intro _
    | dsimp only)
theorem frg_F8 : ∀ n, yrc_F8 (F8 n) := by
  intro n
  induction n with
  | zero => exact fun _ _ _ => yF_none
  | succ n ih => exact fun v1 v2 I => fr_bf8_goes _ v1 v2 I ih
def w_f8_goes : List Nat := [5703, 5999]
theorem fr_f8_goes (n : Nat) (v1 : Int32) (v2 : Int32) (I : (Nat → Nat → Int32)) : yF (f8_goes n v1 v2 I) (fun x => yfr w_f8_goes I x.2) := (frg_F8 n) v1 v2 I
def w_F10 : List Nat := [5703, 5999]
abbrev yrc_F10 (rc : ((Int32 → Int32 → (Nat → Nat → Int32) → Option (Int32 × (Nat → Nat → Int32))))) : Prop := (∀ v1 v2 I, yF (rc v1 v2 I) (fun x => yfr w_F10 I x.2))
def w_bf10_waits : List Nat := [5703, 5999]
set_option maxRecDepth 10000 in
set_option maxHeartbeats 4000000 in
theorem fr_bf10_waits (rc : ((Int32 → Int32 → (Nat → Nat → Int32) → Option (Int32 × (Nat → Nat → Int32))))) (v1 : Int32) (v2 : Int32) (I : (Nat → Nat → Int32)) (hrc : yrc_F10 rc) : yF (bf10_waits rc v1 v2 I) (fun x => yfr w_bf10_waits I x.2) := by
  unfold bf10_waits
  have h0 : yfr w_bf10_waits I I := yfr_refl _
  repeat' (first
    | with_reducible refine yfr_zu ?_ ?_
    | with_reducible refine yfr_zcp (fun _ => rfl) ?_
    | with_reducible assumption
    | with_reducible exact yfr_refl _
    | exact (rfl : (_ : Bool) = true)
    | with_reducible exact yF_none
    | with_reducible refine yF_some ?_
    | exact yrow0 (by assumption) ⟨rfl, rfl, rfl, rfl⟩
    | with_reducible refine yF_bif ?_
    | with_reducible refine yF_ite ?_ ?_
    | with_reducible refine yF_bindI (V := w_bf10_waits) (I0 := I) (hrc _ _ _) ?_ ?_ ?_
    | with_reducible refine yF_bindI (V := w_bf10_waits) (I0 := I) (fr_f7_begin _ _) ?_ ?_ ?_
    | with_reducible refine yF_bindI (V := w_bf10_waits) (I0 := I) (fr_f8_goes _ _ _ _) ?_ ?_ ?_
    | with_reducible refine yF_bind0 ?_
    | with_reducible intro _
    | dsimp only)
theorem frg_F10 : ∀ n, yrc_F10 (F10 n) := by
  intro n
  induction n with
  | zero => exact fun _ _ _ => yF_none
  | succ n ih => exact fun v1 v2 I => fr_bf10_waits _ v1 v2 I ih
def w_f10_waits : List Nat := [5703, 5999]
theorem fr_f10_waits (n : Nat) (v1 : Int32) (v2 : Int32) (I : (Nat → Nat → Int32)) : yF (f10_waits n v1 v2 I) (fun x => yfr w_f10_waits I x.2) := (frg_F10 n) v1 v2 I
def w_F9 : List Nat := [5703, 5999]
abbrev yrc_F9 (rc : ((Int32 → Int32 → (Nat → Nat → Int32) → Option (Int32 × (Nat → Nat → Int32))))) : Prop := (∀ v1 v2 I, yF (rc v1 v2 I) (fun x => yfr w_F9 I x.2))
def w_bf9_sees : List Nat := [5703, 5999]
set_option maxRecDepth 10000 in
set_option maxHeartbeats 4000000 in
theorem fr_bf9_sees (rc : ((Int32 → Int32 → (Nat → Nat → Int32) → Option (Int32 × (Nat → Nat → Int32))))) (v1 : Int32) (v2 : Int32) (I : (Nat → Nat → Int32)) (hrc : yrc_F9 rc) : yF (bf9_sees rc v1 v2 I) (fun x => yfr w_bf9_sees I x.2) := by
  unfold bf9_sees
  have h0 : yfr w_bf9_sees I I := yfr_refl _
  repeat' (first
    | with_reducible refine yfr_zu ?_ ?_
    | with_reducible refine yfr_zcp (fun _ => rfl) ?_
    | with_reducible assumption
    | with_reducible exact yfr_refl _
    | exact (rfl : (_ : Bool) = true)
    | with_reducible exact yF_none
    | with_reducible refine yF_some ?_
    | exact yrow0 (by assumption) ⟨rfl, rfl, rfl, rfl⟩
    | with_reducible refine yF_bif ?_
    | with_reducible refine yF_ite ?_ ?_
    | with_reducible refine yF_bindI (V := w_bf9_sees) (I0 := I) (hrc _ _ _) ?_ ?_ ?_
    | with_reducible refine yF_bindI (V := w_bf9_sees) (I0 := I) (fr_f7_begin _ _) ?_ ?_ ?_
    | with_reducible refine yF_bindI (V := w_bf9_sees) (I0 := I) (fr_f10_waits _ _ _ _) ?_ ?_ ?_
    | with_reducible refine yF_bindI (V := w_bf9_sees) (I0 := I) (fr_f8_goes _ _ _ _) ?_ ?_ ?_
    | with_reducible refine yF_bind0 ?_
    | with_reducible intro _
    | dsimp only)
theorem frg_F9 : ∀ n, yrc_F9 (F9 n) := by
  intro n
  induction n with
  | zero => exact fun _ _ _ => yF_none
  | succ n ih => exact fun v1 v2 I => fr_bf9_sees _ v1 v2 I ih
def w_f9_sees : List Nat := [5703, 5999]
theorem fr_f9_sees (n : Nat) (v1 : Int32) (v2 : Int32) (I : (Nat → Nat → Int32)) : yF (f9_sees n v1 v2 I) (fun x => yfr w_f9_sees I x.2) := (frg_F9 n) v1 v2 I
def w_F11 : List Nat := [5703, 5999]
abbrev yrc_F11 (rc : ((Int32 → Int32 → (Nat → Nat → Int32) → Option (Int32 × (Nat → Nat → Int32))))) : Prop := (∀ v1 v2 I, yF (rc v1 v2 I) (fun x => yfr w_F11 I x.2))
def w_bf11_tells : List Nat := [5703, 5999]
set_option maxRecDepth 10000 in
set_option maxHeartbeats 4000000 in
theorem fr_bf11_tells (rc : ((Int32 → Int32 → (Nat → Nat → Int32) → Option (Int32 × (Nat → Nat → Int32))))) (v1 : Int32) (v2 : Int32) (I : (Nat → Nat → Int32)) (hrc : yrc_F11 rc) : yF (bf11_tells rc v1 v2 I) (fun x => yfr w_bf11_tells I x.2) := by
  unfold bf11_tells
  have h0 : yfr w_bf11_tells I I := yfr_refl _
  repeat' (first
    | with_reducible refine yfr_zu ?_ ?_
    | with_reducible refine yfr_zcp (fun _ => rfl) ?_
    | with_reducible assumption
    | with_reducible exact yfr_refl _
    | exact (rfl : (_ : Bool) = true)
    | with_reducible exact yF_none
    | with_reducible refine yF_some ?_
    | exact yrow0 (by assumption) ⟨rfl, rfl, rfl, rfl⟩
    | with_reducible refine yF_bif ?_
    | with_reducible refine yF_ite ?_ ?_
    | with_reducible refine yF_bindI (V := w_bf11_tells) (I0 := I) (hrc _ _ _) ?_ ?_ ?_
    | with_reducible refine yF_bindI (V := w_bf11_tells) (I0 := I) (fr_f7_begin _ _) ?_ ?_ ?_
    | with_reducible refine yF_bindI (V := w_bf11_tells) (I0 := I) (fr_f9_sees _ _ _ _) ?_ ?_ ?_
    | with_reducible refine yF_bindI (V := w_bf11_tells) (I0 := I) (fr_f10_waits _ _ _ _) ?_ ?_ ?_
    | with_reducible refine yF_bind0 ?_
    | with_reducible intro _
    | dsimp only)
theorem frg_F11 : ∀ n, yrc_F11 (F11 n) := by
  intro n
  induction n with
  | zero => exact fun _ _ _ => yF_none
  | succ n ih => exact fun v1 v2 I => fr_bf11_tells _ v1 v2 I ih
def w_f11_tells : List Nat := [5703, 5999]
theorem fr_f11_tells (n : Nat) (v1 : Int32) (v2 : Int32) (I : (Nat → Nat → Int32)) : yF (f11_tells n v1 v2 I) (fun x => yfr w_f11_tells I x.2) := (frg_F11 n) v1 v2 I
def w_f6_play : List Nat := [5703, 5704, 5705, 5999]
set_option maxRecDepth 10000 in
set_option maxHeartbeats 4000000 in
theorem fr_f6_play (v1 : Int32) (v2 : Int32) (v3 : Int32) (I : (Nat → Nat → Int32)) : yF (f6_play v1 v2 v3 I) (fun x => yfr w_f6_play I x.2) := by
  unfold f6_play
  have h0 : yfr w_f6_play I I := yfr_refl _
  repeat' (first
    | with_reducible refine yfr_zu ?_ ?_
    | with_reducible refine yfr_zcp (fun _ => rfl) ?_
    | with_reducible assumption
    | with_reducible exact yfr_refl _
    | exact (rfl : (_ : Bool) = true)
    | with_reducible exact yF_none
    | with_reducible refine yF_some ?_
    | exact yrow0 (by assumption) ⟨rfl, rfl, rfl, rfl⟩
    | with_reducible refine yF_bif ?_
    | with_reducible refine yF_ite ?_ ?_
    | with_reducible refine yF_bindI (V := w_f6_play) (I0 := I) (fr_f8_goes _ _ _ _) ?_ ?_ ?_
    | with_reducible refine yF_bindI (V := w_f6_play) (I0 := I) (fr_f9_sees _ _ _ _) ?_ ?_ ?_
    | with_reducible refine yF_bindI (V := w_f6_play) (I0 := I) (fr_f10_waits _ _ _ _) ?_ ?_ ?_
    | with_reducible refine yF_bindI (V := w_f6_play) (I0 := I) (fr_f11_tells _ _ _ _) ?_ ?_ ?_
    | with_reducible refine yF_bind0 ?_
    | with_reducible intro _
    | dsimp only)
def w_f116_act : List Nat := [5703, 5704, 5705, 5999]
set_option maxRecDepth 10000 in
set_option maxHeartbeats 4000000 in
theorem fr_f116_act (v1 : Int32) (v2 : Int32) (v3 : Int32) (I : (Nat → Nat → Int32)) : yF (f116_act v1 v2 v3 I) (fun x => yfr w_f116_act I x.2) := by
  unfold f116_act
  have h0 : yfr w_f116_act I I := yfr_refl _
  repeat' (first
    | with_reducible refine yfr_zu ?_ ?_
    | with_reducible refine yfr_zcp (fun _ => rfl) ?_
    | with_reducible assumption
    | with_reducible exact yfr_refl _
    | exact (rfl : (_ : Bool) = true)
    | with_reducible exact yF_none
    | with_reducible refine yF_some ?_
    | exact yrow0 (by assumption) ⟨rfl, rfl, rfl, rfl⟩
    | with_reducible refine yF_bif ?_
    | with_reducible refine yF_ite ?_ ?_
    | with_reducible refine yF_bindI (V := w_f116_act) (I0 := I) (fr_f6_play _ _ _ _) ?_ ?_ ?_
    | with_reducible refine yF_bind0 ?_
    | with_reducible intro _
    | dsimp only)
def w_f193_ran : List Nat := [7368, 10999]
set_option maxRecDepth 10000 in
set_option maxHeartbeats 4000000 in
theorem fr_f193_ran (v1 : Int32) (I : (Nat → Nat → Int32)) : yF (f193_ran v1 I) (fun x => yfr w_f193_ran I x) := by
  unfold f193_ran
  have h0 : yfr w_f193_ran I I := yfr_refl _
  repeat' (first
    | with_reducible refine yfr_zu ?_ ?_
    | with_reducible refine yfr_zcp (fun _ => rfl) ?_
    | with_reducible assumption
    | with_reducible exact yfr_refl _
    | exact (rfl : (_ : Bool) = true)
    | with_reducible exact yF_none
    | with_reducible refine yF_some ?_
    | exact yrow0 (by assumption) ⟨rfl, rfl, rfl, rfl⟩
    | with_reducible refine yF_bif ?_
    | with_reducible refine yF_ite ?_ ?_
    | with_reducible refine yF_bind0 ?_
    | with_reducible intro _
    | dsimp only)
def w_f197_plainGoes : List Nat := [7368, 10999]
set_option maxRecDepth 10000 in
set_option maxHeartbeats 4000000 in
theorem fr_f197_plainGoes (v1 : Int32) (v2 : Int32) (I : (Nat → Nat → Int32)) : yF (f197_plainGoes v1 v2 I) (fun x => yfr w_f197_plainGoes I x.2) := by
  unfold f197_plainGoes
  have h0 : yfr w_f197_plainGoes I I := yfr_refl _
  repeat' (first
    | with_reducible refine yfr_zu ?_ ?_
    | with_reducible refine yfr_zcp (fun _ => rfl) ?_
    | with_reducible assumption
    | with_reducible exact yfr_refl _
    | exact (rfl : (_ : Bool) = true)
    | with_reducible exact yF_none
    | with_reducible refine yF_some ?_
    | exact yrow0 (by assumption) ⟨rfl, rfl, rfl, rfl⟩
    | with_reducible refine yF_bif ?_
    | with_reducible refine yF_ite ?_ ?_
    | with_reducible refine yF_bindI (V := w_f197_plainGoes) (I0 := I) (fr_f193_ran _ _) ?_ ?_ ?_
    | with_reducible refine yF_bind0 ?_
    | with_reducible intro _
    | dsimp only)
def w_f198_bestGoes : List Nat := [7368, 10999]
set_option maxRecDepth 10000 in
set_option maxHeartbeats 4000000 in
theorem fr_f198_bestGoes (v1 : Int32) (v2 : Int32) (I : (Nat → Nat → Int32)) : yF (f198_bestGoes v1 v2 I) (fun x => yfr w_f198_bestGoes I x.2) := by
  unfold f198_bestGoes
  have h0 : yfr w_f198_bestGoes I I := yfr_refl _
  repeat' (first
    | with_reducible refine yfr_zu ?_ ?_
    | with_reducible refine yfr_zcp (fun _ => rfl) ?_
    | with_reducible assumption
    | with_reducible exact yfr_refl _
    | exact (rfl : (_ : Bool) = true)
    | with_reducible exact yF_none
    | with_reducible refine yF_some ?_
    | exact yrow0 (by assumption) ⟨rfl, rfl, rfl, rfl⟩
    | with_reducible refine yF_bif ?_
    | with_reducible refine yF_ite ?_ ?_
    | with_reducible refine yF_bindI (V := w_f198_bestGoes) (I0 := I) (fr_f193_ran _ _) ?_ ?_ ?_
    | with_reducible refine yF_bindI (V := w_f198_bestGoes) (I0 := I) (fr_f197_plainGoes _ _ _) ?_ ?_ ?_
    | with_reducible refine yF_bind0 ?_
    | with_reducible intro _
    | dsimp only)
def w_f199_goes : List Nat := [7368, 10999]
set_option maxRecDepth 10000 in
set_option maxHeartbeats 4000000 in
theorem fr_f199_goes (v1 : Int32) (v2 : Int32) (I : (Nat → Nat → Int32)) : yF (f199_goes v1 v2 I) (fun x => yfr w_f199_goes I x.2) := by
  unfold f199_goes
  have h0 : yfr w_f199_goes I I := yfr_refl _
  repeat' (first
    | with_reducible refine yfr_zu ?_ ?_
    | with_reducible refine yfr_zcp (fun _ => rfl) ?_
    | with_reducible assumption
    | with_reducible exact yfr_refl _
    | exact (rfl : (_ : Bool) = true)
    | with_reducible exact yF_none
    | with_reducible refine yF_some ?_
    | exact yrow0 (by assumption) ⟨rfl, rfl, rfl, rfl⟩
    | with_reducible refine yF_bif ?_
    | with_reducible refine yF_ite ?_ ?_
    | with_reducible refine yF_bindI (V := w_f199_goes) (I0 := I) (fr_f193_ran _ _) ?_ ?_ ?_
    | with_reducible refine yF_bindI (V := w_f199_goes) (I0 := I) (fr_f198_bestGoes _ _ _) ?_ ?_ ?_
    | with_reducible refine yF_bindI (V := w_f199_goes) (I0 := I) (fr_f197_plainGoes _ _ _) ?_ ?_ ?_
    | with_reducible refine yF_bind0 ?_
    | with_reducible intro _
    | dsimp only)
def w_f200_plainSees : List Nat := [7368, 10999]
set_option maxRecDepth 10000 in
set_option maxHeartbeats 4000000 in
theorem fr_f200_plainSees (v1 : Int32) (v2 : Int32) (I : (Nat → Nat → Int32)) : yF (f200_plainSees v1 v2 I) (fun x => yfr w_f200_plainSees I x.2) := by
  unfold f200_plainSees
  have h0 : yfr w_f200_plainSees I I := yfr_refl _
  repeat' (first
    | with_reducible refine yfr_zu ?_ ?_
    | with_reducible refine yfr_zcp (fun _ => rfl) ?_
    | with_reducible assumption
    | with_reducible exact yfr_refl _
    | exact (rfl : (_ : Bool) = true)
    | with_reducible exact yF_none
    | with_reducible refine yF_some ?_
    | exact yrow0 (by assumption) ⟨rfl, rfl, rfl, rfl⟩
    | with_reducible refine yF_bif ?_
    | with_reducible refine yF_ite ?_ ?_
    | with_reducible refine yF_bindI (V := w_f200_plainSees) (I0 := I) (fr_f193_ran _ _) ?_ ?_ ?_
    | with_reducible refine yF_bindI (V := w_f200_plainSees) (I0 := I) (fr_f199_goes _ _ _) ?_ ?_ ?_
    | with_reducible refine yF_bind0 ?_
    | with_reducible intro _
    | dsimp only)
def w_f201_followSees : List Nat := [7368, 10999]
set_option maxRecDepth 10000 in
set_option maxHeartbeats 4000000 in
theorem fr_f201_followSees (v1 : Int32) (v2 : Int32) (I : (Nat → Nat → Int32)) : yF (f201_followSees v1 v2 I) (fun x => yfr w_f201_followSees I x.2) := by
  unfold f201_followSees
  have h0 : yfr w_f201_followSees I I := yfr_refl _
  repeat' (first
    | with_reducible refine yfr_zu ?_ ?_
    | with_reducible refine yfr_zcp (fun _ => rfl) ?_
    | with_reducible assumption
    | with_reducible exact yfr_refl _
    | exact (rfl : (_ : Bool) = true)
    | with_reducible exact yF_none
    | with_reducible refine yF_some ?_
    | exact yrow0 (by assumption) ⟨rfl, rfl, rfl, rfl⟩
    | with_reducible refine yF_bif ?_
    | with_reducible refine yF_ite ?_ ?_
    | with_reducible refine yF_bindI (V := w_f201_followSees) (I0 := I) (fr_f193_ran _ _) ?_ ?_ ?_
    | with_reducible refine yF_bindI (V := w_f201_followSees) (I0 := I) (fr_f200_plainSees _ _ _) ?_ ?_ ?_
    | with_reducible refine yF_bind0 ?_
    | with_reducible intro _
    | dsimp only)
def w_f203_plainWaits : List Nat := [7368, 10999]
set_option maxRecDepth 10000 in
set_option maxHeartbeats 4000000 in
theorem fr_f203_plainWaits (v1 : Int32) (v2 : Int32) (I : (Nat → Nat → Int32)) : yF (f203_plainWaits v1 v2 I) (fun x => yfr w_f203_plainWaits I x.2) := by
  unfold f203_plainWaits
  have h0 : yfr w_f203_plainWaits I I := yfr_refl _
  repeat' (first
    | with_reducible refine yfr_zu ?_ ?_
    | with_reducible refine yfr_zcp (fun _ => rfl) ?_
    | with_reducible assumption
    | with_reducible exact yfr_refl _
    | exact (rfl : (_ : Bool) = true)
    | with_reducible exact yF_none
    | with_reducible refine yF_some ?_
    | exact yrow0 (by assumption) ⟨rfl, rfl, rfl, rfl⟩
    | with_reducible refine yF_bif ?_
    | with_reducible refine yF_ite ?_ ?_
    | with_reducible refine yF_bindI (V := w_f203_plainWaits) (I0 := I) (fr_f193_ran _ _) ?_ ?_ ?_
    | with_reducible refine yF_bind0 ?_
    | with_reducible intro _
    | dsimp only)
def w_f204_waits : List Nat := [7368, 10999]
set_option maxRecDepth 10000 in
set_option maxHeartbeats 4000000 in
theorem fr_f204_waits (v1 : Int32) (v2 : Int32) (I : (Nat → Nat → Int32)) : yF (f204_waits v1 v2 I) (fun x => yfr w_f204_waits I x.2) := by
  unfold f204_waits
  have h0 : yfr w_f204_waits I I := yfr_refl _
  repeat' (first
    | with_reducible refine yfr_zu ?_ ?_
    | with_reducible refine yfr_zcp (fun _ => rfl) ?_
    | with_reducible assumption
    | with_reducible exact yfr_refl _
    | exact (rfl : (_ : Bool) = true)
    | with_reducible exact yF_none
    | with_reducible refine yF_some ?_
    | exact yrow0 (by assumption) ⟨rfl, rfl, rfl, rfl⟩
    | with_reducible refine yF_bif ?_
    | with_reducible refine yF_ite ?_ ?_
    | with_reducible refine yF_bindI (V := w_f204_waits) (I0 := I) (fr_f193_ran _ _) ?_ ?_ ?_
    | with_reducible refine yF_bindI (V := w_f204_waits) (I0 := I) (fr_f203_plainWaits _ _ _) ?_ ?_ ?_
    | with_reducible refine yF_bindI (V := w_f204_waits) (I0 := I) (fr_f199_goes _ _ _) ?_ ?_ ?_
    | with_reducible refine yF_bind0 ?_
    | with_reducible intro _
    | dsimp only)
def w_f202_sees : List Nat := [7368, 10999]
set_option maxRecDepth 10000 in
set_option maxHeartbeats 4000000 in
theorem fr_f202_sees (v1 : Int32) (v2 : Int32) (I : (Nat → Nat → Int32)) : yF (f202_sees v1 v2 I) (fun x => yfr w_f202_sees I x.2) := by
  unfold f202_sees
  have h0 : yfr w_f202_sees I I := yfr_refl _
  repeat' (first
    | with_reducible refine yfr_zu ?_ ?_
    | with_reducible refine yfr_zcp (fun _ => rfl) ?_
    | with_reducible assumption
    | with_reducible exact yfr_refl _
    | exact (rfl : (_ : Bool) = true)
    | with_reducible exact yF_none
    | with_reducible refine yF_some ?_
    | exact yrow0 (by assumption) ⟨rfl, rfl, rfl, rfl⟩
    | with_reducible refine yF_bif ?_
    | with_reducible refine yF_ite ?_ ?_
    | with_reducible refine yF_bindI (V := w_f202_sees) (I0 := I) (fr_f193_ran _ _) ?_ ?_ ?_
    | with_reducible refine yF_bindI (V := w_f202_sees) (I0 := I) (fr_f201_followSees _ _ _) ?_ ?_ ?_
    | with_reducible refine yF_bindI (V := w_f202_sees) (I0 := I) (fr_f200_plainSees _ _ _) ?_ ?_ ?_
    | with_reducible refine yF_bindI (V := w_f202_sees) (I0 := I) (fr_f204_waits _ _ _) ?_ ?_ ?_
    | with_reducible refine yF_bind0 ?_
    | with_reducible intro _
    | dsimp only)
def w_f205_plainTells : List Nat := [7368, 10999]
set_option maxRecDepth 10000 in
set_option maxHeartbeats 4000000 in
theorem fr_f205_plainTells (v1 : Int32) (v2 : Int32) (I : (Nat → Nat → Int32)) : yF (f205_plainTells v1 v2 I) (fun x => yfr w_f205_plainTells I x.2) := by
  unfold f205_plainTells
  have h0 : yfr w_f205_plainTells I I := yfr_refl _
  repeat' (first
    | with_reducible refine yfr_zu ?_ ?_
    | with_reducible refine yfr_zcp (fun _ => rfl) ?_
    | with_reducible assumption
    | with_reducible exact yfr_refl _
    | exact (rfl : (_ : Bool) = true)
    | with_reducible exact yF_none
    | with_reducible refine yF_some ?_
    | exact yrow0 (by assumption) ⟨rfl, rfl, rfl, rfl⟩
    | with_reducible refine yF_bif ?_
    | with_reducible refine yF_ite ?_ ?_
    | with_reducible refine yF_bindI (V := w_f205_plainTells) (I0 := I) (fr_f193_ran _ _) ?_ ?_ ?_
    | with_reducible refine yF_bindI (V := w_f205_plainTells) (I0 := I) (fr_f202_sees _ _ _) ?_ ?_ ?_
    | with_reducible refine yF_bindI (V := w_f205_plainTells) (I0 := I) (fr_f204_waits _ _ _) ?_ ?_ ?_
    | with_reducible refine yF_bind0 ?_
    | with_reducible intro _
    | dsimp only)
def w_f206_leadTells : List Nat := [7368, 10999]
set_option maxRecDepth 10000 in
set_option maxHeartbeats 4000000 in
theorem fr_f206_leadTells (v1 : Int32) (v2 : Int32) (I : (Nat → Nat → Int32)) : yF (f206_leadTells v1 v2 I) (fun x => yfr w_f206_leadTells I x.2) := by
  unfold f206_leadTells
  have h0 : yfr w_f206_leadTells I I := yfr_refl _
  repeat' (first
    | with_reducible refine yfr_zu ?_ ?_
    | with_reducible refine yfr_zcp (fun _ => rfl) ?_
    | with_reducible assumption
    | with_reducible exact yfr_refl _
    | exact (rfl : (_ : Bool) = true)
    | with_reducible exact yF_none
    | with_reducible refine yF_some ?_
    | exact yrow0 (by assumption) ⟨rfl, rfl, rfl, rfl⟩
    | with_reducible refine yF_bif ?_
    | with_reducible refine yF_ite ?_ ?_
    | with_reducible refine yF_bindI (V := w_f206_leadTells) (I0 := I) (fr_f193_ran _ _) ?_ ?_ ?_
    | with_reducible refine yF_bindI (V := w_f206_leadTells) (I0 := I) (fr_f205_plainTells _ _ _) ?_ ?_ ?_
    | with_reducible refine yF_bind0 ?_
    | with_reducible intro _
    | dsimp only)
def w_f207_telling : List Nat := [7368, 10999]
set_option maxRecDepth 10000 in
set_option maxHeartbeats 4000000 in
theorem fr_f207_telling (v1 : Int32) (v2 : Int32) (I : (Nat → Nat → Int32)) : yF (f207_telling v1 v2 I) (fun x => yfr w_f207_telling I x.2) := by
  unfold f207_telling
  have h0 : yfr w_f207_telling I I := yfr_refl _
  repeat' (first
    | with_reducible refine yfr_zu ?_ ?_
    | with_reducible refine yfr_zcp (fun _ => rfl) ?_
    | with_reducible assumption
    | with_reducible exact yfr_refl _
    | exact (rfl : (_ : Bool) = true)
    | with_reducible exact yF_none
    | with_reducible refine yF_some ?_
    | exact yrow0 (by assumption) ⟨rfl, rfl, rfl, rfl⟩
    | with_reducible refine yF_bif ?_
    | with_reducible refine yF_ite ?_ ?_
    | with_reducible refine yF_bindI (V := w_f207_telling) (I0 := I) (fr_f193_ran _ _) ?_ ?_ ?_
    | with_reducible refine yF_bindI (V := w_f207_telling) (I0 := I) (fr_f206_leadTells _ _ _) ?_ ?_ ?_
    | with_reducible refine yF_bindI (V := w_f207_telling) (I0 := I) (fr_f205_plainTells _ _ _) ?_ ?_ ?_
    | with_reducible refine yF_bind0 ?_
    | with_reducible intro _
    | dsimp only)
def w_f208_act : List Nat := [7368, 10999]
set_option maxRecDepth 10000 in
set_option maxHeartbeats 4000000 in
theorem fr_f208_act (v1 : Int32) (v2 : Int32) (v3 : Int32) (I : (Nat → Nat → Int32)) : yF (f208_act v1 v2 v3 I) (fun x => yfr w_f208_act I x.2) := by
  unfold f208_act
  have h0 : yfr w_f208_act I I := yfr_refl _
  repeat' (first
    | with_reducible refine yfr_zu ?_ ?_
    | with_reducible refine yfr_zcp (fun _ => rfl) ?_
    | with_reducible assumption
    | with_reducible exact yfr_refl _
    | exact (rfl : (_ : Bool) = true)
    | with_reducible exact yF_none
    | with_reducible refine yF_some ?_
    | exact yrow0 (by assumption) ⟨rfl, rfl, rfl, rfl⟩
    | with_reducible refine yF_bif ?_
    | with_reducible refine yF_ite ?_ ?_
    | with_reducible refine yF_bindI (V := w_f208_act) (I0 := I) (fr_f199_goes _ _ _) ?_ ?_ ?_
    | with_reducible refine yF_bindI (V := w_f208_act) (I0 := I) (fr_f202_sees _ _ _) ?_ ?_ ?_
    | with_reducible refine yF_bindI (V := w_f208_act) (I0 := I) (fr_f204_waits _ _ _) ?_ ?_ ?_
    | with_reducible refine yF_bindI (V := w_f208_act) (I0 := I) (fr_f207_telling _ _ _) ?_ ?_ ?_
    | with_reducible refine yF_bind0 ?_
    | with_reducible intro _
    | dsimp only)
def w_f53_holdBody : List Nat := [6100, 6101, 6102, 6300, 6301, 6302, 6500, 6501, 6502, 6700, 6701, 6702, 6900, 6901, 6902, 7100, 7101, 7102]
set_option maxRecDepth 10000 in
set_option maxHeartbeats 4000000 in
theorem fr_f53_holdBody (v0 : Nat) (v1 : Int32) (I : (Nat → Nat → Int32)) (hv0 : yIsShelf v0) : yF (f53_holdBody v0 v1 I) (fun x => yfr w_f53_holdBody I x) := by
  unfold f53_holdBody
  have q0 : ymem w_f53_holdBody (ykey v0 0) = true := ysub_mem rfl (yshfw hv0 (by decide))
  have q1 : ymem w_f53_holdBody (ykey v0 1) = true := ysub_mem rfl (yshfw hv0 (by decide))
  have q2 : ymem w_f53_holdBody (ykey v0 2) = true := ysub_mem rfl (yshfw hv0 (by decide))
  have h0 : yfr w_f53_holdBody I I := yfr_refl _
  repeat' (first
    | with_reducible refine yfr_zu ?_ ?_
    | with_reducible refine yfr_zcp (fun _ => rfl) ?_
    | with_reducible assumption
    | with_reducible exact yfr_refl _
    | exact (rfl : (_ : Bool) = true)
    | with_reducible exact yF_none
    | with_reducible refine yF_some ?_
    | exact yrow0 (by assumption) ⟨rfl, rfl, rfl, rfl⟩
    | with_reducible refine yF_bif ?_
    | with_reducible refine yF_ite ?_ ?_
    | with_reducible refine yF_bind0 ?_
    | with_reducible intro _
    | dsimp only)
def w_f118_keep : List Nat := [6100, 6101, 6102, 6300, 6301, 6302, 6500, 6501, 6502, 6700, 6701, 6702, 6900, 6901, 6902, 7100, 7101, 7102]
set_option maxRecDepth 10000 in
set_option maxHeartbeats 4000000 in
theorem fr_f118_keep (v1 : Int32) (v2 : Int32) (I : (Nat → Nat → Int32)) : yF (f118_keep v1 v2 I) (fun x => yfr w_f118_keep I x.2) := by
  unfold f118_keep
  have h0 : yfr w_f118_keep I I := yfr_refl _
  repeat' (first
    | with_reducible refine yfr_zu ?_ ?_
    | with_reducible refine yfr_zcp (fun _ => rfl) ?_
    | with_reducible assumption
    | with_reducible exact yfr_refl _
    | exact (rfl : (_ : Bool) = true)
    | with_reducible exact yF_none
    | with_reducible refine yF_some ?_
    | exact yrow0 (by assumption) ⟨rfl, rfl, rfl, rfl⟩
    | with_reducible refine yF_bif ?_
    | with_reducible refine yF_ite ?_ ?_
    | with_reducible refine yF_bindI (V := w_f118_keep) (I0 := I) (fr_f53_holdBody _ _ _ (yshelf (by assumption))) ?_ ?_ ?_
    | with_reducible refine yF_bind0 ?_
    | with_reducible intro _
    | dsimp only)
def w_f211_keep : List Nat := [11099]
set_option maxRecDepth 10000 in
set_option maxHeartbeats 4000000 in
theorem fr_f211_keep (v1 : Int32) (v2 : Int32) (I : (Nat → Nat → Int32)) : yF (f211_keep v1 v2 I) (fun x => yfr w_f211_keep I x.2) := by
  unfold f211_keep
  have h0 : yfr w_f211_keep I I := yfr_refl _
  repeat' (first
    | with_reducible refine yfr_zu ?_ ?_
    | with_reducible refine yfr_zcp (fun _ => rfl) ?_
    | with_reducible assumption
    | with_reducible exact yfr_refl _
    | exact (rfl : (_ : Bool) = true)
    | with_reducible exact yF_none
    | with_reducible refine yF_some ?_
    | exact yrow0 (by assumption) ⟨rfl, rfl, rfl, rfl⟩
    | with_reducible refine yF_bif ?_
    | with_reducible refine yF_ite ?_ ?_
    | with_reducible refine yF_bind0 ?_
    | with_reducible intro _
    | dsimp only)
def w_f54_holdRow : List Nat := [6100, 6101, 6102, 6300, 6301, 6302, 6500, 6501, 6502, 6700, 6701, 6702, 6900, 6901, 6902, 7100, 7101, 7102]
set_option maxRecDepth 10000 in
set_option maxHeartbeats 4000000 in
theorem fr_f54_holdRow (v0 : Nat) (v1 : Int32) (v2 : Int32) (I : (Nat → Nat → Int32)) (J : (Nat → Nat → Int64)) (hv0 : yIsShelf v0) : yF (f54_holdRow v0 v1 v2 I J) (fun x => yfr w_f54_holdRow I x.1) := by
  unfold f54_holdRow
  have q0 : ymem w_f54_holdRow (ykey v0 0) = true := ysub_mem rfl (yshfw hv0 (by decide))
  have q1 : ymem w_f54_holdRow (ykey v0 1) = true := ysub_mem rfl (yshfw hv0 (by decide))
  have q2 : ymem w_f54_holdRow (ykey v0 2) = true := ysub_mem rfl (yshfw hv0 (by decide))
  have h0 : yfr w_f54_holdRow I I := yfr_refl _
  repeat' (first
    | with_reducible refine yfr_zu ?_ ?_
    | with_reducible refine yfr_zcp (fun _ => rfl) ?_
    | with_reducible assumption
    | with_reducible exact yfr_refl _
    | exact (rfl : (_ : Bool) = true)
    | with_reducible exact yF_none
    | with_reducible refine yF_some ?_
    | exact yrow0 (by assumption) ⟨rfl, rfl, rfl, rfl⟩
    | with_reducible refine yF_bif ?_
    | with_reducible refine yF_ite ?_ ?_
    | with_reducible refine yF_bind0 ?_
    | with_reducible intro _
    | dsimp only)
def w_f119_row : List Nat := [6100, 6101, 6102, 6300, 6301, 6302, 6500, 6501, 6502, 6700, 6701, 6702, 6900, 6901, 6902, 7100, 7101, 7102]
set_option maxRecDepth 10000 in
set_option maxHeartbeats 4000000 in
theorem fr_f119_row (v1 : Int32) (v2 : Int32) (v3 : Int32) (I : (Nat → Nat → Int32)) (J : (Nat → Nat → Int64)) : yF (f119_row v1 v2 v3 I J) (fun x => yfr w_f119_row I x.2.1) := by
  unfold f119_row
  have h0 : yfr w_f119_row I I := yfr_refl _
  repeat' (first
    | with_reducible refine yfr_zu ?_ ?_
    | with_reducible refine yfr_zcp (fun _ => rfl) ?_
    | with_reducible assumption
    | with_reducible exact yfr_refl _
    | exact (rfl : (_ : Bool) = true)
    | with_reducible exact yF_none
    | with_reducible refine yF_some ?_
    | exact yrow0 (by assumption) ⟨rfl, rfl, rfl, rfl⟩
    | with_reducible refine yF_bif ?_
    | with_reducible refine yF_ite ?_ ?_
    | with_reducible refine yF_bindI (V := w_f119_row) (I0 := I) (fr_f54_holdRow _ _ _ _ _ (yshelf (by assumption))) ?_ ?_ ?_
    | with_reducible refine yF_bind0 ?_
    | with_reducible intro _
    | dsimp only)
def w_f212_row : List Nat := [11099, 11199]
set_option maxRecDepth 10000 in
set_option maxHeartbeats 4000000 in
theorem fr_f212_row (v1 : Int32) (v2 : Int32) (v3 : Int32) (I : (Nat → Nat → Int32)) (J : (Nat → Nat → Int64)) : yF (f212_row v1 v2 v3 I J) (fun x => yfr w_f212_row I x.2.1) := by
  unfold f212_row
  have h0 : yfr w_f212_row I I := yfr_refl _
  repeat' (first
    | with_reducible refine yfr_zu ?_ ?_
    | with_reducible refine yfr_zcp (fun _ => rfl) ?_
    | with_reducible assumption
    | with_reducible exact yfr_refl _
    | exact (rfl : (_ : Bool) = true)
    | with_reducible exact yF_none
    | with_reducible refine yF_some ?_
    | exact yrow0 (by assumption) ⟨rfl, rfl, rfl, rfl⟩
    | with_reducible refine yF_bif ?_
    | with_reducible refine yF_ite ?_ ?_
    | with_reducible refine yF_bind0 ?_
    | with_reducible intro _
    | dsimp only)
