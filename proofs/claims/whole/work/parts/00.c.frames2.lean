def w_f49_tally_24_L116 : List Nat := [2416]
set_option maxRecDepth 10000 in
set_option maxHeartbeats 4000000 in
theorem fr_f49_tally_24_L116 (s : (Int32 × (Nat → Nat → Int32))) : yF (f49_tally_24_L116 s) (fun y => match y with
    | .inl x => yfr w_f49_tally_24_L116 s.2 x.2
    | .inr x => yfr w_f49_tally_24_L116 s.2 x.2) := by
  unfold f49_tally_24_L116
  have h0 : yfr w_f49_tally_24_L116 s.2 s.2 := yfr_refl _
  repeat' (first
    | with_reducible refine yfr_zu ?_ ?_
    | with_reducible refine yfr_zcp (fun _ => rfl) ?_
    | with_reducible assumption
    | with_reducible exact yfr_refl _
    | exact (rfl : (_ : Bool) = true)
    | with_reducible exact yF_none
    | with_reducible refine yF_some ?_
    | exact yrow0 (by assumption) ⟨rfl, rfl, rfl, rfl⟩
    | with_reducible refine yF_bif ?_
    | with_reducible refine yF_ite ?_ ?_
    | with_reducible refine yF_bind0 ?_
    | with_reducible intro _
    | dsimp only)
theorem frl_f49_tally_24_L116  (n : Nat) (s : (Int32 × (Nat → Nat → Int32))) : yF (zloop (f49_tally_24_L116 ) n s) (fun x => yfr w_f49_tally_24_L116 s.2 x.2) :=
  yF_loop (R := fun a b => yfr w_f49_tally_24_L116 a.2 b.2) (fun _ => yfr_refl _) (fun a b c h1 h2 => yfr_trans a.2 b.2 c.2 h1 h2) (fun s y hy => by
    have h := fr_f49_tally_24_L116 s y hy
    rcases y with y | y
    · exact h
    · exact h) n s
def w_f49_tally_24 : List Nat := [2416, 2417, 2418, 2419, 3799]
set_option maxRecDepth 10000 in
set_option maxHeartbeats 4000000 in
theorem fr_f49_tally_24 (I : (Nat → Nat → Int32)) : yF (f49_tally_24 I) (fun x => yfr w_f49_tally_24 I x) := by
  unfold f49_tally_24
  have h0 : yfr w_f49_tally_24 I I := yfr_refl _
  repeat' (first
    | with_reducible refine yfr_zu ?_ ?_
    | with_reducible refine yfr_zcp (fun _ => rfl) ?_
    | with_reducible assumption
    | with_reducible exact yfr_refl _
    | exact (rfl : (_ : Bool) = true)
    | with_reducible exact yF_none
    | with_reducible refine yF_some ?_
    | exact yrow0 (by assumption) ⟨rfl, rfl, rfl, rfl⟩
    | with_reducible refine yF_bif ?_
    | with_reducible refine yF_ite ?_ ?_
    | with_reducible refine yF_bindI (V := w_f49_tally_24) (I0 := I) (frl_f49_tally_24_L21  _ _) ?_ ?_ ?_
    | with_reducible refine yF_bindI (V := w_f49_tally_24) (I0 := I) (frl_f49_tally_24_L116  _ _) ?_ ?_ ?_
    | with_reducible refine yF_bind0 ?_
    | with_reducible intro _
    | dsimp only)
def w_f40_pass_24_L6 : List Nat := [1505, 2399, 2412, 2899, 2999, 3099, 3199, 3299, 3399, 3499, 3599, 3699]
set_option maxRecDepth 10000 in
set_option maxHeartbeats 4000000 in
theorem fr_f40_pass_24_L6 (s : (Int32 × (Nat → Nat → Int32))) : yF (f40_pass_24_L6 s) (fun y => match y with
    | .inl x => yfr w_f40_pass_24_L6 s.2 x.2
    | .inr x => yfr w_f40_pass_24_L6 s.2 x.2) := by
  unfold f40_pass_24_L6
  have h0 : yfr w_f40_pass_24_L6 s.2 s.2 := yfr_refl _
  repeat' (first
    | with_reducible refine yfr_zu ?_ ?_
    | with_reducible refine yfr_zcp (fun _ => rfl) ?_
    | with_reducible assumption
    | with_reducible exact yfr_refl _
    | exact (rfl : (_ : Bool) = true)
    | with_reducible exact yF_none
    | with_reducible refine yF_some ?_
    | exact yrow0 (by assumption) ⟨rfl, rfl, rfl, rfl⟩
    | with_reducible refine yF_bif ?_
    | with_reducible refine yF_ite ?_ ?_
    | with_reducible refine yF_bindI (V := w_f40_pass_24_L6) (I0 := s.2) (fr_f42_see_24 _ _) ?_ ?_ ?_
    | with_reducible refine yF_bindI (V := w_f40_pass_24_L6) (I0 := s.2) (fr_f44_arrive_24 _ _) ?_ ?_ ?_
    | with_reducible refine yF_bindI (V := w_f40_pass_24_L6) (I0 := s.2) (fr_f45_go_24 _ _) ?_ ?_ ?_
    | with_reducible refine yF_bindI (V := w_f40_pass_24_L6) (I0 := s.2) (fr_f48_end_24 _ _) ?_ ?_ ?_
    | with_reducible refine yF_bind0 ?_
    | with_reducible intro _
    | dsimp only)
theorem frl_f40_pass_24_L6  (n : Nat) (s : (Int32 × (Nat → Nat → Int32))) : yF (zloop (f40_pass_24_L6 ) n s) (fun x => yfr w_f40_pass_24_L6 s.2 x.2) :=
  yF_loop (R := fun a b => yfr w_f40_pass_24_L6 a.2 b.2) (fun _ => yfr_refl _) (fun a b c h1 h2 => yfr_trans a.2 b.2 c.2 h1 h2) (fun s y hy => by
    have h := fr_f40_pass_24_L6 s y hy
    rcases y with y | y
    · exact h
    · exact h) n s
def w_f40_pass_24 : List Nat := [1505, 2399, 2412, 2413, 2414, 2416, 2417, 2418, 2419, 2899, 2999, 3099, 3199, 3299, 3399, 3499, 3599, 3699, 3799]
set_option maxRecDepth 10000 in
set_option maxHeartbeats 4000000 in
theorem fr_f40_pass_24 (I : (Nat → Nat → Int32)) : yF (f40_pass_24 I) (fun x => yfr w_f40_pass_24 I x) := by
  unfold f40_pass_24
  have h0 : yfr w_f40_pass_24 I I := yfr_refl _
  repeat' (first
    | with_reducible refine yfr_zu ?_ ?_
    | with_reducible refine yfr_zcp (fun _ => rfl) ?_
    | with_reducible assumption
    | with_reducible exact yfr_refl _
    | exact (rfl : (_ : Bool) = true)
    | with_reducible exact yF_none
    | with_reducible refine yF_some ?_
    | exact yrow0 (by assumption) ⟨rfl, rfl, rfl, rfl⟩
    | with_reducible refine yF_bif ?_
    | with_reducible refine yF_ite ?_ ?_
    | with_reducible refine yF_bindI (V := w_f40_pass_24) (I0 := I) (fr_f41_begin_24 _) ?_ ?_ ?_
    | with_reducible refine yF_bindI (V := w_f40_pass_24) (I0 := I) (frl_f40_pass_24_L6  _ _) ?_ ?_ ?_
    | with_reducible refine yF_bindI (V := w_f40_pass_24) (I0 := I) (fr_f44_arrive_24 _ _) ?_ ?_ ?_
    | with_reducible refine yF_bindI (V := w_f40_pass_24) (I0 := I) (fr_f48_end_24 _ _) ?_ ?_ ?_
    | with_reducible refine yF_bindI (V := w_f40_pass_24) (I0 := I) (fr_f49_tally_24 _) ?_ ?_ ?_
    | with_reducible refine yF_bind0 ?_
    | with_reducible intro _
    | dsimp only)
def w_f96_run : List Nat := [7, 1505, 2399, 2412, 2413, 2414, 2416, 2417, 2418, 2419, 2500, 2501, 2503, 2504, 2699, 2799, 2899, 2999, 3099, 3199, 3299, 3399, 3499, 3599, 3699, 3799]
set_option maxRecDepth 10000 in
set_option maxHeartbeats 4000000 in
theorem fr_f96_run (I : (Nat → Nat → Int32)) : yF (f96_run I) (fun x => yfr w_f96_run I x.2) := by
  unfold f96_run
  have h0 : yfr w_f96_run I I := yfr_refl _
  repeat' (first
    | with_reducible refine yfr_zu ?_ ?_
    | with_reducible refine yfr_zcp (fun _ => rfl) ?_
    | with_reducible assumption
    | with_reducible exact yfr_refl _
    | exact (rfl : (_ : Bool) = true)
    | with_reducible exact yF_none
    | with_reducible refine yF_some ?_
    | exact yrow0 (by assumption) ⟨rfl, rfl, rfl, rfl⟩
    | with_reducible refine yF_bif ?_
    | with_reducible refine yF_ite ?_ ?_
    | with_reducible refine yF_bindI (V := w_f96_run) (I0 := I) (fr_f81_asIn_25 _) ?_ ?_ ?_
    | with_reducible refine yF_bindI (V := w_f96_run) (I0 := I) (fr_f40_pass_24 _) ?_ ?_ ?_
    | with_reducible refine yF_bind0 ?_
    | with_reducible intro _
    | dsimp only)
def w_f167_arrive_L26 : List Nat := [9799, 9899]
set_option maxRecDepth 10000 in
set_option maxHeartbeats 4000000 in
theorem fr_f167_arrive_L26 (v1 : Int32) (v2 : Int32) (s : (Int32 × Int32 × (Nat → Nat → Int32))) : yF (f167_arrive_L26 v1 v2 s) (fun y => match y with
    | .inl x => yfr w_f167_arrive_L26 s.2.2 x.2.2
    | .inr x => yfr w_f167_arrive_L26 s.2.2 x.2.2) := by
  unfold f167_arrive_L26
  have h0 : yfr w_f167_arrive_L26 s.2.2 s.2.2 := yfr_refl _
  repeat' (first
    | with_reducible refine yfr_zu ?_ ?_
    | with_reducible refine yfr_zcp (fun _ => rfl) ?_
    | with_reducible assumption
    | with_reducible exact yfr_refl _
    | exact (rfl : (_ : Bool) = true)
    | with_reducible exact yF_none
    | with_reducible refine yF_some ?_
    | exact yrow0 (by assumption) ⟨rfl, rfl, rfl, rfl⟩
    | with_reducible refine yF_bif ?_
    | with_reducible refine yF_ite ?_ ?_
    | with_reducible refine yF_bind0 ?_
    | with_reducible intro _
    | dsimp only)
theorem frl_f167_arrive_L26 (v1 : Int32) (v2 : Int32) (n : Nat) (s : (Int32 × Int32 × (Nat → Nat → Int32))) : yF (zloop (f167_arrive_L26 v1 v2) n s) (fun x => yfr w_f167_arrive_L26 s.2.2 x.2.2) :=
  yF_loop (R := fun a b => yfr w_f167_arrive_L26 a.2.2 b.2.2) (fun _ => yfr_refl _) (fun a b c h1 h2 => yfr_trans a.2.2 b.2.2 c.2.2 h1 h2) (fun s y hy => by
    have h := fr_f167_arrive_L26 v1 v2 s y hy
    rcases y with y | y
    · exact h
    · exact h) n s
def w_f167_arrive_L2 : List Nat := [9799, 9899]
set_option maxRecDepth 10000 in
set_option maxHeartbeats 4000000 in
theorem fr_f167_arrive_L2 (v1 : Int32) (s : (Int32 × (Nat → Nat → Int32))) : yF (f167_arrive_L2 v1 s) (fun y => match y with
    | .inl x => yfr w_f167_arrive_L2 s.2 x.2
    | .inr x => yfr w_f167_arrive_L2 s.2 x.2) := by
  unfold f167_arrive_L2
  have h0 : yfr w_f167_arrive_L2 s.2 s.2 := yfr_refl _
  repeat' (first
    | with_reducible refine yfr_zu ?_ ?_
    | with_reducible refine yfr_zcp (fun _ => rfl) ?_
    | with_reducible assumption
    | with_reducible exact yfr_refl _
    | exact (rfl : (_ : Bool) = true)
    | with_reducible exact yF_none
    | with_reducible refine yF_some ?_
    | exact yrow0 (by assumption) ⟨rfl, rfl, rfl, rfl⟩
    | with_reducible refine yF_bif ?_
    | with_reducible refine yF_ite ?_ ?_
    | with_reducible refine yF_bindI (V := w_f167_arrive_L2) (I0 := s.2) (frl_f167_arrive_L26 _ _ _ _) ?_ ?_ ?_
    | with_reducible refine yF_bind0 ?_
    | with_reducible intro _
    | dsimp only)
theorem frl_f167_arrive_L2 (v1 : Int32) (n : Nat) (s : (Int32 × (Nat → Nat → Int32))) : yF (zloop (f167_arrive_L2 v1) n s) (fun x => yfr w_f167_arrive_L2 s.2 x.2) :=
  yF_loop (R := fun a b => yfr w_f167_arrive_L2 a.2 b.2) (fun _ => yfr_refl _) (fun a b c h1 h2 => yfr_trans a.2 b.2 c.2 h1 h2) (fun s y hy => by
    have h := fr_f167_arrive_L2 v1 s y hy
    rcases y with y | y
    · exact h
    · exact h) n s
def w_f167_arrive : List Nat := [9799, 9899]
set_option maxRecDepth 10000 in
set_option maxHeartbeats 4000000 in
theorem fr_f167_arrive (v1 : Int32) (I : (Nat → Nat → Int32)) : yF (f167_arrive v1 I) (fun x => yfr w_f167_arrive I x) := by
  unfold f167_arrive
  have h0 : yfr w_f167_arrive I I := yfr_refl _
  repeat' (first
    | with_reducible refine yfr_zu ?_ ?_
    | with_reducible refine yfr_zcp (fun _ => rfl) ?_
    | with_reducible assumption
    | with_reducible exact yfr_refl _
    | exact (rfl : (_ : Bool) = true)
    | with_reducible exact yF_none
    | with_reducible refine yF_some ?_
    | exact yrow0 (by assumption) ⟨rfl, rfl, rfl, rfl⟩
    | with_reducible refine yF_bif ?_
    | with_reducible refine yF_ite ?_ ?_
    | with_reducible refine yF_bindI (V := w_f167_arrive) (I0 := I) (frl_f167_arrive_L2 _ _ _) ?_ ?_ ?_
    | with_reducible refine yF_bind0 ?_
    | with_reducible intro _
    | dsimp only)
def w_f154_worked_L12 : List Nat := [9299]
set_option maxRecDepth 10000 in
set_option maxHeartbeats 4000000 in
theorem fr_f154_worked_L12 (v1 : Int32) (v3 : Int32) (s : (Int32 × Int32 × (Nat → Nat → Int32))) : yF (f154_worked_L12 v1 v3 s) (fun y => match y with
    | .inl x => yfr w_f154_worked_L12 s.2.2 x.2.2
    | .inr x => yfr w_f154_worked_L12 s.2.2 x.2.2) := by
  unfold f154_worked_L12
  have h0 : yfr w_f154_worked_L12 s.2.2 s.2.2 := yfr_refl _
  repeat' (first
    | with_reducible refine yfr_zu ?_ ?_
    | with_reducible refine yfr_zcp (fun _ => rfl) ?_
    | with_reducible assumption
    | with_reducible exact yfr_refl _
    | exact (rfl : (_ : Bool) = true)
    | with_reducible exact yF_none
    | with_reducible refine yF_some ?_
    | exact yrow0 (by assumption) ⟨rfl, rfl, rfl, rfl⟩
    | with_reducible refine yF_bif ?_
    | with_reducible refine yF_ite ?_ ?_
    | with_reducible refine yF_bind0 ?_
    | with_reducible intro _
    | dsimp only)
theorem frl_f154_worked_L12 (v1 : Int32) (v3 : Int32) (n : Nat) (s : (Int32 × Int32 × (Nat → Nat → Int32))) : yF (zloop (f154_worked_L12 v1 v3) n s) (fun x => yfr w_f154_worked_L12 s.2.2 x.2.2) :=
  yF_loop (R := fun a b => yfr w_f154_worked_L12 a.2.2 b.2.2) (fun _ => yfr_refl _) (fun a b c h1 h2 => yfr_trans a.2.2 b.2.2 c.2.2 h1 h2) (fun s y hy => by
    have h := fr_f154_worked_L12 v1 v3 s y hy
    rcases y with y | y
    · exact h
    · exact h) n s
def w_f154_worked : List Nat := [9299]
set_option maxRecDepth 10000 in
set_option maxHeartbeats 4000000 in
theorem fr_f154_worked (v1 : Int32) (v2 : Int32) (v3 : Int32) (I : (Nat → Nat → Int32)) : yF (f154_worked v1 v2 v3 I) (fun x => yfr w_f154_worked I x.2) := by
  unfold f154_worked
  have h0 : yfr w_f154_worked I I := yfr_refl _
  repeat' (first
    | with_reducible refine yfr_zu ?_ ?_
    | with_reducible refine yfr_zcp (fun _ => rfl) ?_
    | with_reducible assumption
    | with_reducible exact yfr_refl _
    | exact (rfl : (_ : Bool) = true)
    | with_reducible exact yF_none
    | with_reducible refine yF_some ?_
    | exact yrow0 (by assumption) ⟨rfl, rfl, rfl, rfl⟩
    | with_reducible refine yF_bif ?_
    | with_reducible refine yF_ite ?_ ?_
    | with_reducible refine yF_bindI (V := w_f154_worked) (I0 := I) (frl_f154_worked_L12 _ _ _ _) ?_ ?_ ?_
    | with_reducible refine yF_bind0 ?_
    | with_reducible intro _
    | dsimp only)
def w_f155_gives_L7 : List Nat := [9299]
set_option maxRecDepth 10000 in
set_option maxHeartbeats 4000000 in
theorem fr_f155_gives_L7 (v1 : Int32) (s : (Int32 × Int32 × (Nat → Nat → Int32))) : yF (f155_gives_L7 v1 s) (fun y => match y with
    | .inl x => yfr w_f155_gives_L7 s.2.2 x.2
    | .inr (.inl x) => yfr w_f155_gives_L7 s.2.2 x.2.2
    | .inr (.inr x) => yfr w_f155_gives_L7 s.2.2 x.2.2) := by
  unfold f155_gives_L7
  have h0 : yfr w_f155_gives_L7 s.2.2 s.2.2 := yfr_refl _
  repeat' (first
    | with_reducible refine yfr_zu ?_ ?_
    | with_reducible refine yfr_zcp (fun _ => rfl) ?_
    | with_reducible assumption
    | with_reducible exact yfr_refl _
    | exact (rfl : (_ : Bool) = true)
    | with_reducible exact yF_none
    | with_reducible refine yF_some ?_
    | exact yrow0 (by assumption) ⟨rfl, rfl, rfl, rfl⟩
    | with_reducible refine yF_bif ?_
    | with_reducible refine yF_ite ?_ ?_
    | with_reducible refine yF_bindI (V := w_f155_gives_L7) (I0 := s.2.2) (fr_f154_worked _ _ _ _) ?_ ?_ ?_
    | with_reducible refine yF_bind0 ?_
    | with_reducible intro _
    | dsimp only)
theorem frl_f155_gives_L7 (v1 : Int32) (n : Nat) (s : (Int32 × Int32 × (Nat → Nat → Int32))) : yF (zloopR (f155_gives_L7 v1) n s) (yS (fun x => yfr w_f155_gives_L7 s.2.2 x.2) (fun x => yfr w_f155_gives_L7 s.2.2 x.2.2)) :=
  yF_loopR (R := fun a b => yfr w_f155_gives_L7 a.2.2 b.2.2) (S := fun (a : (Int32 × Int32 × (Nat → Nat → Int32))) (b : (Int32 × (Nat → Nat → Int32))) => yfr w_f155_gives_L7 a.2.2 b.2) (fun a b c h1 h2 => yfr_trans a.2.2 b.2.2 c.2.2 h1 h2) (fun (a b : (Int32 × Int32 × (Nat → Nat → Int32))) (c : (Int32 × (Nat → Nat → Int32))) h1 h2 => yfr_trans a.2.2 b.2.2 c.2 h1 h2) (fun s y hy => by
    have h := fr_f155_gives_L7 v1 s y hy
    rcases y with y | y | y
    · exact h
    · exact h
    · exact h) n s
def w_f155_gives : List Nat := [9299]
set_option maxRecDepth 10000 in
set_option maxHeartbeats 4000000 in
theorem fr_f155_gives (v1 : Int32) (I : (Nat → Nat → Int32)) : yF (f155_gives v1 I) (fun x => yfr w_f155_gives I x.2) := by
  unfold f155_gives
  have h0 : yfr w_f155_gives I I := yfr_refl _
  repeat' (first
    | with_reducible refine yfr_zu ?_ ?_
    | with_reducible refine yfr_zcp (fun _ => rfl) ?_
    | with_reducible assumption
    | with_reducible exact yfr_refl _
    | exact (rfl : (_ : Bool) = true)
    | with_reducible exact yF_none
    | with_reducible refine yF_some ?_
    | exact yrow0 (by assumption) ⟨rfl, rfl, rfl, rfl⟩
    | with_reducible refine yF_bif ?_
    | with_reducible refine yF_ite ?_ ?_
    | with_reducible refine yF_zbRI (V := w_f155_gives) (I0 := I) (frl_f155_gives_L7 _ _ _) ?_ ?_ ?_ ?_
    | with_reducible refine yF_bind0 ?_
    | with_reducible intro _
    | dsimp only)
def w_f168_goal_L60 : List Nat := []
theorem frl_f168_goal_L60 (v1 : Int32) (v2 : Int32) (I : (Nat → Nat → Int32)) (n : Nat) (s : Int32) : yF (zloopR (f168_goal_L60 v1 v2 I) n s) (yS (fun x => yfr w_f168_goal_L60 I x.2) (fun _ => True)) := by
  refine yF_loopR (R := fun _ _ => True) (S := fun (_ : Int32) (x : (Int32 × (Nat → Nat → Int32))) => yfr w_f168_goal_L60 I x.2) (fun _ _ _ _ _ => trivial) (fun _ _ _ _ h => h) (fun s => ?_) n s
  unfold f168_goal_L60
  repeat' (first
    | with_reducible refine yfr_zu ?_ ?_
    | with_reducible refine yfr_zcp (fun _ => rfl) ?_
    | with_reducible assumption
    | with_reducible exact yfr_refl _
    | exact (rfl : (_ : Bool) = true)
    | with_reducible exact yF_none
    | with_reducible refine yF_some ?_
    | exact yrow0 (by assumption) ⟨rfl, rfl, rfl, rfl⟩
    | with_reducible refine yF_bif ?_
    | with_reducible refine yF_ite ?_ ?_
    | with_reducible refine yF_bind0 ?_
    | with_reducible intro _
    | exact trivial
    | dsimp only)
def w_f168_goal : List Nat := [9199, 9299]
set_option maxRecDepth 10000 in
set_option maxHeartbeats 4000000 in
theorem fr_f168_goal (v1 : Int32) (v2 : Int32) (v3 : Int32) (v4 : Int32) (I : (Nat → Nat → Int32)) : yF (f168_goal v1 v2 v3 v4 I) (fun x => yfr w_f168_goal I x.2) := by
  unfold f168_goal
  have h0 : yfr w_f168_goal I I := yfr_refl _
  repeat' (first
    | with_reducible refine yfr_zu ?_ ?_
    | with_reducible refine yfr_zcp (fun _ => rfl) ?_
    | with_reducible assumption
    | with_reducible exact yfr_refl _
    | exact (rfl : (_ : Bool) = true)
    | with_reducible exact yF_none
    | with_reducible refine yF_some ?_
    | exact yrow0 (by assumption) ⟨rfl, rfl, rfl, rfl⟩
    | with_reducible refine yF_bif ?_
    | with_reducible refine yF_ite ?_ ?_
    | with_reducible refine yF_zbRK (V := w_f168_goal) (I0 := I) (frl_f168_goal_L60 _ _ _ _ _) ?_ ?_ ?_ ?_
    | with_reducible refine yF_bindI (V := w_f168_goal) (I0 := I) (fr_f155_gives _ _) ?_ ?_ ?_
    | with_reducible refine yF_bind0 ?_
    | with_reducible intro _
    | dsimp only)
def w_f170_go_L2 : List Nat := [10299]
set_option maxRecDepth 10000 in
set_option maxHeartbeats 4000000 in
theorem fr_f170_go_L2 (v1 : Int32) (v2 : Int32) (s : (Int32 × (Nat → Nat → Int32))) : yF (f170_go_L2 v1 v2 s) (fun y => match y with
    | .inl x => yfr w_f170_go_L2 s.2 x.2
    | .inr x => yfr w_f170_go_L2 s.2 x.2) := by
  unfold f170_go_L2
  have h0 : yfr w_f170_go_L2 s.2 s.2 := yfr_refl _
  repeat' (first
    | with_reducible refine yfr_zu ?_ ?_
    | with_reducible refine yfr_zcp (fun _ => rfl) ?_
    | with_reducible assumption
    | with_reducible exact yfr_refl _
    | exact (rfl : (_ : Bool) = true)
    | with_reducible exact yF_none
    | with_reducible refine yF_some ?_
    | exact yrow0 (by assumption) ⟨rfl, rfl, rfl, rfl⟩
    | with_reducible refine yF_bif ?_
    | with_reducible refine yF_ite ?_ ?_
    | with_reducible refine yF_bind0 ?_
    | with_reducible intro _
    | dsimp only)
theorem frl_f170_go_L2 (v1 : Int32) (v2 : Int32) (n : Nat) (s : (Int32 × (Nat → Nat → Int32))) : yF (zloop (f170_go_L2 v1 v2) n s) (fun x => yfr w_f170_go_L2 s.2 x.2) :=
  yF_loop (R := fun a b => yfr w_f170_go_L2 a.2 b.2) (fun _ => yfr_refl _) (fun a b c h1 h2 => yfr_trans a.2 b.2 c.2 h1 h2) (fun s y hy => by
    have h := fr_f170_go_L2 v1 v2 s y hy
    rcases y with y | y
    · exact h
    · exact h) n s
def w_f170_go_L34 : List Nat := [9199, 9299, 9799, 9999, 10299]
set_option maxRecDepth 10000 in
set_option maxHeartbeats 4000000 in
theorem fr_f170_go_L34 (v1 : Int32) (v2 : Int32) (v3 : Int32) (s : (Int32 × (Nat → Nat → Int32))) : yF (f170_go_L34 v1 v2 v3 s) (fun y => match y with
    | .inl x => yfr w_f170_go_L34 s.2 x.2
    | .inr x => yfr w_f170_go_L34 s.2 x.2) := by
  unfold f170_go_L34
  have h0 : yfr w_f170_go_L34 s.2 s.2 := yfr_refl _
  repeat' (first
    | with_reducible refine yfr_zu ?_ ?_
    | with_reducible refine yfr_zcp (fun _ => rfl) ?_
    | with_reducible assumption
    | with_reducible exact yfr_refl _
    | exact (rfl : (_ : Bool) = true)
    | with_reducible exact yF_none
    | with_reducible refine yF_some ?_
    | exact yrow0 (by assumption) ⟨rfl, rfl, rfl, rfl⟩
    | with_reducible refine yF_bif ?_
    | with_reducible refine yF_ite ?_ ?_
    | with_reducible refine yF_bindI (V := w_f170_go_L34) (I0 := s.2) (fr_f168_goal _ _ _ _ _) ?_ ?_ ?_
    | with_reducible refine yF_bind0 ?_
    | with_reducible intro _
    | dsimp only)
theorem frl_f170_go_L34 (v1 : Int32) (v2 : Int32) (v3 : Int32) (n : Nat) (s : (Int32 × (Nat → Nat → Int32))) : yF (zloop (f170_go_L34 v1 v2 v3) n s) (fun x => yfr w_f170_go_L34 s.2 x.2) :=
  yF_loop (R := fun a b => yfr w_f170_go_L34 a.2 b.2) (fun _ => yfr_refl _) (fun a b c h1 h2 => yfr_trans a.2 b.2 c.2 h1 h2) (fun s y hy => by
    have h := fr_f170_go_L34 v1 v2 v3 s y hy
    rcases y with y | y
    · exact h
    · exact h) n s
def w_f170_go_L23 : List Nat := [9199, 9299, 9799, 9999, 10299]
set_option maxRecDepth 10000 in
set_option maxHeartbeats 4000000 in
theorem fr_f170_go_L23 (v1 : Int32) (v2 : Int32) (s : (Int32 × (Nat → Nat → Int32))) : yF (f170_go_L23 v1 v2 s) (fun y => match y with
    | .inl x => yfr w_f170_go_L23 s.2 x.2
    | .inr x => yfr w_f170_go_L23 s.2 x.2) := by
  unfold f170_go_L23
  have h0 : yfr w_f170_go_L23 s.2 s.2 := yfr_refl _
  repeat' (first
    | with_reducible refine yfr_zu ?_ ?_
    | with_reducible refine yfr_zcp (fun _ => rfl) ?_
    | with_reducible assumption
    | with_reducible exact yfr_refl _
    | exact (rfl : (_ : Bool) = true)
    | with_reducible exact yF_none
    | with_reducible refine yF_some ?_
    | exact yrow0 (by assumption) ⟨rfl, rfl, rfl, rfl⟩
    | with_reducible refine yF_bif ?_
    | with_reducible refine yF_ite ?_ ?_
    | with_reducible refine yF_bindI (V := w_f170_go_L23) (I0 := s.2) (frl_f170_go_L34 _ _ _ _ _) ?_ ?_ ?_
    | with_reducible refine yF_bind0 ?_
    | with_reducible intro _
    | dsimp only)
theorem frl_f170_go_L23 (v1 : Int32) (v2 : Int32) (n : Nat) (s : (Int32 × (Nat → Nat → Int32))) : yF (zloop (f170_go_L23 v1 v2) n s) (fun x => yfr w_f170_go_L23 s.2 x.2) :=
  yF_loop (R := fun a b => yfr w_f170_go_L23 a.2 b.2) (fun _ => yfr_refl _) (fun a b c h1 h2 => yfr_trans a.2 b.2 c.2 h1 h2) (fun s y hy => by
    have h := fr_f170_go_L23 v1 v2 s y hy
    rcases y with y | y
    · exact h
    · exact h) n s
def w_f170_go : List Nat := [9199, 9299, 9799, 9999, 10299]
set_option maxRecDepth 10000 in
set_option maxHeartbeats 4000000 in
theorem fr_f170_go (v1 : Int32) (v2 : Int32) (I : (Nat → Nat → Int32)) : yF (f170_go v1 v2 I) (fun x => yfr w_f170_go I x) := by
  unfold f170_go
  have h0 : yfr w_f170_go I I := yfr_refl _
  repeat' (first
    | with_reducible refine yfr_zu ?_ ?_
    | with_reducible refine yfr_zcp (fun _ => rfl) ?_
    | with_reducible assumption
    | with_reducible exact yfr_refl _
    | exact (rfl : (_ : Bool) = true)
    | with_reducible exact yF_none
    | with_reducible refine yF_some ?_
    | exact yrow0 (by assumption) ⟨rfl, rfl, rfl, rfl⟩
    | with_reducible refine yF_bif ?_
    | with_reducible refine yF_ite ?_ ?_
    | with_reducible refine yF_bindI (V := w_f170_go) (I0 := I) (frl_f170_go_L2 _ _ _ _) ?_ ?_ ?_
    | with_reducible refine yF_bindI (V := w_f170_go) (I0 := I) (frl_f170_go_L23 _ _ _ _) ?_ ?_ ?_
    | with_reducible refine yF_bind0 ?_
    | with_reducible intro _
    | dsimp only)
def w_f172_countSquare_L31 : List Nat := [10399]
set_option maxRecDepth 10000 in
set_option maxHeartbeats 4000000 in
theorem fr_f172_countSquare_L31 (v1 : Int32) (v2 : Int32) (s : (Int32 × (Nat → Nat → Int32))) : yF (f172_countSquare_L31 v1 v2 s) (fun y => match y with
    | .inl x => yfr w_f172_countSquare_L31 s.2 x.2
    | .inr x => yfr w_f172_countSquare_L31 s.2 x.2) := by
  unfold f172_countSquare_L31
  have h0 : yfr w_f172_countSquare_L31 s.2 s.2 := yfr_refl _
  repeat' (first
    | with_reducible refine yfr_zu ?_ ?_
    | with_reducible refine yfr_zcp (fun _ => rfl) ?_
    | with_reducible assumption
    | with_reducible exact yfr_refl _
    | exact (rfl : (_ : Bool) = true)
    | with_reducible exact yF_none
    | with_reducible refine yF_some ?_
    | exact yrow0 (by assumption) ⟨rfl, rfl, rfl, rfl⟩
    | with_reducible refine yF_bif ?_
    | with_reducible refine yF_ite ?_ ?_
    | with_reducible refine yF_bind0 ?_
    | with_reducible intro _
    | dsimp only)
theorem frl_f172_countSquare_L31 (v1 : Int32) (v2 : Int32) (n : Nat) (s : (Int32 × (Nat → Nat → Int32))) : yF (zloop (f172_countSquare_L31 v1 v2) n s) (fun x => yfr w_f172_countSquare_L31 s.2 x.2) :=
  yF_loop (R := fun a b => yfr w_f172_countSquare_L31 a.2 b.2) (fun _ => yfr_refl _) (fun a b c h1 h2 => yfr_trans a.2 b.2 c.2 h1 h2) (fun s y hy => by
    have h := fr_f172_countSquare_L31 v1 v2 s y hy
    rcases y with y | y
    · exact h
    · exact h) n s
def w_f172_countSquare : List Nat := [10399]
set_option maxRecDepth 10000 in
set_option maxHeartbeats 4000000 in
theorem fr_f172_countSquare (v1 : Int32) (v2 : Int32) (I : (Nat → Nat → Int32)) : yF (f172_countSquare v1 v2 I) (fun x => yfr w_f172_countSquare I x) := by
  unfold f172_countSquare
  have h0 : yfr w_f172_countSquare I I := yfr_refl _
  repeat' (first
    | with_reducible refine yfr_zu ?_ ?_
    | with_reducible refine yfr_zcp (fun _ => rfl) ?_
    | with_reducible assumption
    | with_reducible exact yfr_refl _
    | exact (rfl : (_ : Bool) = true)
    | with_reducible exact yF_none
    | with_reducible refine yF_some ?_
    | exact yrow0 (by assumption) ⟨rfl, rfl, rfl, rfl⟩
    | with_reducible refine yF_bif ?_
    | with_reducible refine yF_ite ?_ ?_
    | with_reducible refine yF_bindI (V := w_f172_countSquare) (I0 := I) (frl_f172_countSquare_L31 _ _ _ _) ?_ ?_ ?_
    | with_reducible refine yF_bind0 ?_
    | with_reducible intro _
    | dsimp only)
def w_f173_counts_L2 : List Nat := [10399]
set_option maxRecDepth 10000 in
set_option maxHeartbeats 4000000 in
theorem fr_f173_counts_L2 (v1 : Int32) (s : (Int32 × (Nat → Nat → Int32))) : yF (f173_counts_L2 v1 s) (fun y => match y with
    | .inl x => yfr w_f173_counts_L2 s.2 x.2
    | .inr x => yfr w_f173_counts_L2 s.2 x.2) := by
  unfold f173_counts_L2
  have h0 : yfr w_f173_counts_L2 s.2 s.2 := yfr_refl _
  repeat' (first
    | with_reducible refine yfr_zu ?_ ?_
    | with_reducible refine yfr_zcp (fun _ => rfl) ?_
    | with_reducible assumption
    | with_reducible exact yfr_refl _
    | exact (rfl : (_ : Bool) = true)
    | with_reducible exact yF_none
    | with_reducible refine yF_some ?_
    | exact yrow0 (by assumption) ⟨rfl, rfl, rfl, rfl⟩
    | with_reducible refine yF_bif ?_
    | with_reducible refine yF_ite ?_ ?_
    | with_reducible refine yF_bindI (V := w_f173_counts_L2) (I0 := s.2) (fr_f172_countSquare _ _ _) ?_ ?_ ?_
    | with_reducible refine yF_bind0 ?_
    | with_reducible intro _
    | dsimp only)
theorem frl_f173_counts_L2 (v1 : Int32) (n : Nat) (s : (Int32 × (Nat → Nat → Int32))) : yF (zloop (f173_counts_L2 v1) n s) (fun x => yfr w_f173_counts_L2 s.2 x.2) :=
  yF_loop (R := fun a b => yfr w_f173_counts_L2 a.2 b.2) (fun _ => yfr_refl _) (fun a b c h1 h2 => yfr_trans a.2 b.2 c.2 h1 h2) (fun s y hy => by
    have h := fr_f173_counts_L2 v1 s y hy
    rcases y with y | y
    · exact h
    · exact h) n s
def w_f173_counts_L29 : List Nat := [7353]
set_option maxRecDepth 10000 in
set_option maxHeartbeats 4000000 in
theorem fr_f173_counts_L29 (s : (Int32 × (Nat → Nat → Int32))) : yF (f173_counts_L29 s) (fun y => match y with
    | .inl x => yfr w_f173_counts_L29 s.2 x.2
    | .inr x => yfr w_f173_counts_L29 s.2 x.2) := by
  unfold f173_counts_L29
  have h0 : yfr w_f173_counts_L29 s.2 s.2 := yfr_refl _
  repeat' (first
    | with_reducible refine yfr_zu ?_ ?_
    | with_reducible refine yfr_zcp (fun _ => rfl) ?_
    | with_reducible assumption
    | with_reducible exact yfr_refl _
    | exact (rfl : (_ : Bool) = true)
    | with_reducible exact yF_none
    | with_reducible refine yF_some ?_
    | exact yrow0 (by assumption) ⟨rfl, rfl, rfl, rfl⟩
    | with_reducible refine yF_bif ?_
    | with_reducible refine yF_ite ?_ ?_
    | with_reducible refine yF_bind0 ?_
    | with_reducible intro _
    | dsimp only)
theorem frl_f173_counts_L29  (n : Nat) (s : (Int32 × (Nat → Nat → Int32))) : yF (zloop (f173_counts_L29 ) n s) (fun x => yfr w_f173_counts_L29 s.2 x.2) :=
  yF_loop (R := fun a b => yfr w_f173_counts_L29 a.2 b.2) (fun _ => yfr_refl _) (fun a b c h1 h2 => yfr_trans a.2 b.2 c.2 h1 h2) (fun s y hy => by
    have h := fr_f173_counts_L29 s y hy
    rcases y with y | y
    · exact h
    · exact h) n s
def w_f173_counts : List Nat := [7352, 7353, 7354, 10399]
set_option maxRecDepth 10000 in
set_option maxHeartbeats 4000000 in
theorem fr_f173_counts (v1 : Int32) (I : (Nat → Nat → Int32)) : yF (f173_counts v1 I) (fun x => yfr w_f173_counts I x) := by
  unfold f173_counts
  have h0 : yfr w_f173_counts I I := yfr_refl _
  repeat' (first
    | with_reducible refine yfr_zu ?_ ?_
    | with_reducible refine yfr_zcp (fun _ => rfl) ?_
    | with_reducible assumption
    | with_reducible exact yfr_refl _
    | exact (rfl : (_ : Bool) = true)
    | with_reducible exact yF_none
    | with_reducible refine yF_some ?_
    | exact yrow0 (by assumption) ⟨rfl, rfl, rfl, rfl⟩
    | with_reducible refine yF_bif ?_
    | with_reducible refine yF_ite ?_ ?_
    | with_reducible refine yF_bindI (V := w_f173_counts) (I0 := I) (frl_f173_counts_L2 _ _ _) ?_ ?_ ?_
    | with_reducible refine yF_bindI (V := w_f173_counts) (I0 := I) (frl_f173_counts_L29  _ _) ?_ ?_ ?_
    | with_reducible refine yF_bind0 ?_
    | with_reducible intro _
    | dsimp only)
def w_f171_goTo_L2 : List Nat := [9799, 9899]
set_option maxRecDepth 10000 in
set_option maxHeartbeats 4000000 in
theorem fr_f171_goTo_L2 (v1 : Int32) (s : (Int32 × (Nat → Nat → Int32))) : yF (f171_goTo_L2 v1 s) (fun y => match y with
    | .inl x => yfr w_f171_goTo_L2 s.2 x.2
    | .inr x => yfr w_f171_goTo_L2 s.2 x.2) := by
  unfold f171_goTo_L2
  have h0 : yfr w_f171_goTo_L2 s.2 s.2 := yfr_refl _
  repeat' (first
    | with_reducible refine yfr_zu ?_ ?_
    | with_reducible refine yfr_zcp (fun _ => rfl) ?_
    | with_reducible assumption
    | with_reducible exact yfr_refl _
    | exact (rfl : (_ : Bool) = true)
    | with_reducible exact yF_none
    | with_reducible refine yF_some ?_
    | exact yrow0 (by assumption) ⟨rfl, rfl, rfl, rfl⟩
    | with_reducible refine yF_bif ?_
    | with_reducible refine yF_ite ?_ ?_
    | with_reducible refine yF_bind0 ?_
    | with_reducible intro _
    | dsimp only)
theorem frl_f171_goTo_L2 (v1 : Int32) (n : Nat) (s : (Int32 × (Nat → Nat → Int32))) : yF (zloop (f171_goTo_L2 v1) n s) (fun x => yfr w_f171_goTo_L2 s.2 x.2) :=
  yF_loop (R := fun a b => yfr w_f171_goTo_L2 a.2 b.2) (fun _ => yfr_refl _) (fun a b c h1 h2 => yfr_trans a.2 b.2 c.2 h1 h2) (fun s y hy => by
    have h := fr_f171_goTo_L2 v1 s y hy
    rcases y with y | y
    · exact h
    · exact h) n s
def w_f171_goTo_L30 : List Nat := [9999]
set_option maxRecDepth 10000 in
set_option maxHeartbeats 4000000 in
theorem fr_f171_goTo_L30 (v1 : Int32) (s : (Int32 × (Nat → Nat → Int32))) : yF (f171_goTo_L30 v1 s) (fun y => match y with
    | .inl x => yfr w_f171_goTo_L30 s.2 x.2
    | .inr x => yfr w_f171_goTo_L30 s.2 x.2) := by
  unfold f171_goTo_L30
  have h0 : yfr w_f171_goTo_L30 s.2 s.2 := yfr_refl _
  repeat' (first
    | with_reducible refine yfr_zu ?_ ?_
    | with_reducible refine yfr_zcp (fun _ => rfl) ?_
    | with_reducible assumption
    | with_reducible exact yfr_refl _
    | exact (rfl : (_ : Bool) = true)
    | with_reducible exact yF_none
    | with_reducible refine yF_some ?_
    | exact yrow0 (by assumption) ⟨rfl, rfl, rfl, rfl⟩
    | with_reducible refine yF_bif ?_
    | with_reducible refine yF_ite ?_ ?_
    | with_reducible refine yF_bind0 ?_
    | with_reducible intro _
    | dsimp only)
theorem frl_f171_goTo_L30 (v1 : Int32) (n : Nat) (s : (Int32 × (Nat → Nat → Int32))) : yF (zloop (f171_goTo_L30 v1) n s) (fun x => yfr w_f171_goTo_L30 s.2 x.2) :=
  yF_loop (R := fun a b => yfr w_f171_goTo_L30 a.2 b.2) (fun _ => yfr_refl _) (fun a b c h1 h2 => yfr_trans a.2 b.2 c.2 h1 h2) (fun s y hy => by
    have h := fr_f171_goTo_L30 v1 s y hy
    rcases y with y | y
    · exact h
    · exact h) n s
def w_f171_goTo_L52 : List Nat := [9799]
set_option maxRecDepth 10000 in
set_option maxHeartbeats 4000000 in
theorem fr_f171_goTo_L52 (v1 : Int32) (s : (Int32 × (Nat → Nat → Int32))) : yF (f171_goTo_L52 v1 s) (fun y => match y with
    | .inl x => yfr w_f171_goTo_L52 s.2 x.2
    | .inr x => yfr w_f171_goTo_L52 s.2 x.2) := by
  unfold f171_goTo_L52
  have h0 : yfr w_f171_goTo_L52 s.2 s.2 := yfr_refl _
  repeat' (first
    | with_reducible refine yfr_zu ?_ ?_
    | with_reducible refine yfr_zcp (fun _ => rfl) ?_
    | with_reducible assumption
    | with_reducible exact yfr_refl _
    | exact (rfl : (_ : Bool) = true)
    | with_reducible exact yF_none
    | with_reducible refine yF_some ?_
    | exact yrow0 (by assumption) ⟨rfl, rfl, rfl, rfl⟩
    | with_reducible refine yF_bif ?_
    | with_reducible refine yF_ite ?_ ?_
    | with_reducible refine yF_bind0 ?_
    | with_reducible intro _
    | dsimp only)
theorem frl_f171_goTo_L52 (v1 : Int32) (n : Nat) (s : (Int32 × (Nat → Nat → Int32))) : yF (zloop (f171_goTo_L52 v1) n s) (fun x => yfr w_f171_goTo_L52 s.2 x.2) :=
  yF_loop (R := fun a b => yfr w_f171_goTo_L52 a.2 b.2) (fun _ => yfr_refl _) (fun a b c h1 h2 => yfr_trans a.2 b.2 c.2 h1 h2) (fun s y hy => by
    have h := fr_f171_goTo_L52 v1 s y hy
    rcases y with y | y
    · exact h
    · exact h) n s
def w_f171_goTo_L97 : List Nat := [10199]
set_option maxRecDepth 10000 in
set_option maxHeartbeats 4000000 in
theorem fr_f171_goTo_L97 (v1 : Int32) (v2 : Int32) (s : (Int32 × (Nat → Nat → Int32))) : yF (f171_goTo_L97 v1 v2 s) (fun y => match y with
    | .inl x => yfr w_f171_goTo_L97 s.2 x.2
    | .inr x => yfr w_f171_goTo_L97 s.2 x.2) := by
  unfold f171_goTo_L97
  have h0 : yfr w_f171_goTo_L97 s.2 s.2 := yfr_refl _
  repeat' (first
    | with_reducible refine yfr_zu ?_ ?_
    | with_reducible refine yfr_zcp (fun _ => rfl) ?_
    | with_reducible assumption
    | with_reducible exact yfr_refl _
    | exact (rfl : (_ : Bool) = true)
    | with_reducible exact yF_none
    | with_reducible refine yF_some ?_
    | exact yrow0 (by assumption) ⟨rfl, rfl, rfl, rfl⟩
    | with_reducible refine yF_bif ?_
    | with_reducible refine yF_ite ?_ ?_
    | with_reducible refine yF_bind0 ?_
    | with_reducible intro _
    | dsimp only)
theorem frl_f171_goTo_L97 (v1 : Int32) (v2 : Int32) (n : Nat) (s : (Int32 × (Nat → Nat → Int32))) : yF (zloop (f171_goTo_L97 v1 v2) n s) (fun x => yfr w_f171_goTo_L97 s.2 x.2) :=
  yF_loop (R := fun a b => yfr w_f171_goTo_L97 a.2 b.2) (fun _ => yfr_refl _) (fun a b c h1 h2 => yfr_trans a.2 b.2 c.2 h1 h2) (fun s y hy => by
    have h := fr_f171_goTo_L97 v1 v2 s y hy
    rcases y with y | y
    · exact h
    · exact h) n s
def w_f171_goTo_L141 : List Nat := [10099]
set_option maxRecDepth 10000 in
set_option maxHeartbeats 4000000 in
theorem fr_f171_goTo_L141 (v1 : Int32) (v2 : Int32) (s : (Int32 × (Nat → Nat → Int32))) : yF (f171_goTo_L141 v1 v2 s) (fun y => match y with
    | .inl x => yfr w_f171_goTo_L141 s.2 x.2
    | .inr x => yfr w_f171_goTo_L141 s.2 x.2) := by
  unfold f171_goTo_L141
  have h0 : yfr w_f171_goTo_L141 s.2 s.2 := yfr_refl _
  repeat' (first
    | with_reducible refine yfr_zu ?_ ?_
    | with_reducible refine yfr_zcp (fun _ => rfl) ?_
    | with_reducible assumption
    | with_reducible exact yfr_refl _
    | exact (rfl : (_ : Bool) = true)
    | with_reducible exact yF_none
    | with_reducible refine yF_some ?_
    | exact yrow0 (by assumption) ⟨rfl, rfl, rfl, rfl⟩
    | with_reducible refine yF_bif ?_
    | with_reducible refine yF_ite ?_ ?_
    | with_reducible refine yF_bind0 ?_
    | with_reducible intro _
    | dsimp only)
theorem frl_f171_goTo_L141 (v1 : Int32) (v2 : Int32) (n : Nat) (s : (Int32 × (Nat → Nat → Int32))) : yF (zloop (f171_goTo_L141 v1 v2) n s) (fun x => yfr w_f171_goTo_L141 s.2 x.2) :=
  yF_loop (R := fun a b => yfr w_f171_goTo_L141 a.2 b.2) (fun _ => yfr_refl _) (fun a b c h1 h2 => yfr_trans a.2 b.2 c.2 h1 h2) (fun s y hy => by
    have h := fr_f171_goTo_L141 v1 v2 s y hy
    rcases y with y | y
    · exact h
    · exact h) n s
def w_f171_goTo_L90 : List Nat := [9199, 9299, 9799, 9899, 9999, 10099, 10199, 10299]
set_option maxRecDepth 10000 in
set_option maxHeartbeats 4000000 in
theorem fr_f171_goTo_L90 (v1 : Int32) (s : (Int32 × (Nat → Nat → Int32))) : yF (f171_goTo_L90 v1 s) (fun y => match y with
    | .inl x => yfr w_f171_goTo_L90 s.2 x.2
    | .inr x => yfr w_f171_goTo_L90 s.2 x.2) := by
  unfold f171_goTo_L90
  have h0 : yfr w_f171_goTo_L90 s.2 s.2 := yfr_refl _
  repeat' (first
    | with_reducible refine yfr_zu ?_ ?_
    | with_reducible refine yfr_zcp (fun _ => rfl) ?_
    | with_reducible assumption
    | with_reducible exact yfr_refl _
    | exact (rfl : (_ : Bool) = true)
    | with_reducible exact yF_none
    | with_reducible refine yF_some ?_
    | exact yrow0 (by assumption) ⟨rfl, rfl, rfl, rfl⟩
    | with_reducible refine yF_bif ?_
    | with_reducible refine yF_ite ?_ ?_
    | with_reducible refine yF_bindI (V := w_f171_goTo_L90) (I0 := s.2) (frl_f171_goTo_L97 _ _ _ _) ?_ ?_ ?_
    | with_reducible refine yF_bindI (V := w_f171_goTo_L90) (I0 := s.2) (fr_f167_arrive _ _) ?_ ?_ ?_
    | with_reducible refine yF_bindI (V := w_f171_goTo_L90) (I0 := s.2) (fr_f170_go _ _ _) ?_ ?_ ?_
    | with_reducible refine yF_bindI (V := w_f171_goTo_L90) (I0 := s.2) (frl_f171_goTo_L141 _ _ _ _) ?_ ?_ ?_
    | with_reducible refine yF_bind0 ?_
    | with_reducible intro _
    | dsimp only)
theorem frl_f171_goTo_L90 (v1 : Int32) (n : Nat) (s : (Int32 × (Nat → Nat → Int32))) : yF (zloop (f171_goTo_L90 v1) n s) (fun x => yfr w_f171_goTo_L90 s.2 x.2) :=
  yF_loop (R := fun a b => yfr w_f171_goTo_L90 a.2 b.2) (fun _ => yfr_refl _) (fun a b c h1 h2 => yfr_trans a.2 b.2 c.2 h1 h2) (fun s y hy => by
    have h := fr_f171_goTo_L90 v1 s y hy
    rcases y with y | y
    · exact h
    · exact h) n s
def w_f171_goTo_L183 : List Nat := [10099]
set_option maxRecDepth 10000 in
set_option maxHeartbeats 4000000 in
theorem fr_f171_goTo_L183 (v1 : Int32) (s : (Int32 × (Nat → Nat → Int32))) : yF (f171_goTo_L183 v1 s) (fun y => match y with
    | .inl x => yfr w_f171_goTo_L183 s.2 x.2
    | .inr x => yfr w_f171_goTo_L183 s.2 x.2) := by
  unfold f171_goTo_L183
  have h0 : yfr w_f171_goTo_L183 s.2 s.2 := yfr_refl _
  repeat' (first
    | with_reducible refine yfr_zu ?_ ?_
    | with_reducible refine yfr_zcp (fun _ => rfl) ?_
    | with_reducible assumption
    | with_reducible exact yfr_refl _
    | exact (rfl : (_ : Bool) = true)
    | with_reducible exact yF_none
    | with_reducible refine yF_some ?_
    | exact yrow0 (by assumption) ⟨rfl, rfl, rfl, rfl⟩
    | with_reducible refine yF_bif ?_
    | with_reducible refine yF_ite ?_ ?_
    | with_reducible refine yF_bind0 ?_
    | with_reducible intro _
    | dsimp only)
theorem frl_f171_goTo_L183 (v1 : Int32) (n : Nat) (s : (Int32 × (Nat → Nat → Int32))) : yF (zloop (f171_goTo_L183 v1) n s) (fun x => yfr w_f171_goTo_L183 s.2 x.2) :=
  yF_loop (R := fun a b => yfr w_f171_goTo_L183 a.2 b.2) (fun _ => yfr_refl _) (fun a b c h1 h2 => yfr_trans a.2 b.2 c.2 h1 h2) (fun s y hy => by
    have h := fr_f171_goTo_L183 v1 s y hy
    rcases y with y | y
    · exact h
    · exact h) n s
def w_f171_goTo : List Nat := [7352, 7353, 7354, 9199, 9299, 9799, 9899, 9999, 10099, 10199, 10299, 10399]
set_option maxRecDepth 10000 in
set_option maxHeartbeats 4000000 in
theorem fr_f171_goTo (v1 : Int32) (I : (Nat → Nat → Int32)) : yF (f171_goTo v1 I) (fun x => yfr w_f171_goTo I x.2) := by
  unfold f171_goTo
  have h0 : yfr w_f171_goTo I I := yfr_refl _
  repeat' (first
    | with_reducible refine yfr_zu ?_ ?_
    | with_reducible refine yfr_zcp (fun _ => rfl) ?_
    | with_reducible assumption
    | with_reducible exact yfr_refl _
    | exact (rfl : (_ : Bool) = true)
    | with_reducible exact yF_none
    | with_reducible refine yF_some ?_
    | exact yrow0 (by assumption) ⟨rfl, rfl, rfl, rfl⟩
    | with_reducible refine yF_bif ?_
    | with_reducible refine yF_ite ?_ ?_
    | with_reducible refine yF_bindI (V := w_f171_goTo) (I0 := I) (frl_f171_goTo_L2 _ _ _) ?_ ?_ ?_
    | with_reducible refine yF_bindI (V := w_f171_goTo) (I0 := I) (frl_f171_goTo_L30 _ _ _) ?_ ?_ ?_
    | with_reducible refine yF_bindI (V := w_f171_goTo) (I0 := I) (frl_f171_goTo_L52 _ _ _) ?_ ?_ ?_
    | with_reducible refine yF_bindI (V := w_f171_goTo) (I0 := I) (frl_f171_goTo_L90 _ _ _) ?_ ?_ ?_
    | with_reducible refine yF_bindI (V := w_f171_goTo) (I0 := I) (fr_f167_arrive _ _) ?_ ?_ ?_
    | with_reducible refine yF_bindI (V := w_f171_goTo) (I0 := I) (frl_f171_goTo_L183 _ _ _) ?_ ?_ ?_
    | with_reducible refine yF_bindI (V := w_f171_goTo) (I0 := I) (fr_f173_counts _ _) ?_ ?_ ?_
    | with_reducible refine yF_bind0 ?_
    | with_reducible intro _
    | dsimp only)
def w_f174_run_L74 : List Nat := [7359]
set_option maxRecDepth 10000 in
set_option maxHeartbeats 4000000 in
theorem fr_f174_run_L74 (s : (Int32 × (Nat → Nat → Int32))) : yF (f174_run_L74 s) (fun y => match y with
    | .inl x => yfr w_f174_run_L74 s.2 x.2
    | .inr x => yfr w_f174_run_L74 s.2 x.2) := by
  unfold f174_run_L74
  have h0 : yfr w_f174_run_L74 s.2 s.2 := yfr_refl _
  repeat' (first
    | with_reducible refine yfr_zu ?_ ?_
    | with_reducible refine yfr_zcp (fun _ => rfl) ?_
    | with_reducible assumption
    | with_reducible exact yfr_refl _
    | exact (rfl : (_ : Bool) = true)
    | with_reducible exact yF_none
    | with_reducible refine yF_some ?_
    | exact yrow0 (by assumption) ⟨rfl, rfl, rfl, rfl⟩
    | with_reducible refine yF_bif ?_
    | with_reducible refine yF_ite ?_ ?_
    | with_reducible refine yF_bind0 ?_
    | with_reducible intro _
    | dsimp only)
theorem frl_f174_run_L74  (n : Nat) (s : (Int32 × (Nat → Nat → Int32))) : yF (zloop (f174_run_L74 ) n s) (fun x => yfr w_f174_run_L74 s.2 x.2) :=
  yF_loop (R := fun a b => yfr w_f174_run_L74 a.2 b.2) (fun _ => yfr_refl _) (fun a b c h1 h2 => yfr_trans a.2 b.2 c.2 h1 h2) (fun s y hy => by
    have h := fr_f174_run_L74 s y hy
    rcases y with y | y
    · exact h
    · exact h) n s
def w_f174_run_L105 : List Nat := [7359]
set_option maxRecDepth 10000 in
set_option maxHeartbeats 4000000 in
theorem fr_f174_run_L105 (s : (Int32 × (Nat → Nat → Int32))) : yF (f174_run_L105 s) (fun y => match y with
    | .inl x => yfr w_f174_run_L105 s.2 x.2
    | .inr x => yfr w_f174_run_L105 s.2 x.2) := by
  unfold f174_run_L105
  have h0 : yfr w_f174_run_L105 s.2 s.2 := yfr_refl _
  repeat' (first
    | with_reducible refine yfr_zu ?_ ?_
    | with_reducible refine yfr_zcp (fun _ => rfl) ?_
    | with_reducible assumption
    | with_reducible exact yfr_refl _
    | exact (rfl : (_ : Bool) = true)
    | with_reducible exact yF_none
    | with_reducible refine yF_some ?_
    | exact yrow0 (by assumption) ⟨rfl, rfl, rfl, rfl⟩
    | with_reducible refine yF_bif ?_
    | with_reducible refine yF_ite ?_ ?_
    | with_reducible refine yF_bind0 ?_
    | with_reducible intro _
    | dsimp only)
theorem frl_f174_run_L105  (n : Nat) (s : (Int32 × (Nat → Nat → Int32))) : yF (zloop (f174_run_L105 ) n s) (fun x => yfr w_f174_run_L105 s.2 x.2) :=
  yF_loop (R := fun a b => yfr w_f174_run_L105 a.2 b.2) (fun _ => yfr_refl _) (fun a b c h1 h2 => yfr_trans a.2 b.2 c.2 h1 h2) (fun s y hy => by
    have h := fr_f174_run_L105 s y hy
    rcases y with y | y
    · exact h
    · exact h) n s
def w_f174_run_L134 : List Nat := [10499]
set_option maxRecDepth 10000 in
set_option maxHeartbeats 4000000 in
theorem fr_f174_run_L134 (s : (Int32 × (Nat → Nat → Int32))) : yF (f174_run_L134 s) (fun y => match y with
    | .inl x => yfr w_f174_run_L134 s.2 x.2
    | .inr x => yfr w_f174_run_L134 s.2 x.2) := by
  unfold f174_run_L134
  have h0 : yfr w_f174_run_L134 s.2 s.2 := yfr_refl _
  repeat' (first
    | with_reducible refine yfr_zu ?_ ?_
    | with_reducible refine yfr_zcp (fun _ => rfl) ?_
    | with_reducible assumption
    | with_reducible exact yfr_refl _
    | exact (rfl : (_ : Bool) = true)
    | with_reducible exact yF_none
    | with_reducible refine yF_some ?_
    | exact yrow0 (by assumption) ⟨rfl, rfl, rfl, rfl⟩
    | with_reducible refine yF_bif ?_
    | with_reducible refine yF_ite ?_ ?_
    | with_reducible refine yF_bind0 ?_
    | with_reducible intro _
    | dsimp only)
theorem frl_f174_run_L134  (n : Nat) (s : (Int32 × (Nat → Nat → Int32))) : yF (zloop (f174_run_L134 ) n s) (fun x => yfr w_f174_run_L134 s.2 x.2) :=
  yF_loop (R := fun a b => yfr w_f174_run_L134 a.2 b.2) (fun _ => yfr_refl _) (fun a b c h1 h2 => yfr_trans a.2 b.2 c.2 h1 h2) (fun s y hy => by
    have h := fr_f174_run_L134 s y hy
    rcases y with y | y
    · exact h
    · exact h) n s
def w_f174_run_L161 : List Nat := [10599]
set_option maxRecDepth 10000 in
set_option maxHeartbeats 4000000 in
theorem fr_f174_run_L161 (s : (Int32 × (Nat → Nat → Int32))) : yF (f174_run_L161 s) (fun y => match y with
    | .inl x => yfr w_f174_run_L161 s.2 x.2
    | .inr x => yfr w_f174_run_L161 s.2 x.2) := by
  unfold f174_run_L161
  have h0 : yfr w_f174_run_L161 s.2 s.2 := yfr_refl _
  repeat' (first
    | with_reducible refine yfr_zu ?_ ?_
    | with_reducible refine yfr_zcp (fun _ => rfl) ?_
    | with_reducible assumption
    | with_reducible exact yfr_refl _
    | exact (rfl : (_ : Bool) = true)
    | with_reducible exact yF_none
    | with_reducible refine yF_some ?_
    | exact yrow0 (by assumption) ⟨rfl, rfl, rfl, rfl⟩
    | with_reducible refine yF_bif ?_
    | with_reducible refine yF_ite ?_ ?_
    | with_reducible refine yF_bind0 ?_
    | with_reducible intro _
    | dsimp only)
theorem frl_f174_run_L161  (n : Nat) (s : (Int32 × (Nat → Nat → Int32))) : yF (zloop (f174_run_L161 ) n s) (fun x => yfr w_f174_run_L161 s.2 x.2) :=
  yF_loop (R := fun a b => yfr w_f174_run_L161 a.2 b.2) (fun _ => yfr_refl _) (fun a b c h1 h2 => yfr_trans a.2 b.2 c.2 h1 h2) (fun s y hy => by
    have h := fr_f174_run_L161 s y hy
    rcases y with y | y
    · exact h
    · exact h) n s
def w_f174_run : List Nat := [7352, 7353, 7354, 7355, 7356, 7357, 7358, 7359, 7360, 7361, 9199, 9299, 9799, 9899, 9999, 10099, 10199, 10299, 10399, 10499, 10599]
set_option maxRecDepth 10000 in
set_option maxHeartbeats 4000000 in
theorem fr_f174_run (I : (Nat → Nat → Int32)) : yF (f174_run I) (fun x => yfr w_f174_run I x.2) := by
  unfold f174_run
  have h0 : yfr w_f174_run I I := yfr_refl _
  repeat' (first
    | with_reducible refine yfr_zu ?_ ?_
    | with_reducible refine yfr_zcp (fun _ => rfl) ?_
    | with_reducible assumption
    | with_reducible exact yfr_refl _
    | exact (rfl : (_ : Bool) = true)
    | with_reducible exact yF_none
    | with_reducible refine yF_some ?_
    | exact yrow0 (by assumption) ⟨rfl, rfl, rfl, rfl⟩
    | with_reducible refine yF_bif ?_
    | with_reducible refine yF_ite ?_ ?_
    | with_reducible refine yF_bindI (V := w_f174_run) (I0 := I) (fr_f171_goTo _ _) ?_ ?_ ?_
    | with_reducible refine yF_bindI (V := w_f174_run) (I0 := I) (frl_f174_run_L74  _ _) ?_ ?_ ?_
    | with_reducible refine yF_bindI (V := w_f174_run) (I0 := I) (frl_f174_run_L105  _ _) ?_ ?_ ?_
    | with_reducible refine yF_bindI (V := w_f174_run) (I0 := I) (frl_f174_run_L134  _ _) ?_ ?_ ?_
    | with_reducible refine yF_bindI (V := w_f174_run) (I0 := I) (frl_f174_run_L161  _ _) ?_ ?_ ?_
    | with_reducible refine yF_bind0 ?_
    | with_reducible intro _
    | dsimp only)
def w_f178_nearer : List Nat := [10699]
set_option maxRecDepth 10000 in
set_option maxHeartbeats 4000000 in
theorem fr_f178_nearer (v1 : Int32) (v2 : Int32) (v3 : Int32) (I : (Nat → Nat → Int32)) : yF (f178_nearer v1 v2 v3 I) (fun x => yfr w_f178_nearer I x) := by
  unfold f178_nearer
  have h0 : yfr w_f178_nearer I I := yfr_refl _
  repeat' (first
    | with_reducible refine yfr_zu ?_ ?_
    | with_reducible refine yfr_zcp (fun _ => rfl) ?_
    | with_reducible assumption
    | with_reducible exact yfr_refl _
    | exact (rfl : (_ : Bool) = true)
    | with_reducible exact yF_none
    | with_reducible refine yF_some ?_
    | exact yrow0 (by assumption) ⟨rfl, rfl, rfl, rfl⟩
    | with_reducible refine yF_bif ?_
    | with_reducible refine yF_ite ?_ ?_
    | with_reducible refine yF_bind0 ?_
    | with_reducible intro _
    | dsimp only)
def w_f177_fewest_L2 : List Nat := [10699]
set_option maxRecDepth 10000 in
set_option maxHeartbeats 4000000 in
theorem fr_f177_fewest_L2 (v1 : Int32) (v2 : Int32) (s : (Int32 × (Nat → Nat → Int32))) : yF (f177_fewest_L2 v1 v2 s) (fun y => match y with
    | .inl x => yfr w_f177_fewest_L2 s.2 x.2
    | .inr x => yfr w_f177_fewest_L2 s.2 x.2) := by
  unfold f177_fewest_L2
  have h0 : yfr w_f177_fewest_L2 s.2 s.2 := yfr_refl _
  repeat' (first
    | with_reducible refine yfr_zu ?_ ?_
    | with_reducible refine yfr_zcp (fun _ => rfl) ?_
    | with_reducible assumption
    | with_reducible exact yfr_refl _
    | exact (rfl : (_ : Bool) = true)
    | with_reducible exact yF_none
    | with_reducible refine yF_some ?_
    | exact yrow0 (by assumption) ⟨rfl, rfl, rfl, rfl⟩
    | with_reducible refine yF_bif ?_
    | with_reducible refine yF_ite ?_ ?_
    | with_reducible refine yF_bind0 ?_
    | with_reducible intro _
    | dsimp only)
theorem frl_f177_fewest_L2 (v1 : Int32) (v2 : Int32) (n : Nat) (s : (Int32 × (Nat → Nat → Int32))) : yF (zloop (f177_fewest_L2 v1 v2) n s) (fun x => yfr w_f177_fewest_L2 s.2 x.2) :=
  yF_loop (R := fun a b => yfr w_f177_fewest_L2 a.2 b.2) (fun _ => yfr_refl _) (fun a b c h1 h2 => yfr_trans a.2 b.2 c.2 h1 h2) (fun s y hy => by
    have h := fr_f177_fewest_L2 v1 v2 s y hy
    rcases y with y | y
    · exact h
    · exact h) n s
def w_f177_fewest_L45 : List Nat := [10699]
set_option maxRecDepth 10000 in
set_option maxHeartbeats 4000000 in
theorem fr_f177_fewest_L45 (v2 : Int32) (v3 : Int32) (s : (Int32 × (Nat → Nat → Int32))) : yF (f177_fewest_L45 v2 v3 s) (fun y => match y with
    | .inl x => yfr w_f177_fewest_L45 s.2 x.2
    | .inr x => yfr w_f177_fewest_L45 s.2 x.2) := by
  unfold f177_fewest_L45
  have h0 : yfr w_f177_fewest_L45 s.2 s.2 := yfr_refl _
  repeat' (first
    | with_reducible refine yfr_zu ?_ ?_
    | with_reducible refine yfr_zcp (fun _ => rfl) ?_
    | with_reducible assumption
    | with_reducible exact yfr_refl _
    | exact (rfl : (_ : Bool) = true)
    | with_reducible exact yF_none
    | with_reducible refine yF_some ?_
    | exact yrow0 (by assumption) ⟨rfl, rfl, rfl, rfl⟩
    | with_reducible refine yF_bif ?_
    | with_reducible refine yF_ite ?_ ?_
    | with_reducible refine yF_bindI (V := w_f177_fewest_L45) (I0 := s.2) (fr_f178_nearer _ _ _ _) ?_ ?_ ?_
    | with_reducible refine yF_bind0 ?_
    | with_reducible intro _
    | dsimp only)
theorem frl_f177_fewest_L45 (v2 : Int32) (v3 : Int32) (n : Nat) (s : (Int32 × (Nat → Nat → Int32))) : yF (zloop (f177_fewest_L45 v2 v3) n s) (fun x => yfr w_f177_fewest_L45 s.2 x.2) :=
  yF_loop (R := fun a b => yfr w_f177_fewest_L45 a.2 b.2) (fun _ => yfr_refl _) (fun a b c h1 h2 => yfr_trans a.2 b.2 c.2 h1 h2) (fun s y hy => by
    have h := fr_f177_fewest_L45 v2 v3 s y hy
    rcases y with y | y
    · exact h
    · exact h) n s
def w_f177_fewest_L34 : List Nat := [10699]
set_option maxRecDepth 10000 in
set_option maxHeartbeats 4000000 in
theorem fr_f177_fewest_L34 (v2 : Int32) (s : (Int32 × (Nat → Nat → Int32))) : yF (f177_fewest_L34 v2 s) (fun y => match y with
    | .inl x => yfr w_f177_fewest_L34 s.2 x.2
    | .inr x => yfr w_f177_fewest_L34 s.2 x.2) := by
  unfold f177_fewest_L34
  have h0 : yfr w_f177_fewest_L34 s.2 s.2 := yfr_refl _
  repeat' (first
    | with_reducible refine yfr_zu ?_ ?_
    | with_reducible refine yfr_zcp (fun _ => rfl) ?_
    | with_reducible assumption
    | with_reducible exact yfr_refl _
    | exact (rfl : (_ : Bool) = true)
    | with_reducible exact yF_none
    | with_reducible refine yF_some ?_
    | exact yrow0 (by assumption) ⟨rfl, rfl, rfl, rfl⟩
    | with_reducible refine yF_bif ?_
    | with_reducible refine yF_ite ?_ ?_
    | with_reducible refine yF_bindI (V := w_f177_fewest_L34) (I0 := s.2) (frl_f177_fewest_L45 _ _ _ _) ?_ ?_ ?_
    | with_reducible refine yF_bind0 ?_
    | with_reducible intro _
    | dsimp only)
theorem frl_f177_fewest_L34 (v2 : Int32) (n : Nat) (s : (Int32 × (Nat → Nat → Int32))) : yF (zloop (f177_fewest_L34 v2) n s) (fun x => yfr w_f177_fewest_L34 s.2 x.2) :=
  yF_loop (R := fun a b => yfr w_f177_fewest_L34 a.2 b.2) (fun _ => yfr_refl _) (fun a b c h1 h2 => yfr_trans a.2 b.2 c.2 h1 h2) (fun s y hy => by
    have h := fr_f177_fewest_L34 v2 s y hy
    rcases y with y | y
    · exact h
    · exact h) n s
def w_f177_fewest : List Nat := [10699]
set_option maxRecDepth 10000 in
set_option maxHeartbeats 4000000 in
theorem fr_f177_fewest (v1 : Int32) (v2 : Int32) (I : (Nat → Nat → Int32)) : yF (f177_fewest v1 v2 I) (fun x => yfr w_f177_fewest I x.2) := by
  unfold f177_fewest
  have h0 : yfr w_f177_fewest I I := yfr_refl _
  repeat' (first
    | with_reducible refine yfr_zu ?_ ?_
    | with_reducible refine yfr_zcp (fun _ => rfl) ?_
    | with_reducible assumption
    | with_reducible exact yfr_refl _
    | exact (rfl : (_ : Bool) = true)
    | with_reducible exact yF_none
    | with_reducible refine yF_some ?_
    | exact yrow0 (by assumption) ⟨rfl, rfl, rfl, rfl⟩
    | with_reducible refine yF_bif ?_
    | with_reducible refine yF_ite ?_ ?_
    | with_reducible refine yF_bindI (V := w_f177_fewest) (I0 := I) (frl_f177_fewest_L2 _ _ _ _) ?_ ?_ ?_
    | with_reducible refine yF_bindI (V := w_f177_fewest) (I0 := I) (frl_f177_fewest_L34 _ _ _) ?_ ?_ ?_
    | with_reducible refine yF_bind0 ?_
    | with_reducible intro _
    | dsimp only)
def w_f179_lastOf : List Nat := [10699]
set_option maxRecDepth 10000 in
set_option maxHeartbeats 4000000 in
theorem fr_f179_lastOf (v1 : Int32) (v2 : Int32) (v3 : Int32) (I : (Nat → Nat → Int32)) : yF (f179_lastOf v1 v2 v3 I) (fun x => yfr w_f179_lastOf I x.2) := by
  unfold f179_lastOf
  have h0 : yfr w_f179_lastOf I I := yfr_refl _
  repeat' (first
    | with_reducible refine yfr_zu ?_ ?_
    | with_reducible refine yfr_zcp (fun _ => rfl) ?_
    | with_reducible assumption
    | with_reducible exact yfr_refl _
    | exact (rfl : (_ : Bool) = true)
    | with_reducible exact yF_none
    | with_reducible refine yF_some ?_
    | exact yrow0 (by assumption) ⟨rfl, rfl, rfl, rfl⟩
    | with_reducible refine yF_bif ?_
    | with_reducible refine yF_ite ?_ ?_
    | with_reducible refine yF_bindI (V := w_f179_lastOf) (I0 := I) (fr_f177_fewest _ _ _) ?_ ?_ ?_
    | with_reducible refine yF_bind0 ?_
    | with_reducible intro _
    | dsimp only)
def w_f181_last : List Nat := [10699]
set_option maxRecDepth 10000 in
set_option maxHeartbeats 4000000 in
theorem fr_f181_last (v1 : Int32) (I : (Nat → Nat → Int32)) : yF (f181_last v1 I) (fun x => yfr w_f181_last I x.2) := by
  unfold f181_last
  have h0 : yfr w_f181_last I I := yfr_refl _
  repeat' (first
    | with_reducible refine yfr_zu ?_ ?_
    | with_reducible refine yfr_zcp (fun _ => rfl) ?_
    | with_reducible assumption
    | with_reducible exact yfr_refl _
    | exact (rfl : (_ : Bool) = true)
    | with_reducible exact yF_none
    | with_reducible refine yF_some ?_
    | exact yrow0 (by assumption) ⟨rfl, rfl, rfl, rfl⟩
    | with_reducible refine yF_bif ?_
    | with_reducible refine yF_ite ?_ ?_
    | with_reducible refine yF_bindI (V := w_f181_last) (I0 := I) (fr_f179_lastOf _ _ _ _) ?_ ?_ ?_
    | with_reducible refine yF_bind0 ?_
    | with_reducible intro _
    | dsimp only)
def w_f81_asIn_39 : List Nat := [3900, 3901, 3903, 3904, 4099, 4199]
set_option maxRecDepth 10000 in
set_option maxHeartbeats 4000000 in
theorem fr_f81_asIn_39 (I : (Nat → Nat → Int32)) : yF (f81_asIn_39 I) (fun x => yfr w_f81_asIn_39 I x) := by
  unfold f81_asIn_39
  have h0 : yfr w_f81_asIn_39 I I := yfr_refl _
  repeat' (first
    | with_reducible refine yfr_zu ?_ ?_
    | with_reducible refine yfr_zcp (fun _ => rfl) ?_
    | with_reducible assumption
    | with_reducible exact yfr_refl _
    | exact (rfl : (_ : Bool) = true)
    | with_reducible exact yF_none
    | with_reducible refine yF_some ?_
    | exact yrow0 (by assumption) ⟨rfl, rfl, rfl, rfl⟩
    | with_reducible refine yF_bif ?_
    | with_reducible refine yF_ite ?_ ?_
    | with_reducible refine yF_bind0 ?_
    | with_reducible intro _
    | dsimp only)
def w_f41_begin_38_L24 : List Nat := [4299, 4399, 4499]
set_option maxRecDepth 10000 in
set_option maxHeartbeats 4000000 in
theorem fr_f41_begin_38_L24 (s : (Int32 × (Nat → Nat → Int32))) : yF (f41_begin_38_L24 s) (fun y => match y with
    | .inl x => yfr w_f41_begin_38_L24 s.2 x.2
    | .inr x => yfr w_f41_begin_38_L24 s.2 x.2) := by
  unfold f41_begin_38_L24
  have h0 : yfr w_f41_begin_38_L24 s.2 s.2 := yfr_refl _
  repeat' (first
    | with_reducible refine yfr_zu ?_ ?_
    | with_reducible refine yfr_zcp (fun _ => rfl) ?_
    | with_reducible assumption
    | with_reducible exact yfr_refl _
    | exact (rfl : (_ : Bool) = true)
    | with_reducible exact yF_none
    | with_reducible refine yF_some ?_
    | exact yrow0 (by assumption) ⟨rfl, rfl, rfl, rfl⟩
    | with_reducible refine yF_bif ?_
    | with_reducible refine yF_ite ?_ ?_
    | with_reducible refine yF_bind0 ?_
    | with_reducible intro _
    | dsimp only)
theorem frl_f41_begin_38_L24  (n : Nat) (s : (Int32 × (Nat → Nat → Int32))) : yF (zloop (f41_begin_38_L24 ) n s) (fun x => yfr w_f41_begin_38_L24 s.2 x.2) :=
  yF_loop (R := fun a b => yfr w_f41_begin_38_L24 a.2 b.2) (fun _ => yfr_refl _) (fun a b c h1 h2 => yfr_trans a.2 b.2 c.2 h1 h2) (fun s y hy => by
    have h := fr_f41_begin_38_L24 s y hy
    rcases y with y | y
    · exact h
    · exact h) n s
def w_f41_begin_38_L61 : List Nat := [4699]
set_option maxRecDepth 10000 in
set_option maxHeartbeats 4000000 in
theorem fr_f41_begin_38_L61 (s : (Int32 × (Nat → Nat → Int32))) : yF (f41_begin_38_L61 s) (fun y => match y with
    | .inl x => yfr w_f41_begin_38_L61 s.2 x.2
    | .inr x => yfr w_f41_begin_38_L61 s.2 x.2) := by
  unfold f41_begin_38_L61
  have h0 : yfr w_f41_begin_38_L61 s.2 s.2 := yfr_refl _
  repeat' (first
    | with_reducible refine yfr_zu ?_ ?_
    | with_reducible refine yfr_zcp (fun _ => rfl) ?_
    | with_reducible assumption
    | with_reducible exact yfr_refl _
    | exact (rfl : (_ : Bool) = true)
    | with_reducible exact yF_none
    | with_reducible refine yF_some ?_
    | exact yrow0 (by assumption) ⟨rfl, rfl, rfl, rfl⟩
    | with_reducible refine yF_bif ?_
    | with_reducible refine yF_ite ?_ ?_
    | with_reducible refine yF_bind0 ?_
    | with_reducible intro _
    | dsimp only)
theorem frl_f41_begin_38_L61  (n : Nat) (s : (Int32 × (Nat → Nat → Int32))) : yF (zloop (f41_begin_38_L61 ) n s) (fun x => yfr w_f41_begin_38_L61 s.2 x.2) :=
  yF_loop (R := fun a b => yfr w_f41_begin_38_L61 a.2 b.2) (fun _ => yfr_refl _) (fun a b c h1 h2 => yfr_trans a.2 b.2 c.2 h1 h2) (fun s y hy => by
    have h := fr_f41_begin_38_L61 s y hy
    rcases y with y | y
    · exact h
    · exact h) n s
def w_f41_begin_38_L92 : List Nat := [4599]
set_option maxRecDepth 10000 in
set_option maxHeartbeats 4000000 in
theorem fr_f41_begin_38_L92 (s : (Int32 × (Nat → Nat → Int32))) : yF (f41_begin_38_L92 s) (fun y => match y with
    | .inl x => yfr w_f41_begin_38_L92 s.2 x.2
    | .inr x => yfr w_f41_begin_38_L92 s.2 x.2) := by
  unfold f41_begin_38_L92
  have h0 : yfr w_f41_begin_38_L92 s.2 s.2 := yfr_refl _
  repeat' (first
    | with_reducible refine yfr_zu ?_ ?_
    | with_reducible refine yfr_zcp (fun _ => rfl) ?_
    | with_reducible assumption
    | with_reducible exact yfr_refl _
    | exact (rfl : (_ : Bool) = true)
    | with_reducible exact yF_none
    | with_reducible refine yF_some ?_
    | exact yrow0 (by assumption) ⟨rfl, rfl, rfl, rfl⟩
    | with_reducible refine yF_bif ?_
    | with_reducible refine yF_ite ?_ ?_
    | with_reducible refine yF_bind0 ?_
    | with_reducible intro _
    | dsimp only)
theorem frl_f41_begin_38_L92  (n : Nat) (s : (Int32 × (Nat → Nat → Int32))) : yF (zloop (f41_begin_38_L92 ) n s) (fun x => yfr w_f41_begin_38_L92 s.2 x.2) :=
  yF_loop (R := fun a b => yfr w_f41_begin_38_L92 a.2 b.2) (fun _ => yfr_refl _) (fun a b c h1 h2 => yfr_trans a.2 b.2 c.2 h1 h2) (fun s y hy => by
    have h := fr_f41_begin_38_L92 s y hy
    rcases y with y | y
    · exact h
    · exact h) n s
