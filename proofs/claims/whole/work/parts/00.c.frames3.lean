def w_f41_begin_38_L112 : List Nat := [4299, 4599]
set_option maxRecDepth 10000 in
set_option maxHeartbeats 4000000 in
theorem fr_f41_begin_38_L112 (s : (Int32 × (Nat → Nat → Int32))) : yF (f41_begin_38_L112 s) (fun y => match y with
    | .inl x => yfr w_f41_begin_38_L112 s.2 x.2
    | .inr x => yfr w_f41_begin_38_L112 s.2 x.2) := by
  unfold f41_begin_38_L112
  have h0 : yfr w_f41_begin_38_L112 s.2 s.2 := yfr_refl _
  repeat' (first
    | with_reducible refine yfr_zu ?_ ?_
    | with_reducible refine yfr_zcp (fun _ => rfl) ?_
    | with_reducible assumption
    | with_reducible exact yfr_refl _
    | exact (rfl : (_ : Bool) = true)
    | with_reducible exact yF_none
    | with_reducible refine yF_some ?_
    | exact yrow0 (by assumption) ⟨rfl, rfl, rfl, rfl⟩
    | with_reducible refine yF_bif ?_
    | with_reducible refine yF_ite ?_ ?_
    | with_reducible refine yF_bind0 ?_
    | with_reducible intro _
    | dsimp only)
theorem frl_f41_begin_38_L112  (n : Nat) (s : (Int32 × (Nat → Nat → Int32))) : yF (zloop (f41_begin_38_L112 ) n s) (fun x => yfr w_f41_begin_38_L112 s.2 x.2) :=
  yF_loop (R := fun a b => yfr w_f41_begin_38_L112 a.2 b.2) (fun _ => yfr_refl _) (fun a b c h1 h2 => yfr_trans a.2 b.2 c.2 h1 h2) (fun s y hy => by
    have h := fr_f41_begin_38_L112 s y hy
    rcases y with y | y
    · exact h
    · exact h) n s
def w_f41_begin_38 : List Nat := [3813, 3814, 4299, 4399, 4499, 4599, 4699]
set_option maxRecDepth 10000 in
set_option maxHeartbeats 4000000 in
theorem fr_f41_begin_38 (I : (Nat → Nat → Int32)) : yF (f41_begin_38 I) (fun x => yfr w_f41_begin_38 I x) := by
  unfold f41_begin_38
  have h0 : yfr w_f41_begin_38 I I := yfr_refl _
  repeat' (first
    | with_reducible refine yfr_zu ?_ ?_
    | with_reducible refine yfr_zcp (fun _ => rfl) ?_
    | with_reducible assumption
    | with_reducible exact yfr_refl _
    | exact (rfl : (_ : Bool) = true)
    | with_reducible exact yF_none
    | with_reducible refine yF_some ?_
    | exact yrow0 (by assumption) ⟨rfl, rfl, rfl, rfl⟩
    | with_reducible refine yF_bif ?_
    | with_reducible refine yF_ite ?_ ?_
    | with_reducible refine yF_bindI (V := w_f41_begin_38) (I0 := I) (frl_f41_begin_38_L24  _ _) ?_ ?_ ?_
    | with_reducible refine yF_bindI (V := w_f41_begin_38) (I0 := I) (frl_f41_begin_38_L61  _ _) ?_ ?_ ?_
    | with_reducible refine yF_bindI (V := w_f41_begin_38) (I0 := I) (frl_f41_begin_38_L92  _ _) ?_ ?_ ?_
    | with_reducible refine yF_bindI (V := w_f41_begin_38) (I0 := I) (frl_f41_begin_38_L112  _ _) ?_ ?_ ?_
    | with_reducible refine yF_bind0 ?_
    | with_reducible intro _
    | dsimp only)
def w_f42_see_38_L2 : List Nat := [4899]
set_option maxRecDepth 10000 in
set_option maxHeartbeats 4000000 in
theorem fr_f42_see_38_L2 (v1 : Int32) (s : (Int32 × (Nat → Nat → Int32))) : yF (f42_see_38_L2 v1 s) (fun y => match y with
    | .inl x => yfr w_f42_see_38_L2 s.2 x.2
    | .inr x => yfr w_f42_see_38_L2 s.2 x.2) := by
  unfold f42_see_38_L2
  have h0 : yfr w_f42_see_38_L2 s.2 s.2 := yfr_refl _
  repeat' (first
    | with_reducible refine yfr_zu ?_ ?_
    | with_reducible refine yfr_zcp (fun _ => rfl) ?_
    | with_reducible assumption
    | with_reducible exact yfr_refl _
    | exact (rfl : (_ : Bool) = true)
    | with_reducible exact yF_none
    | with_reducible refine yF_some ?_
    | exact yrow0 (by assumption) ⟨rfl, rfl, rfl, rfl⟩
    | with_reducible refine yF_bif ?_
    | with_reducible refine yF_ite ?_ ?_
    | with_reducible refine yF_bind0 ?_
    | with_reducible intro _
    | dsimp only)
theorem frl_f42_see_38_L2 (v1 : Int32) (n : Nat) (s : (Int32 × (Nat → Nat → Int32))) : yF (zloop (f42_see_38_L2 v1) n s) (fun x => yfr w_f42_see_38_L2 s.2 x.2) :=
  yF_loop (R := fun a b => yfr w_f42_see_38_L2 a.2 b.2) (fun _ => yfr_refl _) (fun a b c h1 h2 => yfr_trans a.2 b.2 c.2 h1 h2) (fun s y hy => by
    have h := fr_f42_see_38_L2 v1 s y hy
    rcases y with y | y
    · exact h
    · exact h) n s
def w_f42_see_38 : List Nat := [3812, 4899, 5099]
set_option maxRecDepth 10000 in
set_option maxHeartbeats 4000000 in
theorem fr_f42_see_38 (v1 : Int32) (I : (Nat → Nat → Int32)) : yF (f42_see_38 v1 I) (fun x => yfr w_f42_see_38 I x) := by
  unfold f42_see_38
  have h0 : yfr w_f42_see_38 I I := yfr_refl _
  repeat' (first
    | with_reducible refine yfr_zu ?_ ?_
    | with_reducible refine yfr_zcp (fun _ => rfl) ?_
    | with_reducible assumption
    | with_reducible exact yfr_refl _
    | exact (rfl : (_ : Bool) = true)
    | with_reducible exact yF_none
    | with_reducible refine yF_some ?_
    | exact yrow0 (by assumption) ⟨rfl, rfl, rfl, rfl⟩
    | with_reducible refine yF_bif ?_
    | with_reducible refine yF_ite ?_ ?_
    | with_reducible refine yF_bindI (V := w_f42_see_38) (I0 := I) (frl_f42_see_38_L2 _ _ _) ?_ ?_ ?_
    | with_reducible refine yF_bind0 ?_
    | with_reducible intro _
    | dsimp only)
def w_f44_arrive_38_L15 : List Nat := [4299, 4399, 4599]
set_option maxRecDepth 10000 in
set_option maxHeartbeats 4000000 in
theorem fr_f44_arrive_38_L15 (v1 : Int32) (v2 : Int32) (s : (Int32 × (Nat → Nat → Int32))) : yF (f44_arrive_38_L15 v1 v2 s) (fun y => match y with
    | .inl x => yfr w_f44_arrive_38_L15 s.2 x.2
    | .inr x => yfr w_f44_arrive_38_L15 s.2 x.2) := by
  unfold f44_arrive_38_L15
  have h0 : yfr w_f44_arrive_38_L15 s.2 s.2 := yfr_refl _
  repeat' (first
    | with_reducible refine yfr_zu ?_ ?_
    | with_reducible refine yfr_zcp (fun _ => rfl) ?_
    | with_reducible assumption
    | with_reducible exact yfr_refl _
    | exact (rfl : (_ : Bool) = true)
    | with_reducible exact yF_none
    | with_reducible refine yF_some ?_
    | exact yrow0 (by assumption) ⟨rfl, rfl, rfl, rfl⟩
    | with_reducible refine yF_bif ?_
    | with_reducible refine yF_ite ?_ ?_
    | with_reducible refine yF_bind0 ?_
    | with_reducible intro _
    | dsimp only)
theorem frl_f44_arrive_38_L15 (v1 : Int32) (v2 : Int32) (n : Nat) (s : (Int32 × (Nat → Nat → Int32))) : yF (zloop (f44_arrive_38_L15 v1 v2) n s) (fun x => yfr w_f44_arrive_38_L15 s.2 x.2) :=
  yF_loop (R := fun a b => yfr w_f44_arrive_38_L15 a.2 b.2) (fun _ => yfr_refl _) (fun a b c h1 h2 => yfr_trans a.2 b.2 c.2 h1 h2) (fun s y hy => by
    have h := fr_f44_arrive_38_L15 v1 v2 s y hy
    rcases y with y | y
    · exact h
    · exact h) n s
def w_f44_arrive_38_L2 : List Nat := [4299, 4399, 4599]
set_option maxRecDepth 10000 in
set_option maxHeartbeats 4000000 in
theorem fr_f44_arrive_38_L2 (v1 : Int32) (s : (Int32 × (Nat → Nat → Int32))) : yF (f44_arrive_38_L2 v1 s) (fun y => match y with
    | .inl x => yfr w_f44_arrive_38_L2 s.2 x.2
    | .inr x => yfr w_f44_arrive_38_L2 s.2 x.2) := by
  unfold f44_arrive_38_L2
  have h0 : yfr w_f44_arrive_38_L2 s.2 s.2 := yfr_refl _
  repeat' (first
    | with_reducible refine yfr_zu ?_ ?_
    | with_reducible refine yfr_zcp (fun _ => rfl) ?_
    | with_reducible assumption
    | with_reducible exact yfr_refl _
    | exact (rfl : (_ : Bool) = true)
    | with_reducible exact yF_none
    | with_reducible refine yF_some ?_
    | exact yrow0 (by assumption) ⟨rfl, rfl, rfl, rfl⟩
    | with_reducible refine yF_bif ?_
    | with_reducible refine yF_ite ?_ ?_
    | with_reducible refine yF_bindI (V := w_f44_arrive_38_L2) (I0 := s.2) (frl_f44_arrive_38_L15 _ _ _ _) ?_ ?_ ?_
    | with_reducible refine yF_bind0 ?_
    | with_reducible intro _
    | dsimp only)
theorem frl_f44_arrive_38_L2 (v1 : Int32) (n : Nat) (s : (Int32 × (Nat → Nat → Int32))) : yF (zloop (f44_arrive_38_L2 v1) n s) (fun x => yfr w_f44_arrive_38_L2 s.2 x.2) :=
  yF_loop (R := fun a b => yfr w_f44_arrive_38_L2 a.2 b.2) (fun _ => yfr_refl _) (fun a b c h1 h2 => yfr_trans a.2 b.2 c.2 h1 h2) (fun s y hy => by
    have h := fr_f44_arrive_38_L2 v1 s y hy
    rcases y with y | y
    · exact h
    · exact h) n s
def w_f44_arrive_38 : List Nat := [4299, 4399, 4599]
set_option maxRecDepth 10000 in
set_option maxHeartbeats 4000000 in
theorem fr_f44_arrive_38 (v1 : Int32) (I : (Nat → Nat → Int32)) : yF (f44_arrive_38 v1 I) (fun x => yfr w_f44_arrive_38 I x) := by
  unfold f44_arrive_38
  have h0 : yfr w_f44_arrive_38 I I := yfr_refl _
  repeat' (first
    | with_reducible refine yfr_zu ?_ ?_
    | with_reducible refine yfr_zcp (fun _ => rfl) ?_
    | with_reducible assumption
    | with_reducible exact yfr_refl _
    | exact (rfl : (_ : Bool) = true)
    | with_reducible exact yF_none
    | with_reducible refine yF_some ?_
    | exact yrow0 (by assumption) ⟨rfl, rfl, rfl, rfl⟩
    | with_reducible refine yF_bif ?_
    | with_reducible refine yF_ite ?_ ?_
    | with_reducible refine yF_bindI (V := w_f44_arrive_38) (I0 := I) (frl_f44_arrive_38_L2 _ _ _) ?_ ?_ ?_
    | with_reducible refine yF_bind0 ?_
    | with_reducible intro _
    | dsimp only)
def w_f31_passesLine_15_50 : List Nat := [1505, 2399]
set_option maxRecDepth 10000 in
set_option maxHeartbeats 4000000 in
theorem fr_f31_passesLine_15_50 (v1 : Int32) (I : (Nat → Nat → Int32)) : yF (f31_passesLine_15_50 v1 I) (fun x => yfr w_f31_passesLine_15_50 I x.2) := by
  unfold f31_passesLine_15_50
  have h0 : yfr w_f31_passesLine_15_50 I I := yfr_refl _
  repeat' (first
    | with_reducible refine yfr_zu ?_ ?_
    | with_reducible refine yfr_zcp (fun _ => rfl) ?_
    | with_reducible assumption
    | with_reducible exact yfr_refl _
    | exact (rfl : (_ : Bool) = true)
    | with_reducible exact yF_none
    | with_reducible refine yF_some ?_
    | exact yrow0 (by assumption) ⟨rfl, rfl, rfl, rfl⟩
    | with_reducible refine yF_bif ?_
    | with_reducible refine yF_ite ?_ ?_
    | with_reducible refine yF_bindI (V := w_f31_passesLine_15_50) (I0 := I) (fr_f34_pop _) ?_ ?_ ?_
    | with_reducible refine yF_bindI (V := w_f31_passesLine_15_50) (I0 := I) (fr_f33_push _ _) ?_ ?_ ?_
    | with_reducible refine yF_bind0 ?_
    | with_reducible intro _
    | dsimp only)
def w_f30_gives_15_50_L10 : List Nat := [1505, 2399]
set_option maxRecDepth 10000 in
set_option maxHeartbeats 4000000 in
theorem fr_f30_gives_15_50_L10 (v1 : Int32) (s : (Int32 × Int32 × (Nat → Nat → Int32))) : yF (f30_gives_15_50_L10 v1 s) (fun y => match y with
    | .inl x => yfr w_f30_gives_15_50_L10 s.2.2 x.2
    | .inr (.inl x) => yfr w_f30_gives_15_50_L10 s.2.2 x.2.2
    | .inr (.inr x) => yfr w_f30_gives_15_50_L10 s.2.2 x.2.2) := by
  unfold f30_gives_15_50_L10
  have h0 : yfr w_f30_gives_15_50_L10 s.2.2 s.2.2 := yfr_refl _
  repeat' (first
    | with_reducible refine yfr_zu ?_ ?_
    | with_reducible refine yfr_zcp (fun _ => rfl) ?_
    | with_reducible assumption
    | with_reducible exact yfr_refl _
    | exact (rfl : (_ : Bool) = true)
    | with_reducible exact yF_none
    | with_reducible refine yF_some ?_
    | exact yrow0 (by assumption) ⟨rfl, rfl, rfl, rfl⟩
    | with_reducible refine yF_bif ?_
    | with_reducible refine yF_ite ?_ ?_
    | with_reducible refine yF_bindI (V := w_f30_gives_15_50_L10) (I0 := s.2.2) (fr_f34_pop _) ?_ ?_ ?_
    | with_reducible refine yF_bindI (V := w_f30_gives_15_50_L10) (I0 := s.2.2) (fr_f31_passesLine_15_50 _ _) ?_ ?_ ?_
    | with_reducible refine yF_bind0 ?_
    | with_reducible intro _
    | dsimp only)
theorem frl_f30_gives_15_50_L10 (v1 : Int32) (n : Nat) (s : (Int32 × Int32 × (Nat → Nat → Int32))) : yF (zloopR (f30_gives_15_50_L10 v1) n s) (yS (fun x => yfr w_f30_gives_15_50_L10 s.2.2 x.2) (fun x => yfr w_f30_gives_15_50_L10 s.2.2 x.2.2)) :=
  yF_loopR (R := fun a b => yfr w_f30_gives_15_50_L10 a.2.2 b.2.2) (S := fun (a : (Int32 × Int32 × (Nat → Nat → Int32))) (b : (Int32 × (Nat → Nat → Int32))) => yfr w_f30_gives_15_50_L10 a.2.2 b.2) (fun a b c h1 h2 => yfr_trans a.2.2 b.2.2 c.2.2 h1 h2) (fun (a b : (Int32 × Int32 × (Nat → Nat → Int32))) (c : (Int32 × (Nat → Nat → Int32))) h1 h2 => yfr_trans a.2.2 b.2.2 c.2 h1 h2) (fun s y hy => by
    have h := fr_f30_gives_15_50_L10 v1 s y hy
    rcases y with y | y | y
    · exact h
    · exact h
    · exact h) n s
def w_f30_gives_15_50 : List Nat := [1505, 2399]
set_option maxRecDepth 10000 in
set_option maxHeartbeats 4000000 in
theorem fr_f30_gives_15_50 (v1 : Int32) (I : (Nat → Nat → Int32)) : yF (f30_gives_15_50 v1 I) (fun x => yfr w_f30_gives_15_50 I x.2) := by
  unfold f30_gives_15_50
  have h0 : yfr w_f30_gives_15_50 I I := yfr_refl _
  repeat' (first
    | with_reducible refine yfr_zu ?_ ?_
    | with_reducible refine yfr_zcp (fun _ => rfl) ?_
    | with_reducible assumption
    | with_reducible exact yfr_refl _
    | exact (rfl : (_ : Bool) = true)
    | with_reducible exact yF_none
    | with_reducible refine yF_some ?_
    | exact yrow0 (by assumption) ⟨rfl, rfl, rfl, rfl⟩
    | with_reducible refine yF_bif ?_
    | with_reducible refine yF_ite ?_ ?_
    | with_reducible refine yF_zbRI (V := w_f30_gives_15_50) (I0 := I) (frl_f30_gives_15_50_L10 _ _ _) ?_ ?_ ?_ ?_
    | with_reducible refine yF_bind0 ?_
    | with_reducible intro _
    | dsimp only)
def w_f47_aim_38 : List Nat := [1505, 2399, 5099]
set_option maxRecDepth 10000 in
set_option maxHeartbeats 4000000 in
theorem fr_f47_aim_38 (v1 : Int32) (v2 : Int32) (v3 : Int32) (I : (Nat → Nat → Int32)) : yF (f47_aim_38 v1 v2 v3 I) (fun x => yfr w_f47_aim_38 I x.2) := by
  unfold f47_aim_38
  have h0 : yfr w_f47_aim_38 I I := yfr_refl _
  repeat' (first
    | with_reducible refine yfr_zu ?_ ?_
    | with_reducible refine yfr_zcp (fun _ => rfl) ?_
    | with_reducible assumption
    | with_reducible exact yfr_refl _
    | exact (rfl : (_ : Bool) = true)
    | with_reducible exact yF_none
    | with_reducible refine yF_some ?_
    | exact yrow0 (by assumption) ⟨rfl, rfl, rfl, rfl⟩
    | with_reducible refine yF_bif ?_
    | with_reducible refine yF_ite ?_ ?_
    | with_reducible refine yF_bindI (V := w_f47_aim_38) (I0 := I) (fr_f30_gives_15_50 _ _) ?_ ?_ ?_
    | with_reducible refine yF_bind0 ?_
    | with_reducible intro _
    | dsimp only)
def w_f46_setOut_38 : List Nat := [1505, 2399, 4299, 4599, 4699, 4999, 5099]
set_option maxRecDepth 10000 in
set_option maxHeartbeats 4000000 in
theorem fr_f46_setOut_38 (v1 : Int32) (v2 : Int32) (v3 : Int32) (I : (Nat → Nat → Int32)) : yF (f46_setOut_38 v1 v2 v3 I) (fun x => yfr w_f46_setOut_38 I x) := by
  unfold f46_setOut_38
  have h0 : yfr w_f46_setOut_38 I I := yfr_refl _
  repeat' (first
    | with_reducible refine yfr_zu ?_ ?_
    | with_reducible refine yfr_zcp (fun _ => rfl) ?_
    | with_reducible assumption
    | with_reducible exact yfr_refl _
    | exact (rfl : (_ : Bool) = true)
    | with_reducible exact yF_none
    | with_reducible refine yF_some ?_
    | exact yrow0 (by assumption) ⟨rfl, rfl, rfl, rfl⟩
    | with_reducible refine yF_bif ?_
    | with_reducible refine yF_ite ?_ ?_
    | with_reducible refine yF_bindI (V := w_f46_setOut_38) (I0 := I) (fr_f47_aim_38 _ _ _ _) ?_ ?_ ?_
    | with_reducible refine yF_bind0 ?_
    | with_reducible intro _
    | dsimp only)
def w_f45_go_38_L2 : List Nat := [4999]
set_option maxRecDepth 10000 in
set_option maxHeartbeats 4000000 in
theorem fr_f45_go_38_L2 (v1 : Int32) (s : (Int32 × (Nat → Nat → Int32))) : yF (f45_go_38_L2 v1 s) (fun y => match y with
    | .inl x => yfr w_f45_go_38_L2 s.2 x.2
    | .inr x => yfr w_f45_go_38_L2 s.2 x.2) := by
  unfold f45_go_38_L2
  have h0 : yfr w_f45_go_38_L2 s.2 s.2 := yfr_refl _
  repeat' (first
    | with_reducible refine yfr_zu ?_ ?_
    | with_reducible refine yfr_zcp (fun _ => rfl) ?_
    | with_reducible assumption
    | with_reducible exact yfr_refl _
    | exact (rfl : (_ : Bool) = true)
    | with_reducible exact yF_none
    | with_reducible refine yF_some ?_
    | exact yrow0 (by assumption) ⟨rfl, rfl, rfl, rfl⟩
    | with_reducible refine yF_bif ?_
    | with_reducible refine yF_ite ?_ ?_
    | with_reducible refine yF_bind0 ?_
    | with_reducible intro _
    | dsimp only)
theorem frl_f45_go_38_L2 (v1 : Int32) (n : Nat) (s : (Int32 × (Nat → Nat → Int32))) : yF (zloop (f45_go_38_L2 v1) n s) (fun x => yfr w_f45_go_38_L2 s.2 x.2) :=
  yF_loop (R := fun a b => yfr w_f45_go_38_L2 a.2 b.2) (fun _ => yfr_refl _) (fun a b c h1 h2 => yfr_trans a.2 b.2 c.2 h1 h2) (fun s y hy => by
    have h := fr_f45_go_38_L2 v1 s y hy
    rcases y with y | y
    · exact h
    · exact h) n s
def w_f45_go_38_L70 : List Nat := [1505, 2399, 4299, 4599, 4699, 4999, 5099]
set_option maxRecDepth 10000 in
set_option maxHeartbeats 4000000 in
theorem fr_f45_go_38_L70 (v1 : Int32) (v2 : Int32) (s : (Int32 × (Nat → Nat → Int32))) : yF (f45_go_38_L70 v1 v2 s) (fun y => match y with
    | .inl x => yfr w_f45_go_38_L70 s.2 x.2
    | .inr x => yfr w_f45_go_38_L70 s.2 x.2) := by
  unfold f45_go_38_L70
  have h0 : yfr w_f45_go_38_L70 s.2 s.2 := yfr_refl _
  repeat' (first
    | with_reducible refine yfr_zu ?_ ?_
    | with_reducible refine yfr_zcp (fun _ => rfl) ?_
    | with_reducible assumption
    | with_reducible exact yfr_refl _
    | exact (rfl : (_ : Bool) = true)
    | with_reducible exact yF_none
    | with_reducible refine yF_some ?_
    | exact yrow0 (by assumption) ⟨rfl, rfl, rfl, rfl⟩
    | with_reducible refine yF_bif ?_
    | with_reducible refine yF_ite ?_ ?_
    | with_reducible refine yF_bindI (V := w_f45_go_38_L70) (I0 := s.2) (fr_f46_setOut_38 _ _ _ _) ?_ ?_ ?_
    | with_reducible refine yF_bind0 ?_
    | with_reducible intro _
    | dsimp only)
theorem frl_f45_go_38_L70 (v1 : Int32) (v2 : Int32) (n : Nat) (s : (Int32 × (Nat → Nat → Int32))) : yF (zloop (f45_go_38_L70 v1 v2) n s) (fun x => yfr w_f45_go_38_L70 s.2 x.2) :=
  yF_loop (R := fun a b => yfr w_f45_go_38_L70 a.2 b.2) (fun _ => yfr_refl _) (fun a b c h1 h2 => yfr_trans a.2 b.2 c.2 h1 h2) (fun s y hy => by
    have h := fr_f45_go_38_L70 v1 v2 s y hy
    rcases y with y | y
    · exact h
    · exact h) n s
def w_f45_go_38_L57 : List Nat := [1505, 2399, 4299, 4599, 4699, 4999, 5099]
set_option maxRecDepth 10000 in
set_option maxHeartbeats 4000000 in
theorem fr_f45_go_38_L57 (v1 : Int32) (s : (Int32 × (Nat → Nat → Int32))) : yF (f45_go_38_L57 v1 s) (fun y => match y with
    | .inl x => yfr w_f45_go_38_L57 s.2 x.2
    | .inr x => yfr w_f45_go_38_L57 s.2 x.2) := by
  unfold f45_go_38_L57
  have h0 : yfr w_f45_go_38_L57 s.2 s.2 := yfr_refl _
  repeat' (first
    | with_reducible refine yfr_zu ?_ ?_
    | with_reducible refine yfr_zcp (fun _ => rfl) ?_
    | with_reducible assumption
    | with_reducible exact yfr_refl _
    | exact (rfl : (_ : Bool) = true)
    | with_reducible exact yF_none
    | with_reducible refine yF_some ?_
    | exact yrow0 (by assumption) ⟨rfl, rfl, rfl, rfl⟩
    | with_reducible refine yF_bif ?_
    | with_reducible refine yF_ite ?_ ?_
    | with_reducible refine yF_bindI (V := w_f45_go_38_L57) (I0 := s.2) (frl_f45_go_38_L70 _ _ _ _) ?_ ?_ ?_
    | with_reducible refine yF_bind0 ?_
    | with_reducible intro _
    | dsimp only)
theorem frl_f45_go_38_L57 (v1 : Int32) (n : Nat) (s : (Int32 × (Nat → Nat → Int32))) : yF (zloop (f45_go_38_L57 v1) n s) (fun x => yfr w_f45_go_38_L57 s.2 x.2) :=
  yF_loop (R := fun a b => yfr w_f45_go_38_L57 a.2 b.2) (fun _ => yfr_refl _) (fun a b c h1 h2 => yfr_trans a.2 b.2 c.2 h1 h2) (fun s y hy => by
    have h := fr_f45_go_38_L57 v1 s y hy
    rcases y with y | y
    · exact h
    · exact h) n s
def w_f45_go_38 : List Nat := [1505, 2399, 4299, 4599, 4699, 4999, 5099]
set_option maxRecDepth 10000 in
set_option maxHeartbeats 4000000 in
theorem fr_f45_go_38 (v1 : Int32) (I : (Nat → Nat → Int32)) : yF (f45_go_38 v1 I) (fun x => yfr w_f45_go_38 I x) := by
  unfold f45_go_38
  have h0 : yfr w_f45_go_38 I I := yfr_refl _
  repeat' (first
    | with_reducible refine yfr_zu ?_ ?_
    | with_reducible refine yfr_zcp (fun _ => rfl) ?_
    | with_reducible assumption
    | with_reducible exact yfr_refl _
    | exact (rfl : (_ : Bool) = true)
    | with_reducible exact yF_none
    | with_reducible refine yF_some ?_
    | exact yrow0 (by assumption) ⟨rfl, rfl, rfl, rfl⟩
    | with_reducible refine yF_bif ?_
    | with_reducible refine yF_ite ?_ ?_
    | with_reducible refine yF_bindI (V := w_f45_go_38) (I0 := I) (frl_f45_go_38_L2 _ _ _) ?_ ?_ ?_
    | with_reducible refine yF_bindI (V := w_f45_go_38) (I0 := I) (frl_f45_go_38_L57 _ _ _) ?_ ?_ ?_
    | with_reducible refine yF_bind0 ?_
    | with_reducible intro _
    | dsimp only)
def w_f48_end_38_L39 : List Nat := [4499]
set_option maxRecDepth 10000 in
set_option maxHeartbeats 4000000 in
theorem fr_f48_end_38_L39 (s : (Int32 × (Nat → Nat → Int32))) : yF (f48_end_38_L39 s) (fun y => match y with
    | .inl x => yfr w_f48_end_38_L39 s.2 x.2
    | .inr x => yfr w_f48_end_38_L39 s.2 x.2) := by
  unfold f48_end_38_L39
  have h0 : yfr w_f48_end_38_L39 s.2 s.2 := yfr_refl _
  repeat' (first
    | with_reducible refine yfr_zu ?_ ?_
    | with_reducible refine yfr_zcp (fun _ => rfl) ?_
    | with_reducible assumption
    | with_reducible exact yfr_refl _
    | exact (rfl : (_ : Bool) = true)
    | with_reducible exact yF_none
    | with_reducible refine yF_some ?_
    | exact yrow0 (by assumption) ⟨rfl, rfl, rfl, rfl⟩
    | with_reducible refine yF_bif ?_
    | with_reducible refine yF_ite ?_ ?_
    | with_reducible refine yF_bind0 ?_
    | with_reducible intro _
    | dsimp only)
theorem frl_f48_end_38_L39  (n : Nat) (s : (Int32 × (Nat → Nat → Int32))) : yF (zloop (f48_end_38_L39 ) n s) (fun x => yfr w_f48_end_38_L39 s.2 x.2) :=
  yF_loop (R := fun a b => yfr w_f48_end_38_L39 a.2 b.2) (fun _ => yfr_refl _) (fun a b c h1 h2 => yfr_trans a.2 b.2 c.2 h1 h2) (fun s y hy => by
    have h := fr_f48_end_38_L39 s y hy
    rcases y with y | y
    · exact h
    · exact h) n s
def w_f48_end_38 : List Nat := [4499, 4799]
set_option maxRecDepth 10000 in
set_option maxHeartbeats 4000000 in
theorem fr_f48_end_38 (v1 : Int32) (I : (Nat → Nat → Int32)) : yF (f48_end_38 v1 I) (fun x => yfr w_f48_end_38 I x) := by
  unfold f48_end_38
  have h0 : yfr w_f48_end_38 I I := yfr_refl _
  repeat' (first
    | with_reducible refine yfr_zu ?_ ?_
    | with_reducible refine yfr_zcp (fun _ => rfl) ?_
    | with_reducible assumption
    | with_reducible exact yfr_refl _
    | exact (rfl : (_ : Bool) = true)
    | with_reducible exact yF_none
    | with_reducible refine yF_some ?_
    | exact yrow0 (by assumption) ⟨rfl, rfl, rfl, rfl⟩
    | with_reducible refine yF_bif ?_
    | with_reducible refine yF_ite ?_ ?_
    | with_reducible refine yF_bindI (V := w_f48_end_38) (I0 := I) (frl_f48_end_38_L39  _ _) ?_ ?_ ?_
    | with_reducible refine yF_bind0 ?_
    | with_reducible intro _
    | dsimp only)
def w_f49_tally_38_L56 : List Nat := [5199]
set_option maxRecDepth 10000 in
set_option maxHeartbeats 4000000 in
theorem fr_f49_tally_38_L56 (v1 : Int32) (s : (Int32 × (Nat → Nat → Int32))) : yF (f49_tally_38_L56 v1 s) (fun y => match y with
    | .inl x => yfr w_f49_tally_38_L56 s.2 x.2
    | .inr x => yfr w_f49_tally_38_L56 s.2 x.2) := by
  unfold f49_tally_38_L56
  have h0 : yfr w_f49_tally_38_L56 s.2 s.2 := yfr_refl _
  repeat' (first
    | with_reducible refine yfr_zu ?_ ?_
    | with_reducible refine yfr_zcp (fun _ => rfl) ?_
    | with_reducible assumption
    | with_reducible exact yfr_refl _
    | exact (rfl : (_ : Bool) = true)
    | with_reducible exact yF_none
    | with_reducible refine yF_some ?_
    | exact yrow0 (by assumption) ⟨rfl, rfl, rfl, rfl⟩
    | with_reducible refine yF_bif ?_
    | with_reducible refine yF_ite ?_ ?_
    | with_reducible refine yF_bind0 ?_
    | with_reducible intro _
    | dsimp only)
theorem frl_f49_tally_38_L56 (v1 : Int32) (n : Nat) (s : (Int32 × (Nat → Nat → Int32))) : yF (zloop (f49_tally_38_L56 v1) n s) (fun x => yfr w_f49_tally_38_L56 s.2 x.2) :=
  yF_loop (R := fun a b => yfr w_f49_tally_38_L56 a.2 b.2) (fun _ => yfr_refl _) (fun a b c h1 h2 => yfr_trans a.2 b.2 c.2 h1 h2) (fun s y hy => by
    have h := fr_f49_tally_38_L56 v1 s y hy
    rcases y with y | y
    · exact h
    · exact h) n s
def w_f49_tally_38_L21 : List Nat := [3819, 5199]
set_option maxRecDepth 10000 in
set_option maxHeartbeats 4000000 in
theorem fr_f49_tally_38_L21 (s : (Int32 × (Nat → Nat → Int32))) : yF (f49_tally_38_L21 s) (fun y => match y with
    | .inl x => yfr w_f49_tally_38_L21 s.2 x.2
    | .inr x => yfr w_f49_tally_38_L21 s.2 x.2) := by
  unfold f49_tally_38_L21
  have h0 : yfr w_f49_tally_38_L21 s.2 s.2 := yfr_refl _
  repeat' (first
    | with_reducible refine yfr_zu ?_ ?_
    | with_reducible refine yfr_zcp (fun _ => rfl) ?_
    | with_reducible assumption
    | with_reducible exact yfr_refl _
    | exact (rfl : (_ : Bool) = true)
    | with_reducible exact yF_none
    | with_reducible refine yF_some ?_
    | exact yrow0 (by assumption) ⟨rfl, rfl, rfl, rfl⟩
    | with_reducible refine yF_bif ?_
    | with_reducible refine yF_ite ?_ ?_
    | with_reducible refine yF_bindI (V := w_f49_tally_38_L21) (I0 := s.2) (frl_f49_tally_38_L56 _ _ _) ?_ ?_ ?_
    | with_reducible refine yF_bind0 ?_
    | with_reducible intro _
    | dsimp only)
theorem frl_f49_tally_38_L21  (n : Nat) (s : (Int32 × (Nat → Nat → Int32))) : yF (zloop (f49_tally_38_L21 ) n s) (fun x => yfr w_f49_tally_38_L21 s.2 x.2) :=
  yF_loop (R := fun a b => yfr w_f49_tally_38_L21 a.2 b.2) (fun _ => yfr_refl _) (fun a b c h1 h2 => yfr_trans a.2 b.2 c.2 h1 h2) (fun s y hy => by
    have h := fr_f49_tally_38_L21 s y hy
    rcases y with y | y
    · exact h
    · exact h) n s
def w_f49_tally_38_L116 : List Nat := [3816]
set_option maxRecDepth 10000 in
set_option maxHeartbeats 4000000 in
theorem fr_f49_tally_38_L116 (s : (Int32 × (Nat → Nat → Int32))) : yF (f49_tally_38_L116 s) (fun y => match y with
    | .inl x => yfr w_f49_tally_38_L116 s.2 x.2
    | .inr x => yfr w_f49_tally_38_L116 s.2 x.2) := by
  unfold f49_tally_38_L116
  have h0 : yfr w_f49_tally_38_L116 s.2 s.2 := yfr_refl _
  repeat' (first
    | with_reducible refine yfr_zu ?_ ?_
    | with_reducible refine yfr_zcp (fun _ => rfl) ?_
    | with_reducible assumption
    | with_reducible exact yfr_refl _
    | exact (rfl : (_ : Bool) = true)
    | with_reducible exact yF_none
    | with_reducible refine yF_some ?_
    | exact yrow0 (by assumption) ⟨rfl, rfl, rfl, rfl⟩
    | with_reducible refine yF_bif ?_
    | with_reducible refine yF_ite ?_ ?_
    | with_reducible refine yF_bind0 ?_
    | with_reducible intro _
    | dsimp only)
theorem frl_f49_tally_38_L116  (n : Nat) (s : (Int32 × (Nat → Nat → Int32))) : yF (zloop (f49_tally_38_L116 ) n s) (fun x => yfr w_f49_tally_38_L116 s.2 x.2) :=
  yF_loop (R := fun a b => yfr w_f49_tally_38_L116 a.2 b.2) (fun _ => yfr_refl _) (fun a b c h1 h2 => yfr_trans a.2 b.2 c.2 h1 h2) (fun s y hy => by
    have h := fr_f49_tally_38_L116 s y hy
    rcases y with y | y
    · exact h
    · exact h) n s
def w_f49_tally_38 : List Nat := [3816, 3817, 3818, 3819, 5199]
set_option maxRecDepth 10000 in
set_option maxHeartbeats 4000000 in
theorem fr_f49_tally_38 (I : (Nat → Nat → Int32)) : yF (f49_tally_38 I) (fun x => yfr w_f49_tally_38 I x) := by
  unfold f49_tally_38
  have h0 : yfr w_f49_tally_38 I I := yfr_refl _
  repeat' (first
    | with_reducible refine yfr_zu ?_ ?_
    | with_reducible refine yfr_zcp (fun _ => rfl) ?_
    | with_reducible assumption
    | with_reducible exact yfr_refl _
    | exact (rfl : (_ : Bool) = true)
    | with_reducible exact yF_none
    | with_reducible refine yF_some ?_
    | exact yrow0 (by assumption) ⟨rfl, rfl, rfl, rfl⟩
    | with_reducible refine yF_bif ?_
    | with_reducible refine yF_ite ?_ ?_
    | with_reducible refine yF_bindI (V := w_f49_tally_38) (I0 := I) (frl_f49_tally_38_L21  _ _) ?_ ?_ ?_
    | with_reducible refine yF_bindI (V := w_f49_tally_38) (I0 := I) (frl_f49_tally_38_L116  _ _) ?_ ?_ ?_
    | with_reducible refine yF_bind0 ?_
    | with_reducible intro _
    | dsimp only)
def w_f40_pass_38_L6 : List Nat := [1505, 2399, 3812, 4299, 4399, 4499, 4599, 4699, 4799, 4899, 4999, 5099]
set_option maxRecDepth 10000 in
set_option maxHeartbeats 4000000 in
theorem fr_f40_pass_38_L6 (s : (Int32 × (Nat → Nat → Int32))) : yF (f40_pass_38_L6 s) (fun y => match y with
    | .inl x => yfr w_f40_pass_38_L6 s.2 x.2
    | .inr x => yfr w_f40_pass_38_L6 s.2 x.2) := by
  unfold f40_pass_38_L6
  have h0 : yfr w_f40_pass_38_L6 s.2 s.2 := yfr_refl _
  repeat' (first
    | with_reducible refine yfr_zu ?_ ?_
    | with_reducible refine yfr_zcp (fun _ => rfl) ?_
    | with_reducible assumption
    | with_reducible exact yfr_refl _
    | exact (rfl : (_ : Bool) = true)
    | with_reducible exact yF_none
    | with_reducible refine yF_some ?_
    | exact yrow0 (by assumption) ⟨rfl, rfl, rfl, rfl⟩
    | with_reducible refine yF_bif ?_
    | with_reducible refine yF_ite ?_ ?_
    | with_reducible refine yF_bindI (V := w_f40_pass_38_L6) (I0 := s.2) (fr_f42_see_38 _ _) ?_ ?_ ?_
    | with_reducible refine yF_bindI (V := w_f40_pass_38_L6) (I0 := s.2) (fr_f44_arrive_38 _ _) ?_ ?_ ?_
    | with_reducible refine yF_bindI (V := w_f40_pass_38_L6) (I0 := s.2) (fr_f45_go_38 _ _) ?_ ?_ ?_
    | with_reducible refine yF_bindI (V := w_f40_pass_38_L6) (I0 := s.2) (fr_f48_end_38 _ _) ?_ ?_ ?_
    | with_reducible refine yF_bind0 ?_
    | with_reducible intro _
    | dsimp only)
theorem frl_f40_pass_38_L6  (n : Nat) (s : (Int32 × (Nat → Nat → Int32))) : yF (zloop (f40_pass_38_L6 ) n s) (fun x => yfr w_f40_pass_38_L6 s.2 x.2) :=
  yF_loop (R := fun a b => yfr w_f40_pass_38_L6 a.2 b.2) (fun _ => yfr_refl _) (fun a b c h1 h2 => yfr_trans a.2 b.2 c.2 h1 h2) (fun s y hy => by
    have h := fr_f40_pass_38_L6 s y hy
    rcases y with y | y
    · exact h
    · exact h) n s
def w_f40_pass_38 : List Nat := [1505, 2399, 3812, 3813, 3814, 3816, 3817, 3818, 3819, 4299, 4399, 4499, 4599, 4699, 4799, 4899, 4999, 5099, 5199]
set_option maxRecDepth 10000 in
set_option maxHeartbeats 4000000 in
theorem fr_f40_pass_38 (I : (Nat → Nat → Int32)) : yF (f40_pass_38 I) (fun x => yfr w_f40_pass_38 I x) := by
  unfold f40_pass_38
  have h0 : yfr w_f40_pass_38 I I := yfr_refl _
  repeat' (first
    | with_reducible refine yfr_zu ?_ ?_
    | with_reducible refine yfr_zcp (fun _ => rfl) ?_
    | with_reducible assumption
    | with_reducible exact yfr_refl _
    | exact (rfl : (_ : Bool) = true)
    | with_reducible exact yF_none
    | with_reducible refine yF_some ?_
    | exact yrow0 (by assumption) ⟨rfl, rfl, rfl, rfl⟩
    | with_reducible refine yF_bif ?_
    | with_reducible refine yF_ite ?_ ?_
    | with_reducible refine yF_bindI (V := w_f40_pass_38) (I0 := I) (fr_f41_begin_38 _) ?_ ?_ ?_
    | with_reducible refine yF_bindI (V := w_f40_pass_38) (I0 := I) (frl_f40_pass_38_L6  _ _) ?_ ?_ ?_
    | with_reducible refine yF_bindI (V := w_f40_pass_38) (I0 := I) (fr_f44_arrive_38 _ _) ?_ ?_ ?_
    | with_reducible refine yF_bindI (V := w_f40_pass_38) (I0 := I) (fr_f48_end_38 _ _) ?_ ?_ ?_
    | with_reducible refine yF_bindI (V := w_f40_pass_38) (I0 := I) (fr_f49_tally_38 _) ?_ ?_ ?_
    | with_reducible refine yF_bind0 ?_
    | with_reducible intro _
    | dsimp only)
def w_f102_fewer : List Nat := [1505, 2399, 3812, 3813, 3814, 3816, 3817, 3818, 3819, 3900, 3901, 3903, 3904, 4099, 4199, 4299, 4399, 4499, 4599, 4699, 4799, 4899, 4999, 5099, 5199]
set_option maxRecDepth 10000 in
set_option maxHeartbeats 4000000 in
theorem fr_f102_fewer (v1 : Int32) (I : (Nat → Nat → Int32)) : yF (f102_fewer v1 I) (fun x => yfr w_f102_fewer I x.2) := by
  unfold f102_fewer
  have h0 : yfr w_f102_fewer I I := yfr_refl _
  repeat' (first
    | with_reducible refine yfr_zu ?_ ?_
    | with_reducible refine yfr_zcp (fun _ => rfl) ?_
    | with_reducible assumption
    | with_reducible exact yfr_refl _
    | exact (rfl : (_ : Bool) = true)
    | with_reducible exact yF_none
    | with_reducible refine yF_some ?_
    | exact yrow0 (by assumption) ⟨rfl, rfl, rfl, rfl⟩
    | with_reducible refine yF_bif ?_
    | with_reducible refine yF_ite ?_ ?_
    | with_reducible refine yF_bindI (V := w_f102_fewer) (I0 := I) (fr_f81_asIn_39 _) ?_ ?_ ?_
    | with_reducible refine yF_bindI (V := w_f102_fewer) (I0 := I) (fr_f40_pass_38 _) ?_ ?_ ?_
    | with_reducible refine yF_bind0 ?_
    | with_reducible intro _
    | dsimp only)
def w_f184_fewer : List Nat := [7352, 7353, 7354, 9199, 9299, 9799, 9899, 9999, 10099, 10199, 10299, 10399]
set_option maxRecDepth 10000 in
set_option maxHeartbeats 4000000 in
theorem fr_f184_fewer (v1 : Int32) (I : (Nat → Nat → Int32)) : yF (f184_fewer v1 I) (fun x => yfr w_f184_fewer I x.2) := by
  unfold f184_fewer
  have h0 : yfr w_f184_fewer I I := yfr_refl _
  repeat' (first
    | with_reducible refine yfr_zu ?_ ?_
    | with_reducible refine yfr_zcp (fun _ => rfl) ?_
    | with_reducible assumption
    | with_reducible exact yfr_refl _
    | exact (rfl : (_ : Bool) = true)
    | with_reducible exact yF_none
    | with_reducible refine yF_some ?_
    | exact yrow0 (by assumption) ⟨rfl, rfl, rfl, rfl⟩
    | with_reducible refine yF_bif ?_
    | with_reducible refine yF_ite ?_ ?_
    | with_reducible refine yF_bindI (V := w_f184_fewer) (I0 := I) (fr_f171_goTo _ _) ?_ ?_ ?_
    | with_reducible refine yF_bind0 ?_
    | with_reducible intro _
    | dsimp only)
def w_f84_strew_39_L5 : List Nat := [4099]
set_option maxRecDepth 10000 in
set_option maxHeartbeats 4000000 in
theorem fr_f84_strew_39_L5 (s : (Int32 × Int32 × (Nat → Nat → Int32))) : yF (f84_strew_39_L5 s) (fun y => match y with
    | .inl x => yfr w_f84_strew_39_L5 s.2.2 x.2.2
    | .inr x => yfr w_f84_strew_39_L5 s.2.2 x.2.2) := by
  unfold f84_strew_39_L5
  have h0 : yfr w_f84_strew_39_L5 s.2.2 s.2.2 := yfr_refl _
  repeat' (first
    | with_reducible refine yfr_zu ?_ ?_
    | with_reducible refine yfr_zcp (fun _ => rfl) ?_
    | with_reducible assumption
    | with_reducible exact yfr_refl _
    | exact (rfl : (_ : Bool) = true)
    | with_reducible exact yF_none
    | with_reducible refine yF_some ?_
    | exact yrow0 (by assumption) ⟨rfl, rfl, rfl, rfl⟩
    | with_reducible refine yF_bif ?_
    | with_reducible refine yF_ite ?_ ?_
    | with_reducible refine yF_bind0 ?_
    | with_reducible intro _
    | dsimp only)
theorem frl_f84_strew_39_L5  (n : Nat) (s : (Int32 × Int32 × (Nat → Nat → Int32))) : yF (zloop (f84_strew_39_L5 ) n s) (fun x => yfr w_f84_strew_39_L5 s.2.2 x.2.2) :=
  yF_loop (R := fun a b => yfr w_f84_strew_39_L5 a.2.2 b.2.2) (fun _ => yfr_refl _) (fun a b c h1 h2 => yfr_trans a.2.2 b.2.2 c.2.2 h1 h2) (fun s y hy => by
    have h := fr_f84_strew_39_L5 s y hy
    rcases y with y | y
    · exact h
    · exact h) n s
def w_f84_strew_39 : List Nat := [4099]
set_option maxRecDepth 10000 in
set_option maxHeartbeats 4000000 in
theorem fr_f84_strew_39 (v1 : Int32) (I : (Nat → Nat → Int32)) : yF (f84_strew_39 v1 I) (fun x => yfr w_f84_strew_39 I x.2) := by
  unfold f84_strew_39
  have h0 : yfr w_f84_strew_39 I I := yfr_refl _
  repeat' (first
    | with_reducible refine yfr_zu ?_ ?_
    | with_reducible refine yfr_zcp (fun _ => rfl) ?_
    | with_reducible assumption
    | with_reducible exact yfr_refl _
    | exact (rfl : (_ : Bool) = true)
    | with_reducible exact yF_none
    | with_reducible refine yF_some ?_
    | exact yrow0 (by assumption) ⟨rfl, rfl, rfl, rfl⟩
    | with_reducible refine yF_bif ?_
    | with_reducible refine yF_ite ?_ ?_
    | with_reducible refine yF_bindI (V := w_f84_strew_39) (I0 := I) (frl_f84_strew_39_L5  _ _) ?_ ?_ ?_
    | with_reducible refine yF_bind0 ?_
    | with_reducible intro _
    | dsimp only)
def w_f103_often_L59 : List Nat := [1505, 2399, 3812, 3813, 3814, 3816, 3817, 3818, 3819, 3900, 3901, 3903, 3904, 4099, 4199, 4299, 4399, 4499, 4599, 4699, 4799, 4899, 4999, 5099, 5199]
set_option maxRecDepth 10000 in
set_option maxHeartbeats 4000000 in
theorem fr_f103_often_L59 (v3 : Int32) (v4 : Int32) (s : (Int32 × Int32 × Int32 × (Nat → Nat → Int32))) : yF (f103_often_L59 v3 v4 s) (fun y => match y with
    | .inl x => yfr w_f103_often_L59 s.2.2.2 x.2.2.2
    | .inr x => yfr w_f103_often_L59 s.2.2.2 x.2.2.2) := by
  unfold f103_often_L59
  have h0 : yfr w_f103_often_L59 s.2.2.2 s.2.2.2 := yfr_refl _
  repeat' (first
    | with_reducible refine yfr_zu ?_ ?_
    | with_reducible refine yfr_zcp (fun _ => rfl) ?_
    | with_reducible assumption
    | with_reducible exact yfr_refl _
    | exact (rfl : (_ : Bool) = true)
    | with_reducible exact yF_none
    | with_reducible refine yF_some ?_
    | exact yrow0 (by assumption) ⟨rfl, rfl, rfl, rfl⟩
    | with_reducible refine yF_bif ?_
    | with_reducible refine yF_ite ?_ ?_
    | with_reducible refine yF_bindI (V := w_f103_often_L59) (I0 := s.2.2.2) (fr_f81_asIn_39 _) ?_ ?_ ?_
    | with_reducible refine yF_bindI (V := w_f103_often_L59) (I0 := s.2.2.2) (fr_f84_strew_39 _ _) ?_ ?_ ?_
    | with_reducible refine yF_bindI (V := w_f103_often_L59) (I0 := s.2.2.2) (fr_f40_pass_38 _) ?_ ?_ ?_
    | with_reducible refine yF_bind0 ?_
    | with_reducible intro _
    | dsimp only)
theorem frl_f103_often_L59 (v3 : Int32) (v4 : Int32) (n : Nat) (s : (Int32 × Int32 × Int32 × (Nat → Nat → Int32))) : yF (zloop (f103_often_L59 v3 v4) n s) (fun x => yfr w_f103_often_L59 s.2.2.2 x.2.2.2) :=
  yF_loop (R := fun a b => yfr w_f103_often_L59 a.2.2.2 b.2.2.2) (fun _ => yfr_refl _) (fun a b c h1 h2 => yfr_trans a.2.2.2 b.2.2.2 c.2.2.2 h1 h2) (fun s y hy => by
    have h := fr_f103_often_L59 v3 v4 s y hy
    rcases y with y | y
    · exact h
    · exact h) n s
def w_f103_often : List Nat := [1505, 2399, 3812, 3813, 3814, 3816, 3817, 3818, 3819, 3900, 3901, 3903, 3904, 4099, 4199, 4299, 4399, 4499, 4599, 4699, 4799, 4899, 4999, 5099, 5199]
set_option maxRecDepth 10000 in
set_option maxHeartbeats 4000000 in
theorem fr_f103_often (v1 : Int32) (v2 : Int32) (I : (Nat → Nat → Int32)) : yF (f103_often v1 v2 I) (fun x => yfr w_f103_often I x.2) := by
  unfold f103_often
  have h0 : yfr w_f103_often I I := yfr_refl _
  repeat' (first
    | with_reducible refine yfr_zu ?_ ?_
    | with_reducible refine yfr_zcp (fun _ => rfl) ?_
    | with_reducible assumption
    | with_reducible exact yfr_refl _
    | exact (rfl : (_ : Bool) = true)
    | with_reducible exact yF_none
    | with_reducible refine yF_some ?_
    | exact yrow0 (by assumption) ⟨rfl, rfl, rfl, rfl⟩
    | with_reducible refine yF_bif ?_
    | with_reducible refine yF_ite ?_ ?_
    | with_reducible refine yF_bindI (V := w_f103_often) (I0 := I) (frl_f103_often_L59 _ _ _ _) ?_ ?_ ?_
    | with_reducible refine yF_bind0 ?_
    | with_reducible intro _
    | dsimp only)
def w_f185_often_L39 : List Nat := [10799]
set_option maxRecDepth 10000 in
set_option maxHeartbeats 4000000 in
theorem fr_f185_often_L39 (v1 : Int32) (v2 : Int32) (s : (Int32 × (Nat → Nat → Int32))) : yF (f185_often_L39 v1 v2 s) (fun y => match y with
    | .inl x => yfr w_f185_often_L39 s.2 x.2
    | .inr x => yfr w_f185_often_L39 s.2 x.2) := by
  unfold f185_often_L39
  have h0 : yfr w_f185_often_L39 s.2 s.2 := yfr_refl _
  repeat' (first
    | with_reducible refine yfr_zu ?_ ?_
    | with_reducible refine yfr_zcp (fun _ => rfl) ?_
    | with_reducible assumption
    | with_reducible exact yfr_refl _
    | exact (rfl : (_ : Bool) = true)
    | with_reducible exact yF_none
    | with_reducible refine yF_some ?_
    | exact yrow0 (by assumption) ⟨rfl, rfl, rfl, rfl⟩
    | with_reducible refine yF_bif ?_
    | with_reducible refine yF_ite ?_ ?_
    | with_reducible refine yF_bind0 ?_
    | with_reducible intro _
    | dsimp only)
theorem frl_f185_often_L39 (v1 : Int32) (v2 : Int32) (n : Nat) (s : (Int32 × (Nat → Nat → Int32))) : yF (zloop (f185_often_L39 v1 v2) n s) (fun x => yfr w_f185_often_L39 s.2 x.2) :=
  yF_loop (R := fun a b => yfr w_f185_often_L39 a.2 b.2) (fun _ => yfr_refl _) (fun a b c h1 h2 => yfr_trans a.2 b.2 c.2 h1 h2) (fun s y hy => by
    have h := fr_f185_often_L39 v1 v2 s y hy
    rcases y with y | y
    · exact h
    · exact h) n s
def w_f185_often_L85 : List Nat := [8299]
set_option maxRecDepth 10000 in
set_option maxHeartbeats 4000000 in
theorem fr_f185_often_L85 (v2 : Int32) (v4 : Int32) (v5 : Int32) (s : (Int32 × Int32 × (Nat → Nat → Int32))) : yF (f185_often_L85 v2 v4 v5 s) (fun y => match y with
    | .inl x => yfr w_f185_often_L85 s.2.2 x.2.2
    | .inr x => yfr w_f185_often_L85 s.2.2 x.2.2) := by
  unfold f185_often_L85
  have h0 : yfr w_f185_often_L85 s.2.2 s.2.2 := yfr_refl _
  repeat' (first
    | with_reducible refine yfr_zu ?_ ?_
    | with_reducible refine yfr_zcp (fun _ => rfl) ?_
    | with_reducible assumption
    | with_reducible exact yfr_refl _
    | exact (rfl : (_ : Bool) = true)
    | with_reducible exact yF_none
    | with_reducible refine yF_some ?_
    | exact yrow0 (by assumption) ⟨rfl, rfl, rfl, rfl⟩
    | with_reducible refine yF_bif ?_
    | with_reducible refine yF_ite ?_ ?_
    | with_reducible refine yF_bind0 ?_
    | with_reducible intro _
    | dsimp only)
theorem frl_f185_often_L85 (v2 : Int32) (v4 : Int32) (v5 : Int32) (n : Nat) (s : (Int32 × Int32 × (Nat → Nat → Int32))) : yF (zloop (f185_often_L85 v2 v4 v5) n s) (fun x => yfr w_f185_often_L85 s.2.2 x.2.2) :=
  yF_loop (R := fun a b => yfr w_f185_often_L85 a.2.2 b.2.2) (fun _ => yfr_refl _) (fun a b c h1 h2 => yfr_trans a.2.2 b.2.2 c.2.2 h1 h2) (fun s y hy => by
    have h := fr_f185_often_L85 v2 v4 v5 s y hy
    rcases y with y | y
    · exact h
    · exact h) n s
def w_f185_often_L73 : List Nat := [7352, 7353, 7354, 8299, 9199, 9299, 9799, 9899, 9999, 10099, 10199, 10299, 10399]
set_option maxRecDepth 10000 in
set_option maxHeartbeats 4000000 in
theorem fr_f185_often_L73 (v2 : Int32) (s : (Int32 × Int32 × Int32 × (Nat → Nat → Int32))) : yF (f185_often_L73 v2 s) (fun y => match y with
    | .inl x => yfr w_f185_often_L73 s.2.2.2 x.2.2.2
    | .inr x => yfr w_f185_often_L73 s.2.2.2 x.2.2.2) := by
  unfold f185_often_L73
  have h0 : yfr w_f185_often_L73 s.2.2.2 s.2.2.2 := yfr_refl _
  repeat' (first
    | with_reducible refine yfr_zu ?_ ?_
    | with_reducible refine yfr_zcp (fun _ => rfl) ?_
    | with_reducible assumption
    | with_reducible exact yfr_refl _
    | exact (rfl : (_ : Bool) = true)
    | with_reducible exact yF_none
    | with_reducible refine yF_some ?_
    | exact yrow0 (by assumption) ⟨rfl, rfl, rfl, rfl⟩
    | with_reducible refine yF_bif ?_
    | with_reducible refine yF_ite ?_ ?_
    | with_reducible refine yF_bindI (V := w_f185_often_L73) (I0 := s.2.2.2) (frl_f185_often_L85 _ _ _ _ _) ?_ ?_ ?_
    | with_reducible refine yF_bindI (V := w_f185_often_L73) (I0 := s.2.2.2) (fr_f171_goTo _ _) ?_ ?_ ?_
    | with_reducible refine yF_bind0 ?_
    | with_reducible intro _
    | dsimp only)
theorem frl_f185_often_L73 (v2 : Int32) (n : Nat) (s : (Int32 × Int32 × Int32 × (Nat → Nat → Int32))) : yF (zloop (f185_often_L73 v2) n s) (fun x => yfr w_f185_often_L73 s.2.2.2 x.2.2.2) :=
  yF_loop (R := fun a b => yfr w_f185_often_L73 a.2.2.2 b.2.2.2) (fun _ => yfr_refl _) (fun a b c h1 h2 => yfr_trans a.2.2.2 b.2.2.2 c.2.2.2 h1 h2) (fun s y hy => by
    have h := fr_f185_often_L73 v2 s y hy
    rcases y with y | y
    · exact h
    · exact h) n s
def w_f185_often_L153 : List Nat := [8299]
set_option maxRecDepth 10000 in
set_option maxHeartbeats 4000000 in
theorem fr_f185_often_L153 (v4 : Int32) (s : (Int32 × (Nat → Nat → Int32))) : yF (f185_often_L153 v4 s) (fun y => match y with
    | .inl x => yfr w_f185_often_L153 s.2 x.2
    | .inr x => yfr w_f185_often_L153 s.2 x.2) := by
  unfold f185_often_L153
  have h0 : yfr w_f185_often_L153 s.2 s.2 := yfr_refl _
  repeat' (first
    | with_reducible refine yfr_zu ?_ ?_
    | with_reducible refine yfr_zcp (fun _ => rfl) ?_
    | with_reducible assumption
    | with_reducible exact yfr_refl _
    | exact (rfl : (_ : Bool) = true)
    | with_reducible exact yF_none
    | with_reducible refine yF_some ?_
    | exact yrow0 (by assumption) ⟨rfl, rfl, rfl, rfl⟩
    | with_reducible refine yF_bif ?_
    | with_reducible refine yF_ite ?_ ?_
    | with_reducible refine yF_bind0 ?_
    | with_reducible intro _
    | dsimp only)
theorem frl_f185_often_L153 (v4 : Int32) (n : Nat) (s : (Int32 × (Nat → Nat → Int32))) : yF (zloop (f185_often_L153 v4) n s) (fun x => yfr w_f185_often_L153 s.2 x.2) :=
  yF_loop (R := fun a b => yfr w_f185_often_L153 a.2 b.2) (fun _ => yfr_refl _) (fun a b c h1 h2 => yfr_trans a.2 b.2 c.2 h1 h2) (fun s y hy => by
    have h := fr_f185_often_L153 v4 s y hy
    rcases y with y | y
    · exact h
    · exact h) n s
def w_f185_often : List Nat := [7352, 7353, 7354, 8299, 9199, 9299, 9799, 9899, 9999, 10099, 10199, 10299, 10399, 10799]
set_option maxRecDepth 10000 in
set_option maxHeartbeats 4000000 in
theorem fr_f185_often (v1 : Int32) (v2 : Int32) (I : (Nat → Nat → Int32)) : yF (f185_often v1 v2 I) (fun x => yfr w_f185_often I x.2) := by
  unfold f185_often
  have h0 : yfr w_f185_often I I := yfr_refl _
  repeat' (first
    | with_reducible refine yfr_zu ?_ ?_
    | with_reducible refine yfr_zcp (fun _ => rfl) ?_
    | with_reducible assumption
    | with_reducible exact yfr_refl _
    | exact (rfl : (_ : Bool) = true)
    | with_reducible exact yF_none
    | with_reducible refine yF_some ?_
    | exact yrow0 (by assumption) ⟨rfl, rfl, rfl, rfl⟩
    | with_reducible refine yF_bif ?_
    | with_reducible refine yF_ite ?_ ?_
    | with_reducible refine yF_bindI (V := w_f185_often) (I0 := I) (frl_f185_often_L39 _ _ _ _) ?_ ?_ ?_
    | with_reducible refine yF_bindI (V := w_f185_often) (I0 := I) (frl_f185_often_L73 _ _ _) ?_ ?_ ?_
    | with_reducible refine yF_bindI (V := w_f185_often) (I0 := I) (frl_f185_often_L153 _ _ _) ?_ ?_ ?_
    | with_reducible refine yF_bind0 ?_
    | with_reducible intro _
    | dsimp only)
def w_f104_sooner : List Nat := [1505, 2399, 3812, 3813, 3814, 3816, 3817, 3818, 3819, 3900, 3901, 3903, 3904, 4099, 4199, 4299, 4399, 4499, 4599, 4699, 4799, 4899, 4999, 5099, 5199]
set_option maxRecDepth 10000 in
set_option maxHeartbeats 4000000 in
theorem fr_f104_sooner (v1 : Int32) (I : (Nat → Nat → Int32)) : yF (f104_sooner v1 I) (fun x => yfr w_f104_sooner I x.2) := by
  unfold f104_sooner
  have h0 : yfr w_f104_sooner I I := yfr_refl _
  repeat' (first
    | with_reducible refine yfr_zu ?_ ?_
    | with_reducible refine yfr_zcp (fun _ => rfl) ?_
    | with_reducible assumption
    | with_reducible exact yfr_refl _
    | exact (rfl : (_ : Bool) = true)
    | with_reducible exact yF_none
    | with_reducible refine yF_some ?_
    | exact yrow0 (by assumption) ⟨rfl, rfl, rfl, rfl⟩
    | with_reducible refine yF_bif ?_
    | with_reducible refine yF_ite ?_ ?_
    | with_reducible refine yF_bindI (V := w_f104_sooner) (I0 := I) (fr_f81_asIn_39 _) ?_ ?_ ?_
    | with_reducible refine yF_bindI (V := w_f104_sooner) (I0 := I) (fr_f40_pass_38 _) ?_ ?_ ?_
    | with_reducible refine yF_bind0 ?_
    | with_reducible intro _
    | dsimp only)
def w_f186_sooner : List Nat := [7316, 7352, 7353, 7354, 9199, 9299, 9799, 9899, 9999, 10099, 10199, 10299, 10399]
set_option maxRecDepth 10000 in
set_option maxHeartbeats 4000000 in
theorem fr_f186_sooner (v1 : Int32) (I : (Nat → Nat → Int32)) : yF (f186_sooner v1 I) (fun x => yfr w_f186_sooner I x.2) := by
  unfold f186_sooner
  have h0 : yfr w_f186_sooner I I := yfr_refl _
  repeat' (first
    | with_reducible refine yfr_zu ?_ ?_
    | with_reducible refine yfr_zcp (fun _ => rfl) ?_
    | with_reducible assumption
    | with_reducible exact yfr_refl _
    | exact (rfl : (_ : Bool) = true)
    | with_reducible exact yF_none
    | with_reducible refine yF_some ?_
    | exact yrow0 (by assumption) ⟨rfl, rfl, rfl, rfl⟩
    | with_reducible refine yF_bif ?_
    | with_reducible refine yF_ite ?_ ?_
    | with_reducible refine yF_bindI (V := w_f186_sooner) (I0 := I) (fr_f171_goTo _ _) ?_ ?_ ?_
    | with_reducible refine yF_bind0 ?_
    | with_reducible intro _
    | dsimp only)
def w_f105_bell_L81 : List Nat := [1505, 2399, 3812, 3813, 3814, 3816, 3817, 3818, 3819, 3900, 3901, 3903, 3904, 4099, 4199, 4299, 4399, 4499, 4599, 4699, 4799, 4899, 4999, 5099, 5199]
set_option maxRecDepth 10000 in
set_option maxHeartbeats 4000000 in
theorem fr_f105_bell_L81 (v2 : Int32) (v3 : Nat) (J : (Nat → Nat → Int64)) (s : (Int32 × Int32 × (Nat → Nat → Int32))) : yF (f105_bell_L81 v2 v3 J s) (fun y => match y with
    | .inl x => yfr w_f105_bell_L81 s.2.2 x.2.2
    | .inr x => yfr w_f105_bell_L81 s.2.2 x.2.2) := by
  unfold f105_bell_L81
  have h0 : yfr w_f105_bell_L81 s.2.2 s.2.2 := yfr_refl _
  repeat' (first
    | with_reducible refine yfr_zu ?_ ?_
    | with_reducible refine yfr_zcp (fun _ => rfl) ?_
    | with_reducible assumption
    | with_reducible exact yfr_refl _
    | exact (rfl : (_ : Bool) = true)
    | with_reducible exact yF_none
    | with_reducible refine yF_some ?_
    | exact yrow0 (by assumption) ⟨rfl, rfl, rfl, rfl⟩
    | with_reducible refine yF_bif ?_
    | with_reducible refine yF_ite ?_ ?_
    | with_reducible refine yF_bindI (V := w_f105_bell_L81) (I0 := s.2.2) (fr_f81_asIn_39 _) ?_ ?_ ?_
    | with_reducible refine yF_bindI (V := w_f105_bell_L81) (I0 := s.2.2) (fr_f40_pass_38 _) ?_ ?_ ?_
    | with_reducible refine yF_bind0 ?_
    | with_reducible intro _
    | dsimp only)
theorem frl_f105_bell_L81 (v2 : Int32) (v3 : Nat) (J : (Nat → Nat → Int64)) (n : Nat) (s : (Int32 × Int32 × (Nat → Nat → Int32))) : yF (zloop (f105_bell_L81 v2 v3 J) n s) (fun x => yfr w_f105_bell_L81 s.2.2 x.2.2) :=
  yF_loop (R := fun a b => yfr w_f105_bell_L81 a.2.2 b.2.2) (fun _ => yfr_refl _) (fun a b c h1 h2 => yfr_trans a.2.2 b.2.2 c.2.2 h1 h2) (fun s y hy => by
    have h := fr_f105_bell_L81 v2 v3 J s y hy
    rcases y with y | y
    · exact h
    · exact h) n s
def w_f105_bell : List Nat := [1505, 2399, 3812, 3813, 3814, 3816, 3817, 3818, 3819, 3900, 3901, 3903, 3904, 4099, 4199, 4299, 4399, 4499, 4599, 4699, 4799, 4899, 4999, 5099, 5199]
set_option maxRecDepth 10000 in
set_option maxHeartbeats 4000000 in
theorem fr_f105_bell (v1 : Int32) (v2 : Int32) (I : (Nat → Nat → Int32)) (J : (Nat → Nat → Int64)) : yF (f105_bell v1 v2 I J) (fun x => yfr w_f105_bell I x.2) := by
  unfold f105_bell
  have h0 : yfr w_f105_bell I I := yfr_refl _
  repeat' (first
    | with_reducible refine yfr_zu ?_ ?_
    | with_reducible refine yfr_zcp (fun _ => rfl) ?_
    | with_reducible assumption
    | with_reducible exact yfr_refl _
    | exact (rfl : (_ : Bool) = true)
    | with_reducible exact yF_none
    | with_reducible refine yF_some ?_
    | exact yrow0 (by assumption) ⟨rfl, rfl, rfl, rfl⟩
    | with_reducible refine yF_bif ?_
    | with_reducible refine yF_ite ?_ ?_
    | with_reducible refine yF_bindI (V := w_f105_bell) (I0 := I) (frl_f105_bell_L81 _ _ _ _ _) ?_ ?_ ?_
    | with_reducible refine yF_bind0 ?_
    | with_reducible intro _
    | dsimp only)
def w_f187_bell_L64 : List Nat := []
theorem frl_f187_bell_L64 (v1 : Int32) (v2 : Int32) (I : (Nat → Nat → Int32)) (J : (Nat → Nat → Int64)) (n : Nat) (s : (Int32 × Int32)) : yF (zloopR (f187_bell_L64 v1 v2 I J) n s) (yS (fun x => yfr w_f187_bell_L64 I x.2) (fun _ => True)) := by
  refine yF_loopR (R := fun _ _ => True) (S := fun (_ : (Int32 × Int32)) (x : (Int32 × (Nat → Nat → Int32))) => yfr w_f187_bell_L64 I x.2) (fun _ _ _ _ _ => trivial) (fun _ _ _ _ h => h) (fun s => ?_) n s
  unfold f187_bell_L64
  repeat' (first
    | with_reducible refine yfr_zu ?_ ?_
    | with_reducible refine yfr_zcp (fun _ => rfl) ?_
    | with_reducible assumption
    | with_reducible exact yfr_refl _
    | exact (rfl : (_ : Bool) = true)
    | with_reducible exact yF_none
    | with_reducible refine yF_some ?_
    | exact yrow0 (by assumption) ⟨rfl, rfl, rfl, rfl⟩
    | with_reducible refine yF_bif ?_
    | with_reducible refine yF_ite ?_ ?_
    | with_reducible refine yF_bind0 ?_
    | with_reducible intro _
    | exact trivial
    | dsimp only)
def w_f187_bell_L136 : List Nat := [7352, 7353, 7354, 9199, 9299, 9799, 9899, 9999, 10099, 10199, 10299, 10399]
set_option maxRecDepth 10000 in
set_option maxHeartbeats 4000000 in
theorem fr_f187_bell_L136 (v1 : Int32) (v2 : Int32) (J : (Nat → Nat → Int64)) (s : (Int32 × Int32 × (Nat → Nat → Int32))) : yF (f187_bell_L136 v1 v2 J s) (fun y => match y with
    | .inl x => yfr w_f187_bell_L136 s.2.2 x.2.2
    | .inr x => yfr w_f187_bell_L136 s.2.2 x.2.2) := by
  unfold f187_bell_L136
  have h0 : yfr w_f187_bell_L136 s.2.2 s.2.2 := yfr_refl _
  repeat' (first
    | with_reducible refine yfr_zu ?_ ?_
    | with_reducible refine yfr_zcp (fun _ => rfl) ?_
    | with_reducible assumption
    | with_reducible exact yfr_refl _
    | exact (rfl : (_ : Bool) = true)
    | with_reducible exact yF_none
    | with_reducible refine yF_some ?_
    | exact yrow0 (by assumption) ⟨rfl, rfl, rfl, rfl⟩
    | with_reducible refine yF_bif ?_
    | with_reducible refine yF_ite ?_ ?_
    | with_reducible refine yF_bindI (V := w_f187_bell_L136) (I0 := s.2.2) (fr_f171_goTo _ _) ?_ ?_ ?_
    | with_reducible refine yF_bind0 ?_
    | with_reducible intro _
    | dsimp only)
theorem frl_f187_bell_L136 (v1 : Int32) (v2 : Int32) (J : (Nat → Nat → Int64)) (n : Nat) (s : (Int32 × Int32 × (Nat → Nat → Int32))) : yF (zloop (f187_bell_L136 v1 v2 J) n s) (fun x => yfr w_f187_bell_L136 s.2.2 x.2.2) :=
  yF_loop (R := fun a b => yfr w_f187_bell_L136 a.2.2 b.2.2) (fun _ => yfr_refl _) (fun a b c h1 h2 => yfr_trans a.2.2 b.2.2 c.2.2 h1 h2) (fun s y hy => by
    have h := fr_f187_bell_L136 v1 v2 J s y hy
    rcases y with y | y
    · exact h
    · exact h) n s
def w_f187_bell : List Nat := [7352, 7353, 7354, 9199, 9299, 9799, 9899, 9999, 10099, 10199, 10299, 10399]
set_option maxRecDepth 10000 in
set_option maxHeartbeats 4000000 in
theorem fr_f187_bell (v1 : Int32) (v2 : Int32) (I : (Nat → Nat → Int32)) (J : (Nat → Nat → Int64)) : yF (f187_bell v1 v2 I J) (fun x => yfr w_f187_bell I x.2) := by
  unfold f187_bell
  have h0 : yfr w_f187_bell I I := yfr_refl _
  repeat' (first
    | with_reducible refine yfr_zu ?_ ?_
    | with_reducible refine yfr_zcp (fun _ => rfl) ?_
    | with_reducible assumption
    | with_reducible exact yfr_refl _
    | exact (rfl : (_ : Bool) = true)
    | with_reducible exact yF_none
    | with_reducible refine yF_some ?_
    | exact yrow0 (by assumption) ⟨rfl, rfl, rfl, rfl⟩
    | with_reducible refine yF_bif ?_
    | with_reducible refine yF_ite ?_ ?_
    | with_reducible refine yF_zbRK (V := w_f187_bell) (I0 := I) (frl_f187_bell_L64 _ _ _ _ _ _) ?_ ?_ ?_ ?_
    | with_reducible refine yF_bindI (V := w_f187_bell) (I0 := I) (frl_f187_bell_L136 _ _ _ _ _) ?_ ?_ ?_
    | with_reducible refine yF_bind0 ?_
    | with_reducible intro _
    | dsimp only)
def w_f82_stand_39 : List Nat := [3902, 3903]
set_option maxRecDepth 10000 in
set_option maxHeartbeats 4000000 in
theorem fr_f82_stand_39 (v1 : Int32) (v2 : Int32) (I : (Nat → Nat → Int32)) : yF (f82_stand_39 v1 v2 I) (fun x => yfr w_f82_stand_39 I x) := by
  unfold f82_stand_39
  have h0 : yfr w_f82_stand_39 I I := yfr_refl _
  repeat' (first
    | with_reducible refine yfr_zu ?_ ?_
    | with_reducible refine yfr_zcp (fun _ => rfl) ?_
    | with_reducible assumption
    | with_reducible exact yfr_refl _
    | exact (rfl : (_ : Bool) = true)
    | with_reducible exact yF_none
    | with_reducible refine yF_some ?_
    | exact yrow0 (by assumption) ⟨rfl, rfl, rfl, rfl⟩
    | with_reducible refine yF_bif ?_
    | with_reducible refine yF_ite ?_ ?_
    | with_reducible refine yF_bind0 ?_
    | with_reducible intro _
    | dsimp only)
def w_f108_paid_L15 : List Nat := [1505, 2399, 3812, 3813, 3814, 3816, 3817, 3818, 3819, 3900, 3901, 3902, 3903, 3904, 4099, 4199, 4299, 4399, 4499, 4599, 4699, 4799, 4899, 4999, 5099, 5199]
set_option maxRecDepth 10000 in
set_option maxHeartbeats 4000000 in
theorem fr_f108_paid_L15 (v1 : Int32) (s : (Int32 × (Nat → Nat → Int32))) : yF (f108_paid_L15 v1 s) (fun y => match y with
    | .inl x => yfr w_f108_paid_L15 s.2 x.2
    | .inr (.inl x) => yfr w_f108_paid_L15 s.2 x.2
    | .inr (.inr x) => yfr w_f108_paid_L15 s.2 x.2) := by
  unfold f108_paid_L15
  have h0 : yfr w_f108_paid_L15 s.2 s.2 := yfr_refl _
  repeat' (first
    | with_reducible refine yfr_zu ?_ ?_
    | with_reducible refine yfr_zcp (fun _ => rfl) ?_
    | with_reducible assumption
    | with_reducible exact yfr_refl _
    | exact (rfl : (_ : Bool) = true)
    | with_reducible exact yF_none
    | with_reducible refine yF_some ?_
    | exact yrow0 (by assumption) ⟨rfl, rfl, rfl, rfl⟩
    | with_reducible refine yF_bif ?_
    | with_reducible refine yF_ite ?_ ?_
    | with_reducible refine yF_bindI (V := w_f108_paid_L15) (I0 := s.2) (fr_f81_asIn_39 _) ?_ ?_ ?_
    | with_reducible refine yF_bindI (V := w_f108_paid_L15) (I0 := s.2) (fr_f82_stand_39 _ _ _) ?_ ?_ ?_
    | with_reducible refine yF_bindI (V := w_f108_paid_L15) (I0 := s.2) (fr_f40_pass_38 _) ?_ ?_ ?_
    | with_reducible refine yF_bind0 ?_
    | with_reducible intro _
    | dsimp only)
theorem frl_f108_paid_L15 (v1 : Int32) (n : Nat) (s : (Int32 × (Nat → Nat → Int32))) : yF (zloopR (f108_paid_L15 v1) n s) (yS (fun x => yfr w_f108_paid_L15 s.2 x.2) (fun x => yfr w_f108_paid_L15 s.2 x.2)) :=
  yF_loopR (R := fun a b => yfr w_f108_paid_L15 a.2 b.2) (S := fun (a : (Int32 × (Nat → Nat → Int32))) (b : (Int32 × (Nat → Nat → Int32))) => yfr w_f108_paid_L15 a.2 b.2) (fun a b c h1 h2 => yfr_trans a.2 b.2 c.2 h1 h2) (fun (a b : (Int32 × (Nat → Nat → Int32))) (c : (Int32 × (Nat → Nat → Int32))) h1 h2 => yfr_trans a.2 b.2 c.2 h1 h2) (fun s y hy => by
    have h := fr_f108_paid_L15 v1 s y hy
    rcases y with y | y | y
    · exact h
    · exact h
    · exact h) n s
def w_f108_paid : List Nat := [1505, 2399, 3812, 3813, 3814, 3816, 3817, 3818, 3819, 3900, 3901, 3902, 3903, 3904, 4099, 4199, 4299, 4399, 4499, 4599, 4699, 4799, 4899, 4999, 5099, 5199]
set_option maxRecDepth 10000 in
set_option maxHeartbeats 4000000 in
theorem fr_f108_paid (v1 : Int32) (I : (Nat → Nat → Int32)) : yF (f108_paid v1 I) (fun x => yfr w_f108_paid I x.2) := by
  unfold f108_paid
  have h0 : yfr w_f108_paid I I := yfr_refl _
  repeat' (first
    | with_reducible refine yfr_zu ?_ ?_
    | with_reducible refine yfr_zcp (fun _ => rfl) ?_
    | with_reducible assumption
    | with_reducible exact yfr_refl _
    | exact (rfl : (_ : Bool) = true)
    | with_reducible exact yF_none
    | with_reducible refine yF_some ?_
    | exact yrow0 (by assumption) ⟨rfl, rfl, rfl, rfl⟩
    | with_reducible refine yF_bif ?_
    | with_reducible refine yF_ite ?_ ?_
    | with_reducible refine yF_zbRI (V := w_f108_paid) (I0 := I) (frl_f108_paid_L15 _ _ _) ?_ ?_ ?_ ?_
    | with_reducible refine yF_bind0 ?_
    | with_reducible intro _
    | dsimp only)
def w_f188_paid_L20 : List Nat := [7345, 7352, 7353, 7354, 9199, 9299, 9799, 9899, 9999, 10099, 10199, 10299, 10399]
set_option maxRecDepth 10000 in
set_option maxHeartbeats 4000000 in
theorem fr_f188_paid_L20 (v1 : Int32) (s : (Int32 × Int32 × (Nat → Nat → Int32))) : yF (f188_paid_L20 v1 s) (fun y => match y with
    | .inl x => yfr w_f188_paid_L20 s.2.2 x.2.2
    | .inr x => yfr w_f188_paid_L20 s.2.2 x.2.2) := by
  unfold f188_paid_L20
  have h0 : yfr w_f188_paid_L20 s.2.2 s.2.2 := yfr_refl _
  repeat' (first
    | with_reducible refine yfr_zu ?_ ?_
    | with_reducible refine yfr_zcp (fun _ => rfl) ?_
    | with_reducible assumption
    | with_reducible exact yfr_refl _
    | exact (rfl : (_ : Bool) = true)
    | with_reducible exact yF_none
    | with_reducible refine yF_some ?_
    | exact yrow0 (by assumption) ⟨rfl, rfl, rfl, rfl⟩
    | with_reducible refine yF_bif ?_
    | with_reducible refine yF_ite ?_ ?_
    | with_reducible refine yF_bindI (V := w_f188_paid_L20) (I0 := s.2.2) (fr_f171_goTo _ _) ?_ ?_ ?_
    | with_reducible refine yF_bind0 ?_
    | with_reducible intro _
    | dsimp only)
theorem frl_f188_paid_L20 (v1 : Int32) (n : Nat) (s : (Int32 × Int32 × (Nat → Nat → Int32))) : yF (zloop (f188_paid_L20 v1) n s) (fun x => yfr w_f188_paid_L20 s.2.2 x.2.2) :=
  yF_loop (R := fun a b => yfr w_f188_paid_L20 a.2.2 b.2.2) (fun _ => yfr_refl _) (fun a b c h1 h2 => yfr_trans a.2.2 b.2.2 c.2.2 h1 h2) (fun s y hy => by
    have h := fr_f188_paid_L20 v1 s y hy
    rcases y with y | y
    · exact h
    · exact h) n s
