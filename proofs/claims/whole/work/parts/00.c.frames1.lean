def w_bf146_product : List Nat := [7320, 7321, 7322, 7323, 8699, 8799]
set_option maxRecDepth 10000 in
set_option maxHeartbeats 4000000 in
theorem fr_bf146_product (rc : (((Nat → Nat → Int32) → Option (Nat → Nat → Int32)) × ((Nat → Nat → Int32) → Option (Nat → Nat → Int32)) × ((Nat → Nat → Int32) → Option (Nat → Nat → Int32)) × ((Nat → Nat → Int32) → Option (Nat → Nat → Int32)) × ((Nat → Nat → Int32) → Option (Nat → Nat → Int32)) × ((Nat → Nat → Int32) → Option (Nat → Nat → Int32)))) (I : (Nat → Nat → Int32)) (hrc : yrc_F145 rc) : yF (bf146_product rc I) (fun x => yfr w_bf146_product I x) := by
  unfold bf146_product
  have h0 : yfr w_bf146_product I I := yfr_refl _
  repeat' (first
    | with_reducible refine yfr_zu ?_ ?_
    | with_reducible refine yfr_zcp (fun _ => rfl) ?_
    | with_reducible assumption
    | with_reducible exact yfr_refl _
    | exact (rfl : (_ : Bool) = true)
    | with_reducible exact yF_none
    | with_reducible refine yF_some ?_
    | exact yrow0 (by assumption) ⟨rfl, rfl, rfl, rfl⟩
    | with_reducible refine yF_bif ?_
    | with_reducible refine yF_ite ?_ ?_
    | with_reducible refine yF_bindI (V := w_bf146_product) (I0 := I) (hrc.1 _) ?_ ?_ ?_
    | with_reducible refine yF_bindI (V := w_bf146_product) (I0 := I) (hrc.2.1 _) ?_ ?_ ?_
    | with_reducible refine yF_bindI (V := w_bf146_product) (I0 := I) (hrc.2.2.1 _) ?_ ?_ ?_
    | with_reducible refine yF_bindI (V := w_bf146_product) (I0 := I) (hrc.2.2.2.1 _) ?_ ?_ ?_
    | with_reducible refine yF_bindI (V := w_bf146_product) (I0 := I) (hrc.2.2.2.2.1 _) ?_ ?_ ?_
    | with_reducible refine yF_bindI (V := w_bf146_product) (I0 := I) (hrc.2.2.2.2.2 _) ?_ ?_ ?_
    | with_reducible refine yF_bindI (V := w_bf146_product) (I0 := I) (frl_f146_product_L4 _ hrc _ _) ?_ ?_ ?_
    | with_reducible refine yF_bind0 ?_
    | with_reducible intro _
    | dsimp only)
def w_bf147_sum : List Nat := [7320, 7321, 7322, 7323, 8699, 8799]
set_option maxRecDepth 10000 in
set_option maxHeartbeats 4000000 in
theorem fr_bf147_sum (rc : (((Nat → Nat → Int32) → Option (Nat → Nat → Int32)) × ((Nat → Nat → Int32) → Option (Nat → Nat → Int32)) × ((Nat → Nat → Int32) → Option (Nat → Nat → Int32)) × ((Nat → Nat → Int32) → Option (Nat → Nat → Int32)) × ((Nat → Nat → Int32) → Option (Nat → Nat → Int32)) × ((Nat → Nat → Int32) → Option (Nat → Nat → Int32)))) (I : (Nat → Nat → Int32)) (hrc : yrc_F145 rc) : yF (bf147_sum rc I) (fun x => yfr w_bf147_sum I x) := by
  unfold bf147_sum
  have h0 : yfr w_bf147_sum I I := yfr_refl _
  repeat' (first
    | with_reducible refine yfr_zu ?_ ?_
    | with_reducible refine yfr_zcp (fun _ => rfl) ?_
    | with_reducible assumption
    | with_reducible exact yfr_refl _
    | exact (rfl : (_ : Bool) = true)
    | with_reducible exact yF_none
    | with_reducible refine yF_some ?_
    | exact yrow0 (by assumption) ⟨rfl, rfl, rfl, rfl⟩
    | with_reducible refine yF_bif ?_
    | with_reducible refine yF_ite ?_ ?_
    | with_reducible refine yF_bindI (V := w_bf147_sum) (I0 := I) (hrc.1 _) ?_ ?_ ?_
    | with_reducible refine yF_bindI (V := w_bf147_sum) (I0 := I) (hrc.2.1 _) ?_ ?_ ?_
    | with_reducible refine yF_bindI (V := w_bf147_sum) (I0 := I) (hrc.2.2.1 _) ?_ ?_ ?_
    | with_reducible refine yF_bindI (V := w_bf147_sum) (I0 := I) (hrc.2.2.2.1 _) ?_ ?_ ?_
    | with_reducible refine yF_bindI (V := w_bf147_sum) (I0 := I) (hrc.2.2.2.2.1 _) ?_ ?_ ?_
    | with_reducible refine yF_bindI (V := w_bf147_sum) (I0 := I) (hrc.2.2.2.2.2 _) ?_ ?_ ?_
    | with_reducible refine yF_bindI (V := w_bf147_sum) (I0 := I) (frl_f147_sum_L4 _ hrc _ _) ?_ ?_ ?_
    | with_reducible refine yF_bind0 ?_
    | with_reducible intro _
    | dsimp only)
def w_bf148_compared : List Nat := [7320, 7321, 7322, 7323, 8699, 8799]
set_option maxRecDepth 10000 in
set_option maxHeartbeats 4000000 in
theorem fr_bf148_compared (rc : (((Nat → Nat → Int32) → Option (Nat → Nat → Int32)) × ((Nat → Nat → Int32) → Option (Nat → Nat → Int32)) × ((Nat → Nat → Int32) → Option (Nat → Nat → Int32)) × ((Nat → Nat → Int32) → Option (Nat → Nat → Int32)) × ((Nat → Nat → Int32) → Option (Nat → Nat → Int32)) × ((Nat → Nat → Int32) → Option (Nat → Nat → Int32)))) (I : (Nat → Nat → Int32)) (hrc : yrc_F145 rc) : yF (bf148_compared rc I) (fun x => yfr w_bf148_compared I x) := by
  unfold bf148_compared
  have h0 : yfr w_bf148_compared I I := yfr_refl _
  repeat' (first
    | with_reducible refine yfr_zu ?_ ?_
    | with_reducible refine yfr_zcp (fun _ => rfl) ?_
    | with_reducible assumption
    | with_reducible exact yfr_refl _
    | exact (rfl : (_ : Bool) = true)
    | with_reducible exact yF_none
    | with_reducible refine yF_some ?_
    | exact yrow0 (by assumption) ⟨rfl, rfl, rfl, rfl⟩
    | with_reducible refine yF_bif ?_
    | with_reducible refine yF_ite ?_ ?_
    | with_reducible refine yF_bindI (V := w_bf148_compared) (I0 := I) (hrc.1 _) ?_ ?_ ?_
    | with_reducible refine yF_bindI (V := w_bf148_compared) (I0 := I) (hrc.2.1 _) ?_ ?_ ?_
    | with_reducible refine yF_bindI (V := w_bf148_compared) (I0 := I) (hrc.2.2.1 _) ?_ ?_ ?_
    | with_reducible refine yF_bindI (V := w_bf148_compared) (I0 := I) (hrc.2.2.2.1 _) ?_ ?_ ?_
    | with_reducible refine yF_bindI (V := w_bf148_compared) (I0 := I) (hrc.2.2.2.2.1 _) ?_ ?_ ?_
    | with_reducible refine yF_bindI (V := w_bf148_compared) (I0 := I) (hrc.2.2.2.2.2 _) ?_ ?_ ?_
    | with_reducible refine yF_bindI (V := w_bf148_compared) (I0 := I) (fr_f141_addStep _ _ _) ?_ ?_ ?_
    | with_reducible refine yF_bind0 ?_
    | with_reducible intro _
    | dsimp only)
def w_bf149_both : List Nat := [7320, 7321, 7322, 7323, 8699, 8799]
set_option maxRecDepth 10000 in
set_option maxHeartbeats 4000000 in
theorem fr_bf149_both (rc : (((Nat → Nat → Int32) → Option (Nat → Nat → Int32)) × ((Nat → Nat → Int32) → Option (Nat → Nat → Int32)) × ((Nat → Nat → Int32) → Option (Nat → Nat → Int32)) × ((Nat → Nat → Int32) → Option (Nat → Nat → Int32)) × ((Nat → Nat → Int32) → Option (Nat → Nat → Int32)) × ((Nat → Nat → Int32) → Option (Nat → Nat → Int32)))) (I : (Nat → Nat → Int32)) (hrc : yrc_F145 rc) : yF (bf149_both rc I) (fun x => yfr w_bf149_both I x) := by
  unfold bf149_both
  have h0 : yfr w_bf149_both I I := yfr_refl _
  repeat' (first
    | with_reducible refine yfr_zu ?_ ?_
    | with_reducible refine yfr_zcp (fun _ => rfl) ?_
    | with_reducible assumption
    | with_reducible exact yfr_refl _
    | exact (rfl : (_ : Bool) = true)
    | with_reducible exact yF_none
    | with_reducible refine yF_some ?_
    | exact yrow0 (by assumption) ⟨rfl, rfl, rfl, rfl⟩
    | with_reducible refine yF_bif ?_
    | with_reducible refine yF_ite ?_ ?_
    | with_reducible refine yF_bindI (V := w_bf149_both) (I0 := I) (hrc.1 _) ?_ ?_ ?_
    | with_reducible refine yF_bindI (V := w_bf149_both) (I0 := I) (hrc.2.1 _) ?_ ?_ ?_
    | with_reducible refine yF_bindI (V := w_bf149_both) (I0 := I) (hrc.2.2.1 _) ?_ ?_ ?_
    | with_reducible refine yF_bindI (V := w_bf149_both) (I0 := I) (hrc.2.2.2.1 _) ?_ ?_ ?_
    | with_reducible refine yF_bindI (V := w_bf149_both) (I0 := I) (hrc.2.2.2.2.1 _) ?_ ?_ ?_
    | with_reducible refine yF_bindI (V := w_bf149_both) (I0 := I) (hrc.2.2.2.2.2 _) ?_ ?_ ?_
    | with_reducible refine yF_bindI (V := w_bf149_both) (I0 := I) (frl_f149_both_L4 _ hrc _ _) ?_ ?_ ?_
    | with_reducible refine yF_bind0 ?_
    | with_reducible intro _
    | dsimp only)
def w_bf150_either : List Nat := [7320, 7321, 7322, 7323, 8699, 8799]
set_option maxRecDepth 10000 in
set_option maxHeartbeats 4000000 in
theorem fr_bf150_either (rc : (((Nat → Nat → Int32) → Option (Nat → Nat → Int32)) × ((Nat → Nat → Int32) → Option (Nat → Nat → Int32)) × ((Nat → Nat → Int32) → Option (Nat → Nat → Int32)) × ((Nat → Nat → Int32) → Option (Nat → Nat → Int32)) × ((Nat → Nat → Int32) → Option (Nat → Nat → Int32)) × ((Nat → Nat → Int32) → Option (Nat → Nat → Int32)))) (I : (Nat → Nat → Int32)) (hrc : yrc_F145 rc) : yF (bf150_either rc I) (fun x => yfr w_bf150_either I x) := by
  unfold bf150_either
  have h0 : yfr w_bf150_either I I := yfr_refl _
  repeat' (first
    | with_reducible refine yfr_zu ?_ ?_
    | with_reducible refine yfr_zcp (fun _ => rfl) ?_
    | with_reducible assumption
    | with_reducible exact yfr_refl _
    | exact (rfl : (_ : Bool) = true)
    | with_reducible exact yF_none
    | with_reducible refine yF_some ?_
    | exact yrow0 (by assumption) ⟨rfl, rfl, rfl, rfl⟩
    | with_reducible refine yF_bif ?_
    | with_reducible refine yF_ite ?_ ?_
    | with_reducible refine yF_bindI (V := w_bf150_either) (I0 := I) (hrc.1 _) ?_ ?_ ?_
    | with_reducible refine yF_bindI (V := w_bf150_either) (I0 := I) (hrc.2.1 _) ?_ ?_ ?_
    | with_reducible refine yF_bindI (V := w_bf150_either) (I0 := I) (hrc.2.2.1 _) ?_ ?_ ?_
    | with_reducible refine yF_bindI (V := w_bf150_either) (I0 := I) (hrc.2.2.2.1 _) ?_ ?_ ?_
    | with_reducible refine yF_bindI (V := w_bf150_either) (I0 := I) (hrc.2.2.2.2.1 _) ?_ ?_ ?_
    | with_reducible refine yF_bindI (V := w_bf150_either) (I0 := I) (hrc.2.2.2.2.2 _) ?_ ?_ ?_
    | with_reducible refine yF_bindI (V := w_bf150_either) (I0 := I) (frl_f150_either_L4 _ hrc _ _) ?_ ?_ ?_
    | with_reducible refine yF_bind0 ?_
    | with_reducible intro _
    | dsimp only)
theorem frg_F145 : ∀ n, yrc_F145 (F145 n) := by
  intro n
  induction n with
  | zero => exact ⟨fun _ => yF_none, fun _ => yF_none, fun _ => yF_none, fun _ => yF_none, fun _ => yF_none, fun _ => yF_none⟩
  | succ n ih => exact ⟨fun I => fr_bf145_operand _ I ih, fun I => fr_bf146_product _ I ih, fun I => fr_bf147_sum _ I ih, fun I => fr_bf148_compared _ I ih, fun I => fr_bf149_both _ I ih, fun I => fr_bf150_either _ I ih⟩
def w_f145_operand : List Nat := [7320, 7321, 7322, 7323, 8699, 8799]
theorem fr_f145_operand (n : Nat) (I : (Nat → Nat → Int32)) : yF (f145_operand n I) (fun x => yfr w_f145_operand I x) := (frg_F145 n).1 I
def w_f146_product : List Nat := [7320, 7321, 7322, 7323, 8699, 8799]
theorem fr_f146_product (n : Nat) (I : (Nat → Nat → Int32)) : yF (f146_product n I) (fun x => yfr w_f146_product I x) := (frg_F145 n).2.1 I
def w_f147_sum : List Nat := [7320, 7321, 7322, 7323, 8699, 8799]
theorem fr_f147_sum (n : Nat) (I : (Nat → Nat → Int32)) : yF (f147_sum n I) (fun x => yfr w_f147_sum I x) := (frg_F145 n).2.2.1 I
def w_f148_compared : List Nat := [7320, 7321, 7322, 7323, 8699, 8799]
theorem fr_f148_compared (n : Nat) (I : (Nat → Nat → Int32)) : yF (f148_compared n I) (fun x => yfr w_f148_compared I x) := (frg_F145 n).2.2.2.1 I
def w_f149_both : List Nat := [7320, 7321, 7322, 7323, 8699, 8799]
theorem fr_f149_both (n : Nat) (I : (Nat → Nat → Int32)) : yF (f149_both n I) (fun x => yfr w_f149_both I x) := (frg_F145 n).2.2.2.2.1 I
def w_f150_either : List Nat := [7320, 7321, 7322, 7323, 8699, 8799]
theorem fr_f150_either (n : Nat) (I : (Nat → Nat → Int32)) : yF (f150_either n I) (fun x => yfr w_f150_either I x) := (frg_F145 n).2.2.2.2.2 I
def w_f151_line : List Nat := [7320, 7321, 7322, 7323, 8699, 8799, 8899, 8999, 9099]
set_option maxRecDepth 10000 in
set_option maxHeartbeats 4000000 in
theorem fr_f151_line (I : (Nat → Nat → Int32)) : yF (f151_line I) (fun x => yfr w_f151_line I x) := by
  unfold f151_line
  have h0 : yfr w_f151_line I I := yfr_refl _
  repeat' (first
    | with_reducible refine yfr_zu ?_ ?_
    | with_reducible refine yfr_zcp (fun _ => rfl) ?_
    | with_reducible assumption
    | with_reducible exact yfr_refl _
    | exact (rfl : (_ : Bool) = true)
    | with_reducible exact yF_none
    | with_reducible refine yF_some ?_
    | exact yrow0 (by assumption) ⟨rfl, rfl, rfl, rfl⟩
    | with_reducible refine yF_bif ?_
    | with_reducible refine yF_ite ?_ ?_
    | with_reducible refine yF_bindI (V := w_f151_line) (I0 := I) (fr_f150_either _ _) ?_ ?_ ?_
    | with_reducible refine yF_bind0 ?_
    | with_reducible intro _
    | dsimp only)
def w_f152_readText_L31 : List Nat := [7320, 7321, 7322, 7323, 8699, 8799, 8899, 8999, 9099]
set_option maxRecDepth 10000 in
set_option maxHeartbeats 4000000 in
theorem fr_f152_readText_L31 (v1 : Int32) (s : (Nat → Nat → Int32)) : yF (f152_readText_L31 v1 s) (fun y => match y with
    | .inl x => yfr w_f152_readText_L31 s x
    | .inr x => yfr w_f152_readText_L31 s x) := by
  unfold f152_readText_L31
  have h0 : yfr w_f152_readText_L31 s s := yfr_refl _
  repeat' (first
    | with_reducible refine yfr_zu ?_ ?_
    | with_reducible refine yfr_zcp (fun _ => rfl) ?_
    | with_reducible assumption
    | with_reducible exact yfr_refl _
    | exact (rfl : (_ : Bool) = true)
    | with_reducible exact yF_none
    | with_reducible refine yF_some ?_
    | exact yrow0 (by assumption) ⟨rfl, rfl, rfl, rfl⟩
    | with_reducible refine yF_bif ?_
    | with_reducible refine yF_ite ?_ ?_
    | with_reducible refine yF_bindI (V := w_f152_readText_L31) (I0 := s) (fr_f151_line _) ?_ ?_ ?_
    | with_reducible refine yF_bind0 ?_
    | with_reducible intro _
    | dsimp only)
theorem frl_f152_readText_L31 (v1 : Int32) (n : Nat) (s : (Nat → Nat → Int32)) : yF (zloop (f152_readText_L31 v1) n s) (fun x => yfr w_f152_readText_L31 s x) :=
  yF_loop (R := fun a b => yfr w_f152_readText_L31 a b) (fun _ => yfr_refl _) (fun a b c h1 h2 => yfr_trans a b c h1 h2) (fun s y hy => by
    have h := fr_f152_readText_L31 v1 s y hy
    rcases y with y | y
    · exact h
    · exact h) n s
def w_f152_readText_L105 : List Nat := [8699, 8799]
set_option maxRecDepth 10000 in
set_option maxHeartbeats 4000000 in
theorem fr_f152_readText_L105 (v1 : Int32) (s : (Int32 × (Nat → Nat → Int32))) : yF (f152_readText_L105 v1 s) (fun y => match y with
    | .inl x => yfr w_f152_readText_L105 s.2 x.2
    | .inr x => yfr w_f152_readText_L105 s.2 x.2) := by
  unfold f152_readText_L105
  have h0 : yfr w_f152_readText_L105 s.2 s.2 := yfr_refl _
  repeat' (first
    | with_reducible refine yfr_zu ?_ ?_
    | with_reducible refine yfr_zcp (fun _ => rfl) ?_
    | with_reducible assumption
    | with_reducible exact yfr_refl _
    | exact (rfl : (_ : Bool) = true)
    | with_reducible exact yF_none
    | with_reducible refine yF_some ?_
    | exact yrow0 (by assumption) ⟨rfl, rfl, rfl, rfl⟩
    | with_reducible refine yF_bif ?_
    | with_reducible refine yF_ite ?_ ?_
    | with_reducible refine yF_bind0 ?_
    | with_reducible intro _
    | dsimp only)
theorem frl_f152_readText_L105 (v1 : Int32) (n : Nat) (s : (Int32 × (Nat → Nat → Int32))) : yF (zloop (f152_readText_L105 v1) n s) (fun x => yfr w_f152_readText_L105 s.2 x.2) :=
  yF_loop (R := fun a b => yfr w_f152_readText_L105 a.2 b.2) (fun _ => yfr_refl _) (fun a b c h1 h2 => yfr_trans a.2 b.2 c.2 h1 h2) (fun s y hy => by
    have h := fr_f152_readText_L105 v1 s y hy
    rcases y with y | y
    · exact h
    · exact h) n s
def w_f152_readText_L177 : List Nat := [8999, 9099]
set_option maxRecDepth 10000 in
set_option maxHeartbeats 4000000 in
theorem fr_f152_readText_L177 (v1 : Int32) (s : (Int32 × (Nat → Nat → Int32))) : yF (f152_readText_L177 v1 s) (fun y => match y with
    | .inl x => yfr w_f152_readText_L177 s.2 x.2
    | .inr x => yfr w_f152_readText_L177 s.2 x.2) := by
  unfold f152_readText_L177
  have h0 : yfr w_f152_readText_L177 s.2 s.2 := yfr_refl _
  repeat' (first
    | with_reducible refine yfr_zu ?_ ?_
    | with_reducible refine yfr_zcp (fun _ => rfl) ?_
    | with_reducible assumption
    | with_reducible exact yfr_refl _
    | exact (rfl : (_ : Bool) = true)
    | with_reducible exact yF_none
    | with_reducible refine yF_some ?_
    | exact yrow0 (by assumption) ⟨rfl, rfl, rfl, rfl⟩
    | with_reducible refine yF_bif ?_
    | with_reducible refine yF_ite ?_ ?_
    | with_reducible refine yF_bind0 ?_
    | with_reducible intro _
    | dsimp only)
theorem frl_f152_readText_L177 (v1 : Int32) (n : Nat) (s : (Int32 × (Nat → Nat → Int32))) : yF (zloop (f152_readText_L177 v1) n s) (fun x => yfr w_f152_readText_L177 s.2 x.2) :=
  yF_loop (R := fun a b => yfr w_f152_readText_L177 a.2 b.2) (fun _ => yfr_refl _) (fun a b c h1 h2 => yfr_trans a.2 b.2 c.2 h1 h2) (fun s y hy => by
    have h := fr_f152_readText_L177 v1 s y hy
    rcases y with y | y
    · exact h
    · exact h) n s
def w_f152_readText : List Nat := [7319, 7320, 7321, 7322, 7323, 8699, 8799, 8899, 8999, 9099]
set_option maxRecDepth 10000 in
set_option maxHeartbeats 4000000 in
theorem fr_f152_readText (v1 : Int32) (I : (Nat → Nat → Int32)) : yF (f152_readText v1 I) (fun x => yfr w_f152_readText I x.2) := by
  unfold f152_readText
  have h0 : yfr w_f152_readText I I := yfr_refl _
  repeat' (first
    | with_reducible refine yfr_zu ?_ ?_
    | with_reducible refine yfr_zcp (fun _ => rfl) ?_
    | with_reducible assumption
    | with_reducible exact yfr_refl _
    | exact (rfl : (_ : Bool) = true)
    | with_reducible exact yF_none
    | with_reducible refine yF_some ?_
    | exact yrow0 (by assumption) ⟨rfl, rfl, rfl, rfl⟩
    | with_reducible refine yF_bif ?_
    | with_reducible refine yF_ite ?_ ?_
    | with_reducible refine yF_bindI (V := w_f152_readText) (I0 := I) (fr_f151_line _) ?_ ?_ ?_
    | with_reducible refine yF_bindI (V := w_f152_readText) (I0 := I) (frl_f152_readText_L31 _ _ _) ?_ ?_ ?_
    | with_reducible refine yF_bindI (V := w_f152_readText) (I0 := I) (frl_f152_readText_L105 _ _ _) ?_ ?_ ?_
    | with_reducible refine yF_bindI (V := w_f152_readText) (I0 := I) (frl_f152_readText_L177 _ _ _) ?_ ?_ ?_
    | with_reducible refine yF_bindI (V := w_f152_readText) (I0 := I) (fr_f140_wrong _) ?_ ?_ ?_
    | with_reducible refine yF_bind0 ?_
    | with_reducible intro _
    | dsimp only)
def w_f157_law : List Nat := [7319, 7320, 7321, 7322, 7323, 7331, 8699, 8799, 8899, 8999, 9099]
set_option maxRecDepth 10000 in
set_option maxHeartbeats 4000000 in
theorem fr_f157_law (I : (Nat → Nat → Int32)) : yF (f157_law I) (fun x => yfr w_f157_law I x.2) := by
  unfold f157_law
  have h0 : yfr w_f157_law I I := yfr_refl _
  repeat' (first
    | with_reducible refine yfr_zu ?_ ?_
    | with_reducible refine yfr_zcp (fun _ => rfl) ?_
    | with_reducible assumption
    | with_reducible exact yfr_refl _
    | exact (rfl : (_ : Bool) = true)
    | with_reducible exact yF_none
    | with_reducible refine yF_some ?_
    | exact yrow0 (by assumption) ⟨rfl, rfl, rfl, rfl⟩
    | with_reducible refine yF_bif ?_
    | with_reducible refine yF_ite ?_ ?_
    | with_reducible refine yF_bindI (V := w_f157_law) (I0 := I) (fr_f152_readText _ _) ?_ ?_ ?_
    | with_reducible refine yF_bind0 ?_
    | with_reducible intro _
    | dsimp only)
def w_f93_set : List Nat := [103, 104, 105]
set_option maxRecDepth 10000 in
set_option maxHeartbeats 4000000 in
theorem fr_f93_set (v1 : Int32) (v2 : Int32) (I : (Nat → Nat → Int32)) : yF (f93_set v1 v2 I) (fun x => yfr w_f93_set I x.2) := by
  unfold f93_set
  have h0 : yfr w_f93_set I I := yfr_refl _
  repeat' (first
    | with_reducible refine yfr_zu ?_ ?_
    | with_reducible refine yfr_zcp (fun _ => rfl) ?_
    | with_reducible assumption
    | with_reducible exact yfr_refl _
    | exact (rfl : (_ : Bool) = true)
    | with_reducible exact yF_none
    | with_reducible refine yF_some ?_
    | exact yrow0 (by assumption) ⟨rfl, rfl, rfl, rfl⟩
    | with_reducible refine yF_bif ?_
    | with_reducible refine yF_ite ?_ ?_
    | with_reducible refine yF_bind0 ?_
    | with_reducible intro _
    | dsimp only)
def w_f158_set : List Nat := [7315, 7316, 7317]
set_option maxRecDepth 10000 in
set_option maxHeartbeats 4000000 in
theorem fr_f158_set (v1 : Int32) (v2 : Int32) (I : (Nat → Nat → Int32)) : yF (f158_set v1 v2 I) (fun x => yfr w_f158_set I x.2) := by
  unfold f158_set
  have h0 : yfr w_f158_set I I := yfr_refl _
  repeat' (first
    | with_reducible refine yfr_zu ?_ ?_
    | with_reducible refine yfr_zcp (fun _ => rfl) ?_
    | with_reducible assumption
    | with_reducible exact yfr_refl _
    | exact (rfl : (_ : Bool) = true)
    | with_reducible exact yF_none
    | with_reducible refine yF_some ?_
    | exact yrow0 (by assumption) ⟨rfl, rfl, rfl, rfl⟩
    | with_reducible refine yF_bif ?_
    | with_reducible refine yF_ite ?_ ?_
    | with_reducible refine yF_bind0 ?_
    | with_reducible intro _
    | dsimp only)
def w_f69_mended : List Nat := [299, 899]
set_option maxRecDepth 10000 in
set_option maxHeartbeats 4000000 in
theorem fr_f69_mended (v1 : Int32) (v2 : Int32) (v3 : Int32) (I : (Nat → Nat → Int32)) : yF (f69_mended v1 v2 v3 I) (fun x => yfr w_f69_mended I x.2) := by
  unfold f69_mended
  have h0 : yfr w_f69_mended I I := yfr_refl _
  repeat' (first
    | with_reducible refine yfr_zu ?_ ?_
    | with_reducible refine yfr_zcp (fun _ => rfl) ?_
    | with_reducible assumption
    | with_reducible exact yfr_refl _
    | exact (rfl : (_ : Bool) = true)
    | with_reducible exact yF_none
    | with_reducible refine yF_some ?_
    | exact yrow0 (by assumption) ⟨rfl, rfl, rfl, rfl⟩
    | with_reducible refine yF_bif ?_
    | with_reducible refine yF_ite ?_ ?_
    | with_reducible refine yF_bind0 ?_
    | with_reducible intro _
    | dsimp only)
def w_f14_forgetFirst : List Nat := [5205, 5399, 5499, 5599, 5699]
set_option maxRecDepth 10000 in
set_option maxHeartbeats 4000000 in
theorem fr_f14_forgetFirst (I : (Nat → Nat → Int32)) : yF (f14_forgetFirst I) (fun x => yfr w_f14_forgetFirst I x) := by
  unfold f14_forgetFirst
  have h0 : yfr w_f14_forgetFirst I I := yfr_refl _
  repeat' (first
    | with_reducible refine yfr_zu ?_ ?_
    | with_reducible refine yfr_zcp (fun _ => rfl) ?_
    | with_reducible assumption
    | with_reducible exact yfr_refl _
    | exact (rfl : (_ : Bool) = true)
    | with_reducible exact yF_none
    | with_reducible refine yF_some ?_
    | exact yrow0 (by assumption) ⟨rfl, rfl, rfl, rfl⟩
    | with_reducible refine yF_bif ?_
    | with_reducible refine yF_ite ?_ ?_
    | with_reducible refine yF_bind0 ?_
    | with_reducible intro _
    | dsimp only)
def w_f13_add : List Nat := [5204, 5205, 5399, 5499, 5599, 5699]
set_option maxRecDepth 10000 in
set_option maxHeartbeats 4000000 in
theorem fr_f13_add (v1 : Int32) (v2 : Int32) (v3 : Int32) (v4 : Int32) (I : (Nat → Nat → Int32)) : yF (f13_add v1 v2 v3 v4 I) (fun x => yfr w_f13_add I x) := by
  unfold f13_add
  have h0 : yfr w_f13_add I I := yfr_refl _
  repeat' (first
    | with_reducible refine yfr_zu ?_ ?_
    | with_reducible refine yfr_zcp (fun _ => rfl) ?_
    | with_reducible assumption
    | with_reducible exact yfr_refl _
    | exact (rfl : (_ : Bool) = true)
    | with_reducible exact yF_none
    | with_reducible refine yF_some ?_
    | exact yrow0 (by assumption) ⟨rfl, rfl, rfl, rfl⟩
    | with_reducible refine yF_bif ?_
    | with_reducible refine yF_ite ?_ ?_
    | with_reducible refine yF_bindI (V := w_f13_add) (I0 := I) (fr_f14_forgetFirst _) ?_ ?_ ?_
    | with_reducible refine yF_bind0 ?_
    | with_reducible intro _
    | dsimp only)
def w_f94_mend : List Nat := [299, 899, 5204, 5205, 5399, 5499, 5599, 5699]
set_option maxRecDepth 10000 in
set_option maxHeartbeats 4000000 in
theorem fr_f94_mend (v1 : Int32) (v2 : Int32) (v3 : Int32) (I : (Nat → Nat → Int32)) : yF (f94_mend v1 v2 v3 I) (fun x => yfr w_f94_mend I x.2) := by
  unfold f94_mend
  have h0 : yfr w_f94_mend I I := yfr_refl _
  repeat' (first
    | with_reducible refine yfr_zu ?_ ?_
    | with_reducible refine yfr_zcp (fun _ => rfl) ?_
    | with_reducible assumption
    | with_reducible exact yfr_refl _
    | exact (rfl : (_ : Bool) = true)
    | with_reducible exact yF_none
    | with_reducible refine yF_some ?_
    | exact yrow0 (by assumption) ⟨rfl, rfl, rfl, rfl⟩
    | with_reducible refine yF_bif ?_
    | with_reducible refine yF_ite ?_ ?_
    | with_reducible refine yF_bindI (V := w_f94_mend) (I0 := I) (fr_f69_mended _ _ _ _) ?_ ?_ ?_
    | with_reducible refine yF_bindI (V := w_f94_mend) (I0 := I) (fr_f13_add _ _ _ _ _) ?_ ?_ ?_
    | with_reducible refine yF_bind0 ?_
    | with_reducible intro _
    | dsimp only)
def w_f160_lays : List Nat := [7499, 8099]
set_option maxRecDepth 10000 in
set_option maxHeartbeats 4000000 in
theorem fr_f160_lays (v1 : Int32) (v2 : Int32) (v3 : Int32) (I : (Nat → Nat → Int32)) : yF (f160_lays v1 v2 v3 I) (fun x => yfr w_f160_lays I x) := by
  unfold f160_lays
  have h0 : yfr w_f160_lays I I := yfr_refl _
  repeat' (first
    | with_reducible refine yfr_zu ?_ ?_
    | with_reducible refine yfr_zcp (fun _ => rfl) ?_
    | with_reducible assumption
    | with_reducible exact yfr_refl _
    | exact (rfl : (_ : Bool) = true)
    | with_reducible exact yF_none
    | with_reducible refine yF_some ?_
    | exact yrow0 (by assumption) ⟨rfl, rfl, rfl, rfl⟩
    | with_reducible refine yF_bif ?_
    | with_reducible refine yF_ite ?_ ?_
    | with_reducible refine yF_bind0 ?_
    | with_reducible intro _
    | dsimp only)
def w_f161_changes_L34 : List Nat := [9399, 9499, 9599, 9699]
set_option maxRecDepth 10000 in
set_option maxHeartbeats 4000000 in
theorem fr_f161_changes_L34 (v1 : Int32) (v2 : Int32) (v3 : Int32) (v4 : Int32) (s : (Int32 × (Nat → Nat → Int32))) : yF (f161_changes_L34 v1 v2 v3 v4 s) (fun y => match y with
    | .inl x => yfr w_f161_changes_L34 s.2 x.2
    | .inr x => yfr w_f161_changes_L34 s.2 x.2) := by
  unfold f161_changes_L34
  have h0 : yfr w_f161_changes_L34 s.2 s.2 := yfr_refl _
  repeat' (first
    | with_reducible refine yfr_zu ?_ ?_
    | with_reducible refine yfr_zcp (fun _ => rfl) ?_
    | with_reducible assumption
    | with_reducible exact yfr_refl _
    | exact (rfl : (_ : Bool) = true)
    | with_reducible exact yF_none
    | with_reducible refine yF_some ?_
    | exact yrow0 (by assumption) ⟨rfl, rfl, rfl, rfl⟩
    | with_reducible refine yF_bif ?_
    | with_reducible refine yF_ite ?_ ?_
    | with_reducible refine yF_bind0 ?_
    | with_reducible intro _
    | dsimp only)
theorem frl_f161_changes_L34 (v1 : Int32) (v2 : Int32) (v3 : Int32) (v4 : Int32) (n : Nat) (s : (Int32 × (Nat → Nat → Int32))) : yF (zloop (f161_changes_L34 v1 v2 v3 v4) n s) (fun x => yfr w_f161_changes_L34 s.2 x.2) :=
  yF_loop (R := fun a b => yfr w_f161_changes_L34 a.2 b.2) (fun _ => yfr_refl _) (fun a b c h1 h2 => yfr_trans a.2 b.2 c.2 h1 h2) (fun s y hy => by
    have h := fr_f161_changes_L34 v1 v2 v3 v4 s y hy
    rcases y with y | y
    · exact h
    · exact h) n s
def w_f161_changes : List Nat := [7332, 7333, 7499, 8099, 9399, 9499, 9599, 9699]
set_option maxRecDepth 10000 in
set_option maxHeartbeats 4000000 in
theorem fr_f161_changes (v1 : Int32) (v2 : Int32) (v3 : Int32) (I : (Nat → Nat → Int32)) : yF (f161_changes v1 v2 v3 I) (fun x => yfr w_f161_changes I x.2) := by
  unfold f161_changes
  have h0 : yfr w_f161_changes I I := yfr_refl _
  repeat' (first
    | with_reducible refine yfr_zu ?_ ?_
    | with_reducible refine yfr_zcp (fun _ => rfl) ?_
    | with_reducible assumption
    | with_reducible exact yfr_refl _
    | exact (rfl : (_ : Bool) = true)
    | with_reducible exact yF_none
    | with_reducible refine yF_some ?_
    | exact yrow0 (by assumption) ⟨rfl, rfl, rfl, rfl⟩
    | with_reducible refine yF_bif ?_
    | with_reducible refine yF_ite ?_ ?_
    | with_reducible refine yF_bindI (V := w_f161_changes) (I0 := I) (frl_f161_changes_L34 _ _ _ _ _ _) ?_ ?_ ?_
    | with_reducible refine yF_bindI (V := w_f161_changes) (I0 := I) (fr_f160_lays _ _ _ _) ?_ ?_ ?_
    | with_reducible refine yF_bind0 ?_
    | with_reducible intro _
    | dsimp only)
def w_f164_mend : List Nat := [7332, 7333, 7499, 8099, 9399, 9499, 9599, 9699]
set_option maxRecDepth 10000 in
set_option maxHeartbeats 4000000 in
theorem fr_f164_mend (v1 : Int32) (v2 : Int32) (v3 : Int32) (I : (Nat → Nat → Int32)) : yF (f164_mend v1 v2 v3 I) (fun x => yfr w_f164_mend I x.2) := by
  unfold f164_mend
  have h0 : yfr w_f164_mend I I := yfr_refl _
  repeat' (first
    | with_reducible refine yfr_zu ?_ ?_
    | with_reducible refine yfr_zcp (fun _ => rfl) ?_
    | with_reducible assumption
    | with_reducible exact yfr_refl _
    | exact (rfl : (_ : Bool) = true)
    | with_reducible exact yF_none
    | with_reducible refine yF_some ?_
    | exact yrow0 (by assumption) ⟨rfl, rfl, rfl, rfl⟩
    | with_reducible refine yF_bif ?_
    | with_reducible refine yF_ite ?_ ?_
    | with_reducible refine yF_bindI (V := w_f164_mend) (I0 := I) (fr_f161_changes _ _ _ _) ?_ ?_ ?_
    | with_reducible refine yF_bind0 ?_
    | with_reducible intro _
    | dsimp only)
def w_f81_asIn_25 : List Nat := [2500, 2501, 2503, 2504, 2699, 2799]
set_option maxRecDepth 10000 in
set_option maxHeartbeats 4000000 in
theorem fr_f81_asIn_25 (I : (Nat → Nat → Int32)) : yF (f81_asIn_25 I) (fun x => yfr w_f81_asIn_25 I x) := by
  unfold f81_asIn_25
  have h0 : yfr w_f81_asIn_25 I I := yfr_refl _
  repeat' (first
    | with_reducible refine yfr_zu ?_ ?_
    | with_reducible refine yfr_zcp (fun _ => rfl) ?_
    | with_reducible assumption
    | with_reducible exact yfr_refl _
    | exact (rfl : (_ : Bool) = true)
    | with_reducible exact yF_none
    | with_reducible refine yF_some ?_
    | exact yrow0 (by assumption) ⟨rfl, rfl, rfl, rfl⟩
    | with_reducible refine yF_bif ?_
    | with_reducible refine yF_ite ?_ ?_
    | with_reducible refine yF_bind0 ?_
    | with_reducible intro _
    | dsimp only)
def w_f41_begin_24_L24 : List Nat := [2899, 2999, 3099]
set_option maxRecDepth 10000 in
set_option maxHeartbeats 4000000 in
theorem fr_f41_begin_24_L24 (s : (Int32 × (Nat → Nat → Int32))) : yF (f41_begin_24_L24 s) (fun y => match y with
    | .inl x => yfr w_f41_begin_24_L24 s.2 x.2
    | .inr x => yfr w_f41_begin_24_L24 s.2 x.2) := by
  unfold f41_begin_24_L24
  have h0 : yfr w_f41_begin_24_L24 s.2 s.2 := yfr_refl _
  repeat' (first
    | with_reducible refine yfr_zu ?_ ?_
    | with_reducible refine yfr_zcp (fun _ => rfl) ?_
    | with_reducible assumption
    | with_reducible exact yfr_refl _
    | exact (rfl : (_ : Bool) = true)
    | with_reducible exact yF_none
    | with_reducible refine yF_some ?_
    | exact yrow0 (by assumption) ⟨rfl, rfl, rfl, rfl⟩
    | with_reducible refine yF_bif ?_
    | with_reducible refine yF_ite ?_ ?_
    | with_reducible refine yF_bind0 ?_
    | with_reducible intro _
    | dsimp only)
theorem frl_f41_begin_24_L24  (n : Nat) (s : (Int32 × (Nat → Nat → Int32))) : yF (zloop (f41_begin_24_L24 ) n s) (fun x => yfr w_f41_begin_24_L24 s.2 x.2) :=
  yF_loop (R := fun a b => yfr w_f41_begin_24_L24 a.2 b.2) (fun _ => yfr_refl _) (fun a b c h1 h2 => yfr_trans a.2 b.2 c.2 h1 h2) (fun s y hy => by
    have h := fr_f41_begin_24_L24 s y hy
    rcases y with y | y
    · exact h
    · exact h) n s
def w_f41_begin_24_L61 : List Nat := [3299]
set_option maxRecDepth 10000 in
set_option maxHeartbeats 4000000 in
theorem fr_f41_begin_24_L61 (s : (Int32 × (Nat → Nat → Int32))) : yF (f41_begin_24_L61 s) (fun y => match y with
    | .inl x => yfr w_f41_begin_24_L61 s.2 x.2
    | .inr x => yfr w_f41_begin_24_L61 s.2 x.2) := by
  unfold f41_begin_24_L61
  have h0 : yfr w_f41_begin_24_L61 s.2 s.2 := yfr_refl _
  repeat' (first
    | with_reducible refine yfr_zu ?_ ?_
    | with_reducible refine yfr_zcp (fun _ => rfl) ?_
    | with_reducible assumption
    | with_reducible exact yfr_refl _
    | exact (rfl : (_ : Bool) = true)
    | with_reducible exact yF_none
    | with_reducible refine yF_some ?_
    | exact yrow0 (by assumption) ⟨rfl, rfl, rfl, rfl⟩
    | with_reducible refine yF_bif ?_
    | with_reducible refine yF_ite ?_ ?_
    | with_reducible refine yF_bind0 ?_
    | with_reducible intro _
    | dsimp only)
theorem frl_f41_begin_24_L61  (n : Nat) (s : (Int32 × (Nat → Nat → Int32))) : yF (zloop (f41_begin_24_L61 ) n s) (fun x => yfr w_f41_begin_24_L61 s.2 x.2) :=
  yF_loop (R := fun a b => yfr w_f41_begin_24_L61 a.2 b.2) (fun _ => yfr_refl _) (fun a b c h1 h2 => yfr_trans a.2 b.2 c.2 h1 h2) (fun s y hy => by
    have h := fr_f41_begin_24_L61 s y hy
    rcases y with y | y
    · exact h
    · exact h) n s
def w_f41_begin_24_L92 : List Nat := [3199]
set_option maxRecDepth 10000 in
set_option maxHeartbeats 4000000 in
theorem fr_f41_begin_24_L92 (s : (Int32 × (Nat → Nat → Int32))) : yF (f41_begin_24_L92 s) (fun y => match y with
    | .inl x => yfr w_f41_begin_24_L92 s.2 x.2
    | .inr x => yfr w_f41_begin_24_L92 s.2 x.2) := by
  unfold f41_begin_24_L92
  have h0 : yfr w_f41_begin_24_L92 s.2 s.2 := yfr_refl _
  repeat' (first
    | with_reducible refine yfr_zu ?_ ?_
    | with_reducible refine yfr_zcp (fun _ => rfl) ?_
    | with_reducible assumption
    | with_reducible exact yfr_refl _
    | exact (rfl : (_ : Bool) = true)
    | with_reducible exact yF_none
    | with_reducible refine yF_some ?_
    | exact yrow0 (by assumption) ⟨rfl, rfl, rfl, rfl⟩
    | with_reducible refine yF_bif ?_
    | with_reducible refine yF_ite ?_ ?_
    | with_reducible refine yF_bind0 ?_
    | with_reducible intro _
    | dsimp only)
theorem frl_f41_begin_24_L92  (n : Nat) (s : (Int32 × (Nat → Nat → Int32))) : yF (zloop (f41_begin_24_L92 ) n s) (fun x => yfr w_f41_begin_24_L92 s.2 x.2) :=
  yF_loop (R := fun a b => yfr w_f41_begin_24_L92 a.2 b.2) (fun _ => yfr_refl _) (fun a b c h1 h2 => yfr_trans a.2 b.2 c.2 h1 h2) (fun s y hy => by
    have h := fr_f41_begin_24_L92 s y hy
    rcases y with y | y
    · exact h
    · exact h) n s
def w_f41_begin_24_L112 : List Nat := [2899, 3199]
set_option maxRecDepth 10000 in
set_option maxHeartbeats 4000000 in
theorem fr_f41_begin_24_L112 (s : (Int32 × (Nat → Nat → Int32))) : yF (f41_begin_24_L112 s) (fun y => match y with
    | .inl x => yfr w_f41_begin_24_L112 s.2 x.2
    | .inr x => yfr w_f41_begin_24_L112 s.2 x.2) := by
  unfold f41_begin_24_L112
  have h0 : yfr w_f41_begin_24_L112 s.2 s.2 := yfr_refl _
  repeat' (first
    | with_reducible refine yfr_zu ?_ ?_
    | with_reducible refine yfr_zcp (fun _ => rfl) ?_
    | with_reducible assumption
    | with_reducible exact yfr_refl _
    | exact (rfl : (_ : Bool) = true)
    | with_reducible exact yF_none
    | with_reducible refine yF_some ?_
    | exact yrow0 (by assumption) ⟨rfl, rfl, rfl, rfl⟩
    | with_reducible refine yF_bif ?_
    | with_reducible refine yF_ite ?_ ?_
    | with_reducible refine yF_bind0 ?_
    | with_reducible intro _
    | dsimp only)
theorem frl_f41_begin_24_L112  (n : Nat) (s : (Int32 × (Nat → Nat → Int32))) : yF (zloop (f41_begin_24_L112 ) n s) (fun x => yfr w_f41_begin_24_L112 s.2 x.2) :=
  yF_loop (R := fun a b => yfr w_f41_begin_24_L112 a.2 b.2) (fun _ => yfr_refl _) (fun a b c h1 h2 => yfr_trans a.2 b.2 c.2 h1 h2) (fun s y hy => by
    have h := fr_f41_begin_24_L112 s y hy
    rcases y with y | y
    · exact h
    · exact h) n s
def w_f41_begin_24 : List Nat := [2413, 2414, 2899, 2999, 3099, 3199, 3299]
set_option maxRecDepth 10000 in
set_option maxHeartbeats 4000000 in
theorem fr_f41_begin_24 (I : (Nat → Nat → Int32)) : yF (f41_begin_24 I) (fun x => yfr w_f41_begin_24 I x) := by
  unfold f41_begin_24
  have h0 : yfr w_f41_begin_24 I I := yfr_refl _
  repeat' (first
    | with_reducible refine yfr_zu ?_ ?_
    | with_reducible refine yfr_zcp (fun _ => rfl) ?_
    | with_reducible assumption
    | with_reducible exact yfr_refl _
    | exact (rfl : (_ : Bool) = true)
    | with_reducible exact yF_none
    | with_reducible refine yF_some ?_
    | exact yrow0 (by assumption) ⟨rfl, rfl, rfl, rfl⟩
    | with_reducible refine yF_bif ?_
    | with_reducible refine yF_ite ?_ ?_
    | with_reducible refine yF_bindI (V := w_f41_begin_24) (I0 := I) (frl_f41_begin_24_L24  _ _) ?_ ?_ ?_
    | with_reducible refine yF_bindI (V := w_f41_begin_24) (I0 := I) (frl_f41_begin_24_L61  _ _) ?_ ?_ ?_
    | with_reducible refine yF_bindI (V := w_f41_begin_24) (I0 := I) (frl_f41_begin_24_L92  _ _) ?_ ?_ ?_
    | with_reducible refine yF_bindI (V := w_f41_begin_24) (I0 := I) (frl_f41_begin_24_L112  _ _) ?_ ?_ ?_
    | with_reducible refine yF_bind0 ?_
    | with_reducible intro _
    | dsimp only)
def w_f42_see_24_L2 : List Nat := [3499]
set_option maxRecDepth 10000 in
set_option maxHeartbeats 4000000 in
theorem fr_f42_see_24_L2 (v1 : Int32) (s : (Int32 × (Nat → Nat → Int32))) : yF (f42_see_24_L2 v1 s) (fun y => match y with
    | .inl x => yfr w_f42_see_24_L2 s.2 x.2
    | .inr x => yfr w_f42_see_24_L2 s.2 x.2) := by
  unfold f42_see_24_L2
  have h0 : yfr w_f42_see_24_L2 s.2 s.2 := yfr_refl _
  repeat' (first
    | with_reducible refine yfr_zu ?_ ?_
    | with_reducible refine yfr_zcp (fun _ => rfl) ?_
    | with_reducible assumption
    | with_reducible exact yfr_refl _
    | exact (rfl : (_ : Bool) = true)
    | with_reducible exact yF_none
    | with_reducible refine yF_some ?_
    | exact yrow0 (by assumption) ⟨rfl, rfl, rfl, rfl⟩
    | with_reducible refine yF_bif ?_
    | with_reducible refine yF_ite ?_ ?_
    | with_reducible refine yF_bind0 ?_
    | with_reducible intro _
    | dsimp only)
theorem frl_f42_see_24_L2 (v1 : Int32) (n : Nat) (s : (Int32 × (Nat → Nat → Int32))) : yF (zloop (f42_see_24_L2 v1) n s) (fun x => yfr w_f42_see_24_L2 s.2 x.2) :=
  yF_loop (R := fun a b => yfr w_f42_see_24_L2 a.2 b.2) (fun _ => yfr_refl _) (fun a b c h1 h2 => yfr_trans a.2 b.2 c.2 h1 h2) (fun s y hy => by
    have h := fr_f42_see_24_L2 v1 s y hy
    rcases y with y | y
    · exact h
    · exact h) n s
def w_f42_see_24 : List Nat := [2412, 3499, 3699]
set_option maxRecDepth 10000 in
set_option maxHeartbeats 4000000 in
theorem fr_f42_see_24 (v1 : Int32) (I : (Nat → Nat → Int32)) : yF (f42_see_24 v1 I) (fun x => yfr w_f42_see_24 I x) := by
  unfold f42_see_24
  have h0 : yfr w_f42_see_24 I I := yfr_refl _
  repeat' (first
    | with_reducible refine yfr_zu ?_ ?_
    | with_reducible refine yfr_zcp (fun _ => rfl) ?_
    | with_reducible assumption
    | with_reducible exact yfr_refl _
    | exact (rfl : (_ : Bool) = true)
    | with_reducible exact yF_none
    | with_reducible refine yF_some ?_
    | exact yrow0 (by assumption) ⟨rfl, rfl, rfl, rfl⟩
    | with_reducible refine yF_bif ?_
    | with_reducible refine yF_ite ?_ ?_
    | with_reducible refine yF_bindI (V := w_f42_see_24) (I0 := I) (frl_f42_see_24_L2 _ _ _) ?_ ?_ ?_
    | with_reducible refine yF_bind0 ?_
    | with_reducible intro _
    | dsimp only)
def w_f44_arrive_24_L15 : List Nat := [2899, 2999, 3199]
set_option maxRecDepth 10000 in
set_option maxHeartbeats 4000000 in
theorem fr_f44_arrive_24_L15 (v1 : Int32) (v2 : Int32) (s : (Int32 × (Nat → Nat → Int32))) : yF (f44_arrive_24_L15 v1 v2 s) (fun y => match y with
    | .inl x => yfr w_f44_arrive_24_L15 s.2 x.2
    | .inr x => yfr w_f44_arrive_24_L15 s.2 x.2) := by
  unfold f44_arrive_24_L15
  have h0 : yfr w_f44_arrive_24_L15 s.2 s.2 := yfr_refl _
  repeat' (first
    | with_reducible refine yfr_zu ?_ ?_
    | with_reducible refine yfr_zcp (fun _ => rfl) ?_
    | with_reducible assumption
    | with_reducible exact yfr_refl _
    | exact (rfl : (_ : Bool) = true)
    | with_reducible exact yF_none
    | with_reducible refine yF_some ?_
    | exact yrow0 (by assumption) ⟨rfl, rfl, rfl, rfl⟩
    | with_reducible refine yF_bif ?_
    | with_reducible refine yF_ite ?_ ?_
    | with_reducible refine yF_bind0 ?_
    | with_reducible intro _
    | dsimp only)
theorem frl_f44_arrive_24_L15 (v1 : Int32) (v2 : Int32) (n : Nat) (s : (Int32 × (Nat → Nat → Int32))) : yF (zloop (f44_arrive_24_L15 v1 v2) n s) (fun x => yfr w_f44_arrive_24_L15 s.2 x.2) :=
  yF_loop (R := fun a b => yfr w_f44_arrive_24_L15 a.2 b.2) (fun _ => yfr_refl _) (fun a b c h1 h2 => yfr_trans a.2 b.2 c.2 h1 h2) (fun s y hy => by
    have h := fr_f44_arrive_24_L15 v1 v2 s y hy
    rcases y with y | y
    · exact h
    · exact h) n s
def w_f44_arrive_24_L2 : List Nat := [2899, 2999, 3199]
set_option maxRecDepth 10000 in
set_option maxHeartbeats 4000000 in
theorem fr_f44_arrive_24_L2 (v1 : Int32) (s : (Int32 × (Nat → Nat → Int32))) : yF (f44_arrive_24_L2 v1 s) (fun y => match y with
    | .inl x => yfr w_f44_arrive_24_L2 s.2 x.2
    | .inr x => yfr w_f44_arrive_24_L2 s.2 x.2) := by
  unfold f44_arrive_24_L2
  have h0 : yfr w_f44_arrive_24_L2 s.2 s.2 := yfr_refl _
  repeat' (first
    | with_reducible refine yfr_zu ?_ ?_
    | with_reducible refine yfr_zcp (fun _ => rfl) ?_
    | with_reducible assumption
    | with_reducible exact yfr_refl _
    | exact (rfl : (_ : Bool) = true)
    | with_reducible exact yF_none
    | with_reducible refine yF_some ?_
    | exact yrow0 (by assumption) ⟨rfl, rfl, rfl, rfl⟩
    | with_reducible refine yF_bif ?_
    | with_reducible refine yF_ite ?_ ?_
    | with_reducible refine yF_bindI (V := w_f44_arrive_24_L2) (I0 := s.2) (frl_f44_arrive_24_L15 _ _ _ _) ?_ ?_ ?_
    | with_reducible refine yF_bind0 ?_
    | with_reducible intro _
    | dsimp only)
theorem frl_f44_arrive_24_L2 (v1 : Int32) (n : Nat) (s : (Int32 × (Nat → Nat → Int32))) : yF (zloop (f44_arrive_24_L2 v1) n s) (fun x => yfr w_f44_arrive_24_L2 s.2 x.2) :=
  yF_loop (R := fun a b => yfr w_f44_arrive_24_L2 a.2 b.2) (fun _ => yfr_refl _) (fun a b c h1 h2 => yfr_trans a.2 b.2 c.2 h1 h2) (fun s y hy => by
    have h := fr_f44_arrive_24_L2 v1 s y hy
    rcases y with y | y
    · exact h
    · exact h) n s
def w_f44_arrive_24 : List Nat := [2899, 2999, 3199]
set_option maxRecDepth 10000 in
set_option maxHeartbeats 4000000 in
theorem fr_f44_arrive_24 (v1 : Int32) (I : (Nat → Nat → Int32)) : yF (f44_arrive_24 v1 I) (fun x => yfr w_f44_arrive_24 I x) := by
  unfold f44_arrive_24
  have h0 : yfr w_f44_arrive_24 I I := yfr_refl _
  repeat' (first
    | with_reducible refine yfr_zu ?_ ?_
    | with_reducible refine yfr_zcp (fun _ => rfl) ?_
    | with_reducible assumption
    | with_reducible exact yfr_refl _
    | exact (rfl : (_ : Bool) = true)
    | with_reducible exact yF_none
    | with_reducible refine yF_some ?_
    | exact yrow0 (by assumption) ⟨rfl, rfl, rfl, rfl⟩
    | with_reducible refine yF_bif ?_
    | with_reducible refine yF_ite ?_ ?_
    | with_reducible refine yF_bindI (V := w_f44_arrive_24) (I0 := I) (frl_f44_arrive_24_L2 _ _ _) ?_ ?_ ?_
    | with_reducible refine yF_bind0 ?_
    | with_reducible intro _
    | dsimp only)
def w_f34_pop : List Nat := [1505]
set_option maxRecDepth 10000 in
set_option maxHeartbeats 4000000 in
theorem fr_f34_pop (I : (Nat → Nat → Int32)) : yF (f34_pop I) (fun x => yfr w_f34_pop I x.2) := by
  unfold f34_pop
  have h0 : yfr w_f34_pop I I := yfr_refl _
  repeat' (first
    | with_reducible refine yfr_zu ?_ ?_
    | with_reducible refine yfr_zcp (fun _ => rfl) ?_
    | with_reducible assumption
    | with_reducible exact yfr_refl _
    | exact (rfl : (_ : Bool) = true)
    | with_reducible exact yF_none
    | with_reducible refine yF_some ?_
    | exact yrow0 (by assumption) ⟨rfl, rfl, rfl, rfl⟩
    | with_reducible refine yF_bif ?_
    | with_reducible refine yF_ite ?_ ?_
    | with_reducible refine yF_bind0 ?_
    | with_reducible intro _
    | dsimp only)
def w_f33_push : List Nat := [1505, 2399]
set_option maxRecDepth 10000 in
set_option maxHeartbeats 4000000 in
theorem fr_f33_push (v1 : Int32) (I : (Nat → Nat → Int32)) : yF (f33_push v1 I) (fun x => yfr w_f33_push I x) := by
  unfold f33_push
  have h0 : yfr w_f33_push I I := yfr_refl _
  repeat' (first
    | with_reducible refine yfr_zu ?_ ?_
    | with_reducible refine yfr_zcp (fun _ => rfl) ?_
    | with_reducible assumption
    | with_reducible exact yfr_refl _
    | exact (rfl : (_ : Bool) = true)
    | with_reducible exact yF_none
    | with_reducible refine yF_some ?_
    | exact yrow0 (by assumption) ⟨rfl, rfl, rfl, rfl⟩
    | with_reducible refine yF_bif ?_
    | with_reducible refine yF_ite ?_ ?_
    | with_reducible refine yF_bind0 ?_
    | with_reducible intro _
    | dsimp only)
def w_f31_passesLine_15_36 : List Nat := [1505, 2399]
set_option maxRecDepth 10000 in
set_option maxHeartbeats 4000000 in
theorem fr_f31_passesLine_15_36 (v1 : Int32) (I : (Nat → Nat → Int32)) : yF (f31_passesLine_15_36 v1 I) (fun x => yfr w_f31_passesLine_15_36 I x.2) := by
  unfold f31_passesLine_15_36
  have h0 : yfr w_f31_passesLine_15_36 I I := yfr_refl _
  repeat' (first
    | with_reducible refine yfr_zu ?_ ?_
    | with_reducible refine yfr_zcp (fun _ => rfl) ?_
    | with_reducible assumption
    | with_reducible exact yfr_refl _
    | exact (rfl : (_ : Bool) = true)
    | with_reducible exact yF_none
    | with_reducible refine yF_some ?_
    | exact yrow0 (by assumption) ⟨rfl, rfl, rfl, rfl⟩
    | with_reducible refine yF_bif ?_
    | with_reducible refine yF_ite ?_ ?_
    | with_reducible refine yF_bindI (V := w_f31_passesLine_15_36) (I0 := I) (fr_f34_pop _) ?_ ?_ ?_
    | with_reducible refine yF_bindI (V := w_f31_passesLine_15_36) (I0 := I) (fr_f33_push _ _) ?_ ?_ ?_
    | with_reducible refine yF_bind0 ?_
    | with_reducible intro _
    | dsimp only)
def w_f30_gives_15_36_L10 : List Nat := [1505, 2399]
set_option maxRecDepth 10000 in
set_option maxHeartbeats 4000000 in
theorem fr_f30_gives_15_36_L10 (v1 : Int32) (s : (Int32 × Int32 × (Nat → Nat → Int32))) : yF (f30_gives_15_36_L10 v1 s) (fun y => match y with
    | .inl x => yfr w_f30_gives_15_36_L10 s.2.2 x.2
    | .inr (.inl x) => yfr w_f30_gives_15_36_L10 s.2.2 x.2.2
    | .inr (.inr x) => yfr w_f30_gives_15_36_L10 s.2.2 x.2.2) := by
  unfold f30_gives_15_36_L10
  have h0 : yfr w_f30_gives_15_36_L10 s.2.2 s.2.2 := yfr_refl _
  repeat' (first
    | with_reducible refine yfr_zu ?_ ?_
    | with_reducible refine yfr_zcp (fun _ => rfl) ?_
    | with_reducible assumption
    | with_reducible exact yfr_refl _
    | exact (rfl : (_ : Bool) = true)
    | with_reducible exact yF_none
    | with_reducible refine yF_some ?_
    | exact yrow0 (by assumption) ⟨rfl, rfl, rfl, rfl⟩
    | with_reducible refine yF_bif ?_
    | with_reducible refine yF_ite ?_ ?_
    | with_reducible refine yF_bindI (V := w_f30_gives_15_36_L10) (I0 := s.2.2) (fr_f34_pop _) ?_ ?_ ?_
    | with_reducible refine yF_bindI (V := w_f30_gives_15_36_L10) (I0 := s.2.2) (fr_f31_passesLine_15_36 _ _) ?_ ?_ ?_
    | with_reducible refine yF_bind0 ?_
    | with_reducible intro _
    | dsimp only)
theorem frl_f30_gives_15_36_L10 (v1 : Int32) (n : Nat) (s : (Int32 × Int32 × (Nat → Nat → Int32))) : yF (zloopR (f30_gives_15_36_L10 v1) n s) (yS (fun x => yfr w_f30_gives_15_36_L10 s.2.2 x.2) (fun x => yfr w_f30_gives_15_36_L10 s.2.2 x.2.2)) :=
  yF_loopR (R := fun a b => yfr w_f30_gives_15_36_L10 a.2.2 b.2.2) (S := fun (a : (Int32 × Int32 × (Nat → Nat → Int32))) (b : (Int32 × (Nat → Nat → Int32))) => yfr w_f30_gives_15_36_L10 a.2.2 b.2) (fun a b c h1 h2 => yfr_trans a.2.2 b.2.2 c.2.2 h1 h2) (fun (a b : (Int32 × Int32 × (Nat → Nat → Int32))) (c : (Int32 × (Nat → Nat → Int32))) h1 h2 => yfr_trans a.2.2 b.2.2 c.2 h1 h2) (fun s y hy => by
    have h := fr_f30_gives_15_36_L10 v1 s y hy
    rcases y with y | y | y
    · exact h
    · exact h
    · exact h) n s
def w_f30_gives_15_36 : List Nat := [1505, 2399]
set_option maxRecDepth 10000 in
set_option maxHeartbeats 4000000 in
theorem fr_f30_gives_15_36 (v1 : Int32) (I : (Nat → Nat → Int32)) : yF (f30_gives_15_36 v1 I) (fun x => yfr w_f30_gives_15_36 I x.2) := by
  unfold f30_gives_15_36
  have h0 : yfr w_f30_gives_15_36 I I := yfr_refl _
  repeat' (first
    | with_reducible refine yfr_zu ?_ ?_
    | with_reducible refine yfr_zcp (fun _ => rfl) ?_
    | with_reducible assumption
    | with_reducible exact yfr_refl _
    | exact (rfl : (_ : Bool) = true)
    | with_reducible exact yF_none
    | with_reducible refine yF_some ?_
    | exact yrow0 (by assumption) ⟨rfl, rfl, rfl, rfl⟩
    | with_reducible refine yF_bif ?_
    | with_reducible refine yF_ite ?_ ?_
    | with_reducible refine yF_zbRI (V := w_f30_gives_15_36) (I0 := I) (frl_f30_gives_15_36_L10 _ _ _) ?_ ?_ ?_ ?_
    | with_reducible refine yF_bind0 ?_
    | with_reducible intro _
    | dsimp only)
def w_f47_aim_24 : List Nat := [1505, 2399, 3699]
set_option maxRecDepth 10000 in
set_option maxHeartbeats 4000000 in
theorem fr_f47_aim_24 (v1 : Int32) (v2 : Int32) (v3 : Int32) (I : (Nat → Nat → Int32)) : yF (f47_aim_24 v1 v2 v3 I) (fun x => yfr w_f47_aim_24 I x.2) := by
  unfold f47_aim_24
  have h0 : yfr w_f47_aim_24 I I := yfr_refl _
  repeat' (first
    | with_reducible refine yfr_zu ?_ ?_
    | with_reducible refine yfr_zcp (fun _ => rfl) ?_
    | with_reducible assumption
    | with_reducible exact yfr_refl _
    | exact (rfl : (_ : Bool) = true)
    | with_reducible exact yF_none
    | with_reducible refine yF_some ?_
    | exact yrow0 (by assumption) ⟨rfl, rfl, rfl, rfl⟩
    | with_reducible refine yF_bif ?_
    | with_reducible refine yF_ite ?_ ?_
    | with_reducible refine yF_bindI (V := w_f47_aim_24) (I0 := I) (fr_f30_gives_15_36 _ _) ?_ ?_ ?_
    | with_reducible refine yF_bind0 ?_
    | with_reducible intro _
    | dsimp only)
def w_f46_setOut_24 : List Nat := [1505, 2399, 2899, 3199, 3299, 3599, 3699]
set_option maxRecDepth 10000 in
set_option maxHeartbeats 4000000 in
theorem fr_f46_setOut_24 (v1 : Int32) (v2 : Int32) (v3 : Int32) (I : (Nat → Nat → Int32)) : yF (f46_setOut_24 v1 v2 v3 I) (fun x => yfr w_f46_setOut_24 I x) := by
  unfold f46_setOut_24
  have h0 : yfr w_f46_setOut_24 I I := yfr_refl _
  repeat' (first
    | with_reducible refine yfr_zu ?_ ?_
    | with_reducible refine yfr_zcp (fun _ => rfl) ?_
    | with_reducible assumption
    | with_reducible exact yfr_refl _
    | exact (rfl : (_ : Bool) = true)
    | with_reducible exact yF_none
    | with_reducible refine yF_some ?_
    | exact yrow0 (by assumption) ⟨rfl, rfl, rfl, rfl⟩
    | with_reducible refine yF_bif ?_
    | with_reducible refine yF_ite ?_ ?_
    | with_reducible refine yF_bindI (V := w_f46_setOut_24) (I0 := I) (fr_f47_aim_24 _ _ _ _) ?_ ?_ ?_
    | with_reducible refine yF_bind0 ?_
    | with_reducible intro _
    | dsimp only)
def w_f45_go_24_L2 : List Nat := [3599]
set_option maxRecDepth 10000 in
set_option maxHeartbeats 4000000 in
theorem fr_f45_go_24_L2 (v1 : Int32) (s : (Int32 × (Nat → Nat → Int32))) : yF (f45_go_24_L2 v1 s) (fun y => match y with
    | .inl x => yfr w_f45_go_24_L2 s.2 x.2
    | .inr x => yfr w_f45_go_24_L2 s.2 x.2) := by
  unfold f45_go_24_L2
  have h0 : yfr w_f45_go_24_L2 s.2 s.2 := yfr_refl _
  repeat' (first
    | with_reducible refine yfr_zu ?_ ?_
    | with_reducible refine yfr_zcp (fun _ => rfl) ?_
    | with_reducible assumption
    | with_reducible exact yfr_refl _
    | exact (rfl : (_ : Bool) = true)
    | with_reducible exact yF_none
    | with_reducible refine yF_some ?_
    | exact yrow0 (by assumption) ⟨rfl, rfl, rfl, rfl⟩
    | with_reducible refine yF_bif ?_
    | with_reducible refine yF_ite ?_ ?_
    | with_reducible refine yF_bind0 ?_
    | with_reducible intro _
    | dsimp only)
theorem frl_f45_go_24_L2 (v1 : Int32) (n : Nat) (s : (Int32 × (Nat → Nat → Int32))) : yF (zloop (f45_go_24_L2 v1) n s) (fun x => yfr w_f45_go_24_L2 s.2 x.2) :=
  yF_loop (R := fun a b => yfr w_f45_go_24_L2 a.2 b.2) (fun _ => yfr_refl _) (fun a b c h1 h2 => yfr_trans a.2 b.2 c.2 h1 h2) (fun s y hy => by
    have h := fr_f45_go_24_L2 v1 s y hy
    rcases y with y | y
    · exact h
    · exact h) n s
def w_f45_go_24_L70 : List Nat := [1505, 2399, 2899, 3199, 3299, 3599, 3699]
set_option maxRecDepth 10000 in
set_option maxHeartbeats 4000000 in
theorem fr_f45_go_24_L70 (v1 : Int32) (v2 : Int32) (s : (Int32 × (Nat → Nat → Int32))) : yF (f45_go_24_L70 v1 v2 s) (fun y => match y with
    | .inl x => yfr w_f45_go_24_L70 s.2 x.2
    | .inr x => yfr w_f45_go_24_L70 s.2 x.2) := by
  unfold f45_go_24_L70
  have h0 : yfr w_f45_go_24_L70 s.2 s.2 := yfr_refl _
  repeat' (first
    | with_reducible refine yfr_zu ?_ ?_
    | with_reducible refine yfr_zcp (fun _ => rfl) ?_
    | with_reducible assumption
    | with_reducible exact yfr_refl _
    | exact (rfl : (_ : Bool) = true)
    | with_reducible exact yF_none
    | with_reducible refine yF_some ?_
    | exact yrow0 (by assumption) ⟨rfl, rfl, rfl, rfl⟩
    | with_reducible refine yF_bif ?_
    | with_reducible refine yF_ite ?_ ?_
    | with_reducible refine yF_bindI (V := w_f45_go_24_L70) (I0 := s.2) (fr_f46_setOut_24 _ _ _ _) ?_ ?_ ?_
    | with_reducible refine yF_bind0 ?_
    | with_reducible intro _
    | dsimp only)
theorem frl_f45_go_24_L70 (v1 : Int32) (v2 : Int32) (n : Nat) (s : (Int32 × (Nat → Nat → Int32))) : yF (zloop (f45_go_24_L70 v1 v2) n s) (fun x => yfr w_f45_go_24_L70 s.2 x.2) :=
  yF_loop (R := fun a b => yfr w_f45_go_24_L70 a.2 b.2) (fun _ => yfr_refl _) (fun a b c h1 h2 => yfr_trans a.2 b.2 c.2 h1 h2) (fun s y hy => by
    have h := fr_f45_go_24_L70 v1 v2 s y hy
    rcases y with y | y
    · exact h
    · exact h) n s
def w_f45_go_24_L57 : List Nat := [1505, 2399, 2899, 3199, 3299, 3599, 3699]
set_option maxRecDepth 10000 in
set_option maxHeartbeats 4000000 in
theorem fr_f45_go_24_L57 (v1 : Int32) (s : (Int32 × (Nat → Nat → Int32))) : yF (f45_go_24_L57 v1 s) (fun y => match y with
    | .inl x => yfr w_f45_go_24_L57 s.2 x.2
    | .inr x => yfr w_f45_go_24_L57 s.2 x.2) := by
  unfold f45_go_24_L57
  have h0 : yfr w_f45_go_24_L57 s.2 s.2 := yfr_refl _
  repeat' (first
    | with_reducible refine yfr_zu ?_ ?_
    | with_reducible refine yfr_zcp (fun _ => rfl) ?_
    | with_reducible assumption
    | with_reducible exact yfr_refl _
    | exact (rfl : (_ : Bool) = true)
    | with_reducible exact yF_none
    | with_reducible refine yF_some ?_
    | exact yrow0 (by assumption) ⟨rfl, rfl, rfl, rfl⟩
    | with_reducible refine yF_bif ?_
    | with_reducible refine yF_ite ?_ ?_
    | with_reducible refine yF_bindI (V := w_f45_go_24_L57) (I0 := s.2) (frl_f45_go_24_L70 _ _ _ _) ?_ ?_ ?_
    | with_reducible refine yF_bind0 ?_
    | with_reducible intro _
    | dsimp only)
theorem frl_f45_go_24_L57 (v1 : Int32) (n : Nat) (s : (Int32 × (Nat → Nat → Int32))) : yF (zloop (f45_go_24_L57 v1) n s) (fun x => yfr w_f45_go_24_L57 s.2 x.2) :=
  yF_loop (R := fun a b => yfr w_f45_go_24_L57 a.2 b.2) (fun _ => yfr_refl _) (fun a b c h1 h2 => yfr_trans a.2 b.2 c.2 h1 h2) (fun s y hy => by
    have h := fr_f45_go_24_L57 v1 s y hy
    rcases y with y | y
    · exact h
    · exact h) n s
def w_f45_go_24 : List Nat := [1505, 2399, 2899, 3199, 3299, 3599, 3699]
set_option maxRecDepth 10000 in
set_option maxHeartbeats 4000000 in
theorem fr_f45_go_24 (v1 : Int32) (I : (Nat → Nat → Int32)) : yF (f45_go_24 v1 I) (fun x => yfr w_f45_go_24 I x) := by
  unfold f45_go_24
  have h0 : yfr w_f45_go_24 I I := yfr_refl _
  repeat' (first
    | with_reducible refine yfr_zu ?_ ?_
    | with_reducible refine yfr_zcp (fun _ => rfl) ?_
    | with_reducible assumption
    | with_reducible exact yfr_refl _
    | exact (rfl : (_ : Bool) = true)
    | with_reducible exact yF_none
    | with_reducible refine yF_some ?_
    | exact yrow0 (by assumption) ⟨rfl, rfl, rfl, rfl⟩
    | with_reducible refine yF_bif ?_
    | with_reducible refine yF_ite ?_ ?_
    | with_reducible refine yF_bindI (V := w_f45_go_24) (I0 := I) (frl_f45_go_24_L2 _ _ _) ?_ ?_ ?_
    | with_reducible refine yF_bindI (V := w_f45_go_24) (I0 := I) (frl_f45_go_24_L57 _ _ _) ?_ ?_ ?_
    | with_reducible refine yF_bind0 ?_
    | with_reducible intro _
    | dsimp only)
def w_f48_end_24_L39 : List Nat := [3099]
set_option maxRecDepth 10000 in
set_option maxHeartbeats 4000000 in
theorem fr_f48_end_24_L39 (s : (Int32 × (Nat → Nat → Int32))) : yF (f48_end_24_L39 s) (fun y => match y with
    | .inl x => yfr w_f48_end_24_L39 s.2 x.2
    | .inr x => yfr w_f48_end_24_L39 s.2 x.2) := by
  unfold f48_end_24_L39
  have h0 : yfr w_f48_end_24_L39 s.2 s.2 := yfr_refl _
  repeat' (first
    | with_reducible refine yfr_zu ?_ ?_
    | with_reducible refine yfr_zcp (fun _ => rfl) ?_
    | with_reducible assumption
    | with_reducible exact yfr_refl _
    | exact (rfl : (_ : Bool) = true)
    | with_reducible exact yF_none
    | with_reducible refine yF_some ?_
    | exact yrow0 (by assumption) ⟨rfl, rfl, rfl, rfl⟩
    | with_reducible refine yF_bif ?_
    | with_reducible refine yF_ite ?_ ?_
    | with_reducible refine yF_bind0 ?_
    | with_reducible intro _
    | dsimp only)
theorem frl_f48_end_24_L39  (n : Nat) (s : (Int32 × (Nat → Nat → Int32))) : yF (zloop (f48_end_24_L39 ) n s) (fun x => yfr w_f48_end_24_L39 s.2 x.2) :=
  yF_loop (R := fun a b => yfr w_f48_end_24_L39 a.2 b.2) (fun _ => yfr_refl _) (fun a b c h1 h2 => yfr_trans a.2 b.2 c.2 h1 h2) (fun s y hy => by
    have h := fr_f48_end_24_L39 s y hy
    rcases y with y | y
    · exact h
    · exact h) n s
def w_f48_end_24 : List Nat := [3099, 3399]
set_option maxRecDepth 10000 in
set_option maxHeartbeats 4000000 in
theorem fr_f48_end_24 (v1 : Int32) (I : (Nat → Nat → Int32)) : yF (f48_end_24 v1 I) (fun x => yfr w_f48_end_24 I x) := by
  unfold f48_end_24
  have h0 : yfr w_f48_end_24 I I := yfr_refl _
  repeat' (first
    | with_reducible refine yfr_zu ?_ ?_
    | with_reducible refine yfr_zcp (fun _ => rfl) ?_
    | with_reducible assumption
    | with_reducible exact yfr_refl _
    | exact (rfl : (_ : Bool) = true)
    | with_reducible exact yF_none
    | with_reducible refine yF_some ?_
    | exact yrow0 (by assumption) ⟨rfl, rfl, rfl, rfl⟩
    | with_reducible refine yF_bif ?_
    | with_reducible refine yF_ite ?_ ?_
    | with_reducible refine yF_bindI (V := w_f48_end_24) (I0 := I) (frl_f48_end_24_L39  _ _) ?_ ?_ ?_
    | with_reducible refine yF_bind0 ?_
    | with_reducible intro _
    | dsimp only)
def w_f49_tally_24_L56 : List Nat := [3799]
set_option maxRecDepth 10000 in
set_option maxHeartbeats 4000000 in
theorem fr_f49_tally_24_L56 (v1 : Int32) (s : (Int32 × (Nat → Nat → Int32))) : yF (f49_tally_24_L56 v1 s) (fun y => match y with
    | .inl x => yfr w_f49_tally_24_L56 s.2 x.2
    | .inr x => yfr w_f49_tally_24_L56 s.2 x.2) := by
  unfold f49_tally_24_L56
  have h0 : yfr w_f49_tally_24_L56 s.2 s.2 := yfr_refl _
  repeat' (first
    | with_reducible refine yfr_zu ?_ ?_
    | with_reducible refine yfr_zcp (fun _ => rfl) ?_
    | with_reducible assumption
    | with_reducible exact yfr_refl _
    | exact (rfl : (_ : Bool) = true)
    | with_reducible exact yF_none
    | with_reducible refine yF_some ?_
    | exact yrow0 (by assumption) ⟨rfl, rfl, rfl, rfl⟩
    | with_reducible refine yF_bif ?_
    | with_reducible refine yF_ite ?_ ?_
    | with_reducible refine yF_bind0 ?_
    | with_reducible intro _
    | dsimp only)
theorem frl_f49_tally_24_L56 (v1 : Int32) (n : Nat) (s : (Int32 × (Nat → Nat → Int32))) : yF (zloop (f49_tally_24_L56 v1) n s) (fun x => yfr w_f49_tally_24_L56 s.2 x.2) :=
  yF_loop (R := fun a b => yfr w_f49_tally_24_L56 a.2 b.2) (fun _ => yfr_refl _) (fun a b c h1 h2 => yfr_trans a.2 b.2 c.2 h1 h2) (fun s y hy => by
    have h := fr_f49_tally_24_L56 v1 s y hy
    rcases y with y | y
    · exact h
    · exact h) n s
def w_f49_tally_24_L21 : List Nat := [2419, 3799]
set_option maxRecDepth 10000 in
set_option maxHeartbeats 4000000 in
theorem fr_f49_tally_24_L21 (s : (Int32 × (Nat → Nat → Int32))) : yF (f49_tally_24_L21 s) (fun y => match y with
    | .inl x => yfr w_f49_tally_24_L21 s.2 x.2
    | .inr x => yfr w_f49_tally_24_L21 s.2 x.2) := by
  unfold f49_tally_24_L21
  have h0 : yfr w_f49_tally_24_L21 s.2 s.2 := yfr_refl _
  repeat' (first
    | with_reducible refine yfr_zu ?_ ?_
    | with_reducible refine yfr_zcp (fun _ => rfl) ?_
    | with_reducible assumption
    | with_reducible exact yfr_refl _
    | exact (rfl : (_ : Bool) = true)
    | with_reducible exact yF_none
    | with_reducible refine yF_some ?_
    | exact yrow0 (by assumption) ⟨rfl, rfl, rfl, rfl⟩
    | with_reducible refine yF_bif ?_
    | with_reducible refine yF_ite ?_ ?_
    | with_reducible refine yF_bindI (V := w_f49_tally_24_L21) (I0 := s.2) (frl_f49_tally_24_L56 _ _ _) ?_ ?_ ?_
    | with_reducible refine yF_bind0 ?_
    | with_reducible intro _
    | dsimp only)
theorem frl_f49_tally_24_L21  (n : Nat) (s : (Int32 × (Nat → Nat → Int32))) : yF (zloop (f49_tally_24_L21 ) n s) (fun x => yfr w_f49_tally_24_L21 s.2 x.2) :=
  yF_loop (R := fun a b => yfr w_f49_tally_24_L21 a.2 b.2) (fun _ => yfr_refl _) (fun a b c h1 h2 => yfr_trans a.2 b.2 c.2 h1 h2) (fun s y hy => by
    have h := fr_f49_tally_24_L21 s y hy
    rcases y with y | y
    · exact h
    · exact h) n s
