def f153_twoOf (v0 : Int32) (v1 : Int32) (v2 : Int32) : Option Int32 :=
  if v0.toInt = 37 then
    if v2 = 0 then
      some 0
    else
      if v2 = (-1) then
        some 0
      else
        if (v2 : Int32) = 0 then none else
        some (v1 - v1 / v2 * v2)
  else
  if v0.toInt = 38 then
    if v1 = 0 then
      some 0
    else
      if v2 = 0 then
        some 0
      else
        some 1
  else
  if v0.toInt = 39 then
    if v1 = 0 then
      if v2 = 0 then
        some 0
      else
        some 1
    else
      some 1
  else
  if v0.toInt = 40 then
    if v1 = 0 then
      if v2 = 0 then
        some 0
      else
        some 1
    else
      some 1
  else
  if v0.toInt = 41 then
    if v1 = 0 then
      if v2 = 0 then
        some 0
      else
        some 1
    else
      some 1
  else
  if v0.toInt = 42 then
    some (v1 * v2)
  else
  if v0.toInt = 43 then
    some (v1 + v2)
  else
  if v0.toInt = 44 then
    if v1 = 0 then
      if v2 = 0 then
        some 0
      else
        some 1
    else
      some 1
  else
  if v0.toInt = 45 then
    some (v1 - v2)
  else
  if v0.toInt = 46 then
    if v1 = 0 then
      if v2 = 0 then
        some 0
      else
        some 1
    else
      some 1
  else
  if v0.toInt = 47 then
    if v2 = 0 then
      some 0
    else
      if v2 = (-1) then
        some (-v1)
      else
        if (v2 : Int32) = 0 then none else
        some (v1 / v2)
  else
  if v0.toInt = 48 then
    if v1 = 0 then
      if v2 = 0 then
        some 0
      else
        some 1
    else
      some 1
  else
  if v0.toInt = 49 then
    if v1 = 0 then
      if v2 = 0 then
        some 0
      else
        some 1
    else
      some 1
  else
  if v0.toInt = 50 then
    if v1 = 0 then
      if v2 = 0 then
        some 0
      else
        some 1
    else
      some 1
  else
  if v0.toInt = 51 then
    if v1 = 0 then
      if v2 = 0 then
        some 0
      else
        some 1
    else
      some 1
  else
  if v0.toInt = 52 then
    if v1 = 0 then
      if v2 = 0 then
        some 0
      else
        some 1
    else
      some 1
  else
  if v0.toInt = 53 then
    if v1 = 0 then
      if v2 = 0 then
        some 0
      else
        some 1
    else
      some 1
  else
  if v0.toInt = 54 then
    if v1 = 0 then
      if v2 = 0 then
        some 0
      else
        some 1
    else
      some 1
  else
  if v0.toInt = 55 then
    if v1 = 0 then
      if v2 = 0 then
        some 0
      else
        some 1
    else
      some 1
  else
  if v0.toInt = 56 then
    if v1 = 0 then
      if v2 = 0 then
        some 0
      else
        some 1
    else
      some 1
  else
  if v0.toInt = 57 then
    if v1 = 0 then
      if v2 = 0 then
        some 0
      else
        some 1
    else
      some 1
  else
  if v0.toInt = 58 then
    if v1 = 0 then
      if v2 = 0 then
        some 0
      else
        some 1
    else
      some 1
  else
  if v0.toInt = 59 then
    if v1 = 0 then
      if v2 = 0 then
        some 0
      else
        some 1
    else
      some 1
  else
  if v0.toInt = 60 then
    if v2 ≤ v1 then
      some 0
    else
      some 1
  else
  if v0.toInt = 61 then
    if v1 = v2 then
      some 1
    else
      some 0
  else
  if v0.toInt = 62 then
    if v1 ≤ v2 then
      some 0
    else
      some 1
  else
  if v1 = 0 then
    if v2 = 0 then
      some 0
    else
      some 1
  else
    some 1
theorem ok_f153_twoOf {X : zX} {d : Nat} (hd : 0 ≤ d) (v0 : Int32) (v1 : Int32) (v2 : Int32) {I : (Nat → Nat → Int32)} {J : (Nat → Nat → Int64)} (t : Int32) (h : f153_twoOf v0 v1 v2 = some t) : zRun X d 153 0 (zent 153 [.int v0, .int v1, .int v2]) [] (SH, I, J) (some (.int t)) (SH, I, J) := by
  unfold f153_twoOf at h
  refine zr_steps 1 (1, [some (.int v0), some (.int v1), some (.int v2)], [.int v0], (SH, I, J)) rfl ?_
  refine zr_one (if v0.toInt = 37 then zN 154 [some (.int v0), some (.int v1), some (.int v2)] [] (SH, I, J) else (if v0.toInt = 38 then zN 204 [some (.int v0), some (.int v1), some (.int v2)] [] (SH, I, J) else (if v0.toInt = 39 then zN 218 [some (.int v0), some (.int v1), some (.int v2)] [] (SH, I, J) else (if v0.toInt = 40 then zN 218 [some (.int v0), some (.int v1), some (.int v2)] [] (SH, I, J) else (if v0.toInt = 41 then zN 218 [some (.int v0), some (.int v1), some (.int v2)] [] (SH, I, J) else (if v0.toInt = 42 then zN 128 [some (.int v0), some (.int v1), some (.int v2)] [] (SH, I, J) else (if v0.toInt = 43 then zN 120 [some (.int v0), some (.int v1), some (.int v2)] [] (SH, I, J) else (if v0.toInt = 44 then zN 218 [some (.int v0), some (.int v1), some (.int v2)] [] (SH, I, J) else (if v0.toInt = 45 then zN 124 [some (.int v0), some (.int v1), some (.int v2)] [] (SH, I, J) else (if v0.toInt = 46 then zN 218 [some (.int v0), some (.int v1), some (.int v2)] [] (SH, I, J) else (if v0.toInt = 47 then zN 132 [some (.int v0), some (.int v1), some (.int v2)] [] (SH, I, J) else (if v0.toInt = 48 then zN 218 [some (.int v0), some (.int v1), some (.int v2)] [] (SH, I, J) else (if v0.toInt = 49 then zN 218 [some (.int v0), some (.int v1), some (.int v2)] [] (SH, I, J) else (if v0.toInt = 50 then zN 218 [some (.int v0), some (.int v1), some (.int v2)] [] (SH, I, J) else (if v0.toInt = 51 then zN 218 [some (.int v0), some (.int v1), some (.int v2)] [] (SH, I, J) else (if v0.toInt = 52 then zN 218 [some (.int v0), some (.int v1), some (.int v2)] [] (SH, I, J) else (if v0.toInt = 53 then zN 218 [some (.int v0), some (.int v1), some (.int v2)] [] (SH, I, J) else (if v0.toInt = 54 then zN 218 [some (.int v0), some (.int v1), some (.int v2)] [] (SH, I, J) else (if v0.toInt = 55 then zN 218 [some (.int v0), some (.int v1), some (.int v2)] [] (SH, I, J) else (if v0.toInt = 56 then zN 218 [some (.int v0), some (.int v1), some (.int v2)] [] (SH, I, J) else (if v0.toInt = 57 then zN 218 [some (.int v0), some (.int v1), some (.int v2)] [] (SH, I, J) else (if v0.toInt = 58 then zN 218 [some (.int v0), some (.int v1), some (.int v2)] [] (SH, I, J) else (if v0.toInt = 59 then zN 218 [some (.int v0), some (.int v1), some (.int v2)] [] (SH, I, J) else (if v0.toInt = 60 then zN 171 [some (.int v0), some (.int v1), some (.int v2)] [] (SH, I, J) else (if v0.toInt = 61 then zN 182 [some (.int v0), some (.int v1), some (.int v2)] [] (SH, I, J) else (if v0.toInt = 62 then zN 193 [some (.int v0), some (.int v1), some (.int v2)] [] (SH, I, J) else zN 218 [some (.int v0), some (.int v1), some (.int v2)] [] (SH, I, J))))))))))))))))))))))))))) rfl ?_
  refine zR_if (fun hc73 => zR_go ?_) (fun hc73 => ?_)
  · rw [if_pos hc73] at h
    refine zr_steps 1 (155, [some (.int v0), some (.int v1), some (.int v2)], [.int v2], (SH, I, J)) rfl ?_
    refine zr_one (if v2 = 0 then zN 163 [some (.int v0), some (.int v1), some (.int v2)] [] (SH, I, J) else zN 158 [some (.int v0), some (.int v1), some (.int v2)] [] (SH, I, J)) rfl (zR_if (fun hc3 => zR_go ?_) (fun hc3 => zR_go ?_))
    · rw [if_pos hc3] at h
      refine zr_steps 2 (170, [some (.int v0), some (.int v1), some (.int v2)], [.int 0], (SH, I, J)) rfl ?_
      have he := Option.some.inj h
      subst he
      exact zr_one (some (.inr (.inr (some (.int 0))))) rfl (zR_ret rfl rfl)
    · rw [if_neg hc3] at h
      refine zr_steps 2 (160, [some (.int v0), some (.int v1), some (.int v2)], [.int (-1), .int v2], (SH, I, J)) rfl ?_
      refine zr_one (if v2 = (-1) then zN 163 [some (.int v0), some (.int v1), some (.int v2)] [] (SH, I, J) else zN 167 [some (.int v0), some (.int v1), some (.int v2)] [] (SH, I, J)) rfl (zR_if (fun hc2 => zR_go ?_) (fun hc2 => zR_go ?_))
      · rw [if_pos hc2] at h
        refine zr_steps 2 (170, [some (.int v0), some (.int v1), some (.int v2)], [.int 0], (SH, I, J)) rfl ?_
        have he := Option.some.inj h
        subst he
        exact zr_one (some (.inr (.inr (some (.int 0))))) rfl (zR_ret rfl rfl)
      · rw [if_neg hc2] at h
        refine zr_steps 2 (169, [some (.int v0), some (.int v1), some (.int v2)], [.int v2, .int v1], (SH, I, J)) rfl ?_
        obtain ⟨hc1, h⟩ := zdivo h
        refine zr_one (if (v2 : Int32) = 0 then none else zN 170 [some (.int v0), some (.int v1), some (.int v2)] [.int (v1 - v1 / v2 * v2)] (SH, I, J)) rfl (zR_div hc1 (zR_go ?_))
        have he := Option.some.inj h
        subst he
        exact zr_one (some (.inr (.inr (some (.int (v1 - v1 / v2 * v2)))))) rfl (zR_ret rfl rfl)
  rw [if_neg hc73] at h
  refine zR_if (fun hc72 => zR_go ?_) (fun hc72 => ?_)
  · rw [if_pos hc72] at h
    refine zr_steps 1 (205, [some (.int v0), some (.int v1), some (.int v2)], [.int v1], (SH, I, J)) rfl ?_
    refine zr_one (if v1 = 0 then zN 216 [some (.int v0), some (.int v1), some (.int v2)] [] (SH, I, J) else zN 208 [some (.int v0), some (.int v1), some (.int v2)] [] (SH, I, J)) rfl (zR_if (fun hc5 => zR_go ?_) (fun hc5 => zR_go ?_))
    · rw [if_pos hc5] at h
      refine zr_steps 1 (217, [some (.int v0), some (.int v1), some (.int v2)], [.int 0], (SH, I, J)) rfl ?_
      have he := Option.some.inj h
      subst he
      exact zr_one (some (.inr (.inr (some (.int 0))))) rfl (zR_ret rfl rfl)
    · rw [if_neg hc5] at h
      refine zr_steps 1 (209, [some (.int v0), some (.int v1), some (.int v2)], [.int v2], (SH, I, J)) rfl ?_
      refine zr_one (if v2 = 0 then zN 216 [some (.int v0), some (.int v1), some (.int v2)] [] (SH, I, J) else zN 212 [some (.int v0), some (.int v1), some (.int v2)] [] (SH, I, J)) rfl (zR_if (fun hc4 => zR_go ?_) (fun hc4 => zR_go ?_))
      · rw [if_pos hc4] at h
        refine zr_steps 1 (217, [some (.int v0), some (.int v1), some (.int v2)], [.int 0], (SH, I, J)) rfl ?_
        have he := Option.some.inj h
        subst he
        exact zr_one (some (.inr (.inr (some (.int 0))))) rfl (zR_ret rfl rfl)
      · rw [if_neg hc4] at h
        refine zr_steps 2 (217, [some (.int v0), some (.int v1), some (.int v2)], [.int 1], (SH, I, J)) rfl ?_
        have he := Option.some.inj h
        subst he
        exact zr_one (some (.inr (.inr (some (.int 1))))) rfl (zR_ret rfl rfl)
  rw [if_neg hc72] at h
  refine zR_if (fun hc71 => zR_go ?_) (fun hc71 => ?_)
  · rw [if_pos hc71] at h
    refine zr_steps 1 (219, [some (.int v0), some (.int v1), some (.int v2)], [.int v1], (SH, I, J)) rfl ?_
    refine zr_one (if v1 = 0 then zN 222 [some (.int v0), some (.int v1), some (.int v2)] [] (SH, I, J) else zN 226 [some (.int v0), some (.int v1), some (.int v2)] [] (SH, I, J)) rfl (zR_if (fun hc7 => zR_go ?_) (fun hc7 => zR_go ?_))
    · rw [if_pos hc7] at h
      refine zr_steps 1 (223, [some (.int v0), some (.int v1), some (.int v2)], [.int v2], (SH, I, J)) rfl ?_
      refine zr_one (if v2 = 0 then zN 230 [some (.int v0), some (.int v1), some (.int v2)] [] (SH, I, J) else zN 226 [some (.int v0), some (.int v1), some (.int v2)] [] (SH, I, J)) rfl (zR_if (fun hc6 => zR_go ?_) (fun hc6 => zR_go ?_))
      · rw [if_pos hc6] at h
        refine zr_steps 1 (231, [some (.int v0), some (.int v1), some (.int v2)], [.int 0], (SH, I, J)) rfl ?_
        have he := Option.some.inj h
        subst he
        exact zr_one (some (.inr (.inr (some (.int 0))))) rfl (zR_ret rfl rfl)
      · rw [if_neg hc6] at h
        refine zr_steps 2 (231, [some (.int v0), some (.int v1), some (.int v2)], [.int 1], (SH, I, J)) rfl ?_
        have he := Option.some.inj h
        subst he
        exact zr_one (some (.inr (.inr (some (.int 1))))) rfl (zR_ret rfl rfl)
    · rw [if_neg hc7] at h
      refine zr_steps 2 (231, [some (.int v0), some (.int v1), some (.int v2)], [.int 1], (SH, I, J)) rfl ?_
      have he := Option.some.inj h
      subst he
      exact zr_one (some (.inr (.inr (some (.int 1))))) rfl (zR_ret rfl rfl)
  rw [if_neg hc71] at h
  refine zR_if (fun hc70 => zR_go ?_) (fun hc70 => ?_)
  · rw [if_pos hc70] at h
    refine zr_steps 1 (219, [some (.int v0), some (.int v1), some (.int v2)], [.int v1], (SH, I, J)) rfl ?_
    refine zr_one (if v1 = 0 then zN 222 [some (.int v0), some (.int v1), some (.int v2)] [] (SH, I, J) else zN 226 [some (.int v0), some (.int v1), some (.int v2)] [] (SH, I, J)) rfl (zR_if (fun hc9 => zR_go ?_) (fun hc9 => zR_go ?_))
    · rw [if_pos hc9] at h
      refine zr_steps 1 (223, [some (.int v0), some (.int v1), some (.int v2)], [.int v2], (SH, I, J)) rfl ?_
      refine zr_one (if v2 = 0 then zN 230 [some (.int v0), some (.int v1), some (.int v2)] [] (SH, I, J) else zN 226 [some (.int v0), some (.int v1), some (.int v2)] [] (SH, I, J)) rfl (zR_if (fun hc8 => zR_go ?_) (fun hc8 => zR_go ?_))
      · rw [if_pos hc8] at h
        refine zr_steps 1 (231, [some (.int v0), some (.int v1), some (.int v2)], [.int 0], (SH, I, J)) rfl ?_
        have he := Option.some.inj h
        subst he
        exact zr_one (some (.inr (.inr (some (.int 0))))) rfl (zR_ret rfl rfl)
      · rw [if_neg hc8] at h
        refine zr_steps 2 (231, [some (.int v0), some (.int v1), some (.int v2)], [.int 1], (SH, I, J)) rfl ?_
        have he := Option.some.inj h
        subst he
        exact zr_one (some (.inr (.inr (some (.int 1))))) rfl (zR_ret rfl rfl)
    · rw [if_neg hc9] at h
      refine zr_steps 2 (231, [some (.int v0), some (.int v1), some (.int v2)], [.int 1], (SH, I, J)) rfl ?_
      have he := Option.some.inj h
      subst he
      exact zr_one (some (.inr (.inr (some (.int 1))))) rfl (zR_ret rfl rfl)
  rw [if_neg hc70] at h
  refine zR_if (fun hc69 => zR_go ?_) (fun hc69 => ?_)
  · rw [if_pos hc69] at h
    refine zr_steps 1 (219, [some (.int v0), some (.int v1), some (.int v2)], [.int v1], (SH, I, J)) rfl ?_
    refine zr_one (if v1 = 0 then zN 222 [some (.int v0), some (.int v1), some (.int v2)] [] (SH, I, J) else zN 226 [some (.int v0), some (.int v1), some (.int v2)] [] (SH, I, J)) rfl (zR_if (fun hc11 => zR_go ?_) (fun hc11 => zR_go ?_))
    · rw [if_pos hc11] at h
      refine zr_steps 1 (223, [some (.int v0), some (.int v1), some (.int v2)], [.int v2], (SH, I, J)) rfl ?_
      refine zr_one (if v2 = 0 then zN 230 [some (.int v0), some (.int v1), some (.int v2)] [] (SH, I, J) else zN 226 [some (.int v0), some (.int v1), some (.int v2)] [] (SH, I, J)) rfl (zR_if (fun hc10 => zR_go ?_) (fun hc10 => zR_go ?_))
      · rw [if_pos hc10] at h
        refine zr_steps 1 (231, [some (.int v0), some (.int v1), some (.int v2)], [.int 0], (SH, I, J)) rfl ?_
        have he := Option.some.inj h
        subst he
        exact zr_one (some (.inr (.inr (some (.int 0))))) rfl (zR_ret rfl rfl)
      · rw [if_neg hc10] at h
        refine zr_steps 2 (231, [some (.int v0), some (.int v1), some (.int v2)], [.int 1], (SH, I, J)) rfl ?_
        have he := Option.some.inj h
        subst he
        exact zr_one (some (.inr (.inr (some (.int 1))))) rfl (zR_ret rfl rfl)
    · rw [if_neg hc11] at h
      refine zr_steps 2 (231, [some (.int v0), some (.int v1), some (.int v2)], [.int 1], (SH, I, J)) rfl ?_
      have he := Option.some.inj h
      subst he
      exact zr_one (some (.inr (.inr (some (.int 1))))) rfl (zR_ret rfl rfl)
  rw [if_neg hc69] at h
  refine zR_if (fun hc68 => zR_go ?_) (fun hc68 => ?_)
  · rw [if_pos hc68] at h
    refine zr_steps 3 (131, [some (.int v0), some (.int v1), some (.int v2)], [.int (v1 * v2)], (SH, I, J)) rfl ?_
    have he := Option.some.inj h
    subst he
    exact zr_one (some (.inr (.inr (some (.int (v1 * v2)))))) rfl (zR_ret rfl rfl)
  rw [if_neg hc68] at h
  refine zR_if (fun hc67 => zR_go ?_) (fun hc67 => ?_)
  · rw [if_pos hc67] at h
    refine zr_steps 3 (123, [some (.int v0), some (.int v1), some (.int v2)], [.int (v1 + v2)], (SH, I, J)) rfl ?_
    have he := Option.some.inj h
    subst he
    exact zr_one (some (.inr (.inr (some (.int (v1 + v2)))))) rfl (zR_ret rfl rfl)
  rw [if_neg hc67] at h
  refine zR_if (fun hc66 => zR_go ?_) (fun hc66 => ?_)
  · rw [if_pos hc66] at h
    refine zr_steps 1 (219, [some (.int v0), some (.int v1), some (.int v2)], [.int v1], (SH, I, J)) rfl ?_
    refine zr_one (if v1 = 0 then zN 222 [some (.int v0), some (.int v1), some (.int v2)] [] (SH, I, J) else zN 226 [some (.int v0), some (.int v1), some (.int v2)] [] (SH, I, J)) rfl (zR_if (fun hc13 => zR_go ?_) (fun hc13 => zR_go ?_))
    · rw [if_pos hc13] at h
      refine zr_steps 1 (223, [some (.int v0), some (.int v1), some (.int v2)], [.int v2], (SH, I, J)) rfl ?_
      refine zr_one (if v2 = 0 then zN 230 [some (.int v0), some (.int v1), some (.int v2)] [] (SH, I, J) else zN 226 [some (.int v0), some (.int v1), some (.int v2)] [] (SH, I, J)) rfl (zR_if (fun hc12 => zR_go ?_) (fun hc12 => zR_go ?_))
      · rw [if_pos hc12] at h
        refine zr_steps 1 (231, [some (.int v0), some (.int v1), some (.int v2)], [.int 0], (SH, I, J)) rfl ?_
        have he := Option.some.inj h
        subst he
        exact zr_one (some (.inr (.inr (some (.int 0))))) rfl (zR_ret rfl rfl)
      · rw [if_neg hc12] at h
        refine zr_steps 2 (231, [some (.int v0), some (.int v1), some (.int v2)], [.int 1], (SH, I, J)) rfl ?_
        have he := Option.some.inj h
        subst he
        exact zr_one (some (.inr (.inr (some (.int 1))))) rfl (zR_ret rfl rfl)
    · rw [if_neg hc13] at h
      refine zr_steps 2 (231, [some (.int v0), some (.int v1), some (.int v2)], [.int 1], (SH, I, J)) rfl ?_
      have he := Option.some.inj h
      subst he
      exact zr_one (some (.inr (.inr (some (.int 1))))) rfl (zR_ret rfl rfl)
  rw [if_neg hc66] at h
  refine zR_if (fun hc65 => zR_go ?_) (fun hc65 => ?_)
  · rw [if_pos hc65] at h
    refine zr_steps 3 (127, [some (.int v0), some (.int v1), some (.int v2)], [.int (v1 - v2)], (SH, I, J)) rfl ?_
    have he := Option.some.inj h
    subst he
    exact zr_one (some (.inr (.inr (some (.int (v1 - v2)))))) rfl (zR_ret rfl rfl)
  rw [if_neg hc65] at h
  refine zR_if (fun hc64 => zR_go ?_) (fun hc64 => ?_)
  · rw [if_pos hc64] at h
    refine zr_steps 1 (219, [some (.int v0), some (.int v1), some (.int v2)], [.int v1], (SH, I, J)) rfl ?_
    refine zr_one (if v1 = 0 then zN 222 [some (.int v0), some (.int v1), some (.int v2)] [] (SH, I, J) else zN 226 [some (.int v0), some (.int v1), some (.int v2)] [] (SH, I, J)) rfl (zR_if (fun hc15 => zR_go ?_) (fun hc15 => zR_go ?_))
    · rw [if_pos hc15] at h
      refine zr_steps 1 (223, [some (.int v0), some (.int v1), some (.int v2)], [.int v2], (SH, I, J)) rfl ?_
      refine zr_one (if v2 = 0 then zN 230 [some (.int v0), some (.int v1), some (.int v2)] [] (SH, I, J) else zN 226 [some (.int v0), some (.int v1), some (.int v2)] [] (SH, I, J)) rfl (zR_if (fun hc14 => zR_go ?_) (fun hc14 => zR_go ?_))
      · rw [if_pos hc14] at h
        refine zr_steps 1 (231, [some (.int v0), some (.int v1), some (.int v2)], [.int 0], (SH, I, J)) rfl ?_
        have he := Option.some.inj h
        subst he
        exact zr_one (some (.inr (.inr (some (.int 0))))) rfl (zR_ret rfl rfl)
      · rw [if_neg hc14] at h
        refine zr_steps 2 (231, [some (.int v0), some (.int v1), some (.int v2)], [.int 1], (SH, I, J)) rfl ?_
        have he := Option.some.inj h
        subst he
        exact zr_one (some (.inr (.inr (some (.int 1))))) rfl (zR_ret rfl rfl)
    · rw [if_neg hc15] at h
      refine zr_steps 2 (231, [some (.int v0), some (.int v1), some (.int v2)], [.int 1], (SH, I, J)) rfl ?_
      have he := Option.some.inj h
      subst he
      exact zr_one (some (.inr (.inr (some (.int 1))))) rfl (zR_ret rfl rfl)
  rw [if_neg hc64] at h
  refine zR_if (fun hc63 => zR_go ?_) (fun hc63 => ?_)
  · rw [if_pos hc63] at h
    refine zr_steps 1 (133, [some (.int v0), some (.int v1), some (.int v2)], [.int v2], (SH, I, J)) rfl ?_
    refine zr_one (if v2 = 0 then zN 136 [some (.int v0), some (.int v1), some (.int v2)] [] (SH, I, J) else zN 140 [some (.int v0), some (.int v1), some (.int v2)] [] (SH, I, J)) rfl (zR_if (fun hc18 => zR_go ?_) (fun hc18 => zR_go ?_))
    · rw [if_pos hc18] at h
      refine zr_steps 2 (153, [some (.int v0), some (.int v1), some (.int v2)], [.int 0], (SH, I, J)) rfl ?_
      have he := Option.some.inj h
      subst he
      exact zr_one (some (.inr (.inr (some (.int 0))))) rfl (zR_ret rfl rfl)
    · rw [if_neg hc18] at h
      refine zr_steps 2 (142, [some (.int v0), some (.int v1), some (.int v2)], [.int (-1), .int v2], (SH, I, J)) rfl ?_
      refine zr_one (if v2 = (-1) then zN 145 [some (.int v0), some (.int v1), some (.int v2)] [] (SH, I, J) else zN 150 [some (.int v0), some (.int v1), some (.int v2)] [] (SH, I, J)) rfl (zR_if (fun hc17 => zR_go ?_) (fun hc17 => zR_go ?_))
      · rw [if_pos hc17] at h
        refine zr_steps 3 (153, [some (.int v0), some (.int v1), some (.int v2)], [.int (-v1)], (SH, I, J)) rfl ?_
        have he := Option.some.inj h
        subst he
        exact zr_one (some (.inr (.inr (some (.int (-v1)))))) rfl (zR_ret rfl rfl)
      · rw [if_neg hc17] at h
        refine zr_steps 2 (152, [some (.int v0), some (.int v1), some (.int v2)], [.int v2, .int v1], (SH, I, J)) rfl ?_
        obtain ⟨hc16, h⟩ := zdivo h
        refine zr_one (if (v2 : Int32) = 0 then none else zN 153 [some (.int v0), some (.int v1), some (.int v2)] [.int (v1 / v2)] (SH, I, J)) rfl (zR_div hc16 (zR_go ?_))
        have he := Option.some.inj h
        subst he
        exact zr_one (some (.inr (.inr (some (.int (v1 / v2)))))) rfl (zR_ret rfl rfl)
  rw [if_neg hc63] at h
  refine zR_if (fun hc62 => zR_go ?_) (fun hc62 => ?_)
  · rw [if_pos hc62] at h
    refine zr_steps 1 (219, [some (.int v0), some (.int v1), some (.int v2)], [.int v1], (SH, I, J)) rfl ?_
    refine zr_one (if v1 = 0 then zN 222 [some (.int v0), some (.int v1), some (.int v2)] [] (SH, I, J) else zN 226 [some (.int v0), some (.int v1), some (.int v2)] [] (SH, I, J)) rfl (zR_if (fun hc20 => zR_go ?_) (fun hc20 => zR_go ?_))
    · rw [if_pos hc20] at h
      refine zr_steps 1 (223, [some (.int v0), some (.int v1), some (.int v2)], [.int v2], (SH, I, J)) rfl ?_
      refine zr_one (if v2 = 0 then zN 230 [some (.int v0), some (.int v1), some (.int v2)] [] (SH, I, J) else zN 226 [some (.int v0), some (.int v1), some (.int v2)] [] (SH, I, J)) rfl (zR_if (fun hc19 => zR_go ?_) (fun hc19 => zR_go ?_))
      · rw [if_pos hc19] at h
        refine zr_steps 1 (231, [some (.int v0), some (.int v1), some (.int v2)], [.int 0], (SH, I, J)) rfl ?_
        have he := Option.some.inj h
        subst he
        exact zr_one (some (.inr (.inr (some (.int 0))))) rfl (zR_ret rfl rfl)
      · rw [if_neg hc19] at h
        refine zr_steps 2 (231, [some (.int v0), some (.int v1), some (.int v2)], [.int 1], (SH, I, J)) rfl ?_
        have he := Option.some.inj h
        subst he
        exact zr_one (some (.inr (.inr (some (.int 1))))) rfl (zR_ret rfl rfl)
    · rw [if_neg hc20] at h
      refine zr_steps 2 (231, [some (.int v0), some (.int v1), some (.int v2)], [.int 1], (SH, I, J)) rfl ?_
      have he := Option.some.inj h
      subst he
      exact zr_one (some (.inr (.inr (some (.int 1))))) rfl (zR_ret rfl rfl)
  rw [if_neg hc62] at h
  refine zR_if (fun hc61 => zR_go ?_) (fun hc61 => ?_)
  · rw [if_pos hc61] at h
    refine zr_steps 1 (219, [some (.int v0), some (.int v1), some (.int v2)], [.int v1], (SH, I, J)) rfl ?_
    refine zr_one (if v1 = 0 then zN 222 [some (.int v0), some (.int v1), some (.int v2)] [] (SH, I, J) else zN 226 [some (.int v0), some (.int v1), some (.int v2)] [] (SH, I, J)) rfl (zR_if (fun hc22 => zR_go ?_) (fun hc22 => zR_go ?_))
    · rw [if_pos hc22] at h
      refine zr_steps 1 (223, [some (.int v0), some (.int v1), some (.int v2)], [.int v2], (SH, I, J)) rfl ?_
      refine zr_one (if v2 = 0 then zN 230 [some (.int v0), some (.int v1), some (.int v2)] [] (SH, I, J) else zN 226 [some (.int v0), some (.int v1), some (.int v2)] [] (SH, I, J)) rfl (zR_if (fun hc21 => zR_go ?_) (fun hc21 => zR_go ?_))
      · rw [if_pos hc21] at h
        refine zr_steps 1 (231, [some (.int v0), some (.int v1), some (.int v2)], [.int 0], (SH, I, J)) rfl ?_
        have he := Option.some.inj h
        subst he
        exact zr_one (some (.inr (.inr (some (.int 0))))) rfl (zR_ret rfl rfl)
      · rw [if_neg hc21] at h
        refine zr_steps 2 (231, [some (.int v0), some (.int v1), some (.int v2)], [.int 1], (SH, I, J)) rfl ?_
        have he := Option.some.inj h
        subst he
        exact zr_one (some (.inr (.inr (some (.int 1))))) rfl (zR_ret rfl rfl)
    · rw [if_neg hc22] at h
      refine zr_steps 2 (231, [some (.int v0), some (.int v1), some (.int v2)], [.int 1], (SH, I, J)) rfl ?_
      have he := Option.some.inj h
      subst he
      exact zr_one (some (.inr (.inr (some (.int 1))))) rfl (zR_ret rfl rfl)
  rw [if_neg hc61] at h
  refine zR_if (fun hc60 => zR_go ?_) (fun hc60 => ?_)
  · rw [if_pos hc60] at h
    refine zr_steps 1 (219, [some (.int v0), some (.int v1), some (.int v2)], [.int v1], (SH, I, J)) rfl ?_
    refine zr_one (if v1 = 0 then zN 222 [some (.int v0), some (.int v1), some (.int v2)] [] (SH, I, J) else zN 226 [some (.int v0), some (.int v1), some (.int v2)] [] (SH, I, J)) rfl (zR_if (fun hc24 => zR_go ?_) (fun hc24 => zR_go ?_))
    · rw [if_pos hc24] at h
      refine zr_steps 1 (223, [some (.int v0), some (.int v1), some (.int v2)], [.int v2], (SH, I, J)) rfl ?_
      refine zr_one (if v2 = 0 then zN 230 [some (.int v0), some (.int v1), some (.int v2)] [] (SH, I, J) else zN 226 [some (.int v0), some (.int v1), some (.int v2)] [] (SH, I, J)) rfl (zR_if (fun hc23 => zR_go ?_) (fun hc23 => zR_go ?_))
      · rw [if_pos hc23] at h
        refine zr_steps 1 (231, [some (.int v0), some (.int v1), some (.int v2)], [.int 0], (SH, I, J)) rfl ?_
        have he := Option.some.inj h
        subst he
        exact zr_one (some (.inr (.inr (some (.int 0))))) rfl (zR_ret rfl rfl)
      · rw [if_neg hc23] at h
        refine zr_steps 2 (231, [some (.int v0), some (.int v1), some (.int v2)], [.int 1], (SH, I, J)) rfl ?_
        have he := Option.some.inj h
        subst he
        exact zr_one (some (.inr (.inr (some (.int 1))))) rfl (zR_ret rfl rfl)
    · rw [if_neg hc24] at h
      refine zr_steps 2 (231, [some (.int v0), some (.int v1), some (.int v2)], [.int 1], (SH, I, J)) rfl ?_
      have he := Option.some.inj h
      subst he
      exact zr_one (some (.inr (.inr (some (.int 1))))) rfl (zR_ret rfl rfl)
  rw [if_neg hc60] at h
  refine zR_if (fun hc59 => zR_go ?_) (fun hc59 => ?_)
  · rw [if_pos hc59] at h
    refine zr_steps 1 (219, [some (.int v0), some (.int v1), some (.int v2)], [.int v1], (SH, I, J)) rfl ?_
    refine zr_one (if v1 = 0 then zN 222 [some (.int v0), some (.int v1), some (.int v2)] [] (SH, I, J) else zN 226 [some (.int v0), some (.int v1), some (.int v2)] [] (SH, I, J)) rfl (zR_if (fun hc26 => zR_go ?_) (fun hc26 => zR_go ?_))
    · rw [if_pos hc26] at h
      refine zr_steps 1 (223, [some (.int v0), some (.int v1), some (.int v2)], [.int v2], (SH, I, J)) rfl ?_
      refine zr_one (if v2 = 0 then zN 230 [some (.int v0), some (.int v1), some (.int v2)] [] (SH, I, J) else zN 226 [some (.int v0), some (.int v1), some (.int v2)] [] (SH, I, J)) rfl (zR_if (fun hc25 => zR_go ?_) (fun hc25 => zR_go ?_))
      · rw [if_pos hc25] at h
        refine zr_steps 1 (231, [some (.int v0), some (.int v1), some (.int v2)], [.int 0], (SH, I, J)) rfl ?_
        have he := Option.some.inj h
        subst he
        exact zr_one (some (.inr (.inr (some (.int 0))))) rfl (zR_ret rfl rfl)
      · rw [if_neg hc25] at h
        refine zr_steps 2 (231, [some (.int v0), some (.int v1), some (.int v2)], [.int 1], (SH, I, J)) rfl ?_
        have he := Option.some.inj h
        subst he
        exact zr_one (some (.inr (.inr (some (.int 1))))) rfl (zR_ret rfl rfl)
    · rw [if_neg hc26] at h
      refine zr_steps 2 (231, [some (.int v0), some (.int v1), some (.int v2)], [.int 1], (SH, I, J)) rfl ?_
      have he := Option.some.inj h
      subst he
      exact zr_one (some (.inr (.inr (some (.int 1))))) rfl (zR_ret rfl rfl)
  rw [if_neg hc59] at h
  refine zR_if (fun hc58 => zR_go ?_) (fun hc58 => ?_)
  · rw [if_pos hc58] at h
    refine zr_steps 1 (219, [some (.int v0), some (.int v1), some (.int v2)], [.int v1], (SH, I, J)) rfl ?_
    refine zr_one (if v1 = 0 then zN 222 [some (.int v0), some (.int v1), some (.int v2)] [] (SH, I, J) else zN 226 [some (.int v0), some (.int v1), some (.int v2)] [] (SH, I, J)) rfl (zR_if (fun hc28 => zR_go ?_) (fun hc28 => zR_go ?_))
    · rw [if_pos hc28] at h
      refine zr_steps 1 (223, [some (.int v0), some (.int v1), some (.int v2)], [.int v2], (SH, I, J)) rfl ?_
      refine zr_one (if v2 = 0 then zN 230 [some (.int v0), some (.int v1), some (.int v2)] [] (SH, I, J) else zN 226 [some (.int v0), some (.int v1), some (.int v2)] [] (SH, I, J)) rfl (zR_if (fun hc27 => zR_go ?_) (fun hc27 => zR_go ?_))
      · rw [if_pos hc27] at h
        refine zr_steps 1 (231, [some (.int v0), some (.int v1), some (.int v2)], [.int 0], (SH, I, J)) rfl ?_
        have he := Option.some.inj h
        subst he
        exact zr_one (some (.inr (.inr (some (.int 0))))) rfl (zR_ret rfl rfl)
      · rw [if_neg hc27] at h
        refine zr_steps 2 (231, [some (.int v0), some (.int v1), some (.int v2)], [.int 1], (SH, I, J)) rfl ?_
        have he := Option.some.inj h
        subst he
        exact zr_one (some (.inr (.inr (some (.int 1))))) rfl (zR_ret rfl rfl)
    · rw [if_neg hc28] at h
      refine zr_steps 2 (231, [some (.int v0), some (.int v1), some (.int v2)], [.int 1], (SH, I, J)) rfl ?_
      have he := Option.some.inj h
      subst he
      exact zr_one (some (.inr (.inr (some (.int 1))))) rfl (zR_ret rfl rfl)
  rw [if_neg hc58] at h
  refine zR_if (fun hc57 => zR_go ?_) (fun hc57 => ?_)
  · rw [if_pos hc57] at h
    refine zr_steps 1 (219, [some (.int v0), some (.int v1), some (.int v2)], [.int v1], (SH, I, J)) rfl ?_
    refine zr_one (if v1 = 0 then zN 222 [some (.int v0), some (.int v1), some (.int v2)] [] (SH, I, J) else zN 226 [some (.int v0), some (.int v1), some (.int v2)] [] (SH, I, J)) rfl (zR_if (fun hc30 => zR_go ?_) (fun hc30 => zR_go ?_))
    · rw [if_pos hc30] at h
      refine zr_steps 1 (223, [some (.int v0), some (.int v1), some (.int v2)], [.int v2], (SH, I, J)) rfl ?_
      refine zr_one (if v2 = 0 then zN 230 [some (.int v0), some (.int v1), some (.int v2)] [] (SH, I, J) else zN 226 [some (.int v0), some (.int v1), some (.int v2)] [] (SH, I, J)) rfl (zR_if (fun hc29 => zR_go ?_) (fun hc29 => zR_go ?_))
      · rw [if_pos hc29] at h
        refine zr_steps 1 (231, [some (.int v0), some (.int v1), some (.int v2)], [.int 0], (SH, I, J)) rfl ?_
        have he := Option.some.inj h
        subst he
        exact zr_one (some (.inr (.inr (some (.int 0))))) rfl (zR_ret rfl rfl)
      · rw [if_neg hc29] at h
        refine zr_steps 2 (231, [some (.int v0), some (.int v1), some (.int v2)], [.int 1], (SH, I, J)) rfl ?_
        have he := Option.some.inj h
        subst he
        exact zr_one (some (.inr (.inr (some (.int 1))))) rfl (zR_ret rfl rfl)
    · rw [if_neg hc30] at h
      refine zr_steps 2 (231, [some (.int v0), some (.int v1), some (.int v2)], [.int 1], (SH, I, J)) rfl ?_
      have he := Option.some.inj h
      subst he
      exact zr_one (some (.inr (.inr (some (.int 1))))) rfl (zR_ret rfl rfl)
  rw [if_neg hc57] at h
  refine zR_if (fun hc56 => zR_go ?_) (fun hc56 => ?_)
  · rw [if_pos hc56] at h
    refine zr_steps 1 (219, [some (.int v0), some (.int v1), some (.int v2)], [.int v1], (SH, I, J)) rfl ?_
    refine zr_one (if v1 = 0 then zN 222 [some (.int v0), some (.int v1), some (.int v2)] [] (SH, I, J) else zN 226 [some (.int v0), some (.int v1), some (.int v2)] [] (SH, I, J)) rfl (zR_if (fun hc32 => zR_go ?_) (fun hc32 => zR_go ?_))
    · rw [if_pos hc32] at h
      refine zr_steps 1 (223, [some (.int v0), some (.int v1), some (.int v2)], [.int v2], (SH, I, J)) rfl ?_
      refine zr_one (if v2 = 0 then zN 230 [some (.int v0), some (.int v1), some (.int v2)] [] (SH, I, J) else zN 226 [some (.int v0), some (.int v1), some (.int v2)] [] (SH, I, J)) rfl (zR_if (fun hc31 => zR_go ?_) (fun hc31 => zR_go ?_))
      · rw [if_pos hc31] at h
        refine zr_steps 1 (231, [some (.int v0), some (.int v1), some (.int v2)], [.int 0], (SH, I, J)) rfl ?_
        have he := Option.some.inj h
        subst he
        exact zr_one (some (.inr (.inr (some (.int 0))))) rfl (zR_ret rfl rfl)
      · rw [if_neg hc31] at h
        refine zr_steps 2 (231, [some (.int v0), some (.int v1), some (.int v2)], [.int 1], (SH, I, J)) rfl ?_
        have he := Option.some.inj h
        subst he
        exact zr_one (some (.inr (.inr (some (.int 1))))) rfl (zR_ret rfl rfl)
    · rw [if_neg hc32] at h
      refine zr_steps 2 (231, [some (.int v0), some (.int v1), some (.int v2)], [.int 1], (SH, I, J)) rfl ?_
      have he := Option.some.inj h
      subst he
      exact zr_one (some (.inr (.inr (some (.int 1))))) rfl (zR_ret rfl rfl)
  rw [if_neg hc56] at h
  refine zR_if (fun hc55 => zR_go ?_) (fun hc55 => ?_)
  · rw [if_pos hc55] at h
    refine zr_steps 1 (219, [some (.int v0), some (.int v1), some (.int v2)], [.int v1], (SH, I, J)) rfl ?_
    refine zr_one (if v1 = 0 then zN 222 [some (.int v0), some (.int v1), some (.int v2)] [] (SH, I, J) else zN 226 [some (.int v0), some (.int v1), some (.int v2)] [] (SH, I, J)) rfl (zR_if (fun hc34 => zR_go ?_) (fun hc34 => zR_go ?_))
    · rw [if_pos hc34] at h
      refine zr_steps 1 (223, [some (.int v0), some (.int v1), some (.int v2)], [.int v2], (SH, I, J)) rfl ?_
      refine zr_one (if v2 = 0 then zN 230 [some (.int v0), some (.int v1), some (.int v2)] [] (SH, I, J) else zN 226 [some (.int v0), some (.int v1), some (.int v2)] [] (SH, I, J)) rfl (zR_if (fun hc33 => zR_go ?_) (fun hc33 => zR_go ?_))
      · rw [if_pos hc33] at h
        refine zr_steps 1 (231, [some (.int v0), some (.int v1), some (.int v2)], [.int 0], (SH, I, J)) rfl ?_
        have he := Option.some.inj h
        subst he
        exact zr_one (some (.inr (.inr (some (.int 0))))) rfl (zR_ret rfl rfl)
      · rw [if_neg hc33] at h
        refine zr_steps 2 (231, [some (.int v0), some (.int v1), some (.int v2)], [.int 1], (SH, I, J)) rfl ?_
        have he := Option.some.inj h
        subst he
        exact zr_one (some (.inr (.inr (some (.int 1))))) rfl (zR_ret rfl rfl)
    · rw [if_neg hc34] at h
      refine zr_steps 2 (231, [some (.int v0), some (.int v1), some (.int v2)], [.int 1], (SH, I, J)) rfl ?_
      have he := Option.some.inj h
      subst he
      exact zr_one (some (.inr (.inr (some (.int 1))))) rfl (zR_ret rfl rfl)
  rw [if_neg hc55] at h
  refine zR_if (fun hc54 => zR_go ?_) (fun hc54 => ?_)
  · rw [if_pos hc54] at h
    refine zr_steps 1 (219, [some (.int v0), some (.int v1), some (.int v2)], [.int v1], (SH, I, J)) rfl ?_
    refine zr_one (if v1 = 0 then zN 222 [some (.int v0), some (.int v1), some (.int v2)] [] (SH, I, J) else zN 226 [some (.int v0), some (.int v1), some (.int v2)] [] (SH, I, J)) rfl (zR_if (fun hc36 => zR_go ?_) (fun hc36 => zR_go ?_))
    · rw [if_pos hc36] at h
      refine zr_steps 1 (223, [some (.int v0), some (.int v1), some (.int v2)], [.int v2], (SH, I, J)) rfl ?_
      refine zr_one (if v2 = 0 then zN 230 [some (.int v0), some (.int v1), some (.int v2)] [] (SH, I, J) else zN 226 [some (.int v0), some (.int v1), some (.int v2)] [] (SH, I, J)) rfl (zR_if (fun hc35 => zR_go ?_) (fun hc35 => zR_go ?_))
      · rw [if_pos hc35] at h
        refine zr_steps 1 (231, [some (.int v0), some (.int v1), some (.int v2)], [.int 0], (SH, I, J)) rfl ?_
        have he := Option.some.inj h
        subst he
        exact zr_one (some (.inr (.inr (some (.int 0))))) rfl (zR_ret rfl rfl)
      · rw [if_neg hc35] at h
        refine zr_steps 2 (231, [some (.int v0), some (.int v1), some (.int v2)], [.int 1], (SH, I, J)) rfl ?_
        have he := Option.some.inj h
        subst he
        exact zr_one (some (.inr (.inr (some (.int 1))))) rfl (zR_ret rfl rfl)
    · rw [if_neg hc36] at h
      refine zr_steps 2 (231, [some (.int v0), some (.int v1), some (.int v2)], [.int 1], (SH, I, J)) rfl ?_
      have he := Option.some.inj h
      subst he
      exact zr_one (some (.inr (.inr (some (.int 1))))) rfl (zR_ret rfl rfl)
  rw [if_neg hc54] at h
  refine zR_if (fun hc53 => zR_go ?_) (fun hc53 => ?_)
  · rw [if_pos hc53] at h
    refine zr_steps 1 (219, [some (.int v0), some (.int v1), some (.int v2)], [.int v1], (SH, I, J)) rfl ?_
    refine zr_one (if v1 = 0 then zN 222 [some (.int v0), some (.int v1), some (.int v2)] [] (SH, I, J) else zN 226 [some (.int v0), some (.int v1), some (.int v2)] [] (SH, I, J)) rfl (zR_if (fun hc38 => zR_go ?_) (fun hc38 => zR_go ?_))
    · rw [if_pos hc38] at h
      refine zr_steps 1 (223, [some (.int v0), some (.int v1), some (.int v2)], [.int v2], (SH, I, J)) rfl ?_
      refine zr_one (if v2 = 0 then zN 230 [some (.int v0), some (.int v1), some (.int v2)] [] (SH, I, J) else zN 226 [some (.int v0), some (.int v1), some (.int v2)] [] (SH, I, J)) rfl (zR_if (fun hc37 => zR_go ?_) (fun hc37 => zR_go ?_))
      · rw [if_pos hc37] at h
        refine zr_steps 1 (231, [some (.int v0), some (.int v1), some (.int v2)], [.int 0], (SH, I, J)) rfl ?_
        have he := Option.some.inj h
        subst he
        exact zr_one (some (.inr (.inr (some (.int 0))))) rfl (zR_ret rfl rfl)
      · rw [if_neg hc37] at h
        refine zr_steps 2 (231, [some (.int v0), some (.int v1), some (.int v2)], [.int 1], (SH, I, J)) rfl ?_
        have he := Option.some.inj h
        subst he
        exact zr_one (some (.inr (.inr (some (.int 1))))) rfl (zR_ret rfl rfl)
    · rw [if_neg hc38] at h
      refine zr_steps 2 (231, [some (.int v0), some (.int v1), some (.int v2)], [.int 1], (SH, I, J)) rfl ?_
      have he := Option.some.inj h
      subst he
      exact zr_one (some (.inr (.inr (some (.int 1))))) rfl (zR_ret rfl rfl)
  rw [if_neg hc53] at h
  refine zR_if (fun hc52 => zR_go ?_) (fun hc52 => ?_)
  · rw [if_pos hc52] at h
    refine zr_steps 1 (219, [some (.int v0), some (.int v1), some (.int v2)], [.int v1], (SH, I, J)) rfl ?_
    refine zr_one (if v1 = 0 then zN 222 [some (.int v0), some (.int v1), some (.int v2)] [] (SH, I, J) else zN 226 [some (.int v0), some (.int v1), some (.int v2)] [] (SH, I, J)) rfl (zR_if (fun hc40 => zR_go ?_) (fun hc40 => zR_go ?_))
    · rw [if_pos hc40] at h
      refine zr_steps 1 (223, [some (.int v0), some (.int v1), some (.int v2)], [.int v2], (SH, I, J)) rfl ?_
      refine zr_one (if v2 = 0 then zN 230 [some (.int v0), some (.int v1), some (.int v2)] [] (SH, I, J) else zN 226 [some (.int v0), some (.int v1), some (.int v2)] [] (SH, I, J)) rfl (zR_if (fun hc39 => zR_go ?_) (fun hc39 => zR_go ?_))
      · rw [if_pos hc39] at h
        refine zr_steps 1 (231, [some (.int v0), some (.int v1), some (.int v2)], [.int 0], (SH, I, J)) rfl ?_
        have he := Option.some.inj h
        subst he
        exact zr_one (some (.inr (.inr (some (.int 0))))) rfl (zR_ret rfl rfl)
      · rw [if_neg hc39] at h
        refine zr_steps 2 (231, [some (.int v0), some (.int v1), some (.int v2)], [.int 1], (SH, I, J)) rfl ?_
        have he := Option.some.inj h
        subst he
        exact zr_one (some (.inr (.inr (some (.int 1))))) rfl (zR_ret rfl rfl)
    · rw [if_neg hc40] at h
      refine zr_steps 2 (231, [some (.int v0), some (.int v1), some (.int v2)], [.int 1], (SH, I, J)) rfl ?_
      have he := Option.some.inj h
      subst he
      exact zr_one (some (.inr (.inr (some (.int 1))))) rfl (zR_ret rfl rfl)
  rw [if_neg hc52] at h
  refine zR_if (fun hc51 => zR_go ?_) (fun hc51 => ?_)
  · rw [if_pos hc51] at h
    refine zr_steps 1 (219, [some (.int v0), some (.int v1), some (.int v2)], [.int v1], (SH, I, J)) rfl ?_
    refine zr_one (if v1 = 0 then zN 222 [some (.int v0), some (.int v1), some (.int v2)] [] (SH, I, J) else zN 226 [some (.int v0), some (.int v1), some (.int v2)] [] (SH, I, J)) rfl (zR_if (fun hc42 => zR_go ?_) (fun hc42 => zR_go ?_))
    · rw [if_pos hc42] at h
      refine zr_steps 1 (223, [some (.int v0), some (.int v1), some (.int v2)], [.int v2], (SH, I, J)) rfl ?_
      refine zr_one (if v2 = 0 then zN 230 [some (.int v0), some (.int v1), some (.int v2)] [] (SH, I, J) else zN 226 [some (.int v0), some (.int v1), some (.int v2)] [] (SH, I, J)) rfl (zR_if (fun hc41 => zR_go ?_) (fun hc41 => zR_go ?_))
      · rw [if_pos hc41] at h
        refine zr_steps 1 (231, [some (.int v0), some (.int v1), some (.int v2)], [.int 0], (SH, I, J)) rfl ?_
        have he := Option.some.inj h
        subst he
        exact zr_one (some (.inr (.inr (some (.int 0))))) rfl (zR_ret rfl rfl)
      · rw [if_neg hc41] at h
        refine zr_steps 2 (231, [some (.int v0), some (.int v1), some (.int v2)], [.int 1], (SH, I, J)) rfl ?_
        have he := Option.some.inj h
        subst he
        exact zr_one (some (.inr (.inr (some (.int 1))))) rfl (zR_ret rfl rfl)
    · rw [if_neg hc42] at h
      refine zr_steps 2 (231, [some (.int v0), some (.int v1), some (.int v2)], [.int 1], (SH, I, J)) rfl ?_
      have he := Option.some.inj h
      subst he
      exact zr_one (some (.inr (.inr (some (.int 1))))) rfl (zR_ret rfl rfl)
  rw [if_neg hc51] at h
  refine zR_if (fun hc50 => zR_go ?_) (fun hc50 => ?_)
  · rw [if_pos hc50] at h
    refine zr_steps 2 (173, [some (.int v0), some (.int v1), some (.int v2)], [.int v2, .int v1], (SH, I, J)) rfl ?_
    refine zr_one (if v2 ≤ v1 then zN 180 [some (.int v0), some (.int v1), some (.int v2)] [] (SH, I, J) else zN 176 [some (.int v0), some (.int v1), some (.int v2)] [] (SH, I, J)) rfl (zR_if (fun hc43 => zR_go ?_) (fun hc43 => zR_go ?_))
    · rw [if_pos hc43] at h
      refine zr_steps 1 (181, [some (.int v0), some (.int v1), some (.int v2)], [.int 0], (SH, I, J)) rfl ?_
      have he := Option.some.inj h
      subst he
      exact zr_one (some (.inr (.inr (some (.int 0))))) rfl (zR_ret rfl rfl)
    · rw [if_neg hc43] at h
      refine zr_steps 2 (181, [some (.int v0), some (.int v1), some (.int v2)], [.int 1], (SH, I, J)) rfl ?_
      have he := Option.some.inj h
      subst he
      exact zr_one (some (.inr (.inr (some (.int 1))))) rfl (zR_ret rfl rfl)
  rw [if_neg hc50] at h
  refine zR_if (fun hc49 => zR_go ?_) (fun hc49 => ?_)
  · rw [if_pos hc49] at h
    refine zr_steps 2 (184, [some (.int v0), some (.int v1), some (.int v2)], [.int v2, .int v1], (SH, I, J)) rfl ?_
    refine zr_one (if v1 = v2 then zN 187 [some (.int v0), some (.int v1), some (.int v2)] [] (SH, I, J) else zN 191 [some (.int v0), some (.int v1), some (.int v2)] [] (SH, I, J)) rfl (zR_if (fun hc44 => zR_go ?_) (fun hc44 => zR_go ?_))
    · rw [if_pos hc44] at h
      refine zr_steps 2 (192, [some (.int v0), some (.int v1), some (.int v2)], [.int 1], (SH, I, J)) rfl ?_
      have he := Option.some.inj h
      subst he
      exact zr_one (some (.inr (.inr (some (.int 1))))) rfl (zR_ret rfl rfl)
    · rw [if_neg hc44] at h
      refine zr_steps 1 (192, [some (.int v0), some (.int v1), some (.int v2)], [.int 0], (SH, I, J)) rfl ?_
      have he := Option.some.inj h
      subst he
      exact zr_one (some (.inr (.inr (some (.int 0))))) rfl (zR_ret rfl rfl)
  rw [if_neg hc49] at h
  refine zR_if (fun hc48 => zR_go ?_) (fun hc48 => ?_)
  · rw [if_pos hc48] at h
    refine zr_steps 2 (195, [some (.int v0), some (.int v1), some (.int v2)], [.int v2, .int v1], (SH, I, J)) rfl ?_
    refine zr_one (if v1 ≤ v2 then zN 202 [some (.int v0), some (.int v1), some (.int v2)] [] (SH, I, J) else zN 198 [some (.int v0), some (.int v1), some (.int v2)] [] (SH, I, J)) rfl (zR_if (fun hc45 => zR_go ?_) (fun hc45 => zR_go ?_))
    · rw [if_pos hc45] at h
      refine zr_steps 1 (203, [some (.int v0), some (.int v1), some (.int v2)], [.int 0], (SH, I, J)) rfl ?_
      have he := Option.some.inj h
      subst he
      exact zr_one (some (.inr (.inr (some (.int 0))))) rfl (zR_ret rfl rfl)
    · rw [if_neg hc45] at h
      refine zr_steps 2 (203, [some (.int v0), some (.int v1), some (.int v2)], [.int 1], (SH, I, J)) rfl ?_
      have he := Option.some.inj h
      subst he
      exact zr_one (some (.inr (.inr (some (.int 1))))) rfl (zR_ret rfl rfl)
  rw [if_neg hc48] at h
  refine zR_go ?_
  refine zr_steps 1 (219, [some (.int v0), some (.int v1), some (.int v2)], [.int v1], (SH, I, J)) rfl ?_
  refine zr_one (if v1 = 0 then zN 222 [some (.int v0), some (.int v1), some (.int v2)] [] (SH, I, J) else zN 226 [some (.int v0), some (.int v1), some (.int v2)] [] (SH, I, J)) rfl (zR_if (fun hc47 => zR_go ?_) (fun hc47 => zR_go ?_))
  · rw [if_pos hc47] at h
    refine zr_steps 1 (223, [some (.int v0), some (.int v1), some (.int v2)], [.int v2], (SH, I, J)) rfl ?_
    refine zr_one (if v2 = 0 then zN 230 [some (.int v0), some (.int v1), some (.int v2)] [] (SH, I, J) else zN 226 [some (.int v0), some (.int v1), some (.int v2)] [] (SH, I, J)) rfl (zR_if (fun hc46 => zR_go ?_) (fun hc46 => zR_go ?_))
    · rw [if_pos hc46] at h
      refine zr_steps 1 (231, [some (.int v0), some (.int v1), some (.int v2)], [.int 0], (SH, I, J)) rfl ?_
      have he := Option.some.inj h
      subst he
      exact zr_one (some (.inr (.inr (some (.int 0))))) rfl (zR_ret rfl rfl)
    · rw [if_neg hc46] at h
      refine zr_steps 2 (231, [some (.int v0), some (.int v1), some (.int v2)], [.int 1], (SH, I, J)) rfl ?_
      have he := Option.some.inj h
      subst he
      exact zr_one (some (.inr (.inr (some (.int 1))))) rfl (zR_ret rfl rfl)
  · rw [if_neg hc47] at h
    refine zr_steps 2 (231, [some (.int v0), some (.int v1), some (.int v2)], [.int 1], (SH, I, J)) rfl ?_
    have he := Option.some.inj h
    subst he
    exact zr_one (some (.inr (.inr (some (.int 1))))) rfl (zR_ret rfl rfl)
def f154_worked_L12 (v1 : Int32) (v3 : Int32) (s : (Int32 × Int32 × (Nat → Nat → Int32))) : Option ((Int32 × Int32 × (Nat → Nat → Int32)) ⊕ (Int32 × Int32 × (Nat → Nat → Int32))) :=
  if ((130 * v1) + v3) ≤ s.2.1 then
    some (.inl (s.1, s.2.1, s.2.2))
  else
    bif zin s.2.1 650 then
    if (s.2.2 86 s.2.1.toNatClampNeg) = 1 then
      if (s.2.2 86 s.2.1.toNatClampNeg) = 1 then
        bif zin s.2.1 650 then
        bif zin s.1 130 then
        some (.inr ((s.1 + 1), (s.2.1 + 1), (zu s.2.2 92 s.1.toNatClampNeg (s.2.2 87 s.2.1.toNatClampNeg))))
        else none
        else none
      else
        bif zin s.2.1 650 then
        bif zin (s.2.2 87 s.2.1.toNatClampNeg) 8 then
        bif zin s.1 130 then
        some (.inr ((s.1 + 1), (s.2.1 + 1), (zu s.2.2 92 s.1.toNatClampNeg (s.2.2 91 (s.2.2 87 s.2.1.toNatClampNeg).toNatClampNeg))))
        else none
        else none
        else none
    else
      if (s.2.2 86 s.2.1.toNatClampNeg) = 2 then
        if (s.2.2 86 s.2.1.toNatClampNeg) = 1 then
          bif zin s.2.1 650 then
          bif zin s.1 130 then
          some (.inr ((s.1 + 1), (s.2.1 + 1), (zu s.2.2 92 s.1.toNatClampNeg (s.2.2 87 s.2.1.toNatClampNeg))))
          else none
          else none
        else
          bif zin s.2.1 650 then
          bif zin (s.2.2 87 s.2.1.toNatClampNeg) 8 then
          bif zin s.1 130 then
          some (.inr ((s.1 + 1), (s.2.1 + 1), (zu s.2.2 92 s.1.toNatClampNeg (s.2.2 91 (s.2.2 87 s.2.1.toNatClampNeg).toNatClampNeg))))
          else none
          else none
          else none
      else
        if (s.2.2 86 s.2.1.toNatClampNeg) = 3 then
          bif zin (s.1 - 1) 130 then
          if (s.2.2 92 (s.1 - 1).toNatClampNeg) = 0 then
            bif zin (s.1 - 1) 130 then
            some (.inr (s.1, (s.2.1 + 1), (zu s.2.2 92 (s.1 - 1).toNatClampNeg 1)))
            else none
          else
            bif zin (s.1 - 1) 130 then
            some (.inr (s.1, (s.2.1 + 1), (zu s.2.2 92 (s.1 - 1).toNatClampNeg 0)))
            else none
          else none
        else
          if (s.2.2 86 s.2.1.toNatClampNeg) = 4 then
            bif zin (s.1 - 1) 130 then
            bif zin (s.1 - 1) 130 then
            some (.inr (s.1, (s.2.1 + 1), (zu s.2.2 92 (s.1 - 1).toNatClampNeg (-(s.2.2 92 (s.1 - 1).toNatClampNeg)))))
            else none
            else none
          else
            bif zin ((s.1 + (-1)) - 1) 130 then
            bif zin (s.1 + (-1)) 130 then
            Option.bind (f153_twoOf (s.2.2 86 s.2.1.toNatClampNeg) (s.2.2 92 ((s.1 + (-1)) - 1).toNatClampNeg) (s.2.2 92 (s.1 + (-1)).toNatClampNeg)) fun t23 =>
            bif zin ((s.1 + (-1)) - 1) 130 then
            some (.inr ((s.1 + (-1)), (s.2.1 + 1), (zu s.2.2 92 ((s.1 + (-1)) - 1).toNatClampNeg t23)))
            else none
            else none
            else none
    else none
def f154_worked (v1 : Int32) (v2 : Int32) (v3 : Int32) (I : (Nat → Nat → Int32)) : Option (Int32 × (Nat → Nat → Int32)) :=
  Option.bind (zloop (f154_worked_L12 v1 v3) 5000 ((0 : Int32), ((130 * v1) + v2), I)) fun s30 =>
  some ((s30.2.2 92 0), s30.2.2)
theorem ok_f154_worked_L12 {X : zX} {d : Nat} {r : Option Value} {M' : zM} (hd : 1 ≤ d) (v1 : Int32) (v3 : Int32) {J : (Nat → Nat → Int64)} : ∀ (n : Nat) (s x : (Int32 × Int32 × (Nat → Nat → Int32))), zloop (f154_worked_L12 v1 v3) n s = some x → (fun (x : (Int32 × Int32 × (Nat → Nat → Int32))) => zRun X d 154 188 [some (.ref 73), none, none, none, none, none, none] [] (SH, x.2.2, J) r M') x → (fun (s : (Int32 × Int32 × (Nat → Nat → Int32))) => zRun X d 154 12 [some (.ref 73), some (.int v1), none, some (.int v3), some (.int s.1), some (.int s.2.1), none] [] (SH, s.2.2, J) r M') s := zloop_ok (Wh := fun (s : (Int32 × Int32 × (Nat → Nat → Int32))) => zRun X d 154 12 [some (.ref 73), some (.int v1), none, some (.int v3), some (.int s.1), some (.int s.2.1), none] [] (SH, s.2.2, J) r M') (Wx := fun (x : (Int32 × Int32 × (Nat → Nat → Int32))) => zRun X d 154 188 [some (.ref 73), none, none, none, none, none, none] [] (SH, x.2.2, J) r M') (fun s y h w => by
  unfold f154_worked_L12 at h
  refine zr_steps 6 (21, [some (.ref 73), some (.int v1), none, some (.int v3), some (.int s.1), some (.int s.2.1), none], [.int ((130 * v1) + v3), .int s.2.1], (SH, s.2.2, J)) rfl ?_
  refine zr_one (if ((130 * v1) + v3) ≤ s.2.1 then zN 188 [some (.ref 73), some (.int v1), none, some (.int v3), some (.int s.1), some (.int s.2.1), none] [] (SH, s.2.2, J) else zN 24 [some (.ref 73), some (.int v1), none, some (.int v3), some (.int s.1), some (.int s.2.1), none] [] (SH, s.2.2, J)) rfl (zR_if (fun hc29 => zR_go ?_) (fun hc29 => zR_go ?_))
  · rw [if_pos hc29] at h
    have he := Option.some.inj h
    subst he
    exact zr_hdr rfl rfl (show zRun X d 154 188 [some (.ref 73), none, none, none, none, none, none] [] (SH, s.2.2, J) r M' from w)
  · rw [if_neg hc29] at h
    refine zr_steps 3 (30, [some (.ref 73), some (.int v1), none, some (.int v3), some (.int s.1), some (.int s.2.1), none], [.int s.2.1, .ref 86], (SH, s.2.2, J)) rfl ?_
    obtain ⟨hc1, h⟩ := zbifo h
    refine zr_one (bif zin s.2.1 650 then zN 31 [some (.ref 73), some (.int v1), none, some (.int v3), some (.int s.1), some (.int s.2.1), none] [.int (s.2.2 86 s.2.1.toNatClampNeg)] (SH, s.2.2, J) else none) rfl (zR_bif hc1 (zR_go ?_))
    refine zr_steps 3 (36, [some (.ref 73), some (.int v1), none, some (.int v3), some (.int s.1), some (.int s.2.1), some (.int (s.2.2 86 s.2.1.toNatClampNeg))], [.int 1, .int (s.2.2 86 s.2.1.toNatClampNeg)], (SH, s.2.2, J)) rfl ?_
    refine zr_one (if (s.2.2 86 s.2.1.toNatClampNeg) = 1 then zN 45 [some (.ref 73), some (.int v1), none, some (.int v3), some (.int s.1), some (.int s.2.1), some (.int (s.2.2 86 s.2.1.toNatClampNeg))] [] (SH, s.2.2, J) else zN 39 [some (.ref 73), some (.int v1), none, some (.int v3), some (.int s.1), some (.int s.2.1), some (.int (s.2.2 86 s.2.1.toNatClampNeg))] [] (SH, s.2.2, J)) rfl (zR_if (fun hc28 => zR_go ?_) (fun hc28 => zR_go ?_))
    · rw [if_pos hc28] at h
      refine zr_steps 5 (54, [some (.ref 73), some (.int v1), none, some (.int v3), some (.int s.1), some (.int s.2.1), some (.int (s.2.2 86 s.2.1.toNatClampNeg))], [.int 1, .int (s.2.2 86 s.2.1.toNatClampNeg), .int s.1, .ref 92], (SH, s.2.2, J)) rfl ?_
      refine zr_one (if (s.2.2 86 s.2.1.toNatClampNeg) = 1 then zN 57 [some (.ref 73), some (.int v1), none, some (.int v3), some (.int s.1), some (.int s.2.1), some (.int (s.2.2 86 s.2.1.toNatClampNeg))] [.int s.1, .ref 92] (SH, s.2.2, J) else zN 67 [some (.ref 73), some (.int v1), none, some (.int v3), some (.int s.1), some (.int s.2.1), some (.int (s.2.2 86 s.2.1.toNatClampNeg))] [.int s.1, .ref 92] (SH, s.2.2, J)) rfl (zR_if (fun hc7 => zR_go ?_) (fun hc7 => zR_go ?_))
      · rw [if_pos hc7] at h
        refine zr_steps 3 (63, [some (.ref 73), some (.int v1), none, some (.int v3), some (.int s.1), some (.int s.2.1), some (.int (s.2.2 86 s.2.1.toNatClampNeg))], [.int s.2.1, .ref 87, .int s.1, .ref 92], (SH, s.2.2, J)) rfl ?_
        obtain ⟨hc2, h⟩ := zbifo h
        refine zr_one (bif zin s.2.1 650 then zN 64 [some (.ref 73), some (.int v1), none, some (.int v3), some (.int s.1), some (.int s.2.1), some (.int (s.2.2 86 s.2.1.toNatClampNeg))] [.int (s.2.2 87 s.2.1.toNatClampNeg), .int s.1, .ref 92] (SH, s.2.2, J) else none) rfl (zR_bif hc2 (zR_go ?_))
        refine zr_steps 1 (79, [some (.ref 73), some (.int v1), none, some (.int v3), some (.int s.1), some (.int s.2.1), some (.int (s.2.2 86 s.2.1.toNatClampNeg))], [.int (s.2.2 87 s.2.1.toNatClampNeg), .int s.1, .ref 92], (SH, s.2.2, J)) rfl ?_
        obtain ⟨hc3, h⟩ := zbifo h
        refine zr_one (bif zin s.1 130 then zN 80 [some (.ref 73), some (.int v1), none, some (.int v3), some (.int s.1), some (.int s.2.1), some (.int (s.2.2 86 s.2.1.toNatClampNeg))] [] (SH, (zu s.2.2 92 s.1.toNatClampNeg (s.2.2 87 s.2.1.toNatClampNeg)), J) else none) rfl (zR_bif hc3 (zR_go ?_))
        refine zr_steps 4 (12, [some (.ref 73), some (.int v1), none, some (.int v3), some (.int (s.1 + 1)), some (.int (s.2.1 + 1)), some (.int (s.2.2 86 s.2.1.toNatClampNeg))], [], (SH, (zu s.2.2 92 s.1.toNatClampNeg (s.2.2 87 s.2.1.toNatClampNeg)), J)) rfl ?_
        have he := Option.some.inj h
        subst he
        exact zr_hdr rfl rfl (show zRun X d 154 12 [some (.ref 73), some (.int v1), none, some (.int v3), some (.int (s.1 + 1)), some (.int (s.2.1 + 1)), none] [] (SH, (zu s.2.2 92 s.1.toNatClampNeg (s.2.2 87 s.2.1.toNatClampNeg)), J) r M' from w)
      · rw [if_neg hc7] at h
        refine zr_steps 5 (77, [some (.ref 73), some (.int v1), none, some (.int v3), some (.int s.1), some (.int s.2.1), some (.int (s.2.2 86 s.2.1.toNatClampNeg))], [.int s.2.1, .ref 87, .ref 91, .int s.1, .ref 92], (SH, s.2.2, J)) rfl ?_
        obtain ⟨hc4, h⟩ := zbifo h
        refine zr_one (bif zin s.2.1 650 then zN 78 [some (.ref 73), some (.int v1), none, some (.int v3), some (.int s.1), some (.int s.2.1), some (.int (s.2.2 86 s.2.1.toNatClampNeg))] [.int (s.2.2 87 s.2.1.toNatClampNeg), .ref 91, .int s.1, .ref 92] (SH, s.2.2, J) else none) rfl (zR_bif hc4 (zR_go ?_))
        obtain ⟨hc5, h⟩ := zbifo h
        refine zr_one (bif zin (s.2.2 87 s.2.1.toNatClampNeg) 8 then zN 79 [some (.ref 73), some (.int v1), none, some (.int v3), some (.int s.1), some (.int s.2.1), some (.int (s.2.2 86 s.2.1.toNatClampNeg))] [.int (s.2.2 91 (s.2.2 87 s.2.1.toNatClampNeg).toNatClampNeg), .int s.1, .ref 92] (SH, s.2.2, J) else none) rfl (zR_bif hc5 (zR_go ?_))
        obtain ⟨hc6, h⟩ := zbifo h
        refine zr_one (bif zin s.1 130 then zN 80 [some (.ref 73), some (.int v1), none, some (.int v3), some (.int s.1), some (.int s.2.1), some (.int (s.2.2 86 s.2.1.toNatClampNeg))] [] (SH, (zu s.2.2 92 s.1.toNatClampNeg (s.2.2 91 (s.2.2 87 s.2.1.toNatClampNeg).toNatClampNeg)), J) else none) rfl (zR_bif hc6 (zR_go ?_))
        refine zr_steps 4 (12, [some (.ref 73), some (.int v1), none, some (.int v3), some (.int (s.1 + 1)), some (.int (s.2.1 + 1)), some (.int (s.2.2 86 s.2.1.toNatClampNeg))], [], (SH, (zu s.2.2 92 s.1.toNatClampNeg (s.2.2 91 (s.2.2 87 s.2.1.toNatClampNeg).toNatClampNeg)), J)) rfl ?_
        have he := Option.some.inj h
        subst he
        exact zr_hdr rfl rfl (show zRun X d 154 12 [some (.ref 73), some (.int v1), none, some (.int v3), some (.int (s.1 + 1)), some (.int (s.2.1 + 1)), none] [] (SH, (zu s.2.2 92 s.1.toNatClampNeg (s.2.2 91 (s.2.2 87 s.2.1.toNatClampNeg).toNatClampNeg)), J) r M' from w)
    · rw [if_neg hc28] at h
      refine zr_steps 2 (42, [some (.ref 73), some (.int v1), none, some (.int v3), some (.int s.1), some (.int s.2.1), some (.int (s.2.2 86 s.2.1.toNatClampNeg))], [.int 2, .int (s.2.2 86 s.2.1.toNatClampNeg)], (SH, s.2.2, J)) rfl ?_
      refine zr_one (if (s.2.2 86 s.2.1.toNatClampNeg) = 2 then zN 45 [some (.ref 73), some (.int v1), none, some (.int v3), some (.int s.1), some (.int s.2.1), some (.int (s.2.2 86 s.2.1.toNatClampNeg))] [] (SH, s.2.2, J) else zN 86 [some (.ref 73), some (.int v1), none, some (.int v3), some (.int s.1), some (.int s.2.1), some (.int (s.2.2 86 s.2.1.toNatClampNeg))] [] (SH, s.2.2, J)) rfl (zR_if (fun hc27 => zR_go ?_) (fun hc27 => zR_go ?_))
      · rw [if_pos hc27] at h
        refine zr_steps 5 (54, [some (.ref 73), some (.int v1), none, some (.int v3), some (.int s.1), some (.int s.2.1), some (.int (s.2.2 86 s.2.1.toNatClampNeg))], [.int 1, .int (s.2.2 86 s.2.1.toNatClampNeg), .int s.1, .ref 92], (SH, s.2.2, J)) rfl ?_
        refine zr_one (if (s.2.2 86 s.2.1.toNatClampNeg) = 1 then zN 57 [some (.ref 73), some (.int v1), none, some (.int v3), some (.int s.1), some (.int s.2.1), some (.int (s.2.2 86 s.2.1.toNatClampNeg))] [.int s.1, .ref 92] (SH, s.2.2, J) else zN 67 [some (.ref 73), some (.int v1), none, some (.int v3), some (.int s.1), some (.int s.2.1), some (.int (s.2.2 86 s.2.1.toNatClampNeg))] [.int s.1, .ref 92] (SH, s.2.2, J)) rfl (zR_if (fun hc13 => zR_go ?_) (fun hc13 => zR_go ?_))
        · rw [if_pos hc13] at h
          refine zr_steps 3 (63, [some (.ref 73), some (.int v1), none, some (.int v3), some (.int s.1), some (.int s.2.1), some (.int (s.2.2 86 s.2.1.toNatClampNeg))], [.int s.2.1, .ref 87, .int s.1, .ref 92], (SH, s.2.2, J)) rfl ?_
          obtain ⟨hc8, h⟩ := zbifo h
          refine zr_one (bif zin s.2.1 650 then zN 64 [some (.ref 73), some (.int v1), none, some (.int v3), some (.int s.1), some (.int s.2.1), some (.int (s.2.2 86 s.2.1.toNatClampNeg))] [.int (s.2.2 87 s.2.1.toNatClampNeg), .int s.1, .ref 92] (SH, s.2.2, J) else none) rfl (zR_bif hc8 (zR_go ?_))
          refine zr_steps 1 (79, [some (.ref 73), some (.int v1), none, some (.int v3), some (.int s.1), some (.int s.2.1), some (.int (s.2.2 86 s.2.1.toNatClampNeg))], [.int (s.2.2 87 s.2.1.toNatClampNeg), .int s.1, .ref 92], (SH, s.2.2, J)) rfl ?_
          obtain ⟨hc9, h⟩ := zbifo h
          refine zr_one (bif zin s.1 130 then zN 80 [some (.ref 73), some (.int v1), none, some (.int v3), some (.int s.1), some (.int s.2.1), some (.int (s.2.2 86 s.2.1.toNatClampNeg))] [] (SH, (zu s.2.2 92 s.1.toNatClampNeg (s.2.2 87 s.2.1.toNatClampNeg)), J) else none) rfl (zR_bif hc9 (zR_go ?_))
          refine zr_steps 4 (12, [some (.ref 73), some (.int v1), none, some (.int v3), some (.int (s.1 + 1)), some (.int (s.2.1 + 1)), some (.int (s.2.2 86 s.2.1.toNatClampNeg))], [], (SH, (zu s.2.2 92 s.1.toNatClampNeg (s.2.2 87 s.2.1.toNatClampNeg)), J)) rfl ?_
          have he := Option.some.inj h
          subst he
          exact zr_hdr rfl rfl (show zRun X d 154 12 [some (.ref 73), some (.int v1), none, some (.int v3), some (.int (s.1 + 1)), some (.int (s.2.1 + 1)), none] [] (SH, (zu s.2.2 92 s.1.toNatClampNeg (s.2.2 87 s.2.1.toNatClampNeg)), J) r M' from w)
        · rw [if_neg hc13] at h
          refine zr_steps 5 (77, [some (.ref 73), some (.int v1), none, some (.int v3), some (.int s.1), some (.int s.2.1), some (.int (s.2.2 86 s.2.1.toNatClampNeg))], [.int s.2.1, .ref 87, .ref 91, .int s.1, .ref 92], (SH, s.2.2, J)) rfl ?_
          obtain ⟨hc10, h⟩ := zbifo h
          refine zr_one (bif zin s.2.1 650 then zN 78 [some (.ref 73), some (.int v1), none, some (.int v3), some (.int s.1), some (.int s.2.1), some (.int (s.2.2 86 s.2.1.toNatClampNeg))] [.int (s.2.2 87 s.2.1.toNatClampNeg), .ref 91, .int s.1, .ref 92] (SH, s.2.2, J) else none) rfl (zR_bif hc10 (zR_go ?_))
          obtain ⟨hc11, h⟩ := zbifo h
          refine zr_one (bif zin (s.2.2 87 s.2.1.toNatClampNeg) 8 then zN 79 [some (.ref 73), some (.int v1), none, some (.int v3), some (.int s.1), some (.int s.2.1), some (.int (s.2.2 86 s.2.1.toNatClampNeg))] [.int (s.2.2 91 (s.2.2 87 s.2.1.toNatClampNeg).toNatClampNeg), .int s.1, .ref 92] (SH, s.2.2, J) else none) rfl (zR_bif hc11 (zR_go ?_))
          obtain ⟨hc12, h⟩ := zbifo h
          refine zr_one (bif zin s.1 130 then zN 80 [some (.ref 73), some (.int v1), none, some (.int v3), some (.int s.1), some (.int s.2.1), some (.int (s.2.2 86 s.2.1.toNatClampNeg))] [] (SH, (zu s.2.2 92 s.1.toNatClampNeg (s.2.2 91 (s.2.2 87 s.2.1.toNatClampNeg).toNatClampNeg)), J) else none) rfl (zR_bif hc12 (zR_go ?_))
          refine zr_steps 4 (12, [some (.ref 73), some (.int v1), none, some (.int v3), some (.int (s.1 + 1)), some (.int (s.2.1 + 1)), some (.int (s.2.2 86 s.2.1.toNatClampNeg))], [], (SH, (zu s.2.2 92 s.1.toNatClampNeg (s.2.2 91 (s.2.2 87 s.2.1.toNatClampNeg).toNatClampNeg)), J)) rfl ?_
          have he := Option.some.inj h
          subst he
          exact zr_hdr rfl rfl (show zRun X d 154 12 [some (.ref 73), some (.int v1), none, some (.int v3), some (.int (s.1 + 1)), some (.int (s.2.1 + 1)), none] [] (SH, (zu s.2.2 92 s.1.toNatClampNeg (s.2.2 91 (s.2.2 87 s.2.1.toNatClampNeg).toNatClampNeg)), J) r M' from w)
      · rw [if_neg hc27] at h
        refine zr_steps 2 (89, [some (.ref 73), some (.int v1), none, some (.int v3), some (.int s.1), some (.int s.2.1), some (.int (s.2.2 86 s.2.1.toNatClampNeg))], [.int 3, .int (s.2.2 86 s.2.1.toNatClampNeg)], (SH, s.2.2, J)) rfl ?_
        refine zr_one (if (s.2.2 86 s.2.1.toNatClampNeg) = 3 then zN 92 [some (.ref 73), some (.int v1), none, some (.int v3), some (.int s.1), some (.int s.2.1), some (.int (s.2.2 86 s.2.1.toNatClampNeg))] [] (SH, s.2.2, J) else zN 121 [some (.ref 73), some (.int v1), none, some (.int v3), some (.int s.1), some (.int s.2.1), some (.int (s.2.2 86 s.2.1.toNatClampNeg))] [] (SH, s.2.2, J)) rfl (zR_if (fun hc26 => zR_go ?_) (fun hc26 => zR_go ?_))
        · rw [if_pos hc26] at h
          refine zr_steps 10 (108, [some (.ref 73), some (.int v1), none, some (.int v3), some (.int s.1), some (.int s.2.1), some (.int (s.2.2 86 s.2.1.toNatClampNeg))], [.int (s.1 - 1), .ref 92, .int (s.1 - 1), .ref 92], (SH, s.2.2, J)) rfl ?_
          obtain ⟨hc14, h⟩ := zbifo h
          refine zr_one (bif zin (s.1 - 1) 130 then zN 109 [some (.ref 73), some (.int v1), none, some (.int v3), some (.int s.1), some (.int s.2.1), some (.int (s.2.2 86 s.2.1.toNatClampNeg))] [.int (s.2.2 92 (s.1 - 1).toNatClampNeg), .int (s.1 - 1), .ref 92] (SH, s.2.2, J) else none) rfl (zR_bif hc14 (zR_go ?_))
          refine zr_one (if (s.2.2 92 (s.1 - 1).toNatClampNeg) = 0 then zN 112 [some (.ref 73), some (.int v1), none, some (.int v3), some (.int s.1), some (.int s.2.1), some (.int (s.2.2 86 s.2.1.toNatClampNeg))] [.int (s.1 - 1), .ref 92] (SH, s.2.2, J) else zN 116 [some (.ref 73), some (.int v1), none, some (.int v3), some (.int s.1), some (.int s.2.1), some (.int (s.2.2 86 s.2.1.toNatClampNeg))] [.int (s.1 - 1), .ref 92] (SH, s.2.2, J)) rfl (zR_if (fun hc17 => zR_go ?_) (fun hc17 => zR_go ?_))
          · rw [if_pos hc17] at h
            refine zr_steps 2 (117, [some (.ref 73), some (.int v1), none, some (.int v3), some (.int s.1), some (.int s.2.1), some (.int (s.2.2 86 s.2.1.toNatClampNeg))], [.int 1, .int (s.1 - 1), .ref 92], (SH, s.2.2, J)) rfl ?_
            obtain ⟨hc15, h⟩ := zbifo h
            refine zr_one (bif zin (s.1 - 1) 130 then zN 118 [some (.ref 73), some (.int v1), none, some (.int v3), some (.int s.1), some (.int s.2.1), some (.int (s.2.2 86 s.2.1.toNatClampNeg))] [] (SH, (zu s.2.2 92 (s.1 - 1).toNatClampNeg 1), J) else none) rfl (zR_bif hc15 (zR_go ?_))
            refine zr_steps 3 (12, [some (.ref 73), some (.int v1), none, some (.int v3), some (.int s.1), some (.int (s.2.1 + 1)), some (.int (s.2.2 86 s.2.1.toNatClampNeg))], [], (SH, (zu s.2.2 92 (s.1 - 1).toNatClampNeg 1), J)) rfl ?_
            have he := Option.some.inj h
            subst he
            exact zr_hdr rfl rfl (show zRun X d 154 12 [some (.ref 73), some (.int v1), none, some (.int v3), some (.int s.1), some (.int (s.2.1 + 1)), none] [] (SH, (zu s.2.2 92 (s.1 - 1).toNatClampNeg 1), J) r M' from w)
          · rw [if_neg hc17] at h
            refine zr_steps 1 (117, [some (.ref 73), some (.int v1), none, some (.int v3), some (.int s.1), some (.int s.2.1), some (.int (s.2.2 86 s.2.1.toNatClampNeg))], [.int 0, .int (s.1 - 1), .ref 92], (SH, s.2.2, J)) rfl ?_
            obtain ⟨hc16, h⟩ := zbifo h
            refine zr_one (bif zin (s.1 - 1) 130 then zN 118 [some (.ref 73), some (.int v1), none, some (.int v3), some (.int s.1), some (.int s.2.1), some (.int (s.2.2 86 s.2.1.toNatClampNeg))] [] (SH, (zu s.2.2 92 (s.1 - 1).toNatClampNeg 0), J) else none) rfl (zR_bif hc16 (zR_go ?_))
            refine zr_steps 3 (12, [some (.ref 73), some (.int v1), none, some (.int v3), some (.int s.1), some (.int (s.2.1 + 1)), some (.int (s.2.2 86 s.2.1.toNatClampNeg))], [], (SH, (zu s.2.2 92 (s.1 - 1).toNatClampNeg 0), J)) rfl ?_
            have he := Option.some.inj h
            subst he
            exact zr_hdr rfl rfl (show zRun X d 154 12 [some (.ref 73), some (.int v1), none, some (.int v3), some (.int s.1), some (.int (s.2.1 + 1)), none] [] (SH, (zu s.2.2 92 (s.1 - 1).toNatClampNeg 0), J) r M' from w)
        · rw [if_neg hc26] at h
          refine zr_steps 2 (124, [some (.ref 73), some (.int v1), none, some (.int v3), some (.int s.1), some (.int s.2.1), some (.int (s.2.2 86 s.2.1.toNatClampNeg))], [.int 4, .int (s.2.2 86 s.2.1.toNatClampNeg)], (SH, s.2.2, J)) rfl ?_
          refine zr_one (if (s.2.2 86 s.2.1.toNatClampNeg) = 4 then zN 127 [some (.ref 73), some (.int v1), none, some (.int v3), some (.int s.1), some (.int s.2.1), some (.int (s.2.2 86 s.2.1.toNatClampNeg))] [] (SH, s.2.2, J) else zN 149 [some (.ref 73), some (.int v1), none, some (.int v3), some (.int s.1), some (.int s.2.1), some (.int (s.2.2 86 s.2.1.toNatClampNeg))] [] (SH, s.2.2, J)) rfl (zR_if (fun hc25 => zR_go ?_) (fun hc25 => zR_go ?_))
          · rw [if_pos hc25] at h
            refine zr_steps 10 (143, [some (.ref 73), some (.int v1), none, some (.int v3), some (.int s.1), some (.int s.2.1), some (.int (s.2.2 86 s.2.1.toNatClampNeg))], [.int (s.1 - 1), .ref 92, .int (s.1 - 1), .ref 92], (SH, s.2.2, J)) rfl ?_
            obtain ⟨hc18, h⟩ := zbifo h
            refine zr_one (bif zin (s.1 - 1) 130 then zN 144 [some (.ref 73), some (.int v1), none, some (.int v3), some (.int s.1), some (.int s.2.1), some (.int (s.2.2 86 s.2.1.toNatClampNeg))] [.int (s.2.2 92 (s.1 - 1).toNatClampNeg), .int (s.1 - 1), .ref 92] (SH, s.2.2, J) else none) rfl (zR_bif hc18 (zR_go ?_))
            refine zr_steps 1 (145, [some (.ref 73), some (.int v1), none, some (.int v3), some (.int s.1), some (.int s.2.1), some (.int (s.2.2 86 s.2.1.toNatClampNeg))], [.int (-(s.2.2 92 (s.1 - 1).toNatClampNeg)), .int (s.1 - 1), .ref 92], (SH, s.2.2, J)) rfl ?_
            obtain ⟨hc19, h⟩ := zbifo h
            refine zr_one (bif zin (s.1 - 1) 130 then zN 146 [some (.ref 73), some (.int v1), none, some (.int v3), some (.int s.1), some (.int s.2.1), some (.int (s.2.2 86 s.2.1.toNatClampNeg))] [] (SH, (zu s.2.2 92 (s.1 - 1).toNatClampNeg (-(s.2.2 92 (s.1 - 1).toNatClampNeg))), J) else none) rfl (zR_bif hc19 (zR_go ?_))
            refine zr_steps 3 (12, [some (.ref 73), some (.int v1), none, some (.int v3), some (.int s.1), some (.int (s.2.1 + 1)), some (.int (s.2.2 86 s.2.1.toNatClampNeg))], [], (SH, (zu s.2.2 92 (s.1 - 1).toNatClampNeg (-(s.2.2 92 (s.1 - 1).toNatClampNeg))), J)) rfl ?_
            have he := Option.some.inj h
            subst he
            exact zr_hdr rfl rfl (show zRun X d 154 12 [some (.ref 73), some (.int v1), none, some (.int v3), some (.int s.1), some (.int (s.2.1 + 1)), none] [] (SH, (zu s.2.2 92 (s.1 - 1).toNatClampNeg (-(s.2.2 92 (s.1 - 1).toNatClampNeg))), J) r M' from w)
          · rw [if_neg hc25] at h
            refine zr_steps 12 (170, [some (.ref 73), some (.int v1), none, some (.int v3), some (.int (s.1 + (-1))), some (.int s.2.1), some (.int (s.2.2 86 s.2.1.toNatClampNeg))], [.int ((s.1 + (-1)) - 1), .ref 92, .int (s.2.2 86 s.2.1.toNatClampNeg), .int ((s.1 + (-1)) - 1), .ref 92], (SH, s.2.2, J)) rfl ?_
            obtain ⟨hc20, h⟩ := zbifo h
            refine zr_one (bif zin ((s.1 + (-1)) - 1) 130 then zN 171 [some (.ref 73), some (.int v1), none, some (.int v3), some (.int (s.1 + (-1))), some (.int s.2.1), some (.int (s.2.2 86 s.2.1.toNatClampNeg))] [.int (s.2.2 92 ((s.1 + (-1)) - 1).toNatClampNeg), .int (s.2.2 86 s.2.1.toNatClampNeg), .int ((s.1 + (-1)) - 1), .ref 92] (SH, s.2.2, J) else none) rfl (zR_bif hc20 (zR_go ?_))
            refine zr_steps 3 (177, [some (.ref 73), some (.int v1), none, some (.int v3), some (.int (s.1 + (-1))), some (.int s.2.1), some (.int (s.2.2 86 s.2.1.toNatClampNeg))], [.int (s.1 + (-1)), .ref 92, .int (s.2.2 92 ((s.1 + (-1)) - 1).toNatClampNeg), .int (s.2.2 86 s.2.1.toNatClampNeg), .int ((s.1 + (-1)) - 1), .ref 92], (SH, s.2.2, J)) rfl ?_
            obtain ⟨hc21, h⟩ := zbifo h
            refine zr_one (bif zin (s.1 + (-1)) 130 then zN 178 [some (.ref 73), some (.int v1), none, some (.int v3), some (.int (s.1 + (-1))), some (.int s.2.1), some (.int (s.2.2 86 s.2.1.toNatClampNeg))] [.int (s.2.2 92 (s.1 + (-1)).toNatClampNeg), .int (s.2.2 92 ((s.1 + (-1)) - 1).toNatClampNeg), .int (s.2.2 86 s.2.1.toNatClampNeg), .int ((s.1 + (-1)) - 1), .ref 92] (SH, s.2.2, J) else none) rfl (zR_bif hc21 (zR_go ?_))
            obtain ⟨t23, hc22, h⟩ := zbind h
            refine zr_one (some (.inr (.inl (153, [.int (s.2.2 86 s.2.1.toNatClampNeg), .int (s.2.2 92 ((s.1 + (-1)) - 1).toNatClampNeg), .int (s.2.2 92 (s.1 + (-1)).toNatClampNeg)], [.int ((s.1 + (-1)) - 1), .ref 92], 181)))) rfl (zR_call (by omega) rfl (ok_f153_twoOf (by omega) (s.2.2 86 s.2.1.toNatClampNeg) (s.2.2 92 ((s.1 + (-1)) - 1).toNatClampNeg) (s.2.2 92 (s.1 + (-1)).toNatClampNeg) _ hc22) ?_)
            obtain ⟨hc24, h⟩ := zbifo h
            refine zr_one (bif zin ((s.1 + (-1)) - 1) 130 then zN 182 [some (.ref 73), some (.int v1), none, some (.int v3), some (.int (s.1 + (-1))), some (.int s.2.1), some (.int (s.2.2 86 s.2.1.toNatClampNeg))] [] (SH, (zu s.2.2 92 ((s.1 + (-1)) - 1).toNatClampNeg t23), J) else none) rfl (zR_bif hc24 (zR_go ?_))
            refine zr_steps 2 (12, [some (.ref 73), some (.int v1), none, some (.int v3), some (.int (s.1 + (-1))), some (.int (s.2.1 + 1)), some (.int (s.2.2 86 s.2.1.toNatClampNeg))], [], (SH, (zu s.2.2 92 ((s.1 + (-1)) - 1).toNatClampNeg t23), J)) rfl ?_
            have he := Option.some.inj h
            subst he
            exact zr_hdr rfl rfl (show zRun X d 154 12 [some (.ref 73), some (.int v1), none, some (.int v3), some (.int (s.1 + (-1))), some (.int (s.2.1 + 1)), none] [] (SH, (zu s.2.2 92 ((s.1 + (-1)) - 1).toNatClampNeg t23), J) r M' from w))
theorem ok_f154_worked {X : zX} {d : Nat} (hd : 1 ≤ d) (v1 : Int32) (v2 : Int32) (v3 : Int32) {I : (Nat → Nat → Int32)} {J : (Nat → Nat → Int64)} (t : (Int32 × (Nat → Nat → Int32))) (h : f154_worked v1 v2 v3 I = some t) : zRun X d 154 0 (zent 154 [.ref 73, .int v1, .int v2, .int v3]) [] (SH, I, J) (some (.int t.1)) (SH, t.2, J) := by
  unfold f154_worked at h
  refine zr_steps 8 (12, [some (.ref 73), some (.int v1), some (.int v2), some (.int v3), some (.int 0), some (.int ((130 * v1) + v2)), none], [], (SH, I, J)) rfl ?_
  obtain ⟨s30, ho31, h⟩ := zbind h
  refine zr_hdr (ls2 := [some (.ref 73), some (.int v1), none, some (.int v3), some (.int 0), some (.int ((130 * v1) + v2)), none]) rfl rfl ?_
  refine ok_f154_worked_L12 (by omega) v1 v3 5000 ((0 : Int32), ((130 * v1) + v2), I) s30 ho31 ?_
  show zRun X d 154 188 [some (.ref 73), none, none, none, none, none, none] [] (SH, s30.2.2, J) _ _
  refine zr_steps 3 (193, [some (.ref 73), none, none, none, none, none, none], [.int 0, .ref 92], (SH, s30.2.2, J)) rfl ?_
  refine zr_one (bif zin 0 130 then zN 194 [some (.ref 73), none, none, none, none, none, none] [.int (s30.2.2 92 0)] (SH, s30.2.2, J) else none) rfl (zR_bif (by decide) (zR_go ?_))
  have he := Option.some.inj h
  subst he
  exact zr_one (some (.inr (.inr (some (.int (s30.2.2 92 0)))))) rfl (zR_ret rfl rfl)
def f155_gives_L7 (v1 : Int32) (s : (Int32 × Int32 × (Nat → Nat → Int32))) : Option ((Int32 × (Nat → Nat → Int32)) ⊕ ((Int32 × Int32 × (Nat → Nat → Int32)) ⊕ (Int32 × Int32 × (Nat → Nat → Int32)))) :=
  bif zin v1 5 then
  if ((61 * v1) + (s.2.2 88 v1.toNatClampNeg)) ≤ s.2.1 then
    some (.inr (.inl (s.1, s.2.1, s.2.2)))
  else
    bif zin s.2.1 305 then
    if (s.2.2 89 s.2.1.toNatClampNeg) = s.1 then
      bif zin s.2.1 305 then
      bif zin s.2.1 305 then
      Option.bind (f154_worked v1 (s.2.2 89 s.2.1.toNatClampNeg) (s.2.2 90 s.2.1.toNatClampNeg) s.2.2) fun t6 =>
      some (.inl (t6.1, t6.2))
      else none
      else none
    else
      bif zin s.2.1 305 then
      Option.bind (f154_worked v1 s.1 (s.2.2 89 s.2.1.toNatClampNeg) s.2.2) fun t9 =>
      if t9.1 = 0 then
        bif zin s.2.1 305 then
        some (.inr (.inr ((t9.2 90 s.2.1.toNatClampNeg), (s.2.1 + 1), t9.2)))
        else none
      else
        bif zin s.2.1 305 then
        bif zin s.2.1 305 then
        Option.bind (f154_worked v1 (t9.2 89 s.2.1.toNatClampNeg) (t9.2 90 s.2.1.toNatClampNeg) t9.2) fun t14 =>
        some (.inl (t14.1, t14.2))
        else none
        else none
      else none
    else none
  else none
def f155_gives (v1 : Int32) (I : (Nat → Nat → Int32)) : Option (Int32 × (Nat → Nat → Int32)) :=
  zbR (zloopR (f155_gives_L7 v1) 5000 ((0 : Int32), (61 * v1), I)) (fun rr => some rr) fun s18 =>
  some (0, s18.2.2)
theorem ok_f155_gives_L7 {X : zX} {d : Nat} {r : Option Value} {M' : zM} (hd : 2 ≤ d) (v1 : Int32) {J : (Nat → Nat → Int64)} : ∀ (n : Nat) (s : (Int32 × Int32 × (Nat → Nat → Int32))) (t : (Int32 × (Nat → Nat → Int32)) ⊕ (Int32 × Int32 × (Nat → Nat → Int32))), zloopR (f155_gives_L7 v1) n s = some t → (match t with
    | .inl x => (fun (x : (Int32 × (Nat → Nat → Int32))) => r = (some (.int x.1)) ∧ M' = (SH, x.2, J)) x
    | .inr x => (fun (x : (Int32 × Int32 × (Nat → Nat → Int32))) => zRun X d 155 78 [none, none, none, none] [] (SH, x.2.2, J) r M') x) → (fun (s : (Int32 × Int32 × (Nat → Nat → Int32))) => zRun X d 155 7 [some (.ref 73), some (.int v1), some (.int s.1), some (.int s.2.1)] [] (SH, s.2.2, J) r M') s := zloopR_ok (Wh := fun (s : (Int32 × Int32 × (Nat → Nat → Int32))) => zRun X d 155 7 [some (.ref 73), some (.int v1), some (.int s.1), some (.int s.2.1)] [] (SH, s.2.2, J) r M') (Wx := fun (x : (Int32 × Int32 × (Nat → Nat → Int32))) => zRun X d 155 78 [none, none, none, none] [] (SH, x.2.2, J) r M') (Wr := fun (x : (Int32 × (Nat → Nat → Int32))) => r = (some (.int x.1)) ∧ M' = (SH, x.2, J)) (fun s y h w => by
  unfold f155_gives_L7 at h
  refine zr_steps 7 (17, [some (.ref 73), some (.int v1), some (.int s.1), some (.int s.2.1)], [.int v1, .ref 88, .int (61 * v1), .int s.2.1], (SH, s.2.2, J)) rfl ?_
  obtain ⟨hc1, h⟩ := zbifo h
  refine zr_one (bif zin v1 5 then zN 18 [some (.ref 73), some (.int v1), some (.int s.1), some (.int s.2.1)] [.int (s.2.2 88 v1.toNatClampNeg), .int (61 * v1), .int s.2.1] (SH, s.2.2, J) else none) rfl (zR_bif hc1 (zR_go ?_))
  refine zr_steps 1 (19, [some (.ref 73), some (.int v1), some (.int s.1), some (.int s.2.1)], [.int ((61 * v1) + (s.2.2 88 v1.toNatClampNeg)), .int s.2.1], (SH, s.2.2, J)) rfl ?_
  refine zr_one (if ((61 * v1) + (s.2.2 88 v1.toNatClampNeg)) ≤ s.2.1 then zN 78 [some (.ref 73), some (.int v1), some (.int s.1), some (.int s.2.1)] [] (SH, s.2.2, J) else zN 22 [some (.ref 73), some (.int v1), some (.int s.1), some (.int s.2.1)] [] (SH, s.2.2, J)) rfl (zR_if (fun hc17 => zR_go ?_) (fun hc17 => zR_go ?_))
  · rw [if_pos hc17] at h
    have he := Option.some.inj h
    subst he
    exact zr_hdr rfl rfl (show zRun X d 155 78 [none, none, none, none] [] (SH, s.2.2, J) r M' from w)
  · rw [if_neg hc17] at h
    refine zr_steps 3 (27, [some (.ref 73), some (.int v1), some (.int s.1), some (.int s.2.1)], [.int s.2.1, .ref 89], (SH, s.2.2, J)) rfl ?_
    obtain ⟨hc2, h⟩ := zbifo h
    refine zr_one (bif zin s.2.1 305 then zN 28 [some (.ref 73), some (.int v1), some (.int s.1), some (.int s.2.1)] [.int (s.2.2 89 s.2.1.toNatClampNeg)] (SH, s.2.2, J) else none) rfl (zR_bif hc2 (zR_go ?_))
    refine zr_steps 1 (29, [some (.ref 73), some (.int v1), some (.int s.1), some (.int s.2.1)], [.int s.1, .int (s.2.2 89 s.2.1.toNatClampNeg)], (SH, s.2.2, J)) rfl ?_
    refine zr_one (if (s.2.2 89 s.2.1.toNatClampNeg) = s.1 then zN 47 [some (.ref 73), some (.int v1), some (.int s.1), some (.int s.2.1)] [] (SH, s.2.2, J) else zN 32 [some (.ref 73), some (.int v1), some (.int s.1), some (.int s.2.1)] [] (SH, s.2.2, J)) rfl (zR_if (fun hc16 => zR_go ?_) (fun hc16 => zR_go ?_))
    · rw [if_pos hc16] at h
      refine zr_steps 5 (54, [some (.ref 73), some (.int v1), some (.int s.1), some (.int s.2.1)], [.int s.2.1, .ref 89, .int v1, .ref 73], (SH, s.2.2, J)) rfl ?_
      obtain ⟨hc3, h⟩ := zbifo h
      refine zr_one (bif zin s.2.1 305 then zN 55 [some (.ref 73), some (.int v1), some (.int s.1), some (.int s.2.1)] [.int (s.2.2 89 s.2.1.toNatClampNeg), .int v1, .ref 73] (SH, s.2.2, J) else none) rfl (zR_bif hc3 (zR_go ?_))
      refine zr_steps 3 (60, [some (.ref 73), some (.int v1), some (.int s.1), some (.int s.2.1)], [.int s.2.1, .ref 90, .int (s.2.2 89 s.2.1.toNatClampNeg), .int v1, .ref 73], (SH, s.2.2, J)) rfl ?_
      obtain ⟨hc4, h⟩ := zbifo h
      refine zr_one (bif zin s.2.1 305 then zN 61 [some (.ref 73), some (.int v1), some (.int s.1), some (.int s.2.1)] [.int (s.2.2 90 s.2.1.toNatClampNeg), .int (s.2.2 89 s.2.1.toNatClampNeg), .int v1, .ref 73] (SH, s.2.2, J) else none) rfl (zR_bif hc4 (zR_go ?_))
      obtain ⟨t6, hc5, h⟩ := zbind h
      refine zr_one (some (.inr (.inl (154, [.ref 73, .int v1, .int (s.2.2 89 s.2.1.toNatClampNeg), .int (s.2.2 90 s.2.1.toNatClampNeg)], [], 64)))) rfl (zR_call (by omega) rfl (ok_f154_worked (by omega) v1 (s.2.2 89 s.2.1.toNatClampNeg) (s.2.2 90 s.2.1.toNatClampNeg) _ hc5) ?_)
      have he := Option.some.inj h
      subst he
      obtain ⟨e1, e2⟩ := (show r = (some (.int t6.1)) ∧ M' = (SH, t6.2, J) from w)
      exact zr_one (some (.inr (.inr (some (.int t6.1))))) rfl (zR_ret e1.symm e2.symm)
    · rw [if_neg hc16] at h
      refine zr_steps 6 (40, [some (.ref 73), some (.int v1), some (.int s.1), some (.int s.2.1)], [.int s.2.1, .ref 89, .int s.1, .int v1, .ref 73], (SH, s.2.2, J)) rfl ?_
      obtain ⟨hc7, h⟩ := zbifo h
      refine zr_one (bif zin s.2.1 305 then zN 41 [some (.ref 73), some (.int v1), some (.int s.1), some (.int s.2.1)] [.int (s.2.2 89 s.2.1.toNatClampNeg), .int s.1, .int v1, .ref 73] (SH, s.2.2, J) else none) rfl (zR_bif hc7 (zR_go ?_))
      obtain ⟨t9, hc8, h⟩ := zbind h
      refine zr_one (some (.inr (.inl (154, [.ref 73, .int v1, .int s.1, .int (s.2.2 89 s.2.1.toNatClampNeg)], [], 44)))) rfl (zR_call (by omega) rfl (ok_f154_worked (by omega) v1 s.1 (s.2.2 89 s.2.1.toNatClampNeg) _ hc8) ?_)
      refine zr_one (if t9.1 = 0 then zN 65 [some (.ref 73), some (.int v1), some (.int s.1), some (.int s.2.1)] [] (SH, t9.2, J) else zN 47 [some (.ref 73), some (.int v1), some (.int s.1), some (.int s.2.1)] [] (SH, t9.2, J)) rfl (zR_if (fun hc15 => zR_go ?_) (fun hc15 => zR_go ?_))
      · rw [if_pos hc15] at h
        refine zr_steps 3 (70, [some (.ref 73), some (.int v1), some (.int s.1), some (.int s.2.1)], [.int s.2.1, .ref 90], (SH, t9.2, J)) rfl ?_
        obtain ⟨hc10, h⟩ := zbifo h
        refine zr_one (bif zin s.2.1 305 then zN 71 [some (.ref 73), some (.int v1), some (.int s.1), some (.int s.2.1)] [.int (t9.2 90 s.2.1.toNatClampNeg)] (SH, t9.2, J) else none) rfl (zR_bif hc10 (zR_go ?_))
        refine zr_steps 3 (7, [some (.ref 73), some (.int v1), some (.int (t9.2 90 s.2.1.toNatClampNeg)), some (.int (s.2.1 + 1))], [], (SH, t9.2, J)) rfl ?_
        have he := Option.some.inj h
        subst he
        exact zr_hdr rfl rfl (show zRun X d 155 7 [some (.ref 73), some (.int v1), some (.int (t9.2 90 s.2.1.toNatClampNeg)), some (.int (s.2.1 + 1))] [] (SH, t9.2, J) r M' from w)
      · rw [if_neg hc15] at h
        refine zr_steps 5 (54, [some (.ref 73), some (.int v1), some (.int s.1), some (.int s.2.1)], [.int s.2.1, .ref 89, .int v1, .ref 73], (SH, t9.2, J)) rfl ?_
        obtain ⟨hc11, h⟩ := zbifo h
        refine zr_one (bif zin s.2.1 305 then zN 55 [some (.ref 73), some (.int v1), some (.int s.1), some (.int s.2.1)] [.int (t9.2 89 s.2.1.toNatClampNeg), .int v1, .ref 73] (SH, t9.2, J) else none) rfl (zR_bif hc11 (zR_go ?_))
        refine zr_steps 3 (60, [some (.ref 73), some (.int v1), some (.int s.1), some (.int s.2.1)], [.int s.2.1, .ref 90, .int (t9.2 89 s.2.1.toNatClampNeg), .int v1, .ref 73], (SH, t9.2, J)) rfl ?_
        obtain ⟨hc12, h⟩ := zbifo h
        refine zr_one (bif zin s.2.1 305 then zN 61 [some (.ref 73), some (.int v1), some (.int s.1), some (.int s.2.1)] [.int (t9.2 90 s.2.1.toNatClampNeg), .int (t9.2 89 s.2.1.toNatClampNeg), .int v1, .ref 73] (SH, t9.2, J) else none) rfl (zR_bif hc12 (zR_go ?_))
        obtain ⟨t14, hc13, h⟩ := zbind h
        refine zr_one (some (.inr (.inl (154, [.ref 73, .int v1, .int (t9.2 89 s.2.1.toNatClampNeg), .int (t9.2 90 s.2.1.toNatClampNeg)], [], 64)))) rfl (zR_call (by omega) rfl (ok_f154_worked (by omega) v1 (t9.2 89 s.2.1.toNatClampNeg) (t9.2 90 s.2.1.toNatClampNeg) _ hc13) ?_)
        have he := Option.some.inj h
        subst he
        obtain ⟨e1, e2⟩ := (show r = (some (.int t14.1)) ∧ M' = (SH, t14.2, J) from w)
        exact zr_one (some (.inr (.inr (some (.int t14.1))))) rfl (zR_ret e1.symm e2.symm))
theorem ok_f155_gives {X : zX} {d : Nat} (hd : 2 ≤ d) (v1 : Int32) {I : (Nat → Nat → Int32)} {J : (Nat → Nat → Int64)} (t : (Int32 × (Nat → Nat → Int32))) (h : f155_gives v1 I = some t) : zRun X d 155 0 (zent 155 [.ref 73, .int v1]) [] (SH, I, J) (some (.int t.1)) (SH, t.2, J) := by
  unfold f155_gives at h
  refine zr_steps 6 (7, [some (.ref 73), some (.int v1), some (.int 0), some (.int (61 * v1))], [], (SH, I, J)) rfl ?_
  obtain ⟨y20, ho19, hy⟩ := zbRe h
  refine zr_hdr (ls2 := [some (.ref 73), some (.int v1), some (.int 0), some (.int (61 * v1))]) rfl rfl ?_
  refine ok_f155_gives_L7 (by omega) v1 5000 ((0 : Int32), (61 * v1), I) y20 ho19 ?_
  rcases hy with ⟨rr, rfl, h⟩ | ⟨s18, rfl, h⟩
  · have he := Option.some.inj h
    subst he
    exact ⟨rfl, rfl⟩
  · show zRun X d 155 78 [none, none, none, none] [] (SH, s18.2.2, J) _ _
    refine zr_steps 1 (79, [none, none, none, none], [.int 0], (SH, s18.2.2, J)) rfl ?_
    have he := Option.some.inj h
    subst he
    exact zr_one (some (.inr (.inr (some (.int 0))))) rfl (zR_ret rfl rfl)
