set_option maxRecDepth 100000 in
theorem zk_0_0 : ∀ q, q < 60 → zokE 0 (q + 0) (zc_0 (q + 0)) = true := by decide +kernel
set_option maxRecDepth 100000 in
theorem zk_0_1 : ∀ q, q < 60 → zokE 0 (q + 60) (zc_0 (q + 60)) = true := by decide +kernel
set_option maxRecDepth 100000 in
theorem zk_0_2 : ∀ q, q < 60 → zokE 0 (q + 120) (zc_0 (q + 120)) = true := by decide +kernel
set_option maxRecDepth 100000 in
theorem zk_0_3 : ∀ q, q < 60 → zokE 0 (q + 180) (zc_0 (q + 180)) = true := by decide +kernel
set_option maxRecDepth 100000 in
theorem zk_0_4 : ∀ q, q < 60 → zokE 0 (q + 240) (zc_0 (q + 240)) = true := by decide +kernel
set_option maxRecDepth 100000 in
theorem zk_0_5 : ∀ q, q < 60 → zokE 0 (q + 300) (zc_0 (q + 300)) = true := by decide +kernel
set_option maxRecDepth 100000 in
theorem zk_0_6 : ∀ q, q < 60 → zokE 0 (q + 360) (zc_0 (q + 360)) = true := by decide +kernel
set_option maxRecDepth 100000 in
theorem zk_0_7 : ∀ q, q < 60 → zokE 0 (q + 420) (zc_0 (q + 420)) = true := by decide +kernel
set_option maxRecDepth 100000 in
theorem zk_0_8 : ∀ q, q < 60 → zokE 0 (q + 480) (zc_0 (q + 480)) = true := by decide +kernel
set_option maxRecDepth 100000 in
theorem zk_0_9 : ∀ q, q < 60 → zokE 0 (q + 540) (zc_0 (q + 540)) = true := by decide +kernel
set_option maxRecDepth 100000 in
theorem zk_0_10 : ∀ q, q < 60 → zokE 0 (q + 600) (zc_0 (q + 600)) = true := by decide +kernel
set_option maxRecDepth 100000 in
theorem zk_0_11 : ∀ q, q < 60 → zokE 0 (q + 660) (zc_0 (q + 660)) = true := by decide +kernel
set_option maxRecDepth 100000 in
theorem zk_0_12 : ∀ q, q < 60 → zokE 0 (q + 720) (zc_0 (q + 720)) = true := by decide +kernel
set_option maxRecDepth 100000 in
theorem zk_0_13 : ∀ q, q < 60 → zokE 0 (q + 780) (zc_0 (q + 780)) = true := by decide +kernel
set_option maxRecDepth 100000 in
theorem zk_0_14 : ∀ q, q < 60 → zokE 0 (q + 840) (zc_0 (q + 840)) = true := by decide +kernel
set_option maxRecDepth 100000 in
theorem zk_0_15 : ∀ q, q < 60 → zokE 0 (q + 900) (zc_0 (q + 900)) = true := by decide +kernel
set_option maxRecDepth 100000 in
theorem zk_0_16 : ∀ q, q < 60 → zokE 0 (q + 960) (zc_0 (q + 960)) = true := by decide +kernel
set_option maxRecDepth 100000 in
theorem zk_0_17 : ∀ q, q < 60 → zokE 0 (q + 1020) (zc_0 (q + 1020)) = true := by decide +kernel
set_option maxRecDepth 100000 in
theorem zk_0_18 : ∀ q, q < 60 → zokE 0 (q + 1080) (zc_0 (q + 1080)) = true := by decide +kernel
set_option maxRecDepth 100000 in
theorem zk_0_19 : ∀ q, q < 60 → zokE 0 (q + 1140) (zc_0 (q + 1140)) = true := by decide +kernel
set_option maxRecDepth 100000 in
theorem zk_0_20 : ∀ q, q < 45 → zokE 0 (q + 1200) (zc_0 (q + 1200)) = true := by decide +kernel
theorem zk_0 (pc : Nat) : zokE 0 pc (zc_0 pc) = true := by
  rcases Nat.lt_or_ge pc 60 with h | h2
  · exact zchunk (P := fun q => zokE 0 q (zc_0 q) = true) 0 60 zk_0_0 pc (by omega) (by omega)
  have h0 := h2
  rcases Nat.lt_or_ge pc 120 with h | h2
  · exact zchunk (P := fun q => zokE 0 q (zc_0 q) = true) 60 60 zk_0_1 pc (by omega) (by omega)
  have h1 := h2
  rcases Nat.lt_or_ge pc 180 with h | h2
  · exact zchunk (P := fun q => zokE 0 q (zc_0 q) = true) 120 60 zk_0_2 pc (by omega) (by omega)
  have h2 := h2
  rcases Nat.lt_or_ge pc 240 with h | h2
  · exact zchunk (P := fun q => zokE 0 q (zc_0 q) = true) 180 60 zk_0_3 pc (by omega) (by omega)
  have h3 := h2
  rcases Nat.lt_or_ge pc 300 with h | h2
  · exact zchunk (P := fun q => zokE 0 q (zc_0 q) = true) 240 60 zk_0_4 pc (by omega) (by omega)
  have h4 := h2
  rcases Nat.lt_or_ge pc 360 with h | h2
  · exact zchunk (P := fun q => zokE 0 q (zc_0 q) = true) 300 60 zk_0_5 pc (by omega) (by omega)
  have h5 := h2
  rcases Nat.lt_or_ge pc 420 with h | h2
  · exact zchunk (P := fun q => zokE 0 q (zc_0 q) = true) 360 60 zk_0_6 pc (by omega) (by omega)
  have h6 := h2
  rcases Nat.lt_or_ge pc 480 with h | h2
  · exact zchunk (P := fun q => zokE 0 q (zc_0 q) = true) 420 60 zk_0_7 pc (by omega) (by omega)
  have h7 := h2
  rcases Nat.lt_or_ge pc 540 with h | h2
  · exact zchunk (P := fun q => zokE 0 q (zc_0 q) = true) 480 60 zk_0_8 pc (by omega) (by omega)
  have h8 := h2
  rcases Nat.lt_or_ge pc 600 with h | h2
  · exact zchunk (P := fun q => zokE 0 q (zc_0 q) = true) 540 60 zk_0_9 pc (by omega) (by omega)
  have h9 := h2
  rcases Nat.lt_or_ge pc 660 with h | h2
  · exact zchunk (P := fun q => zokE 0 q (zc_0 q) = true) 600 60 zk_0_10 pc (by omega) (by omega)
  have h10 := h2
  rcases Nat.lt_or_ge pc 720 with h | h2
  · exact zchunk (P := fun q => zokE 0 q (zc_0 q) = true) 660 60 zk_0_11 pc (by omega) (by omega)
  have h11 := h2
  rcases Nat.lt_or_ge pc 780 with h | h2
  · exact zchunk (P := fun q => zokE 0 q (zc_0 q) = true) 720 60 zk_0_12 pc (by omega) (by omega)
  have h12 := h2
  rcases Nat.lt_or_ge pc 840 with h | h2
  · exact zchunk (P := fun q => zokE 0 q (zc_0 q) = true) 780 60 zk_0_13 pc (by omega) (by omega)
  have h13 := h2
  rcases Nat.lt_or_ge pc 900 with h | h2
  · exact zchunk (P := fun q => zokE 0 q (zc_0 q) = true) 840 60 zk_0_14 pc (by omega) (by omega)
  have h14 := h2
  rcases Nat.lt_or_ge pc 960 with h | h2
  · exact zchunk (P := fun q => zokE 0 q (zc_0 q) = true) 900 60 zk_0_15 pc (by omega) (by omega)
  have h15 := h2
  rcases Nat.lt_or_ge pc 1020 with h | h2
  · exact zchunk (P := fun q => zokE 0 q (zc_0 q) = true) 960 60 zk_0_16 pc (by omega) (by omega)
  have h16 := h2
  rcases Nat.lt_or_ge pc 1080 with h | h2
  · exact zchunk (P := fun q => zokE 0 q (zc_0 q) = true) 1020 60 zk_0_17 pc (by omega) (by omega)
  have h17 := h2
  rcases Nat.lt_or_ge pc 1140 with h | h2
  · exact zchunk (P := fun q => zokE 0 q (zc_0 q) = true) 1080 60 zk_0_18 pc (by omega) (by omega)
  have h18 := h2
  rcases Nat.lt_or_ge pc 1200 with h | h2
  · exact zchunk (P := fun q => zokE 0 q (zc_0 q) = true) 1140 60 zk_0_19 pc (by omega) (by omega)
  have h19 := h2
  rcases Nat.lt_or_ge pc 1245 with h | h2
  · exact zchunk (P := fun q => zokE 0 q (zc_0 q) = true) 1200 45 zk_0_20 pc (by omega) (by omega)
  have h20 := h2
  have e : zc_0 pc = none := by unfold zc_0; rw [zblt (by omega)]; rfl
  rw [e]; rfl
set_option maxRecDepth 100000 in
theorem zk_1 (pc : Nat) : zokE 1 pc (zc_1 pc) = true := by
  rcases Nat.lt_or_ge pc 41 with h | h
  · exact (by decide +kernel : ∀ q, q < 41 → zokE 1 q (zc_1 q) = true) pc h
  · have e : zc_1 pc = none := by unfold zc_1; rw [zblt h]; rfl
    rw [e]; rfl
set_option maxRecDepth 100000 in
theorem zk_2 (pc : Nat) : zokE 2 pc (zc_2 pc) = true := by
  rcases Nat.lt_or_ge pc 16 with h | h
  · exact (by decide +kernel : ∀ q, q < 16 → zokE 2 q (zc_2 q) = true) pc h
  · have e : zc_2 pc = none := by unfold zc_2; rw [zblt h]; rfl
    rw [e]; rfl
set_option maxRecDepth 100000 in
theorem zk_3 (pc : Nat) : zokE 3 pc (zc_3 pc) = true := by
  rcases Nat.lt_or_ge pc 38 with h | h
  · exact (by decide +kernel : ∀ q, q < 38 → zokE 3 q (zc_3 q) = true) pc h
  · have e : zc_3 pc = none := by unfold zc_3; rw [zblt h]; rfl
    rw [e]; rfl
set_option maxRecDepth 100000 in
theorem zk_4 (pc : Nat) : zokE 4 pc (zc_4 pc) = true := by
  rcases Nat.lt_or_ge pc 18 with h | h
  · exact (by decide +kernel : ∀ q, q < 18 → zokE 4 q (zc_4 q) = true) pc h
  · have e : zc_4 pc = none := by unfold zc_4; rw [zblt h]; rfl
    rw [e]; rfl
set_option maxRecDepth 100000 in
theorem zk_5 (pc : Nat) : zokE 5 pc (zc_5 pc) = true := by
  rcases Nat.lt_or_ge pc 48 with h | h
  · exact (by decide +kernel : ∀ q, q < 48 → zokE 5 q (zc_5 q) = true) pc h
  · have e : zc_5 pc = none := by unfold zc_5; rw [zblt h]; rfl
    rw [e]; rfl
set_option maxRecDepth 100000 in
theorem zk_6_0 : ∀ q, q < 60 → zokE 6 (q + 0) (zc_6 (q + 0)) = true := by decide +kernel
set_option maxRecDepth 100000 in
theorem zk_6_1 : ∀ q, q < 42 → zokE 6 (q + 60) (zc_6 (q + 60)) = true := by decide +kernel
theorem zk_6 (pc : Nat) : zokE 6 pc (zc_6 pc) = true := by
  rcases Nat.lt_or_ge pc 60 with h | h2
  · exact zchunk (P := fun q => zokE 6 q (zc_6 q) = true) 0 60 zk_6_0 pc (by omega) (by omega)
  have h0 := h2
  rcases Nat.lt_or_ge pc 102 with h | h2
  · exact zchunk (P := fun q => zokE 6 q (zc_6 q) = true) 60 42 zk_6_1 pc (by omega) (by omega)
  have h1 := h2
  have e : zc_6 pc = none := by unfold zc_6; rw [zblt (by omega)]; rfl
  rw [e]; rfl
set_option maxRecDepth 100000 in
theorem zk_7 (pc : Nat) : zokE 7 pc (zc_7 pc) = true := by
  rcases Nat.lt_or_ge pc 30 with h | h
  · exact (by decide +kernel : ∀ q, q < 30 → zokE 7 q (zc_7 q) = true) pc h
  · have e : zc_7 pc = none := by unfold zc_7; rw [zblt h]; rfl
    rw [e]; rfl
set_option maxRecDepth 100000 in
theorem zk_8_0 : ∀ q, q < 60 → zokE 8 (q + 0) (zc_8 (q + 0)) = true := by decide +kernel
set_option maxRecDepth 100000 in
theorem zk_8_1 : ∀ q, q < 42 → zokE 8 (q + 60) (zc_8 (q + 60)) = true := by decide +kernel
theorem zk_8 (pc : Nat) : zokE 8 pc (zc_8 pc) = true := by
  rcases Nat.lt_or_ge pc 60 with h | h2
  · exact zchunk (P := fun q => zokE 8 q (zc_8 q) = true) 0 60 zk_8_0 pc (by omega) (by omega)
  have h0 := h2
  rcases Nat.lt_or_ge pc 102 with h | h2
  · exact zchunk (P := fun q => zokE 8 q (zc_8 q) = true) 60 42 zk_8_1 pc (by omega) (by omega)
  have h1 := h2
  have e : zc_8 pc = none := by unfold zc_8; rw [zblt (by omega)]; rfl
  rw [e]; rfl
set_option maxRecDepth 100000 in
theorem zk_9_0 : ∀ q, q < 60 → zokE 9 (q + 0) (zc_9 (q + 0)) = true := by decide +kernel
set_option maxRecDepth 100000 in
theorem zk_9_1 : ∀ q, q < 47 → zokE 9 (q + 60) (zc_9 (q + 60)) = true := by decide +kernel
theorem zk_9 (pc : Nat) : zokE 9 pc (zc_9 pc) = true := by
  rcases Nat.lt_or_ge pc 60 with h | h2
  · exact zchunk (P := fun q => zokE 9 q (zc_9 q) = true) 0 60 zk_9_0 pc (by omega) (by omega)
  have h0 := h2
  rcases Nat.lt_or_ge pc 107 with h | h2
  · exact zchunk (P := fun q => zokE 9 q (zc_9 q) = true) 60 47 zk_9_1 pc (by omega) (by omega)
  have h1 := h2
  have e : zc_9 pc = none := by unfold zc_9; rw [zblt (by omega)]; rfl
  rw [e]; rfl
set_option maxRecDepth 100000 in
theorem zk_10_0 : ∀ q, q < 60 → zokE 10 (q + 0) (zc_10 (q + 0)) = true := by decide +kernel
set_option maxRecDepth 100000 in
theorem zk_10_1 : ∀ q, q < 19 → zokE 10 (q + 60) (zc_10 (q + 60)) = true := by decide +kernel
theorem zk_10 (pc : Nat) : zokE 10 pc (zc_10 pc) = true := by
  rcases Nat.lt_or_ge pc 60 with h | h2
  · exact zchunk (P := fun q => zokE 10 q (zc_10 q) = true) 0 60 zk_10_0 pc (by omega) (by omega)
  have h0 := h2
  rcases Nat.lt_or_ge pc 79 with h | h2
  · exact zchunk (P := fun q => zokE 10 q (zc_10 q) = true) 60 19 zk_10_1 pc (by omega) (by omega)
  have h1 := h2
  have e : zc_10 pc = none := by unfold zc_10; rw [zblt (by omega)]; rfl
  rw [e]; rfl
set_option maxRecDepth 100000 in
theorem zk_11_0 : ∀ q, q < 60 → zokE 11 (q + 0) (zc_11 (q + 0)) = true := by decide +kernel
set_option maxRecDepth 100000 in
theorem zk_11_1 : ∀ q, q < 23 → zokE 11 (q + 60) (zc_11 (q + 60)) = true := by decide +kernel
theorem zk_11 (pc : Nat) : zokE 11 pc (zc_11 pc) = true := by
  rcases Nat.lt_or_ge pc 60 with h | h2
  · exact zchunk (P := fun q => zokE 11 q (zc_11 q) = true) 0 60 zk_11_0 pc (by omega) (by omega)
  have h0 := h2
  rcases Nat.lt_or_ge pc 83 with h | h2
  · exact zchunk (P := fun q => zokE 11 q (zc_11 q) = true) 60 23 zk_11_1 pc (by omega) (by omega)
  have h1 := h2
  have e : zc_11 pc = none := by unfold zc_11; rw [zblt (by omega)]; rfl
  rw [e]; rfl
