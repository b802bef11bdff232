set_option maxRecDepth 100000 in
theorem zk_12 (pc : Nat) : zokE 12 pc (zc_12 pc) = true := by
  rcases Nat.lt_or_ge pc 47 with h | h
  · exact (by decide +kernel : ∀ q, q < 47 → zokE 12 q (zc_12 q) = true) pc h
  · have e : zc_12 pc = none := by unfold zc_12; rw [zblt h]; rfl
    rw [e]; rfl
set_option maxRecDepth 100000 in
theorem zk_13_0 : ∀ q, q < 60 → zokE 13 (q + 0) (zc_13 (q + 0)) = true := by decide +kernel
set_option maxRecDepth 100000 in
theorem zk_13_1 : ∀ q, q < 13 → zokE 13 (q + 60) (zc_13 (q + 60)) = true := by decide +kernel
theorem zk_13 (pc : Nat) : zokE 13 pc (zc_13 pc) = true := by
  rcases Nat.lt_or_ge pc 60 with h | h2
  · exact zchunk (P := fun q => zokE 13 q (zc_13 q) = true) 0 60 zk_13_0 pc (by omega) (by omega)
  have h0 := h2
  rcases Nat.lt_or_ge pc 73 with h | h2
  · exact zchunk (P := fun q => zokE 13 q (zc_13 q) = true) 60 13 zk_13_1 pc (by omega) (by omega)
  have h1 := h2
  have e : zc_13 pc = none := by unfold zc_13; rw [zblt (by omega)]; rfl
  rw [e]; rfl
set_option maxRecDepth 100000 in
theorem zk_14_0 : ∀ q, q < 60 → zokE 14 (q + 0) (zc_14 (q + 0)) = true := by decide +kernel
set_option maxRecDepth 100000 in
theorem zk_14_1 : ∀ q, q < 11 → zokE 14 (q + 60) (zc_14 (q + 60)) = true := by decide +kernel
theorem zk_14 (pc : Nat) : zokE 14 pc (zc_14 pc) = true := by
  rcases Nat.lt_or_ge pc 60 with h | h2
  · exact zchunk (P := fun q => zokE 14 q (zc_14 q) = true) 0 60 zk_14_0 pc (by omega) (by omega)
  have h0 := h2
  rcases Nat.lt_or_ge pc 71 with h | h2
  · exact zchunk (P := fun q => zokE 14 q (zc_14 q) = true) 60 11 zk_14_1 pc (by omega) (by omega)
  have h1 := h2
  have e : zc_14 pc = none := by unfold zc_14; rw [zblt (by omega)]; rfl
  rw [e]; rfl
set_option maxRecDepth 100000 in
theorem zk_15 (pc : Nat) : zokE 15 pc (zc_15 pc) = true := by
  rcases Nat.lt_or_ge pc 57 with h | h
  · exact (by decide +kernel : ∀ q, q < 57 → zokE 15 q (zc_15 q) = true) pc h
  · have e : zc_15 pc = none := by unfold zc_15; rw [zblt h]; rfl
    rw [e]; rfl
set_option maxRecDepth 100000 in
theorem zk_16_0 : ∀ q, q < 60 → zokE 16 (q + 0) (zc_16 (q + 0)) = true := by decide +kernel
set_option maxRecDepth 100000 in
theorem zk_16_1 : ∀ q, q < 6 → zokE 16 (q + 60) (zc_16 (q + 60)) = true := by decide +kernel
theorem zk_16 (pc : Nat) : zokE 16 pc (zc_16 pc) = true := by
  rcases Nat.lt_or_ge pc 60 with h | h2
  · exact zchunk (P := fun q => zokE 16 q (zc_16 q) = true) 0 60 zk_16_0 pc (by omega) (by omega)
  have h0 := h2
  rcases Nat.lt_or_ge pc 66 with h | h2
  · exact zchunk (P := fun q => zokE 16 q (zc_16 q) = true) 60 6 zk_16_1 pc (by omega) (by omega)
  have h1 := h2
  have e : zc_16 pc = none := by unfold zc_16; rw [zblt (by omega)]; rfl
  rw [e]; rfl
set_option maxRecDepth 100000 in
theorem zk_17 (pc : Nat) : zokE 17 pc (zc_17 pc) = true := by
  rcases Nat.lt_or_ge pc 59 with h | h
  · exact (by decide +kernel : ∀ q, q < 59 → zokE 17 q (zc_17 q) = true) pc h
  · have e : zc_17 pc = none := by unfold zc_17; rw [zblt h]; rfl
    rw [e]; rfl
set_option maxRecDepth 100000 in
theorem zk_18 (pc : Nat) : zokE 18 pc (zc_18 pc) = true := by
  rcases Nat.lt_or_ge pc 37 with h | h
  · exact (by decide +kernel : ∀ q, q < 37 → zokE 18 q (zc_18 q) = true) pc h
  · have e : zc_18 pc = none := by unfold zc_18; rw [zblt h]; rfl
    rw [e]; rfl
set_option maxRecDepth 100000 in
theorem zk_19_0 : ∀ q, q < 60 → zokE 19 (q + 0) (zc_19 (q + 0)) = true := by decide +kernel
set_option maxRecDepth 100000 in
theorem zk_19_1 : ∀ q, q < 5 → zokE 19 (q + 60) (zc_19 (q + 60)) = true := by decide +kernel
theorem zk_19 (pc : Nat) : zokE 19 pc (zc_19 pc) = true := by
  rcases Nat.lt_or_ge pc 60 with h | h2
  · exact zchunk (P := fun q => zokE 19 q (zc_19 q) = true) 0 60 zk_19_0 pc (by omega) (by omega)
  have h0 := h2
  rcases Nat.lt_or_ge pc 65 with h | h2
  · exact zchunk (P := fun q => zokE 19 q (zc_19 q) = true) 60 5 zk_19_1 pc (by omega) (by omega)
  have h1 := h2
  have e : zc_19 pc = none := by unfold zc_19; rw [zblt (by omega)]; rfl
  rw [e]; rfl
set_option maxRecDepth 100000 in
theorem zk_20 (pc : Nat) : zokE 20 pc (zc_20 pc) = true := by
  rcases Nat.lt_or_ge pc 59 with h | h
  · exact (by decide +kernel : ∀ q, q < 59 → zokE 20 q (zc_20 q) = true) pc h
  · have e : zc_20 pc = none := by unfold zc_20; rw [zblt h]; rfl
    rw [e]; rfl
set_option maxRecDepth 100000 in
theorem zk_21 (pc : Nat) : zokE 21 pc (zc_21 pc) = true := by
  rcases Nat.lt_or_ge pc 57 with h | h
  · exact (by decide +kernel : ∀ q, q < 57 → zokE 21 q (zc_21 q) = true) pc h
  · have e : zc_21 pc = none := by unfold zc_21; rw [zblt h]; rfl
    rw [e]; rfl
set_option maxRecDepth 100000 in
theorem zk_22_0 : ∀ q, q < 60 → zokE 22 (q + 0) (zc_22 (q + 0)) = true := by decide +kernel
set_option maxRecDepth 100000 in
theorem zk_22_1 : ∀ q, q < 43 → zokE 22 (q + 60) (zc_22 (q + 60)) = true := by decide +kernel
theorem zk_22 (pc : Nat) : zokE 22 pc (zc_22 pc) = true := by
  rcases Nat.lt_or_ge pc 60 with h | h2
  · exact zchunk (P := fun q => zokE 22 q (zc_22 q) = true) 0 60 zk_22_0 pc (by omega) (by omega)
  have h0 := h2
  rcases Nat.lt_or_ge pc 103 with h | h2
  · exact zchunk (P := fun q => zokE 22 q (zc_22 q) = true) 60 43 zk_22_1 pc (by omega) (by omega)
  have h1 := h2
  have e : zc_22 pc = none := by unfold zc_22; rw [zblt (by omega)]; rfl
  rw [e]; rfl
set_option maxRecDepth 100000 in
theorem zk_23_0 : ∀ q, q < 60 → zokE 23 (q + 0) (zc_23 (q + 0)) = true := by decide +kernel
set_option maxRecDepth 100000 in
theorem zk_23_1 : ∀ q, q < 44 → zokE 23 (q + 60) (zc_23 (q + 60)) = true := by decide +kernel
theorem zk_23 (pc : Nat) : zokE 23 pc (zc_23 pc) = true := by
  rcases Nat.lt_or_ge pc 60 with h | h2
  · exact zchunk (P := fun q => zokE 23 q (zc_23 q) = true) 0 60 zk_23_0 pc (by omega) (by omega)
  have h0 := h2
  rcases Nat.lt_or_ge pc 104 with h | h2
  · exact zchunk (P := fun q => zokE 23 q (zc_23 q) = true) 60 44 zk_23_1 pc (by omega) (by omega)
  have h1 := h2
  have e : zc_23 pc = none := by unfold zc_23; rw [zblt (by omega)]; rfl
  rw [e]; rfl
set_option maxRecDepth 100000 in
theorem zk_24_0 : ∀ q, q < 60 → zokE 24 (q + 0) (zc_24 (q + 0)) = true := by decide +kernel
set_option maxRecDepth 100000 in
theorem zk_24_1 : ∀ q, q < 44 → zokE 24 (q + 60) (zc_24 (q + 60)) = true := by decide +kernel
theorem zk_24 (pc : Nat) : zokE 24 pc (zc_24 pc) = true := by
  rcases Nat.lt_or_ge pc 60 with h | h2
  · exact zchunk (P := fun q => zokE 24 q (zc_24 q) = true) 0 60 zk_24_0 pc (by omega) (by omega)
  have h0 := h2
  rcases Nat.lt_or_ge pc 104 with h | h2
  · exact zchunk (P := fun q => zokE 24 q (zc_24 q) = true) 60 44 zk_24_1 pc (by omega) (by omega)
  have h1 := h2
  have e : zc_24 pc = none := by unfold zc_24; rw [zblt (by omega)]; rfl
  rw [e]; rfl
set_option maxRecDepth 100000 in
theorem zk_25_0 : ∀ q, q < 60 → zokE 25 (q + 0) (zc_25 (q + 0)) = true := by decide +kernel
set_option maxRecDepth 100000 in
theorem zk_25_1 : ∀ q, q < 9 → zokE 25 (q + 60) (zc_25 (q + 60)) = true := by decide +kernel
theorem zk_25 (pc : Nat) : zokE 25 pc (zc_25 pc) = true := by
  rcases Nat.lt_or_ge pc 60 with h | h2
  · exact zchunk (P := fun q => zokE 25 q (zc_25 q) = true) 0 60 zk_25_0 pc (by omega) (by omega)
  have h0 := h2
  rcases Nat.lt_or_ge pc 69 with h | h2
  · exact zchunk (P := fun q => zokE 25 q (zc_25 q) = true) 60 9 zk_25_1 pc (by omega) (by omega)
  have h1 := h2
  have e : zc_25 pc = none := by unfold zc_25; rw [zblt (by omega)]; rfl
  rw [e]; rfl
set_option maxRecDepth 100000 in
theorem zk_26 (pc : Nat) : zokE 26 pc (zc_26 pc) = true := by
  rcases Nat.lt_or_ge pc 54 with h | h
  · exact (by decide +kernel : ∀ q, q < 54 → zokE 26 q (zc_26 q) = true) pc h
  · have e : zc_26 pc = none := by unfold zc_26; rw [zblt h]; rfl
    rw [e]; rfl
set_option maxRecDepth 100000 in
theorem zk_27 (pc : Nat) : zokE 27 pc (zc_27 pc) = true := by
  rcases Nat.lt_or_ge pc 18 with h | h
  · exact (by decide +kernel : ∀ q, q < 18 → zokE 27 q (zc_27 q) = true) pc h
  · have e : zc_27 pc = none := by unfold zc_27; rw [zblt h]; rfl
    rw [e]; rfl
set_option maxRecDepth 100000 in
theorem zk_28 (pc : Nat) : zokE 28 pc (zc_28 pc) = true := by
  rcases Nat.lt_or_ge pc 41 with h | h
  · exact (by decide +kernel : ∀ q, q < 41 → zokE 28 q (zc_28 q) = true) pc h
  · have e : zc_28 pc = none := by unfold zc_28; rw [zblt h]; rfl
    rw [e]; rfl
set_option maxRecDepth 100000 in
theorem zk_29 (pc : Nat) : zokE 29 pc (zc_29 pc) = true := by
  rcases Nat.lt_or_ge pc 48 with h | h
  · exact (by decide +kernel : ∀ q, q < 48 → zokE 29 q (zc_29 q) = true) pc h
  · have e : zc_29 pc = none := by unfold zc_29; rw [zblt h]; rfl
    rw [e]; rfl
set_option maxRecDepth 100000 in
theorem zk_30_0 : ∀ q, q < 60 → zokE 30 (q + 0) (zc_30 (q + 0)) = true := by decide +kernel
set_option maxRecDepth 100000 in
theorem zk_30_1 : ∀ q, q < 25 → zokE 30 (q + 60) (zc_30 (q + 60)) = true := by decide +kernel
theorem zk_30 (pc : Nat) : zokE 30 pc (zc_30 pc) = true := by
  rcases Nat.lt_or_ge pc 60 with h | h2
  · exact zchunk (P := fun q => zokE 30 q (zc_30 q) = true) 0 60 zk_30_0 pc (by omega) (by omega)
  have h0 := h2
  rcases Nat.lt_or_ge pc 85 with h | h2
  · exact zchunk (P := fun q => zokE 30 q (zc_30 q) = true) 60 25 zk_30_1 pc (by omega) (by omega)
  have h1 := h2
  have e : zc_30 pc = none := by unfold zc_30; rw [zblt (by omega)]; rfl
  rw [e]; rfl
set_option maxRecDepth 100000 in
theorem zk_31_0 : ∀ q, q < 60 → zokE 31 (q + 0) (zc_31 (q + 0)) = true := by decide +kernel
set_option maxRecDepth 100000 in
theorem zk_31_1 : ∀ q, q < 60 → zokE 31 (q + 60) (zc_31 (q + 60)) = true := by decide +kernel
set_option maxRecDepth 100000 in
theorem zk_31_2 : ∀ q, q < 5 → zokE 31 (q + 120) (zc_31 (q + 120)) = true := by decide +kernel
theorem zk_31 (pc : Nat) : zokE 31 pc (zc_31 pc) = true := by
  rcases Nat.lt_or_ge pc 60 with h | h2
  · exact zchunk (P := fun q => zokE 31 q (zc_31 q) = true) 0 60 zk_31_0 pc (by omega) (by omega)
  have h0 := h2
  rcases Nat.lt_or_ge pc 120 with h | h2
  · exact zchunk (P := fun q => zokE 31 q (zc_31 q) = true) 60 60 zk_31_1 pc (by omega) (by omega)
  have h1 := h2
  rcases Nat.lt_or_ge pc 125 with h | h2
  · exact zchunk (P := fun q => zokE 31 q (zc_31 q) = true) 120 5 zk_31_2 pc (by omega) (by omega)
  have h2 := h2
  have e : zc_31 pc = none := by unfold zc_31; rw [zblt (by omega)]; rfl
  rw [e]; rfl
set_option maxRecDepth 100000 in
theorem zk_32_0 : ∀ q, q < 60 → zokE 32 (q + 0) (zc_32 (q + 0)) = true := by decide +kernel
set_option maxRecDepth 100000 in
theorem zk_32_1 : ∀ q, q < 60 → zokE 32 (q + 60) (zc_32 (q + 60)) = true := by decide +kernel
set_option maxRecDepth 100000 in
theorem zk_32_2 : ∀ q, q < 60 → zokE 32 (q + 120) (zc_32 (q + 120)) = true := by decide +kernel
set_option maxRecDepth 100000 in
theorem zk_32_3 : ∀ q, q < 1 → zokE 32 (q + 180) (zc_32 (q + 180)) = true := by decide +kernel
theorem zk_32 (pc : Nat) : zokE 32 pc (zc_32 pc) = true := by
  rcases Nat.lt_or_ge pc 60 with h | h2
  · exact zchunk (P := fun q => zokE 32 q (zc_32 q) = true) 0 60 zk_32_0 pc (by omega) (by omega)
  have h0 := h2
  rcases Nat.lt_or_ge pc 120 with h | h2
  · exact zchunk (P := fun q => zokE 32 q (zc_32 q) = true) 60 60 zk_32_1 pc (by omega) (by omega)
  have h1 := h2
  rcases Nat.lt_or_ge pc 180 with h | h2
  · exact zchunk (P := fun q => zokE 32 q (zc_32 q) = true) 120 60 zk_32_2 pc (by omega) (by omega)
  have h2 := h2
  rcases Nat.lt_or_ge pc 181 with h | h2
  · exact zchunk (P := fun q => zokE 32 q (zc_32 q) = true) 180 1 zk_32_3 pc (by omega) (by omega)
  have h3 := h2
  have e : zc_32 pc = none := by unfold zc_32; rw [zblt (by omega)]; rfl
  rw [e]; rfl
set_option maxRecDepth 100000 in
theorem zk_33 (pc : Nat) : zokE 33 pc (zc_33 pc) = true := by
  rcases Nat.lt_or_ge pc 30 with h | h
  · exact (by decide +kernel : ∀ q, q < 30 → zokE 33 q (zc_33 q) = true) pc h
  · have e : zc_33 pc = none := by unfold zc_33; rw [zblt h]; rfl
    rw [e]; rfl
set_option maxRecDepth 100000 in
theorem zk_34 (pc : Nat) : zokE 34 pc (zc_34 pc) = true := by
  rcases Nat.lt_or_ge pc 29 with h | h
  · exact (by decide +kernel : ∀ q, q < 29 → zokE 34 q (zc_34 q) = true) pc h
  · have e : zc_34 pc = none := by unfold zc_34; rw [zblt h]; rfl
    rw [e]; rfl
set_option maxRecDepth 100000 in
theorem zk_35_0 : ∀ q, q < 60 → zokE 35 (q + 0) (zc_35 (q + 0)) = true := by decide +kernel
set_option maxRecDepth 100000 in
theorem zk_35_1 : ∀ q, q < 60 → zokE 35 (q + 60) (zc_35 (q + 60)) = true := by decide +kernel
set_option maxRecDepth 100000 in
theorem zk_35_2 : ∀ q, q < 22 → zokE 35 (q + 120) (zc_35 (q + 120)) = true := by decide +kernel
theorem zk_35 (pc : Nat) : zokE 35 pc (zc_35 pc) = true := by
  rcases Nat.lt_or_ge pc 60 with h | h2
  · exact zchunk (P := fun q => zokE 35 q (zc_35 q) = true) 0 60 zk_35_0 pc (by omega) (by omega)
  have h0 := h2
  rcases Nat.lt_or_ge pc 120 with h | h2
  · exact zchunk (P := fun q => zokE 35 q (zc_35 q) = true) 60 60 zk_35_1 pc (by omega) (by omega)
  have h1 := h2
  rcases Nat.lt_or_ge pc 142 with h | h2
  · exact zchunk (P := fun q => zokE 35 q (zc_35 q) = true) 120 22 zk_35_2 pc (by omega) (by omega)
  have h2 := h2
  have e : zc_35 pc = none := by unfold zc_35; rw [zblt (by omega)]; rfl
  rw [e]; rfl
set_option maxRecDepth 100000 in
theorem zk_36 (pc : Nat) : zokE 36 pc (zc_36 pc) = true := by
  rcases Nat.lt_or_ge pc 18 with h | h
  · exact (by decide +kernel : ∀ q, q < 18 → zokE 36 q (zc_36 q) = true) pc h
  · have e : zc_36 pc = none := by unfold zc_36; rw [zblt h]; rfl
    rw [e]; rfl
set_option maxRecDepth 100000 in
theorem zk_37 (pc : Nat) : zokE 37 pc (zc_37 pc) = true := by
  rcases Nat.lt_or_ge pc 18 with h | h
  · exact (by decide +kernel : ∀ q, q < 18 → zokE 37 q (zc_37 q) = true) pc h
  · have e : zc_37 pc = none := by unfold zc_37; rw [zblt h]; rfl
    rw [e]; rfl
set_option maxRecDepth 100000 in
theorem zk_38 (pc : Nat) : zokE 38 pc (zc_38 pc) = true := by
  rcases Nat.lt_or_ge pc 17 with h | h
  · exact (by decide +kernel : ∀ q, q < 17 → zokE 38 q (zc_38 q) = true) pc h
  · have e : zc_38 pc = none := by unfold zc_38; rw [zblt h]; rfl
    rw [e]; rfl
set_option maxRecDepth 100000 in
theorem zk_39 (pc : Nat) : zokE 39 pc (zc_39 pc) = true := by
  rcases Nat.lt_or_ge pc 31 with h | h
  · exact (by decide +kernel : ∀ q, q < 31 → zokE 39 q (zc_39 q) = true) pc h
  · have e : zc_39 pc = none := by unfold zc_39; rw [zblt h]; rfl
    rw [e]; rfl
set_option maxRecDepth 100000 in
theorem zk_40_0 : ∀ q, q < 60 → zokE 40 (q + 0) (zc_40 (q + 0)) = true := by decide +kernel
set_option maxRecDepth 100000 in
theorem zk_40_1 : ∀ q, q < 10 → zokE 40 (q + 60) (zc_40 (q + 60)) = true := by decide +kernel
theorem zk_40 (pc : Nat) : zokE 40 pc (zc_40 pc) = true := by
  rcases Nat.lt_or_ge pc 60 with h | h2
  · exact zchunk (P := fun q => zokE 40 q (zc_40 q) = true) 0 60 zk_40_0 pc (by omega) (by omega)
  have h0 := h2
  rcases Nat.lt_or_ge pc 70 with h | h2
  · exact zchunk (P := fun q => zokE 40 q (zc_40 q) = true) 60 10 zk_40_1 pc (by omega) (by omega)
  have h1 := h2
  have e : zc_40 pc = none := by unfold zc_40; rw [zblt (by omega)]; rfl
  rw [e]; rfl
set_option maxRecDepth 100000 in
theorem zk_41_0 : ∀ q, q < 60 → zokE 41 (q + 0) (zc_41 (q + 0)) = true := by decide +kernel
set_option maxRecDepth 100000 in
theorem zk_41_1 : ∀ q, q < 60 → zokE 41 (q + 60) (zc_41 (q + 60)) = true := by decide +kernel
set_option maxRecDepth 100000 in
theorem zk_41_2 : ∀ q, q < 60 → zokE 41 (q + 120) (zc_41 (q + 120)) = true := by decide +kernel
set_option maxRecDepth 100000 in
theorem zk_41_3 : ∀ q, q < 26 → zokE 41 (q + 180) (zc_41 (q + 180)) = true := by decide +kernel
theorem zk_41 (pc : Nat) : zokE 41 pc (zc_41 pc) = true := by
  rcases Nat.lt_or_ge pc 60 with h | h2
  · exact zchunk (P := fun q => zokE 41 q (zc_41 q) = true) 0 60 zk_41_0 pc (by omega) (by omega)
  have h0 := h2
  rcases Nat.lt_or_ge pc 120 with h | h2
  · exact zchunk (P := fun q => zokE 41 q (zc_41 q) = true) 60 60 zk_41_1 pc (by omega) (by omega)
  have h1 := h2
  rcases Nat.lt_or_ge pc 180 with h | h2
  · exact zchunk (P := fun q => zokE 41 q (zc_41 q) = true) 120 60 zk_41_2 pc (by omega) (by omega)
  have h2 := h2
  rcases Nat.lt_or_ge pc 206 with h | h2
  · exact zchunk (P := fun q => zokE 41 q (zc_41 q) = true) 180 26 zk_41_3 pc (by omega) (by omega)
  have h3 := h2
  have e : zc_41 pc = none := by unfold zc_41; rw [zblt (by omega)]; rfl
  rw [e]; rfl
set_option maxRecDepth 100000 in
theorem zk_42_0 : ∀ q, q < 60 → zokE 42 (q + 0) (zc_42 (q + 0)) = true := by decide +kernel
set_option maxRecDepth 100000 in
theorem zk_42_1 : ∀ q, q < 60 → zokE 42 (q + 60) (zc_42 (q + 60)) = true := by decide +kernel
set_option maxRecDepth 100000 in
theorem zk_42_2 : ∀ q, q < 1 → zokE 42 (q + 120) (zc_42 (q + 120)) = true := by decide +kernel
theorem zk_42 (pc : Nat) : zokE 42 pc (zc_42 pc) = true := by
  rcases Nat.lt_or_ge pc 60 with h | h2
  · exact zchunk (P := fun q => zokE 42 q (zc_42 q) = true) 0 60 zk_42_0 pc (by omega) (by omega)
  have h0 := h2
  rcases Nat.lt_or_ge pc 120 with h | h2
  · exact zchunk (P := fun q => zokE 42 q (zc_42 q) = true) 60 60 zk_42_1 pc (by omega) (by omega)
  have h1 := h2
  rcases Nat.lt_or_ge pc 121 with h | h2
  · exact zchunk (P := fun q => zokE 42 q (zc_42 q) = true) 120 1 zk_42_2 pc (by omega) (by omega)
  have h2 := h2
  have e : zc_42 pc = none := by unfold zc_42; rw [zblt (by omega)]; rfl
  rw [e]; rfl
set_option maxRecDepth 100000 in
theorem zk_43 (pc : Nat) : zokE 43 pc (zc_43 pc) = true := by
  rcases Nat.lt_or_ge pc 14 with h | h
  · exact (by decide +kernel : ∀ q, q < 14 → zokE 43 q (zc_43 q) = true) pc h
  · have e : zc_43 pc = none := by unfold zc_43; rw [zblt h]; rfl
    rw [e]; rfl
