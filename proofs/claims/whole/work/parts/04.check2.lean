set_option maxRecDepth 100000 in
theorem zk_44_0 : ∀ q, q < 60 → zokE 44 (q + 0) (zc_44 (q + 0)) = true := by decide +kernel
set_option maxRecDepth 100000 in
theorem zk_44_1 : ∀ q, q < 60 → zokE 44 (q + 60) (zc_44 (q + 60)) = true := by decide +kernel
set_option maxRecDepth 100000 in
theorem zk_44_2 : ∀ q, q < 16 → zokE 44 (q + 120) (zc_44 (q + 120)) = true := by decide +kernel
theorem zk_44 (pc : Nat) : zokE 44 pc (zc_44 pc) = true := by
  rcases Nat.lt_or_ge pc 60 with h | h2
  · exact zchunk (P := fun q => zokE 44 q (zc_44 q) = true) 0 60 zk_44_0 pc (by omega) (by omega)
  have h0 := h2
  rcases Nat.lt_or_ge pc 120 with h | h2
  · exact zchunk (P := fun q => zokE 44 q (zc_44 q) = true) 60 60 zk_44_1 pc (by omega) (by omega)
  have h1 := h2
  rcases Nat.lt_or_ge pc 136 with h | h2
  · exact zchunk (P := fun q => zokE 44 q (zc_44 q) = true) 120 16 zk_44_2 pc (by omega) (by omega)
  have h2 := h2
  have e : zc_44 pc = none := by unfold zc_44; rw [zblt (by omega)]; rfl
  rw [e]; rfl
set_option maxRecDepth 100000 in
theorem zk_45_0 : ∀ q, q < 60 → zokE 45 (q + 0) (zc_45 (q + 0)) = true := by decide +kernel
set_option maxRecDepth 100000 in
theorem zk_45_1 : ∀ q, q < 55 → zokE 45 (q + 60) (zc_45 (q + 60)) = true := by decide +kernel
theorem zk_45 (pc : Nat) : zokE 45 pc (zc_45 pc) = true := by
  rcases Nat.lt_or_ge pc 60 with h | h2
  · exact zchunk (P := fun q => zokE 45 q (zc_45 q) = true) 0 60 zk_45_0 pc (by omega) (by omega)
  have h0 := h2
  rcases Nat.lt_or_ge pc 115 with h | h2
  · exact zchunk (P := fun q => zokE 45 q (zc_45 q) = true) 60 55 zk_45_1 pc (by omega) (by omega)
  have h1 := h2
  have e : zc_45 pc = none := by unfold zc_45; rw [zblt (by omega)]; rfl
  rw [e]; rfl
set_option maxRecDepth 100000 in
theorem zk_46_0 : ∀ q, q < 60 → zokE 46 (q + 0) (zc_46 (q + 0)) = true := by decide +kernel
set_option maxRecDepth 100000 in
theorem zk_46_1 : ∀ q, q < 60 → zokE 46 (q + 60) (zc_46 (q + 60)) = true := by decide +kernel
set_option maxRecDepth 100000 in
theorem zk_46_2 : ∀ q, q < 60 → zokE 46 (q + 120) (zc_46 (q + 120)) = true := by decide +kernel
set_option maxRecDepth 100000 in
theorem zk_46_3 : ∀ q, q < 24 → zokE 46 (q + 180) (zc_46 (q + 180)) = true := by decide +kernel
theorem zk_46 (pc : Nat) : zokE 46 pc (zc_46 pc) = true := by
  rcases Nat.lt_or_ge pc 60 with h | h2
  · exact zchunk (P := fun q => zokE 46 q (zc_46 q) = true) 0 60 zk_46_0 pc (by omega) (by omega)
  have h0 := h2
  rcases Nat.lt_or_ge pc 120 with h | h2
  · exact zchunk (P := fun q => zokE 46 q (zc_46 q) = true) 60 60 zk_46_1 pc (by omega) (by omega)
  have h1 := h2
  rcases Nat.lt_or_ge pc 180 with h | h2
  · exact zchunk (P := fun q => zokE 46 q (zc_46 q) = true) 120 60 zk_46_2 pc (by omega) (by omega)
  have h2 := h2
  rcases Nat.lt_or_ge pc 204 with h | h2
  · exact zchunk (P := fun q => zokE 46 q (zc_46 q) = true) 180 24 zk_46_3 pc (by omega) (by omega)
  have h3 := h2
  have e : zc_46 pc = none := by unfold zc_46; rw [zblt (by omega)]; rfl
  rw [e]; rfl
set_option maxRecDepth 100000 in
theorem zk_47_0 : ∀ q, q < 60 → zokE 47 (q + 0) (zc_47 (q + 0)) = true := by decide +kernel
set_option maxRecDepth 100000 in
theorem zk_47_1 : ∀ q, q < 60 → zokE 47 (q + 60) (zc_47 (q + 60)) = true := by decide +kernel
set_option maxRecDepth 100000 in
theorem zk_47_2 : ∀ q, q < 29 → zokE 47 (q + 120) (zc_47 (q + 120)) = true := by decide +kernel
theorem zk_47 (pc : Nat) : zokE 47 pc (zc_47 pc) = true := by
  rcases Nat.lt_or_ge pc 60 with h | h2
  · exact zchunk (P := fun q => zokE 47 q (zc_47 q) = true) 0 60 zk_47_0 pc (by omega) (by omega)
  have h0 := h2
  rcases Nat.lt_or_ge pc 120 with h | h2
  · exact zchunk (P := fun q => zokE 47 q (zc_47 q) = true) 60 60 zk_47_1 pc (by omega) (by omega)
  have h1 := h2
  rcases Nat.lt_or_ge pc 149 with h | h2
  · exact zchunk (P := fun q => zokE 47 q (zc_47 q) = true) 120 29 zk_47_2 pc (by omega) (by omega)
  have h2 := h2
  have e : zc_47 pc = none := by unfold zc_47; rw [zblt (by omega)]; rfl
  rw [e]; rfl
set_option maxRecDepth 100000 in
theorem zk_48_0 : ∀ q, q < 60 → zokE 48 (q + 0) (zc_48 (q + 0)) = true := by decide +kernel
set_option maxRecDepth 100000 in
theorem zk_48_1 : ∀ q, q < 13 → zokE 48 (q + 60) (zc_48 (q + 60)) = true := by decide +kernel
theorem zk_48 (pc : Nat) : zokE 48 pc (zc_48 pc) = true := by
  rcases Nat.lt_or_ge pc 60 with h | h2
  · exact zchunk (P := fun q => zokE 48 q (zc_48 q) = true) 0 60 zk_48_0 pc (by omega) (by omega)
  have h0 := h2
  rcases Nat.lt_or_ge pc 73 with h | h2
  · exact zchunk (P := fun q => zokE 48 q (zc_48 q) = true) 60 13 zk_48_1 pc (by omega) (by omega)
  have h1 := h2
  have e : zc_48 pc = none := by unfold zc_48; rw [zblt (by omega)]; rfl
  rw [e]; rfl
set_option maxRecDepth 100000 in
theorem zk_49_0 : ∀ q, q < 60 → zokE 49 (q + 0) (zc_49 (q + 0)) = true := by decide +kernel
set_option maxRecDepth 100000 in
theorem zk_49_1 : ∀ q, q < 60 → zokE 49 (q + 60) (zc_49 (q + 60)) = true := by decide +kernel
set_option maxRecDepth 100000 in
theorem zk_49_2 : ∀ q, q < 60 → zokE 49 (q + 120) (zc_49 (q + 120)) = true := by decide +kernel
set_option maxRecDepth 100000 in
theorem zk_49_3 : ∀ q, q < 59 → zokE 49 (q + 180) (zc_49 (q + 180)) = true := by decide +kernel
theorem zk_49 (pc : Nat) : zokE 49 pc (zc_49 pc) = true := by
  rcases Nat.lt_or_ge pc 60 with h | h2
  · exact zchunk (P := fun q => zokE 49 q (zc_49 q) = true) 0 60 zk_49_0 pc (by omega) (by omega)
  have h0 := h2
  rcases Nat.lt_or_ge pc 120 with h | h2
  · exact zchunk (P := fun q => zokE 49 q (zc_49 q) = true) 60 60 zk_49_1 pc (by omega) (by omega)
  have h1 := h2
  rcases Nat.lt_or_ge pc 180 with h | h2
  · exact zchunk (P := fun q => zokE 49 q (zc_49 q) = true) 120 60 zk_49_2 pc (by omega) (by omega)
  have h2 := h2
  rcases Nat.lt_or_ge pc 239 with h | h2
  · exact zchunk (P := fun q => zokE 49 q (zc_49 q) = true) 180 59 zk_49_3 pc (by omega) (by omega)
  have h3 := h2
  have e : zc_49 pc = none := by unfold zc_49; rw [zblt (by omega)]; rfl
  rw [e]; rfl
set_option maxRecDepth 100000 in
theorem zk_50 (pc : Nat) : zokE 50 pc (zc_50 pc) = true := by
  rcases Nat.lt_or_ge pc 28 with h | h
  · exact (by decide +kernel : ∀ q, q < 28 → zokE 50 q (zc_50 q) = true) pc h
  · have e : zc_50 pc = none := by unfold zc_50; rw [zblt h]; rfl
    rw [e]; rfl
set_option maxRecDepth 100000 in
theorem zk_51 (pc : Nat) : zokE 51 pc (zc_51 pc) = true := by
  rcases Nat.lt_or_ge pc 14 with h | h
  · exact (by decide +kernel : ∀ q, q < 14 → zokE 51 q (zc_51 q) = true) pc h
  · have e : zc_51 pc = none := by unfold zc_51; rw [zblt h]; rfl
    rw [e]; rfl
set_option maxRecDepth 100000 in
theorem zk_52 (pc : Nat) : zokE 52 pc (zc_52 pc) = true := by
  rcases Nat.lt_or_ge pc 20 with h | h
  · exact (by decide +kernel : ∀ q, q < 20 → zokE 52 q (zc_52 q) = true) pc h
  · have e : zc_52 pc = none := by unfold zc_52; rw [zblt h]; rfl
    rw [e]; rfl
set_option maxRecDepth 100000 in
theorem zk_53 (pc : Nat) : zokE 53 pc (zc_53 pc) = true := by
  rcases Nat.lt_or_ge pc 16 with h | h
  · exact (by decide +kernel : ∀ q, q < 16 → zokE 53 q (zc_53 q) = true) pc h
  · have e : zc_53 pc = none := by unfold zc_53; rw [zblt h]; rfl
    rw [e]; rfl
set_option maxRecDepth 100000 in
theorem zk_54 (pc : Nat) : zokE 54 pc (zc_54 pc) = true := by
  rcases Nat.lt_or_ge pc 37 with h | h
  · exact (by decide +kernel : ∀ q, q < 37 → zokE 54 q (zc_54 q) = true) pc h
  · have e : zc_54 pc = none := by unfold zc_54; rw [zblt h]; rfl
    rw [e]; rfl
set_option maxRecDepth 100000 in
theorem zk_55 (pc : Nat) : zokE 55 pc (zc_55 pc) = true := by
  rcases Nat.lt_or_ge pc 37 with h | h
  · exact (by decide +kernel : ∀ q, q < 37 → zokE 55 q (zc_55 q) = true) pc h
  · have e : zc_55 pc = none := by unfold zc_55; rw [zblt h]; rfl
    rw [e]; rfl
set_option maxRecDepth 100000 in
theorem zk_56 (pc : Nat) : zokE 56 pc (zc_56 pc) = true := by
  rcases Nat.lt_or_ge pc 28 with h | h
  · exact (by decide +kernel : ∀ q, q < 28 → zokE 56 q (zc_56 q) = true) pc h
  · have e : zc_56 pc = none := by unfold zc_56; rw [zblt h]; rfl
    rw [e]; rfl
set_option maxRecDepth 100000 in
theorem zk_57 (pc : Nat) : zokE 57 pc (zc_57 pc) = true := by
  rcases Nat.lt_or_ge pc 20 with h | h
  · exact (by decide +kernel : ∀ q, q < 20 → zokE 57 q (zc_57 q) = true) pc h
  · have e : zc_57 pc = none := by unfold zc_57; rw [zblt h]; rfl
    rw [e]; rfl
set_option maxRecDepth 100000 in
theorem zk_58 (pc : Nat) : zokE 58 pc (zc_58 pc) = true := by
  rcases Nat.lt_or_ge pc 21 with h | h
  · exact (by decide +kernel : ∀ q, q < 21 → zokE 58 q (zc_58 q) = true) pc h
  · have e : zc_58 pc = none := by unfold zc_58; rw [zblt h]; rfl
    rw [e]; rfl
set_option maxRecDepth 100000 in
theorem zk_59_0 : ∀ q, q < 60 → zokE 59 (q + 0) (zc_59 (q + 0)) = true := by decide +kernel
set_option maxRecDepth 100000 in
theorem zk_59_1 : ∀ q, q < 8 → zokE 59 (q + 60) (zc_59 (q + 60)) = true := by decide +kernel
theorem zk_59 (pc : Nat) : zokE 59 pc (zc_59 pc) = true := by
  rcases Nat.lt_or_ge pc 60 with h | h2
  · exact zchunk (P := fun q => zokE 59 q (zc_59 q) = true) 0 60 zk_59_0 pc (by omega) (by omega)
  have h0 := h2
  rcases Nat.lt_or_ge pc 68 with h | h2
  · exact zchunk (P := fun q => zokE 59 q (zc_59 q) = true) 60 8 zk_59_1 pc (by omega) (by omega)
  have h1 := h2
  have e : zc_59 pc = none := by unfold zc_59; rw [zblt (by omega)]; rfl
  rw [e]; rfl
set_option maxRecDepth 100000 in
theorem zk_60_0 : ∀ q, q < 60 → zokE 60 (q + 0) (zc_60 (q + 0)) = true := by decide +kernel
set_option maxRecDepth 100000 in
theorem zk_60_1 : ∀ q, q < 60 → zokE 60 (q + 60) (zc_60 (q + 60)) = true := by decide +kernel
set_option maxRecDepth 100000 in
theorem zk_60_2 : ∀ q, q < 60 → zokE 60 (q + 120) (zc_60 (q + 120)) = true := by decide +kernel
theorem zk_60 (pc : Nat) : zokE 60 pc (zc_60 pc) = true := by
  rcases Nat.lt_or_ge pc 60 with h | h2
  · exact zchunk (P := fun q => zokE 60 q (zc_60 q) = true) 0 60 zk_60_0 pc (by omega) (by omega)
  have h0 := h2
  rcases Nat.lt_or_ge pc 120 with h | h2
  · exact zchunk (P := fun q => zokE 60 q (zc_60 q) = true) 60 60 zk_60_1 pc (by omega) (by omega)
  have h1 := h2
  rcases Nat.lt_or_ge pc 180 with h | h2
  · exact zchunk (P := fun q => zokE 60 q (zc_60 q) = true) 120 60 zk_60_2 pc (by omega) (by omega)
  have h2 := h2
  have e : zc_60 pc = none := by unfold zc_60; rw [zblt (by omega)]; rfl
  rw [e]; rfl
set_option maxRecDepth 100000 in
theorem zk_61 (pc : Nat) : zokE 61 pc (zc_61 pc) = true := by
  rcases Nat.lt_or_ge pc 18 with h | h
  · exact (by decide +kernel : ∀ q, q < 18 → zokE 61 q (zc_61 q) = true) pc h
  · have e : zc_61 pc = none := by unfold zc_61; rw [zblt h]; rfl
    rw [e]; rfl
set_option maxRecDepth 100000 in
theorem zk_62 (pc : Nat) : zokE 62 pc (zc_62 pc) = true := by
  rcases Nat.lt_or_ge pc 18 with h | h
  · exact (by decide +kernel : ∀ q, q < 18 → zokE 62 q (zc_62 q) = true) pc h
  · have e : zc_62 pc = none := by unfold zc_62; rw [zblt h]; rfl
    rw [e]; rfl
set_option maxRecDepth 100000 in
theorem zk_63 (pc : Nat) : zokE 63 pc (zc_63 pc) = true := by
  rcases Nat.lt_or_ge pc 43 with h | h
  · exact (by decide +kernel : ∀ q, q < 43 → zokE 63 q (zc_63 q) = true) pc h
  · have e : zc_63 pc = none := by unfold zc_63; rw [zblt h]; rfl
    rw [e]; rfl
set_option maxRecDepth 100000 in
theorem zk_64 (pc : Nat) : zokE 64 pc (zc_64 pc) = true := by
  rcases Nat.lt_or_ge pc 48 with h | h
  · exact (by decide +kernel : ∀ q, q < 48 → zokE 64 q (zc_64 q) = true) pc h
  · have e : zc_64 pc = none := by unfold zc_64; rw [zblt h]; rfl
    rw [e]; rfl
set_option maxRecDepth 100000 in
theorem zk_65_0 : ∀ q, q < 60 → zokE 65 (q + 0) (zc_65 (q + 0)) = true := by decide +kernel
set_option maxRecDepth 100000 in
theorem zk_65_1 : ∀ q, q < 26 → zokE 65 (q + 60) (zc_65 (q + 60)) = true := by decide +kernel
theorem zk_65 (pc : Nat) : zokE 65 pc (zc_65 pc) = true := by
  rcases Nat.lt_or_ge pc 60 with h | h2
  · exact zchunk (P := fun q => zokE 65 q (zc_65 q) = true) 0 60 zk_65_0 pc (by omega) (by omega)
  have h0 := h2
  rcases Nat.lt_or_ge pc 86 with h | h2
  · exact zchunk (P := fun q => zokE 65 q (zc_65 q) = true) 60 26 zk_65_1 pc (by omega) (by omega)
  have h1 := h2
  have e : zc_65 pc = none := by unfold zc_65; rw [zblt (by omega)]; rfl
  rw [e]; rfl
set_option maxRecDepth 100000 in
theorem zk_66_0 : ∀ q, q < 60 → zokE 66 (q + 0) (zc_66 (q + 0)) = true := by decide +kernel
set_option maxRecDepth 100000 in
theorem zk_66_1 : ∀ q, q < 13 → zokE 66 (q + 60) (zc_66 (q + 60)) = true := by decide +kernel
theorem zk_66 (pc : Nat) : zokE 66 pc (zc_66 pc) = true := by
  rcases Nat.lt_or_ge pc 60 with h | h2
  · exact zchunk (P := fun q => zokE 66 q (zc_66 q) = true) 0 60 zk_66_0 pc (by omega) (by omega)
  have h0 := h2
  rcases Nat.lt_or_ge pc 73 with h | h2
  · exact zchunk (P := fun q => zokE 66 q (zc_66 q) = true) 60 13 zk_66_1 pc (by omega) (by omega)
  have h1 := h2
  have e : zc_66 pc = none := by unfold zc_66; rw [zblt (by omega)]; rfl
  rw [e]; rfl
set_option maxRecDepth 100000 in
theorem zk_67_0 : ∀ q, q < 60 → zokE 67 (q + 0) (zc_67 (q + 0)) = true := by decide +kernel
set_option maxRecDepth 100000 in
theorem zk_67_1 : ∀ q, q < 10 → zokE 67 (q + 60) (zc_67 (q + 60)) = true := by decide +kernel
theorem zk_67 (pc : Nat) : zokE 67 pc (zc_67 pc) = true := by
  rcases Nat.lt_or_ge pc 60 with h | h2
  · exact zchunk (P := fun q => zokE 67 q (zc_67 q) = true) 0 60 zk_67_0 pc (by omega) (by omega)
  have h0 := h2
  rcases Nat.lt_or_ge pc 70 with h | h2
  · exact zchunk (P := fun q => zokE 67 q (zc_67 q) = true) 60 10 zk_67_1 pc (by omega) (by omega)
  have h1 := h2
  have e : zc_67 pc = none := by unfold zc_67; rw [zblt (by omega)]; rfl
  rw [e]; rfl
set_option maxRecDepth 100000 in
theorem zk_68_0 : ∀ q, q < 60 → zokE 68 (q + 0) (zc_68 (q + 0)) = true := by decide +kernel
set_option maxRecDepth 100000 in
theorem zk_68_1 : ∀ q, q < 60 → zokE 68 (q + 60) (zc_68 (q + 60)) = true := by decide +kernel
set_option maxRecDepth 100000 in
theorem zk_68_2 : ∀ q, q < 37 → zokE 68 (q + 120) (zc_68 (q + 120)) = true := by decide +kernel
theorem zk_68 (pc : Nat) : zokE 68 pc (zc_68 pc) = true := by
  rcases Nat.lt_or_ge pc 60 with h | h2
  · exact zchunk (P := fun q => zokE 68 q (zc_68 q) = true) 0 60 zk_68_0 pc (by omega) (by omega)
  have h0 := h2
  rcases Nat.lt_or_ge pc 120 with h | h2
  · exact zchunk (P := fun q => zokE 68 q (zc_68 q) = true) 60 60 zk_68_1 pc (by omega) (by omega)
  have h1 := h2
  rcases Nat.lt_or_ge pc 157 with h | h2
  · exact zchunk (P := fun q => zokE 68 q (zc_68 q) = true) 120 37 zk_68_2 pc (by omega) (by omega)
  have h2 := h2
  have e : zc_68 pc = none := by unfold zc_68; rw [zblt (by omega)]; rfl
  rw [e]; rfl
set_option maxRecDepth 100000 in
theorem zk_69 (pc : Nat) : zokE 69 pc (zc_69 pc) = true := by
  rcases Nat.lt_or_ge pc 31 with h | h
  · exact (by decide +kernel : ∀ q, q < 31 → zokE 69 q (zc_69 q) = true) pc h
  · have e : zc_69 pc = none := by unfold zc_69; rw [zblt h]; rfl
    rw [e]; rfl
set_option maxRecDepth 100000 in
theorem zk_70_0 : ∀ q, q < 60 → zokE 70 (q + 0) (zc_70 (q + 0)) = true := by decide +kernel
set_option maxRecDepth 100000 in
theorem zk_70_1 : ∀ q, q < 21 → zokE 70 (q + 60) (zc_70 (q + 60)) = true := by decide +kernel
theorem zk_70 (pc : Nat) : zokE 70 pc (zc_70 pc) = true := by
  rcases Nat.lt_or_ge pc 60 with h | h2
  · exact zchunk (P := fun q => zokE 70 q (zc_70 q) = true) 0 60 zk_70_0 pc (by omega) (by omega)
  have h0 := h2
  rcases Nat.lt_or_ge pc 81 with h | h2
  · exact zchunk (P := fun q => zokE 70 q (zc_70 q) = true) 60 21 zk_70_1 pc (by omega) (by omega)
  have h1 := h2
  have e : zc_70 pc = none := by unfold zc_70; rw [zblt (by omega)]; rfl
  rw [e]; rfl
set_option maxRecDepth 100000 in
theorem zk_71 (pc : Nat) : zokE 71 pc (zc_71 pc) = true := by
  rcases Nat.lt_or_ge pc 44 with h | h
  · exact (by decide +kernel : ∀ q, q < 44 → zokE 71 q (zc_71 q) = true) pc h
  · have e : zc_71 pc = none := by unfold zc_71; rw [zblt h]; rfl
    rw [e]; rfl
