set_option maxRecDepth 100000 in
theorem zk_72_0 : ∀ q, q < 60 → zokE 72 (q + 0) (zc_72 (q + 0)) = true := by decide +kernel
set_option maxRecDepth 100000 in
theorem zk_72_1 : ∀ q, q < 14 → zokE 72 (q + 60) (zc_72 (q + 60)) = true := by decide +kernel
theorem zk_72 (pc : Nat) : zokE 72 pc (zc_72 pc) = true := by
  rcases Nat.lt_or_ge pc 60 with h | h2
  · exact zchunk (P := fun q => zokE 72 q (zc_72 q) = true) 0 60 zk_72_0 pc (by omega) (by omega)
  have h0 := h2
  rcases Nat.lt_or_ge pc 74 with h | h2
  · exact zchunk (P := fun q => zokE 72 q (zc_72 q) = true) 60 14 zk_72_1 pc (by omega) (by omega)
  have h1 := h2
  have e : zc_72 pc = none := by unfold zc_72; rw [zblt (by omega)]; rfl
  rw [e]; rfl
set_option maxRecDepth 100000 in
theorem zk_73 (pc : Nat) : zokE 73 pc (zc_73 pc) = true := by
  rcases Nat.lt_or_ge pc 12 with h | h
  · exact (by decide +kernel : ∀ q, q < 12 → zokE 73 q (zc_73 q) = true) pc h
  · have e : zc_73 pc = none := by unfold zc_73; rw [zblt h]; rfl
    rw [e]; rfl
set_option maxRecDepth 100000 in
theorem zk_74 (pc : Nat) : zokE 74 pc (zc_74 pc) = true := by
  rcases Nat.lt_or_ge pc 43 with h | h
  · exact (by decide +kernel : ∀ q, q < 43 → zokE 74 q (zc_74 q) = true) pc h
  · have e : zc_74 pc = none := by unfold zc_74; rw [zblt h]; rfl
    rw [e]; rfl
set_option maxRecDepth 100000 in
theorem zk_75 (pc : Nat) : zokE 75 pc (zc_75 pc) = true := by
  rcases Nat.lt_or_ge pc 29 with h | h
  · exact (by decide +kernel : ∀ q, q < 29 → zokE 75 q (zc_75 q) = true) pc h
  · have e : zc_75 pc = none := by unfold zc_75; rw [zblt h]; rfl
    rw [e]; rfl
set_option maxRecDepth 100000 in
theorem zk_76 (pc : Nat) : zokE 76 pc (zc_76 pc) = true := by
  rcases Nat.lt_or_ge pc 30 with h | h
  · exact (by decide +kernel : ∀ q, q < 30 → zokE 76 q (zc_76 q) = true) pc h
  · have e : zc_76 pc = none := by unfold zc_76; rw [zblt h]; rfl
    rw [e]; rfl
set_option maxRecDepth 100000 in
theorem zk_77 (pc : Nat) : zokE 77 pc (zc_77 pc) = true := by
  rcases Nat.lt_or_ge pc 37 with h | h
  · exact (by decide +kernel : ∀ q, q < 37 → zokE 77 q (zc_77 q) = true) pc h
  · have e : zc_77 pc = none := by unfold zc_77; rw [zblt h]; rfl
    rw [e]; rfl
set_option maxRecDepth 100000 in
theorem zk_78_0 : ∀ q, q < 60 → zokE 78 (q + 0) (zc_78 (q + 0)) = true := by decide +kernel
set_option maxRecDepth 100000 in
theorem zk_78_1 : ∀ q, q < 46 → zokE 78 (q + 60) (zc_78 (q + 60)) = true := by decide +kernel
theorem zk_78 (pc : Nat) : zokE 78 pc (zc_78 pc) = true := by
  rcases Nat.lt_or_ge pc 60 with h | h2
  · exact zchunk (P := fun q => zokE 78 q (zc_78 q) = true) 0 60 zk_78_0 pc (by omega) (by omega)
  have h0 := h2
  rcases Nat.lt_or_ge pc 106 with h | h2
  · exact zchunk (P := fun q => zokE 78 q (zc_78 q) = true) 60 46 zk_78_1 pc (by omega) (by omega)
  have h1 := h2
  have e : zc_78 pc = none := by unfold zc_78; rw [zblt (by omega)]; rfl
  rw [e]; rfl
set_option maxRecDepth 100000 in
theorem zk_79 (pc : Nat) : zokE 79 pc (zc_79 pc) = true := by
  rcases Nat.lt_or_ge pc 56 with h | h
  · exact (by decide +kernel : ∀ q, q < 56 → zokE 79 q (zc_79 q) = true) pc h
  · have e : zc_79 pc = none := by unfold zc_79; rw [zblt h]; rfl
    rw [e]; rfl
set_option maxRecDepth 100000 in
theorem zk_80 (pc : Nat) : zokE 80 pc (zc_80 pc) = true := by
  rcases Nat.lt_or_ge pc 56 with h | h
  · exact (by decide +kernel : ∀ q, q < 56 → zokE 80 q (zc_80 q) = true) pc h
  · have e : zc_80 pc = none := by unfold zc_80; rw [zblt h]; rfl
    rw [e]; rfl
set_option maxRecDepth 100000 in
theorem zk_81 (pc : Nat) : zokE 81 pc (zc_81 pc) = true := by
  rcases Nat.lt_or_ge pc 57 with h | h
  · exact (by decide +kernel : ∀ q, q < 57 → zokE 81 q (zc_81 q) = true) pc h
  · have e : zc_81 pc = none := by unfold zc_81; rw [zblt h]; rfl
    rw [e]; rfl
set_option maxRecDepth 100000 in
theorem zk_82 (pc : Nat) : zokE 82 pc (zc_82 pc) = true := by
  rcases Nat.lt_or_ge pc 11 with h | h
  · exact (by decide +kernel : ∀ q, q < 11 → zokE 82 q (zc_82 q) = true) pc h
  · have e : zc_82 pc = none := by unfold zc_82; rw [zblt h]; rfl
    rw [e]; rfl
set_option maxRecDepth 100000 in
theorem zk_83 (pc : Nat) : zokE 83 pc (zc_83 pc) = true := by
  rcases Nat.lt_or_ge pc 16 with h | h
  · exact (by decide +kernel : ∀ q, q < 16 → zokE 83 q (zc_83 q) = true) pc h
  · have e : zc_83 pc = none := by unfold zc_83; rw [zblt h]; rfl
    rw [e]; rfl
set_option maxRecDepth 100000 in
theorem zk_84 (pc : Nat) : zokE 84 pc (zc_84 pc) = true := by
  rcases Nat.lt_or_ge pc 54 with h | h
  · exact (by decide +kernel : ∀ q, q < 54 → zokE 84 q (zc_84 q) = true) pc h
  · have e : zc_84 pc = none := by unfold zc_84; rw [zblt h]; rfl
    rw [e]; rfl
set_option maxRecDepth 100000 in
theorem zk_85_0 : ∀ q, q < 60 → zokE 85 (q + 0) (zc_85 (q + 0)) = true := by decide +kernel
set_option maxRecDepth 100000 in
theorem zk_85_1 : ∀ q, q < 60 → zokE 85 (q + 60) (zc_85 (q + 60)) = true := by decide +kernel
set_option maxRecDepth 100000 in
theorem zk_85_2 : ∀ q, q < 8 → zokE 85 (q + 120) (zc_85 (q + 120)) = true := by decide +kernel
theorem zk_85 (pc : Nat) : zokE 85 pc (zc_85 pc) = true := by
  rcases Nat.lt_or_ge pc 60 with h | h2
  · exact zchunk (P := fun q => zokE 85 q (zc_85 q) = true) 0 60 zk_85_0 pc (by omega) (by omega)
  have h0 := h2
  rcases Nat.lt_or_ge pc 120 with h | h2
  · exact zchunk (P := fun q => zokE 85 q (zc_85 q) = true) 60 60 zk_85_1 pc (by omega) (by omega)
  have h1 := h2
  rcases Nat.lt_or_ge pc 128 with h | h2
  · exact zchunk (P := fun q => zokE 85 q (zc_85 q) = true) 120 8 zk_85_2 pc (by omega) (by omega)
  have h2 := h2
  have e : zc_85 pc = none := by unfold zc_85; rw [zblt (by omega)]; rfl
  rw [e]; rfl
set_option maxRecDepth 100000 in
theorem zk_86 (pc : Nat) : zokE 86 pc (zc_86 pc) = true := by
  rcases Nat.lt_or_ge pc 32 with h | h
  · exact (by decide +kernel : ∀ q, q < 32 → zokE 86 q (zc_86 q) = true) pc h
  · have e : zc_86 pc = none := by unfold zc_86; rw [zblt h]; rfl
    rw [e]; rfl
set_option maxRecDepth 100000 in
theorem zk_87 (pc : Nat) : zokE 87 pc (zc_87 pc) = true := by
  rcases Nat.lt_or_ge pc 51 with h | h
  · exact (by decide +kernel : ∀ q, q < 51 → zokE 87 q (zc_87 q) = true) pc h
  · have e : zc_87 pc = none := by unfold zc_87; rw [zblt h]; rfl
    rw [e]; rfl
set_option maxRecDepth 100000 in
theorem zk_88 (pc : Nat) : zokE 88 pc (zc_88 pc) = true := by
  rcases Nat.lt_or_ge pc 11 with h | h
  · exact (by decide +kernel : ∀ q, q < 11 → zokE 88 q (zc_88 q) = true) pc h
  · have e : zc_88 pc = none := by unfold zc_88; rw [zblt h]; rfl
    rw [e]; rfl
set_option maxRecDepth 100000 in
theorem zk_89_0 : ∀ q, q < 60 → zokE 89 (q + 0) (zc_89 (q + 0)) = true := by decide +kernel
set_option maxRecDepth 100000 in
theorem zk_89_1 : ∀ q, q < 5 → zokE 89 (q + 60) (zc_89 (q + 60)) = true := by decide +kernel
theorem zk_89 (pc : Nat) : zokE 89 pc (zc_89 pc) = true := by
  rcases Nat.lt_or_ge pc 60 with h | h2
  · exact zchunk (P := fun q => zokE 89 q (zc_89 q) = true) 0 60 zk_89_0 pc (by omega) (by omega)
  have h0 := h2
  rcases Nat.lt_or_ge pc 65 with h | h2
  · exact zchunk (P := fun q => zokE 89 q (zc_89 q) = true) 60 5 zk_89_1 pc (by omega) (by omega)
  have h1 := h2
  have e : zc_89 pc = none := by unfold zc_89; rw [zblt (by omega)]; rfl
  rw [e]; rfl
set_option maxRecDepth 100000 in
theorem zk_90_0 : ∀ q, q < 60 → zokE 90 (q + 0) (zc_90 (q + 0)) = true := by decide +kernel
set_option maxRecDepth 100000 in
theorem zk_90_1 : ∀ q, q < 30 → zokE 90 (q + 60) (zc_90 (q + 60)) = true := by decide +kernel
theorem zk_90 (pc : Nat) : zokE 90 pc (zc_90 pc) = true := by
  rcases Nat.lt_or_ge pc 60 with h | h2
  · exact zchunk (P := fun q => zokE 90 q (zc_90 q) = true) 0 60 zk_90_0 pc (by omega) (by omega)
  have h0 := h2
  rcases Nat.lt_or_ge pc 90 with h | h2
  · exact zchunk (P := fun q => zokE 90 q (zc_90 q) = true) 60 30 zk_90_1 pc (by omega) (by omega)
  have h1 := h2
  have e : zc_90 pc = none := by unfold zc_90; rw [zblt (by omega)]; rfl
  rw [e]; rfl
set_option maxRecDepth 100000 in
theorem zk_91 (pc : Nat) : zokE 91 pc (zc_91 pc) = true := by
  rcases Nat.lt_or_ge pc 22 with h | h
  · exact (by decide +kernel : ∀ q, q < 22 → zokE 91 q (zc_91 q) = true) pc h
  · have e : zc_91 pc = none := by unfold zc_91; rw [zblt h]; rfl
    rw [e]; rfl
set_option maxRecDepth 100000 in
theorem zk_92 (pc : Nat) : zokE 92 pc (zc_92 pc) = true := by
  rcases Nat.lt_or_ge pc 8 with h | h
  · exact (by decide +kernel : ∀ q, q < 8 → zokE 92 q (zc_92 q) = true) pc h
  · have e : zc_92 pc = none := by unfold zc_92; rw [zblt h]; rfl
    rw [e]; rfl
set_option maxRecDepth 100000 in
theorem zk_93_0 : ∀ q, q < 60 → zokE 93 (q + 0) (zc_93 (q + 0)) = true := by decide +kernel
set_option maxRecDepth 100000 in
theorem zk_93_1 : ∀ q, q < 45 → zokE 93 (q + 60) (zc_93 (q + 60)) = true := by decide +kernel
theorem zk_93 (pc : Nat) : zokE 93 pc (zc_93 pc) = true := by
  rcases Nat.lt_or_ge pc 60 with h | h2
  · exact zchunk (P := fun q => zokE 93 q (zc_93 q) = true) 0 60 zk_93_0 pc (by omega) (by omega)
  have h0 := h2
  rcases Nat.lt_or_ge pc 105 with h | h2
  · exact zchunk (P := fun q => zokE 93 q (zc_93 q) = true) 60 45 zk_93_1 pc (by omega) (by omega)
  have h1 := h2
  have e : zc_93 pc = none := by unfold zc_93; rw [zblt (by omega)]; rfl
  rw [e]; rfl
set_option maxRecDepth 100000 in
theorem zk_94_0 : ∀ q, q < 60 → zokE 94 (q + 0) (zc_94 (q + 0)) = true := by decide +kernel
set_option maxRecDepth 100000 in
theorem zk_94_1 : ∀ q, q < 52 → zokE 94 (q + 60) (zc_94 (q + 60)) = true := by decide +kernel
theorem zk_94 (pc : Nat) : zokE 94 pc (zc_94 pc) = true := by
  rcases Nat.lt_or_ge pc 60 with h | h2
  · exact zchunk (P := fun q => zokE 94 q (zc_94 q) = true) 0 60 zk_94_0 pc (by omega) (by omega)
  have h0 := h2
  rcases Nat.lt_or_ge pc 112 with h | h2
  · exact zchunk (P := fun q => zokE 94 q (zc_94 q) = true) 60 52 zk_94_1 pc (by omega) (by omega)
  have h1 := h2
  have e : zc_94 pc = none := by unfold zc_94; rw [zblt (by omega)]; rfl
  rw [e]; rfl
set_option maxRecDepth 100000 in
theorem zk_95 (pc : Nat) : zokE 95 pc (zc_95 pc) = true := by
  rcases Nat.lt_or_ge pc 44 with h | h
  · exact (by decide +kernel : ∀ q, q < 44 → zokE 95 q (zc_95 q) = true) pc h
  · have e : zc_95 pc = none := by unfold zc_95; rw [zblt h]; rfl
    rw [e]; rfl
set_option maxRecDepth 100000 in
theorem zk_96 (pc : Nat) : zokE 96 pc (zc_96 pc) = true := by
  rcases Nat.lt_or_ge pc 47 with h | h
  · exact (by decide +kernel : ∀ q, q < 47 → zokE 96 q (zc_96 q) = true) pc h
  · have e : zc_96 pc = none := by unfold zc_96; rw [zblt h]; rfl
    rw [e]; rfl
set_option maxRecDepth 100000 in
theorem zk_97_0 : ∀ q, q < 60 → zokE 97 (q + 0) (zc_97 (q + 0)) = true := by decide +kernel
set_option maxRecDepth 100000 in
theorem zk_97_1 : ∀ q, q < 21 → zokE 97 (q + 60) (zc_97 (q + 60)) = true := by decide +kernel
theorem zk_97 (pc : Nat) : zokE 97 pc (zc_97 pc) = true := by
  rcases Nat.lt_or_ge pc 60 with h | h2
  · exact zchunk (P := fun q => zokE 97 q (zc_97 q) = true) 0 60 zk_97_0 pc (by omega) (by omega)
  have h0 := h2
  rcases Nat.lt_or_ge pc 81 with h | h2
  · exact zchunk (P := fun q => zokE 97 q (zc_97 q) = true) 60 21 zk_97_1 pc (by omega) (by omega)
  have h1 := h2
  have e : zc_97 pc = none := by unfold zc_97; rw [zblt (by omega)]; rfl
  rw [e]; rfl
set_option maxRecDepth 100000 in
theorem zk_98_0 : ∀ q, q < 60 → zokE 98 (q + 0) (zc_98 (q + 0)) = true := by decide +kernel
set_option maxRecDepth 100000 in
theorem zk_98_1 : ∀ q, q < 60 → zokE 98 (q + 60) (zc_98 (q + 60)) = true := by decide +kernel
set_option maxRecDepth 100000 in
theorem zk_98_2 : ∀ q, q < 5 → zokE 98 (q + 120) (zc_98 (q + 120)) = true := by decide +kernel
theorem zk_98 (pc : Nat) : zokE 98 pc (zc_98 pc) = true := by
  rcases Nat.lt_or_ge pc 60 with h | h2
  · exact zchunk (P := fun q => zokE 98 q (zc_98 q) = true) 0 60 zk_98_0 pc (by omega) (by omega)
  have h0 := h2
  rcases Nat.lt_or_ge pc 120 with h | h2
  · exact zchunk (P := fun q => zokE 98 q (zc_98 q) = true) 60 60 zk_98_1 pc (by omega) (by omega)
  have h1 := h2
  rcases Nat.lt_or_ge pc 125 with h | h2
  · exact zchunk (P := fun q => zokE 98 q (zc_98 q) = true) 120 5 zk_98_2 pc (by omega) (by omega)
  have h2 := h2
  have e : zc_98 pc = none := by unfold zc_98; rw [zblt (by omega)]; rfl
  rw [e]; rfl
set_option maxRecDepth 100000 in
theorem zk_99 (pc : Nat) : zokE 99 pc (zc_99 pc) = true := by
  rcases Nat.lt_or_ge pc 33 with h | h
  · exact (by decide +kernel : ∀ q, q < 33 → zokE 99 q (zc_99 q) = true) pc h
  · have e : zc_99 pc = none := by unfold zc_99; rw [zblt h]; rfl
    rw [e]; rfl
set_option maxRecDepth 100000 in
theorem zk_100 (pc : Nat) : zokE 100 pc (zc_100 pc) = true := by
  rcases Nat.lt_or_ge pc 33 with h | h
  · exact (by decide +kernel : ∀ q, q < 33 → zokE 100 q (zc_100 q) = true) pc h
  · have e : zc_100 pc = none := by unfold zc_100; rw [zblt h]; rfl
    rw [e]; rfl
set_option maxRecDepth 100000 in
theorem zk_101 (pc : Nat) : zokE 101 pc (zc_101 pc) = true := by
  rcases Nat.lt_or_ge pc 38 with h | h
  · exact (by decide +kernel : ∀ q, q < 38 → zokE 101 q (zc_101 q) = true) pc h
  · have e : zc_101 pc = none := by unfold zc_101; rw [zblt h]; rfl
    rw [e]; rfl
set_option maxRecDepth 100000 in
theorem zk_102_0 : ∀ q, q < 60 → zokE 102 (q + 0) (zc_102 (q + 0)) = true := by decide +kernel
set_option maxRecDepth 100000 in
theorem zk_102_1 : ∀ q, q < 22 → zokE 102 (q + 60) (zc_102 (q + 60)) = true := by decide +kernel
theorem zk_102 (pc : Nat) : zokE 102 pc (zc_102 pc) = true := by
  rcases Nat.lt_or_ge pc 60 with h | h2
  · exact zchunk (P := fun q => zokE 102 q (zc_102 q) = true) 0 60 zk_102_0 pc (by omega) (by omega)
  have h0 := h2
  rcases Nat.lt_or_ge pc 82 with h | h2
  · exact zchunk (P := fun q => zokE 102 q (zc_102 q) = true) 60 22 zk_102_1 pc (by omega) (by omega)
  have h1 := h2
  have e : zc_102 pc = none := by unfold zc_102; rw [zblt (by omega)]; rfl
  rw [e]; rfl
set_option maxRecDepth 100000 in
theorem zk_103_0 : ∀ q, q < 60 → zokE 103 (q + 0) (zc_103 (q + 0)) = true := by decide +kernel
set_option maxRecDepth 100000 in
theorem zk_103_1 : ∀ q, q < 60 → zokE 103 (q + 60) (zc_103 (q + 60)) = true := by decide +kernel
set_option maxRecDepth 100000 in
theorem zk_103_2 : ∀ q, q < 8 → zokE 103 (q + 120) (zc_103 (q + 120)) = true := by decide +kernel
theorem zk_103 (pc : Nat) : zokE 103 pc (zc_103 pc) = true := by
  rcases Nat.lt_or_ge pc 60 with h | h2
  · exact zchunk (P := fun q => zokE 103 q (zc_103 q) = true) 0 60 zk_103_0 pc (by omega) (by omega)
  have h0 := h2
  rcases Nat.lt_or_ge pc 120 with h | h2
  · exact zchunk (P := fun q => zokE 103 q (zc_103 q) = true) 60 60 zk_103_1 pc (by omega) (by omega)
  have h1 := h2
  rcases Nat.lt_or_ge pc 128 with h | h2
  · exact zchunk (P := fun q => zokE 103 q (zc_103 q) = true) 120 8 zk_103_2 pc (by omega) (by omega)
  have h2 := h2
  have e : zc_103 pc = none := by unfold zc_103; rw [zblt (by omega)]; rfl
  rw [e]; rfl
set_option maxRecDepth 100000 in
theorem zk_104_0 : ∀ q, q < 60 → zokE 104 (q + 0) (zc_104 (q + 0)) = true := by decide +kernel
set_option maxRecDepth 100000 in
theorem zk_104_1 : ∀ q, q < 5 → zokE 104 (q + 60) (zc_104 (q + 60)) = true := by decide +kernel
theorem zk_104 (pc : Nat) : zokE 104 pc (zc_104 pc) = true := by
  rcases Nat.lt_or_ge pc 60 with h | h2
  · exact zchunk (P := fun q => zokE 104 q (zc_104 q) = true) 0 60 zk_104_0 pc (by omega) (by omega)
  have h0 := h2
  rcases Nat.lt_or_ge pc 65 with h | h2
  · exact zchunk (P := fun q => zokE 104 q (zc_104 q) = true) 60 5 zk_104_1 pc (by omega) (by omega)
  have h1 := h2
  have e : zc_104 pc = none := by unfold zc_104; rw [zblt (by omega)]; rfl
  rw [e]; rfl
set_option maxRecDepth 100000 in
theorem zk_105_0 : ∀ q, q < 60 → zokE 105 (q + 0) (zc_105 (q + 0)) = true := by decide +kernel
set_option maxRecDepth 100000 in
theorem zk_105_1 : ∀ q, q < 60 → zokE 105 (q + 60) (zc_105 (q + 60)) = true := by decide +kernel
set_option maxRecDepth 100000 in
theorem zk_105_2 : ∀ q, q < 58 → zokE 105 (q + 120) (zc_105 (q + 120)) = true := by decide +kernel
theorem zk_105 (pc : Nat) : zokE 105 pc (zc_105 pc) = true := by
  rcases Nat.lt_or_ge pc 60 with h | h2
  · exact zchunk (P := fun q => zokE 105 q (zc_105 q) = true) 0 60 zk_105_0 pc (by omega) (by omega)
  have h0 := h2
  rcases Nat.lt_or_ge pc 120 with h | h2
  · exact zchunk (P := fun q => zokE 105 q (zc_105 q) = true) 60 60 zk_105_1 pc (by omega) (by omega)
  have h1 := h2
  rcases Nat.lt_or_ge pc 178 with h | h2
  · exact zchunk (P := fun q => zokE 105 q (zc_105 q) = true) 120 58 zk_105_2 pc (by omega) (by omega)
  have h2 := h2
  have e : zc_105 pc = none := by unfold zc_105; rw [zblt (by omega)]; rfl
  rw [e]; rfl
set_option maxRecDepth 100000 in
theorem zk_106 (pc : Nat) : zokE 106 pc (zc_106 pc) = true := by
  rcases Nat.lt_or_ge pc 60 with h | h
  · exact (by decide +kernel : ∀ q, q < 60 → zokE 106 q (zc_106 q) = true) pc h
  · have e : zc_106 pc = none := by unfold zc_106; rw [zblt h]; rfl
    rw [e]; rfl
set_option maxRecDepth 100000 in
theorem zk_107 (pc : Nat) : zokE 107 pc (zc_107 pc) = true := by
  rcases Nat.lt_or_ge pc 60 with h | h
  · exact (by decide +kernel : ∀ q, q < 60 → zokE 107 q (zc_107 q) = true) pc h
  · have e : zc_107 pc = none := by unfold zc_107; rw [zblt h]; rfl
    rw [e]; rfl
set_option maxRecDepth 100000 in
theorem zk_108_0 : ∀ q, q < 60 → zokE 108 (q + 0) (zc_108 (q + 0)) = true := by decide +kernel
set_option maxRecDepth 100000 in
theorem zk_108_1 : ∀ q, q < 25 → zokE 108 (q + 60) (zc_108 (q + 60)) = true := by decide +kernel
theorem zk_108 (pc : Nat) : zokE 108 pc (zc_108 pc) = true := by
  rcases Nat.lt_or_ge pc 60 with h | h2
  · exact zchunk (P := fun q => zokE 108 q (zc_108 q) = true) 0 60 zk_108_0 pc (by omega) (by omega)
  have h0 := h2
  rcases Nat.lt_or_ge pc 85 with h | h2
  · exact zchunk (P := fun q => zokE 108 q (zc_108 q) = true) 60 25 zk_108_1 pc (by omega) (by omega)
  have h1 := h2
  have e : zc_108 pc = none := by unfold zc_108; rw [zblt (by omega)]; rfl
  rw [e]; rfl
