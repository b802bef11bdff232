set_option maxRecDepth 100000 in
theorem zk_109_0 : ∀ q, q < 60 → zokE 109 (q + 0) (zc_109 (q + 0)) = true := by decide +kernel
set_option maxRecDepth 100000 in
theorem zk_109_1 : ∀ q, q < 60 → zokE 109 (q + 60) (zc_109 (q + 60)) = true := by decide +kernel
theorem zk_109 (pc : Nat) : zokE 109 pc (zc_109 pc) = true := by
  rcases Nat.lt_or_ge pc 60 with h | h2
  · exact zchunk (P := fun q => zokE 109 q (zc_109 q) = true) 0 60 zk_109_0 pc (by omega) (by omega)
  have h0 := h2
  rcases Nat.lt_or_ge pc 120 with h | h2
  · exact zchunk (P := fun q => zokE 109 q (zc_109 q) = true) 60 60 zk_109_1 pc (by omega) (by omega)
  have h1 := h2
  have e : zc_109 pc = none := by unfold zc_109; rw [zblt (by omega)]; rfl
  rw [e]; rfl
set_option maxRecDepth 100000 in
theorem zk_110_0 : ∀ q, q < 60 → zokE 110 (q + 0) (zc_110 (q + 0)) = true := by decide +kernel
set_option maxRecDepth 100000 in
theorem zk_110_1 : ∀ q, q < 60 → zokE 110 (q + 60) (zc_110 (q + 60)) = true := by decide +kernel
set_option maxRecDepth 100000 in
theorem zk_110_2 : ∀ q, q < 60 → zokE 110 (q + 120) (zc_110 (q + 120)) = true := by decide +kernel
set_option maxRecDepth 100000 in
theorem zk_110_3 : ∀ q, q < 10 → zokE 110 (q + 180) (zc_110 (q + 180)) = true := by decide +kernel
theorem zk_110 (pc : Nat) : zokE 110 pc (zc_110 pc) = true := by
  rcases Nat.lt_or_ge pc 60 with h | h2
  · exact zchunk (P := fun q => zokE 110 q (zc_110 q) = true) 0 60 zk_110_0 pc (by omega) (by omega)
  have h0 := h2
  rcases Nat.lt_or_ge pc 120 with h | h2
  · exact zchunk (P := fun q => zokE 110 q (zc_110 q) = true) 60 60 zk_110_1 pc (by omega) (by omega)
  have h1 := h2
  rcases Nat.lt_or_ge pc 180 with h | h2
  · exact zchunk (P := fun q => zokE 110 q (zc_110 q) = true) 120 60 zk_110_2 pc (by omega) (by omega)
  have h2 := h2
  rcases Nat.lt_or_ge pc 190 with h | h2
  · exact zchunk (P := fun q => zokE 110 q (zc_110 q) = true) 180 10 zk_110_3 pc (by omega) (by omega)
  have h3 := h2
  have e : zc_110 pc = none := by unfold zc_110; rw [zblt (by omega)]; rfl
  rw [e]; rfl
set_option maxRecDepth 100000 in
theorem zk_111 (pc : Nat) : zokE 111 pc (zc_111 pc) = true := by
  rcases Nat.lt_or_ge pc 53 with h | h
  · exact (by decide +kernel : ∀ q, q < 53 → zokE 111 q (zc_111 q) = true) pc h
  · have e : zc_111 pc = none := by unfold zc_111; rw [zblt h]; rfl
    rw [e]; rfl
set_option maxRecDepth 100000 in
theorem zk_112_0 : ∀ q, q < 60 → zokE 112 (q + 0) (zc_112 (q + 0)) = true := by decide +kernel
set_option maxRecDepth 100000 in
theorem zk_112_1 : ∀ q, q < 33 → zokE 112 (q + 60) (zc_112 (q + 60)) = true := by decide +kernel
theorem zk_112 (pc : Nat) : zokE 112 pc (zc_112 pc) = true := by
  rcases Nat.lt_or_ge pc 60 with h | h2
  · exact zchunk (P := fun q => zokE 112 q (zc_112 q) = true) 0 60 zk_112_0 pc (by omega) (by omega)
  have h0 := h2
  rcases Nat.lt_or_ge pc 93 with h | h2
  · exact zchunk (P := fun q => zokE 112 q (zc_112 q) = true) 60 33 zk_112_1 pc (by omega) (by omega)
  have h1 := h2
  have e : zc_112 pc = none := by unfold zc_112; rw [zblt (by omega)]; rfl
  rw [e]; rfl
set_option maxRecDepth 100000 in
theorem zk_113 (pc : Nat) : zokE 113 pc (zc_113 pc) = true := by
  rcases Nat.lt_or_ge pc 12 with h | h
  · exact (by decide +kernel : ∀ q, q < 12 → zokE 113 q (zc_113 q) = true) pc h
  · have e : zc_113 pc = none := by unfold zc_113; rw [zblt h]; rfl
    rw [e]; rfl
set_option maxRecDepth 100000 in
theorem zk_114 (pc : Nat) : zokE 114 pc (zc_114 pc) = true := by
  rcases Nat.lt_or_ge pc 12 with h | h
  · exact (by decide +kernel : ∀ q, q < 12 → zokE 114 q (zc_114 q) = true) pc h
  · have e : zc_114 pc = none := by unfold zc_114; rw [zblt h]; rfl
    rw [e]; rfl
set_option maxRecDepth 100000 in
theorem zk_115 (pc : Nat) : zokE 115 pc (zc_115 pc) = true := by
  rcases Nat.lt_or_ge pc 9 with h | h
  · exact (by decide +kernel : ∀ q, q < 9 → zokE 115 q (zc_115 q) = true) pc h
  · have e : zc_115 pc = none := by unfold zc_115; rw [zblt h]; rfl
    rw [e]; rfl
set_option maxRecDepth 100000 in
theorem zk_116 (pc : Nat) : zokE 116 pc (zc_116 pc) = true := by
  rcases Nat.lt_or_ge pc 11 with h | h
  · exact (by decide +kernel : ∀ q, q < 11 → zokE 116 q (zc_116 q) = true) pc h
  · have e : zc_116 pc = none := by unfold zc_116; rw [zblt h]; rfl
    rw [e]; rfl
set_option maxRecDepth 100000 in
theorem zk_117 (pc : Nat) : zokE 117 pc (zc_117 pc) = true := by
  rcases Nat.lt_or_ge pc 36 with h | h
  · exact (by decide +kernel : ∀ q, q < 36 → zokE 117 q (zc_117 q) = true) pc h
  · have e : zc_117 pc = none := by unfold zc_117; rw [zblt h]; rfl
    rw [e]; rfl
set_option maxRecDepth 100000 in
theorem zk_118 (pc : Nat) : zokE 118 pc (zc_118 pc) = true := by
  rcases Nat.lt_or_ge pc 37 with h | h
  · exact (by decide +kernel : ∀ q, q < 37 → zokE 118 q (zc_118 q) = true) pc h
  · have e : zc_118 pc = none := by unfold zc_118; rw [zblt h]; rfl
    rw [e]; rfl
set_option maxRecDepth 100000 in
theorem zk_119 (pc : Nat) : zokE 119 pc (zc_119 pc) = true := by
  rcases Nat.lt_or_ge pc 44 with h | h
  · exact (by decide +kernel : ∀ q, q < 44 → zokE 119 q (zc_119 q) = true) pc h
  · have e : zc_119 pc = none := by unfold zc_119; rw [zblt h]; rfl
    rw [e]; rfl
set_option maxRecDepth 100000 in
theorem zk_120 (pc : Nat) : zokE 120 pc (zc_120 pc) = true := by
  rcases Nat.lt_or_ge pc 29 with h | h
  · exact (by decide +kernel : ∀ q, q < 29 → zokE 120 q (zc_120 q) = true) pc h
  · have e : zc_120 pc = none := by unfold zc_120; rw [zblt h]; rfl
    rw [e]; rfl
set_option maxRecDepth 100000 in
theorem zk_121 (pc : Nat) : zokE 121 pc (zc_121 pc) = true := by
  rcases Nat.lt_or_ge pc 26 with h | h
  · exact (by decide +kernel : ∀ q, q < 26 → zokE 121 q (zc_121 q) = true) pc h
  · have e : zc_121 pc = none := by unfold zc_121; rw [zblt h]; rfl
    rw [e]; rfl
set_option maxRecDepth 100000 in
theorem zk_122 (pc : Nat) : zokE 122 pc (zc_122 pc) = true := by
  rcases Nat.lt_or_ge pc 47 with h | h
  · exact (by decide +kernel : ∀ q, q < 47 → zokE 122 q (zc_122 q) = true) pc h
  · have e : zc_122 pc = none := by unfold zc_122; rw [zblt h]; rfl
    rw [e]; rfl
set_option maxRecDepth 100000 in
theorem zk_123_0 : ∀ q, q < 60 → zokE 123 (q + 0) (zc_123 (q + 0)) = true := by decide +kernel
set_option maxRecDepth 100000 in
theorem zk_123_1 : ∀ q, q < 60 → zokE 123 (q + 60) (zc_123 (q + 60)) = true := by decide +kernel
set_option maxRecDepth 100000 in
theorem zk_123_2 : ∀ q, q < 10 → zokE 123 (q + 120) (zc_123 (q + 120)) = true := by decide +kernel
theorem zk_123 (pc : Nat) : zokE 123 pc (zc_123 pc) = true := by
  rcases Nat.lt_or_ge pc 60 with h | h2
  · exact zchunk (P := fun q => zokE 123 q (zc_123 q) = true) 0 60 zk_123_0 pc (by omega) (by omega)
  have h0 := h2
  rcases Nat.lt_or_ge pc 120 with h | h2
  · exact zchunk (P := fun q => zokE 123 q (zc_123 q) = true) 60 60 zk_123_1 pc (by omega) (by omega)
  have h1 := h2
  rcases Nat.lt_or_ge pc 130 with h | h2
  · exact zchunk (P := fun q => zokE 123 q (zc_123 q) = true) 120 10 zk_123_2 pc (by omega) (by omega)
  have h2 := h2
  have e : zc_123 pc = none := by unfold zc_123; rw [zblt (by omega)]; rfl
  rw [e]; rfl
set_option maxRecDepth 100000 in
theorem zk_124_0 : ∀ q, q < 60 → zokE 124 (q + 0) (zc_124 (q + 0)) = true := by decide +kernel
set_option maxRecDepth 100000 in
theorem zk_124_1 : ∀ q, q < 21 → zokE 124 (q + 60) (zc_124 (q + 60)) = true := by decide +kernel
theorem zk_124 (pc : Nat) : zokE 124 pc (zc_124 pc) = true := by
  rcases Nat.lt_or_ge pc 60 with h | h2
  · exact zchunk (P := fun q => zokE 124 q (zc_124 q) = true) 0 60 zk_124_0 pc (by omega) (by omega)
  have h0 := h2
  rcases Nat.lt_or_ge pc 81 with h | h2
  · exact zchunk (P := fun q => zokE 124 q (zc_124 q) = true) 60 21 zk_124_1 pc (by omega) (by omega)
  have h1 := h2
  have e : zc_124 pc = none := by unfold zc_124; rw [zblt (by omega)]; rfl
  rw [e]; rfl
set_option maxRecDepth 100000 in
theorem zk_125_0 : ∀ q, q < 60 → zokE 125 (q + 0) (zc_125 (q + 0)) = true := by decide +kernel
set_option maxRecDepth 100000 in
theorem zk_125_1 : ∀ q, q < 54 → zokE 125 (q + 60) (zc_125 (q + 60)) = true := by decide +kernel
theorem zk_125 (pc : Nat) : zokE 125 pc (zc_125 pc) = true := by
  rcases Nat.lt_or_ge pc 60 with h | h2
  · exact zchunk (P := fun q => zokE 125 q (zc_125 q) = true) 0 60 zk_125_0 pc (by omega) (by omega)
  have h0 := h2
  rcases Nat.lt_or_ge pc 114 with h | h2
  · exact zchunk (P := fun q => zokE 125 q (zc_125 q) = true) 60 54 zk_125_1 pc (by omega) (by omega)
  have h1 := h2
  have e : zc_125 pc = none := by unfold zc_125; rw [zblt (by omega)]; rfl
  rw [e]; rfl
set_option maxRecDepth 100000 in
theorem zk_126 (pc : Nat) : zokE 126 pc (zc_126 pc) = true := by
  rcases Nat.lt_or_ge pc 16 with h | h
  · exact (by decide +kernel : ∀ q, q < 16 → zokE 126 q (zc_126 q) = true) pc h
  · have e : zc_126 pc = none := by unfold zc_126; rw [zblt h]; rfl
    rw [e]; rfl
set_option maxRecDepth 100000 in
theorem zk_127 (pc : Nat) : zokE 127 pc (zc_127 pc) = true := by
  rcases Nat.lt_or_ge pc 7 with h | h
  · exact (by decide +kernel : ∀ q, q < 7 → zokE 127 q (zc_127 q) = true) pc h
  · have e : zc_127 pc = none := by unfold zc_127; rw [zblt h]; rfl
    rw [e]; rfl
set_option maxRecDepth 100000 in
theorem zk_128_0 : ∀ q, q < 60 → zokE 128 (q + 0) (zc_128 (q + 0)) = true := by decide +kernel
set_option maxRecDepth 100000 in
theorem zk_128_1 : ∀ q, q < 60 → zokE 128 (q + 60) (zc_128 (q + 60)) = true := by decide +kernel
set_option maxRecDepth 100000 in
theorem zk_128_2 : ∀ q, q < 60 → zokE 128 (q + 120) (zc_128 (q + 120)) = true := by decide +kernel
set_option maxRecDepth 100000 in
theorem zk_128_3 : ∀ q, q < 60 → zokE 128 (q + 180) (zc_128 (q + 180)) = true := by decide +kernel
set_option maxRecDepth 100000 in
theorem zk_128_4 : ∀ q, q < 60 → zokE 128 (q + 240) (zc_128 (q + 240)) = true := by decide +kernel
set_option maxRecDepth 100000 in
theorem zk_128_5 : ∀ q, q < 60 → zokE 128 (q + 300) (zc_128 (q + 300)) = true := by decide +kernel
set_option maxRecDepth 100000 in
theorem zk_128_6 : ∀ q, q < 14 → zokE 128 (q + 360) (zc_128 (q + 360)) = true := by decide +kernel
theorem zk_128 (pc : Nat) : zokE 128 pc (zc_128 pc) = true := by
  rcases Nat.lt_or_ge pc 60 with h | h2
  · exact zchunk (P := fun q => zokE 128 q (zc_128 q) = true) 0 60 zk_128_0 pc (by omega) (by omega)
  have h0 := h2
  rcases Nat.lt_or_ge pc 120 with h | h2
  · exact zchunk (P := fun q => zokE 128 q (zc_128 q) = true) 60 60 zk_128_1 pc (by omega) (by omega)
  have h1 := h2
  rcases Nat.lt_or_ge pc 180 with h | h2
  · exact zchunk (P := fun q => zokE 128 q (zc_128 q) = true) 120 60 zk_128_2 pc (by omega) (by omega)
  have h2 := h2
  rcases Nat.lt_or_ge pc 240 with h | h2
  · exact zchunk (P := fun q => zokE 128 q (zc_128 q) = true) 180 60 zk_128_3 pc (by omega) (by omega)
  have h3 := h2
  rcases Nat.lt_or_ge pc 300 with h | h2
  · exact zchunk (P := fun q => zokE 128 q (zc_128 q) = true) 240 60 zk_128_4 pc (by omega) (by omega)
  have h4 := h2
  rcases Nat.lt_or_ge pc 360 with h | h2
  · exact zchunk (P := fun q => zokE 128 q (zc_128 q) = true) 300 60 zk_128_5 pc (by omega) (by omega)
  have h5 := h2
  rcases Nat.lt_or_ge pc 374 with h | h2
  · exact zchunk (P := fun q => zokE 128 q (zc_128 q) = true) 360 14 zk_128_6 pc (by omega) (by omega)
  have h6 := h2
  have e : zc_128 pc = none := by unfold zc_128; rw [zblt (by omega)]; rfl
  rw [e]; rfl
set_option maxRecDepth 100000 in
theorem zk_129 (pc : Nat) : zokE 129 pc (zc_129 pc) = true := by
  rcases Nat.lt_or_ge pc 16 with h | h
  · exact (by decide +kernel : ∀ q, q < 16 → zokE 129 q (zc_129 q) = true) pc h
  · have e : zc_129 pc = none := by unfold zc_129; rw [zblt h]; rfl
    rw [e]; rfl
set_option maxRecDepth 100000 in
theorem zk_130 (pc : Nat) : zokE 130 pc (zc_130 pc) = true := by
  rcases Nat.lt_or_ge pc 12 with h | h
  · exact (by decide +kernel : ∀ q, q < 12 → zokE 130 q (zc_130 q) = true) pc h
  · have e : zc_130 pc = none := by unfold zc_130; rw [zblt h]; rfl
    rw [e]; rfl
set_option maxRecDepth 100000 in
theorem zk_131 (pc : Nat) : zokE 131 pc (zc_131 pc) = true := by
  rcases Nat.lt_or_ge pc 12 with h | h
  · exact (by decide +kernel : ∀ q, q < 12 → zokE 131 q (zc_131 q) = true) pc h
  · have e : zc_131 pc = none := by unfold zc_131; rw [zblt h]; rfl
    rw [e]; rfl
set_option maxRecDepth 100000 in
theorem zk_132_0 : ∀ q, q < 60 → zokE 132 (q + 0) (zc_132 (q + 0)) = true := by decide +kernel
set_option maxRecDepth 100000 in
theorem zk_132_1 : ∀ q, q < 10 → zokE 132 (q + 60) (zc_132 (q + 60)) = true := by decide +kernel
theorem zk_132 (pc : Nat) : zokE 132 pc (zc_132 pc) = true := by
  rcases Nat.lt_or_ge pc 60 with h | h2
  · exact zchunk (P := fun q => zokE 132 q (zc_132 q) = true) 0 60 zk_132_0 pc (by omega) (by omega)
  have h0 := h2
  rcases Nat.lt_or_ge pc 70 with h | h2
  · exact zchunk (P := fun q => zokE 132 q (zc_132 q) = true) 60 10 zk_132_1 pc (by omega) (by omega)
  have h1 := h2
  have e : zc_132 pc = none := by unfold zc_132; rw [zblt (by omega)]; rfl
  rw [e]; rfl
set_option maxRecDepth 100000 in
theorem zk_133_0 : ∀ q, q < 60 → zokE 133 (q + 0) (zc_133 (q + 0)) = true := by decide +kernel
set_option maxRecDepth 100000 in
theorem zk_133_1 : ∀ q, q < 60 → zokE 133 (q + 60) (zc_133 (q + 60)) = true := by decide +kernel
set_option maxRecDepth 100000 in
theorem zk_133_2 : ∀ q, q < 14 → zokE 133 (q + 120) (zc_133 (q + 120)) = true := by decide +kernel
theorem zk_133 (pc : Nat) : zokE 133 pc (zc_133 pc) = true := by
  rcases Nat.lt_or_ge pc 60 with h | h2
  · exact zchunk (P := fun q => zokE 133 q (zc_133 q) = true) 0 60 zk_133_0 pc (by omega) (by omega)
  have h0 := h2
  rcases Nat.lt_or_ge pc 120 with h | h2
  · exact zchunk (P := fun q => zokE 133 q (zc_133 q) = true) 60 60 zk_133_1 pc (by omega) (by omega)
  have h1 := h2
  rcases Nat.lt_or_ge pc 134 with h | h2
  · exact zchunk (P := fun q => zokE 133 q (zc_133 q) = true) 120 14 zk_133_2 pc (by omega) (by omega)
  have h2 := h2
  have e : zc_133 pc = none := by unfold zc_133; rw [zblt (by omega)]; rfl
  rw [e]; rfl
set_option maxRecDepth 100000 in
theorem zk_134_0 : ∀ q, q < 60 → zokE 134 (q + 0) (zc_134 (q + 0)) = true := by decide +kernel
set_option maxRecDepth 100000 in
theorem zk_134_1 : ∀ q, q < 4 → zokE 134 (q + 60) (zc_134 (q + 60)) = true := by decide +kernel
theorem zk_134 (pc : Nat) : zokE 134 pc (zc_134 pc) = true := by
  rcases Nat.lt_or_ge pc 60 with h | h2
  · exact zchunk (P := fun q => zokE 134 q (zc_134 q) = true) 0 60 zk_134_0 pc (by omega) (by omega)
  have h0 := h2
  rcases Nat.lt_or_ge pc 64 with h | h2
  · exact zchunk (P := fun q => zokE 134 q (zc_134 q) = true) 60 4 zk_134_1 pc (by omega) (by omega)
  have h1 := h2
  have e : zc_134 pc = none := by unfold zc_134; rw [zblt (by omega)]; rfl
  rw [e]; rfl
set_option maxRecDepth 100000 in
theorem zk_135_0 : ∀ q, q < 60 → zokE 135 (q + 0) (zc_135 (q + 0)) = true := by decide +kernel
set_option maxRecDepth 100000 in
theorem zk_135_1 : ∀ q, q < 19 → zokE 135 (q + 60) (zc_135 (q + 60)) = true := by decide +kernel
theorem zk_135 (pc : Nat) : zokE 135 pc (zc_135 pc) = true := by
  rcases Nat.lt_or_ge pc 60 with h | h2
  · exact zchunk (P := fun q => zokE 135 q (zc_135 q) = true) 0 60 zk_135_0 pc (by omega) (by omega)
  have h0 := h2
  rcases Nat.lt_or_ge pc 79 with h | h2
  · exact zchunk (P := fun q => zokE 135 q (zc_135 q) = true) 60 19 zk_135_1 pc (by omega) (by omega)
  have h1 := h2
  have e : zc_135 pc = none := by unfold zc_135; rw [zblt (by omega)]; rfl
  rw [e]; rfl
set_option maxRecDepth 100000 in
theorem zk_136 (pc : Nat) : zokE 136 pc (zc_136 pc) = true := by
  rcases Nat.lt_or_ge pc 34 with h | h
  · exact (by decide +kernel : ∀ q, q < 34 → zokE 136 q (zc_136 q) = true) pc h
  · have e : zc_136 pc = none := by unfold zc_136; rw [zblt h]; rfl
    rw [e]; rfl
set_option maxRecDepth 100000 in
theorem zk_137_0 : ∀ q, q < 60 → zokE 137 (q + 0) (zc_137 (q + 0)) = true := by decide +kernel
set_option maxRecDepth 100000 in
theorem zk_137_1 : ∀ q, q < 60 → zokE 137 (q + 60) (zc_137 (q + 60)) = true := by decide +kernel
set_option maxRecDepth 100000 in
theorem zk_137_2 : ∀ q, q < 60 → zokE 137 (q + 120) (zc_137 (q + 120)) = true := by decide +kernel
set_option maxRecDepth 100000 in
theorem zk_137_3 : ∀ q, q < 19 → zokE 137 (q + 180) (zc_137 (q + 180)) = true := by decide +kernel
theorem zk_137 (pc : Nat) : zokE 137 pc (zc_137 pc) = true := by
  rcases Nat.lt_or_ge pc 60 with h | h2
  · exact zchunk (P := fun q => zokE 137 q (zc_137 q) = true) 0 60 zk_137_0 pc (by omega) (by omega)
  have h0 := h2
  rcases Nat.lt_or_ge pc 120 with h | h2
  · exact zchunk (P := fun q => zokE 137 q (zc_137 q) = true) 60 60 zk_137_1 pc (by omega) (by omega)
  have h1 := h2
  rcases Nat.lt_or_ge pc 180 with h | h2
  · exact zchunk (P := fun q => zokE 137 q (zc_137 q) = true) 120 60 zk_137_2 pc (by omega) (by omega)
  have h2 := h2
  rcases Nat.lt_or_ge pc 199 with h | h2
  · exact zchunk (P := fun q => zokE 137 q (zc_137 q) = true) 180 19 zk_137_3 pc (by omega) (by omega)
  have h3 := h2
  have e : zc_137 pc = none := by unfold zc_137; rw [zblt (by omega)]; rfl
  rw [e]; rfl
set_option maxRecDepth 100000 in
theorem zk_138 (pc : Nat) : zokE 138 pc (zc_138 pc) = true := by
  rcases Nat.lt_or_ge pc 51 with h | h
  · exact (by decide +kernel : ∀ q, q < 51 → zokE 138 q (zc_138 q) = true) pc h
  · have e : zc_138 pc = none := by unfold zc_138; rw [zblt h]; rfl
    rw [e]; rfl
set_option maxRecDepth 100000 in
theorem zk_139 (pc : Nat) : zokE 139 pc (zc_139 pc) = true := by
  rcases Nat.lt_or_ge pc 25 with h | h
  · exact (by decide +kernel : ∀ q, q < 25 → zokE 139 q (zc_139 q) = true) pc h
  · have e : zc_139 pc = none := by unfold zc_139; rw [zblt h]; rfl
    rw [e]; rfl
set_option maxRecDepth 100000 in
theorem zk_140 (pc : Nat) : zokE 140 pc (zc_140 pc) = true := by
  rcases Nat.lt_or_ge pc 16 with h | h
  · exact (by decide +kernel : ∀ q, q < 16 → zokE 140 q (zc_140 q) = true) pc h
  · have e : zc_140 pc = none := by unfold zc_140; rw [zblt h]; rfl
    rw [e]; rfl
set_option maxRecDepth 100000 in
theorem zk_141 (pc : Nat) : zokE 141 pc (zc_141 pc) = true := by
  rcases Nat.lt_or_ge pc 40 with h | h
  · exact (by decide +kernel : ∀ q, q < 40 → zokE 141 q (zc_141 q) = true) pc h
  · have e : zc_141 pc = none := by unfold zc_141; rw [zblt h]; rfl
    rw [e]; rfl
