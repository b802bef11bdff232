set_option maxRecDepth 100000 in
theorem zk_142_0 : ∀ q, q < 60 → zokE 142 (q + 0) (zc_142 (q + 0)) = true := by decide +kernel
set_option maxRecDepth 100000 in
theorem zk_142_1 : ∀ q, q < 48 → zokE 142 (q + 60) (zc_142 (q + 60)) = true := by decide +kernel
theorem zk_142 (pc : Nat) : zokE 142 pc (zc_142 pc) = true := by
  rcases Nat.lt_or_ge pc 60 with h | h2
  · exact zchunk (P := fun q => zokE 142 q (zc_142 q) = true) 0 60 zk_142_0 pc (by omega) (by omega)
  have h0 := h2
  rcases Nat.lt_or_ge pc 108 with h | h2
  · exact zchunk (P := fun q => zokE 142 q (zc_142 q) = true) 60 48 zk_142_1 pc (by omega) (by omega)
  have h1 := h2
  have e : zc_142 pc = none := by unfold zc_142; rw [zblt (by omega)]; rfl
  rw [e]; rfl
set_option maxRecDepth 100000 in
theorem zk_143 (pc : Nat) : zokE 143 pc (zc_143 pc) = true := by
  rcases Nat.lt_or_ge pc 37 with h | h
  · exact (by decide +kernel : ∀ q, q < 37 → zokE 143 q (zc_143 q) = true) pc h
  · have e : zc_143 pc = none := by unfold zc_143; rw [zblt h]; rfl
    rw [e]; rfl
set_option maxRecDepth 100000 in
theorem zk_144_0 : ∀ q, q < 60 → zokE 144 (q + 0) (zc_144 (q + 0)) = true := by decide +kernel
set_option maxRecDepth 100000 in
theorem zk_144_1 : ∀ q, q < 21 → zokE 144 (q + 60) (zc_144 (q + 60)) = true := by decide +kernel
theorem zk_144 (pc : Nat) : zokE 144 pc (zc_144 pc) = true := by
  rcases Nat.lt_or_ge pc 60 with h | h2
  · exact zchunk (P := fun q => zokE 144 q (zc_144 q) = true) 0 60 zk_144_0 pc (by omega) (by omega)
  have h0 := h2
  rcases Nat.lt_or_ge pc 81 with h | h2
  · exact zchunk (P := fun q => zokE 144 q (zc_144 q) = true) 60 21 zk_144_1 pc (by omega) (by omega)
  have h1 := h2
  have e : zc_144 pc = none := by unfold zc_144; rw [zblt (by omega)]; rfl
  rw [e]; rfl
set_option maxRecDepth 100000 in
theorem zk_145_0 : ∀ q, q < 60 → zokE 145 (q + 0) (zc_145 (q + 0)) = true := by decide +kernel
set_option maxRecDepth 100000 in
theorem zk_145_1 : ∀ q, q < 60 → zokE 145 (q + 60) (zc_145 (q + 60)) = true := by decide +kernel
set_option maxRecDepth 100000 in
theorem zk_145_2 : ∀ q, q < 35 → zokE 145 (q + 120) (zc_145 (q + 120)) = true := by decide +kernel
theorem zk_145 (pc : Nat) : zokE 145 pc (zc_145 pc) = true := by
  rcases Nat.lt_or_ge pc 60 with h | h2
  · exact zchunk (P := fun q => zokE 145 q (zc_145 q) = true) 0 60 zk_145_0 pc (by omega) (by omega)
  have h0 := h2
  rcases Nat.lt_or_ge pc 120 with h | h2
  · exact zchunk (P := fun q => zokE 145 q (zc_145 q) = true) 60 60 zk_145_1 pc (by omega) (by omega)
  have h1 := h2
  rcases Nat.lt_or_ge pc 155 with h | h2
  · exact zchunk (P := fun q => zokE 145 q (zc_145 q) = true) 120 35 zk_145_2 pc (by omega) (by omega)
  have h2 := h2
  have e : zc_145 pc = none := by unfold zc_145; rw [zblt (by omega)]; rfl
  rw [e]; rfl
set_option maxRecDepth 100000 in
theorem zk_146_0 : ∀ q, q < 60 → zokE 146 (q + 0) (zc_146 (q + 0)) = true := by decide +kernel
set_option maxRecDepth 100000 in
theorem zk_146_1 : ∀ q, q < 7 → zokE 146 (q + 60) (zc_146 (q + 60)) = true := by decide +kernel
theorem zk_146 (pc : Nat) : zokE 146 pc (zc_146 pc) = true := by
  rcases Nat.lt_or_ge pc 60 with h | h2
  · exact zchunk (P := fun q => zokE 146 q (zc_146 q) = true) 0 60 zk_146_0 pc (by omega) (by omega)
  have h0 := h2
  rcases Nat.lt_or_ge pc 67 with h | h2
  · exact zchunk (P := fun q => zokE 146 q (zc_146 q) = true) 60 7 zk_146_1 pc (by omega) (by omega)
  have h1 := h2
  have e : zc_146 pc = none := by unfold zc_146; rw [zblt (by omega)]; rfl
  rw [e]; rfl
set_option maxRecDepth 100000 in
theorem zk_147 (pc : Nat) : zokE 147 pc (zc_147 pc) = true := by
  rcases Nat.lt_or_ge pc 58 with h | h
  · exact (by decide +kernel : ∀ q, q < 58 → zokE 147 q (zc_147 q) = true) pc h
  · have e : zc_147 pc = none := by unfold zc_147; rw [zblt h]; rfl
    rw [e]; rfl
set_option maxRecDepth 100000 in
theorem zk_148 (pc : Nat) : zokE 148 pc (zc_148 pc) = true := by
  rcases Nat.lt_or_ge pc 56 with h | h
  · exact (by decide +kernel : ∀ q, q < 56 → zokE 148 q (zc_148 q) = true) pc h
  · have e : zc_148 pc = none := by unfold zc_148; rw [zblt h]; rfl
    rw [e]; rfl
set_option maxRecDepth 100000 in
theorem zk_149 (pc : Nat) : zokE 149 pc (zc_149 pc) = true := by
  rcases Nat.lt_or_ge pc 45 with h | h
  · exact (by decide +kernel : ∀ q, q < 45 → zokE 149 q (zc_149 q) = true) pc h
  · have e : zc_149 pc = none := by unfold zc_149; rw [zblt h]; rfl
    rw [e]; rfl
set_option maxRecDepth 100000 in
theorem zk_150 (pc : Nat) : zokE 150 pc (zc_150 pc) = true := by
  rcases Nat.lt_or_ge pc 45 with h | h
  · exact (by decide +kernel : ∀ q, q < 45 → zokE 150 q (zc_150 q) = true) pc h
  · have e : zc_150 pc = none := by unfold zc_150; rw [zblt h]; rfl
    rw [e]; rfl
set_option maxRecDepth 100000 in
theorem zk_151_0 : ∀ q, q < 60 → zokE 151 (q + 0) (zc_151 (q + 0)) = true := by decide +kernel
set_option maxRecDepth 100000 in
theorem zk_151_1 : ∀ q, q < 29 → zokE 151 (q + 60) (zc_151 (q + 60)) = true := by decide +kernel
theorem zk_151 (pc : Nat) : zokE 151 pc (zc_151 pc) = true := by
  rcases Nat.lt_or_ge pc 60 with h | h2
  · exact zchunk (P := fun q => zokE 151 q (zc_151 q) = true) 0 60 zk_151_0 pc (by omega) (by omega)
  have h0 := h2
  rcases Nat.lt_or_ge pc 89 with h | h2
  · exact zchunk (P := fun q => zokE 151 q (zc_151 q) = true) 60 29 zk_151_1 pc (by omega) (by omega)
  have h1 := h2
  have e : zc_151 pc = none := by unfold zc_151; rw [zblt (by omega)]; rfl
  rw [e]; rfl
set_option maxRecDepth 100000 in
theorem zk_152_0 : ∀ q, q < 60 → zokE 152 (q + 0) (zc_152 (q + 0)) = true := by decide +kernel
set_option maxRecDepth 100000 in
theorem zk_152_1 : ∀ q, q < 60 → zokE 152 (q + 60) (zc_152 (q + 60)) = true := by decide +kernel
set_option maxRecDepth 100000 in
theorem zk_152_2 : ∀ q, q < 60 → zokE 152 (q + 120) (zc_152 (q + 120)) = true := by decide +kernel
set_option maxRecDepth 100000 in
theorem zk_152_3 : ∀ q, q < 57 → zokE 152 (q + 180) (zc_152 (q + 180)) = true := by decide +kernel
theorem zk_152 (pc : Nat) : zokE 152 pc (zc_152 pc) = true := by
  rcases Nat.lt_or_ge pc 60 with h | h2
  · exact zchunk (P := fun q => zokE 152 q (zc_152 q) = true) 0 60 zk_152_0 pc (by omega) (by omega)
  have h0 := h2
  rcases Nat.lt_or_ge pc 120 with h | h2
  · exact zchunk (P := fun q => zokE 152 q (zc_152 q) = true) 60 60 zk_152_1 pc (by omega) (by omega)
  have h1 := h2
  rcases Nat.lt_or_ge pc 180 with h | h2
  · exact zchunk (P := fun q => zokE 152 q (zc_152 q) = true) 120 60 zk_152_2 pc (by omega) (by omega)
  have h2 := h2
  rcases Nat.lt_or_ge pc 237 with h | h2
  · exact zchunk (P := fun q => zokE 152 q (zc_152 q) = true) 180 57 zk_152_3 pc (by omega) (by omega)
  have h3 := h2
  have e : zc_152 pc = none := by unfold zc_152; rw [zblt (by omega)]; rfl
  rw [e]; rfl
set_option maxRecDepth 100000 in
theorem zk_153_0 : ∀ q, q < 60 → zokE 153 (q + 0) (zc_153 (q + 0)) = true := by decide +kernel
set_option maxRecDepth 100000 in
theorem zk_153_1 : ∀ q, q < 60 → zokE 153 (q + 60) (zc_153 (q + 60)) = true := by decide +kernel
set_option maxRecDepth 100000 in
theorem zk_153_2 : ∀ q, q < 60 → zokE 153 (q + 120) (zc_153 (q + 120)) = true := by decide +kernel
set_option maxRecDepth 100000 in
theorem zk_153_3 : ∀ q, q < 52 → zokE 153 (q + 180) (zc_153 (q + 180)) = true := by decide +kernel
theorem zk_153 (pc : Nat) : zokE 153 pc (zc_153 pc) = true := by
  rcases Nat.lt_or_ge pc 60 with h | h2
  · exact zchunk (P := fun q => zokE 153 q (zc_153 q) = true) 0 60 zk_153_0 pc (by omega) (by omega)
  have h0 := h2
  rcases Nat.lt_or_ge pc 120 with h | h2
  · exact zchunk (P := fun q => zokE 153 q (zc_153 q) = true) 60 60 zk_153_1 pc (by omega) (by omega)
  have h1 := h2
  rcases Nat.lt_or_ge pc 180 with h | h2
  · exact zchunk (P := fun q => zokE 153 q (zc_153 q) = true) 120 60 zk_153_2 pc (by omega) (by omega)
  have h2 := h2
  rcases Nat.lt_or_ge pc 232 with h | h2
  · exact zchunk (P := fun q => zokE 153 q (zc_153 q) = true) 180 52 zk_153_3 pc (by omega) (by omega)
  have h3 := h2
  have e : zc_153 pc = none := by unfold zc_153; rw [zblt (by omega)]; rfl
  rw [e]; rfl
set_option maxRecDepth 100000 in
theorem zk_154_0 : ∀ q, q < 60 → zokE 154 (q + 0) (zc_154 (q + 0)) = true := by decide +kernel
set_option maxRecDepth 100000 in
theorem zk_154_1 : ∀ q, q < 60 → zokE 154 (q + 60) (zc_154 (q + 60)) = true := by decide +kernel
set_option maxRecDepth 100000 in
theorem zk_154_2 : ∀ q, q < 60 → zokE 154 (q + 120) (zc_154 (q + 120)) = true := by decide +kernel
set_option maxRecDepth 100000 in
theorem zk_154_3 : ∀ q, q < 15 → zokE 154 (q + 180) (zc_154 (q + 180)) = true := by decide +kernel
theorem zk_154 (pc : Nat) : zokE 154 pc (zc_154 pc) = true := by
  rcases Nat.lt_or_ge pc 60 with h | h2
  · exact zchunk (P := fun q => zokE 154 q (zc_154 q) = true) 0 60 zk_154_0 pc (by omega) (by omega)
  have h0 := h2
  rcases Nat.lt_or_ge pc 120 with h | h2
  · exact zchunk (P := fun q => zokE 154 q (zc_154 q) = true) 60 60 zk_154_1 pc (by omega) (by omega)
  have h1 := h2
  rcases Nat.lt_or_ge pc 180 with h | h2
  · exact zchunk (P := fun q => zokE 154 q (zc_154 q) = true) 120 60 zk_154_2 pc (by omega) (by omega)
  have h2 := h2
  rcases Nat.lt_or_ge pc 195 with h | h2
  · exact zchunk (P := fun q => zokE 154 q (zc_154 q) = true) 180 15 zk_154_3 pc (by omega) (by omega)
  have h3 := h2
  have e : zc_154 pc = none := by unfold zc_154; rw [zblt (by omega)]; rfl
  rw [e]; rfl
set_option maxRecDepth 100000 in
theorem zk_155_0 : ∀ q, q < 60 → zokE 155 (q + 0) (zc_155 (q + 0)) = true := by decide +kernel
set_option maxRecDepth 100000 in
theorem zk_155_1 : ∀ q, q < 20 → zokE 155 (q + 60) (zc_155 (q + 60)) = true := by decide +kernel
theorem zk_155 (pc : Nat) : zokE 155 pc (zc_155 pc) = true := by
  rcases Nat.lt_or_ge pc 60 with h | h2
  · exact zchunk (P := fun q => zokE 155 q (zc_155 q) = true) 0 60 zk_155_0 pc (by omega) (by omega)
  have h0 := h2
  rcases Nat.lt_or_ge pc 80 with h | h2
  · exact zchunk (P := fun q => zokE 155 q (zc_155 q) = true) 60 20 zk_155_1 pc (by omega) (by omega)
  have h1 := h2
  have e : zc_155 pc = none := by unfold zc_155; rw [zblt (by omega)]; rfl
  rw [e]; rfl
set_option maxRecDepth 100000 in
theorem zk_156 (pc : Nat) : zokE 156 pc (zc_156 pc) = true := by
  rcases Nat.lt_or_ge pc 12 with h | h
  · exact (by decide +kernel : ∀ q, q < 12 → zokE 156 q (zc_156 q) = true) pc h
  · have e : zc_156 pc = none := by unfold zc_156; rw [zblt h]; rfl
    rw [e]; rfl
set_option maxRecDepth 100000 in
theorem zk_157 (pc : Nat) : zokE 157 pc (zc_157 pc) = true := by
  rcases Nat.lt_or_ge pc 46 with h | h
  · exact (by decide +kernel : ∀ q, q < 46 → zokE 157 q (zc_157 q) = true) pc h
  · have e : zc_157 pc = none := by unfold zc_157; rw [zblt h]; rfl
    rw [e]; rfl
set_option maxRecDepth 100000 in
theorem zk_158_0 : ∀ q, q < 60 → zokE 158 (q + 0) (zc_158 (q + 0)) = true := by decide +kernel
set_option maxRecDepth 100000 in
theorem zk_158_1 : ∀ q, q < 42 → zokE 158 (q + 60) (zc_158 (q + 60)) = true := by decide +kernel
theorem zk_158 (pc : Nat) : zokE 158 pc (zc_158 pc) = true := by
  rcases Nat.lt_or_ge pc 60 with h | h2
  · exact zchunk (P := fun q => zokE 158 q (zc_158 q) = true) 0 60 zk_158_0 pc (by omega) (by omega)
  have h0 := h2
  rcases Nat.lt_or_ge pc 102 with h | h2
  · exact zchunk (P := fun q => zokE 158 q (zc_158 q) = true) 60 42 zk_158_1 pc (by omega) (by omega)
  have h1 := h2
  have e : zc_158 pc = none := by unfold zc_158; rw [zblt (by omega)]; rfl
  rw [e]; rfl
set_option maxRecDepth 100000 in
theorem zk_159 (pc : Nat) : zokE 159 pc (zc_159 pc) = true := by
  rcases Nat.lt_or_ge pc 20 with h | h
  · exact (by decide +kernel : ∀ q, q < 20 → zokE 159 q (zc_159 q) = true) pc h
  · have e : zc_159 pc = none := by unfold zc_159; rw [zblt h]; rfl
    rw [e]; rfl
set_option maxRecDepth 100000 in
theorem zk_160 (pc : Nat) : zokE 160 pc (zc_160 pc) = true := by
  rcases Nat.lt_or_ge pc 22 with h | h
  · exact (by decide +kernel : ∀ q, q < 22 → zokE 160 q (zc_160 q) = true) pc h
  · have e : zc_160 pc = none := by unfold zc_160; rw [zblt h]; rfl
    rw [e]; rfl
set_option maxRecDepth 100000 in
theorem zk_161_0 : ∀ q, q < 60 → zokE 161 (q + 0) (zc_161 (q + 0)) = true := by decide +kernel
set_option maxRecDepth 100000 in
theorem zk_161_1 : ∀ q, q < 60 → zokE 161 (q + 60) (zc_161 (q + 60)) = true := by decide +kernel
set_option maxRecDepth 100000 in
theorem zk_161_2 : ∀ q, q < 60 → zokE 161 (q + 120) (zc_161 (q + 120)) = true := by decide +kernel
set_option maxRecDepth 100000 in
theorem zk_161_3 : ∀ q, q < 2 → zokE 161 (q + 180) (zc_161 (q + 180)) = true := by decide +kernel
theorem zk_161 (pc : Nat) : zokE 161 pc (zc_161 pc) = true := by
  rcases Nat.lt_or_ge pc 60 with h | h2
  · exact zchunk (P := fun q => zokE 161 q (zc_161 q) = true) 0 60 zk_161_0 pc (by omega) (by omega)
  have h0 := h2
  rcases Nat.lt_or_ge pc 120 with h | h2
  · exact zchunk (P := fun q => zokE 161 q (zc_161 q) = true) 60 60 zk_161_1 pc (by omega) (by omega)
  have h1 := h2
  rcases Nat.lt_or_ge pc 180 with h | h2
  · exact zchunk (P := fun q => zokE 161 q (zc_161 q) = true) 120 60 zk_161_2 pc (by omega) (by omega)
  have h2 := h2
  rcases Nat.lt_or_ge pc 182 with h | h2
  · exact zchunk (P := fun q => zokE 161 q (zc_161 q) = true) 180 2 zk_161_3 pc (by omega) (by omega)
  have h3 := h2
  have e : zc_161 pc = none := by unfold zc_161; rw [zblt (by omega)]; rfl
  rw [e]; rfl
set_option maxRecDepth 100000 in
theorem zk_162_0 : ∀ q, q < 60 → zokE 162 (q + 0) (zc_162 (q + 0)) = true := by decide +kernel
set_option maxRecDepth 100000 in
theorem zk_162_1 : ∀ q, q < 6 → zokE 162 (q + 60) (zc_162 (q + 60)) = true := by decide +kernel
theorem zk_162 (pc : Nat) : zokE 162 pc (zc_162 pc) = true := by
  rcases Nat.lt_or_ge pc 60 with h | h2
  · exact zchunk (P := fun q => zokE 162 q (zc_162 q) = true) 0 60 zk_162_0 pc (by omega) (by omega)
  have h0 := h2
  rcases Nat.lt_or_ge pc 66 with h | h2
  · exact zchunk (P := fun q => zokE 162 q (zc_162 q) = true) 60 6 zk_162_1 pc (by omega) (by omega)
  have h1 := h2
  have e : zc_162 pc = none := by unfold zc_162; rw [zblt (by omega)]; rfl
  rw [e]; rfl
set_option maxRecDepth 100000 in
theorem zk_163_0 : ∀ q, q < 60 → zokE 163 (q + 0) (zc_163 (q + 0)) = true := by decide +kernel
set_option maxRecDepth 100000 in
theorem zk_163_1 : ∀ q, q < 6 → zokE 163 (q + 60) (zc_163 (q + 60)) = true := by decide +kernel
theorem zk_163 (pc : Nat) : zokE 163 pc (zc_163 pc) = true := by
  rcases Nat.lt_or_ge pc 60 with h | h2
  · exact zchunk (P := fun q => zokE 163 q (zc_163 q) = true) 0 60 zk_163_0 pc (by omega) (by omega)
  have h0 := h2
  rcases Nat.lt_or_ge pc 66 with h | h2
  · exact zchunk (P := fun q => zokE 163 q (zc_163 q) = true) 60 6 zk_163_1 pc (by omega) (by omega)
  have h1 := h2
  have e : zc_163 pc = none := by unfold zc_163; rw [zblt (by omega)]; rfl
  rw [e]; rfl
set_option maxRecDepth 100000 in
theorem zk_164_0 : ∀ q, q < 60 → zokE 164 (q + 0) (zc_164 (q + 0)) = true := by decide +kernel
set_option maxRecDepth 100000 in
theorem zk_164_1 : ∀ q, q < 11 → zokE 164 (q + 60) (zc_164 (q + 60)) = true := by decide +kernel
theorem zk_164 (pc : Nat) : zokE 164 pc (zc_164 pc) = true := by
  rcases Nat.lt_or_ge pc 60 with h | h2
  · exact zchunk (P := fun q => zokE 164 q (zc_164 q) = true) 0 60 zk_164_0 pc (by omega) (by omega)
  have h0 := h2
  rcases Nat.lt_or_ge pc 71 with h | h2
  · exact zchunk (P := fun q => zokE 164 q (zc_164 q) = true) 60 11 zk_164_1 pc (by omega) (by omega)
  have h1 := h2
  have e : zc_164 pc = none := by unfold zc_164; rw [zblt (by omega)]; rfl
  rw [e]; rfl
set_option maxRecDepth 100000 in
theorem zk_165_0 : ∀ q, q < 60 → zokE 165 (q + 0) (zc_165 (q + 0)) = true := by decide +kernel
set_option maxRecDepth 100000 in
theorem zk_165_1 : ∀ q, q < 60 → zokE 165 (q + 60) (zc_165 (q + 60)) = true := by decide +kernel
set_option maxRecDepth 100000 in
theorem zk_165_2 : ∀ q, q < 60 → zokE 165 (q + 120) (zc_165 (q + 120)) = true := by decide +kernel
set_option maxRecDepth 100000 in
theorem zk_165_3 : ∀ q, q < 25 → zokE 165 (q + 180) (zc_165 (q + 180)) = true := by decide +kernel
theorem zk_165 (pc : Nat) : zokE 165 pc (zc_165 pc) = true := by
  rcases Nat.lt_or_ge pc 60 with h | h2
  · exact zchunk (P := fun q => zokE 165 q (zc_165 q) = true) 0 60 zk_165_0 pc (by omega) (by omega)
  have h0 := h2
  rcases Nat.lt_or_ge pc 120 with h | h2
  · exact zchunk (P := fun q => zokE 165 q (zc_165 q) = true) 60 60 zk_165_1 pc (by omega) (by omega)
  have h1 := h2
  rcases Nat.lt_or_ge pc 180 with h | h2
  · exact zchunk (P := fun q => zokE 165 q (zc_165 q) = true) 120 60 zk_165_2 pc (by omega) (by omega)
  have h2 := h2
  rcases Nat.lt_or_ge pc 205 with h | h2
  · exact zchunk (P := fun q => zokE 165 q (zc_165 q) = true) 180 25 zk_165_3 pc (by omega) (by omega)
  have h3 := h2
  have e : zc_165 pc = none := by unfold zc_165; rw [zblt (by omega)]; rfl
  rw [e]; rfl
