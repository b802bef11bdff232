set_option maxRecDepth 100000 in
theorem zk_166 (pc : Nat) : zokE 166 pc (zc_166 pc) = true := by
  rcases Nat.lt_or_ge pc 56 with h | h
  · exact (by decide +kernel : ∀ q, q < 56 → zokE 166 q (zc_166 q) = true) pc h
  · have e : zc_166 pc = none := by unfold zc_166; rw [zblt h]; rfl
    rw [e]; rfl
set_option maxRecDepth 100000 in
theorem zk_167_0 : ∀ q, q < 60 → zokE 167 (q + 0) (zc_167 (q + 0)) = true := by decide +kernel
set_option maxRecDepth 100000 in
theorem zk_167_1 : ∀ q, q < 60 → zokE 167 (q + 60) (zc_167 (q + 60)) = true := by decide +kernel
set_option maxRecDepth 100000 in
theorem zk_167_2 : ∀ q, q < 20 → zokE 167 (q + 120) (zc_167 (q + 120)) = true := by decide +kernel
theorem zk_167 (pc : Nat) : zokE 167 pc (zc_167 pc) = true := by
  rcases Nat.lt_or_ge pc 60 with h | h2
  · exact zchunk (P := fun q => zokE 167 q (zc_167 q) = true) 0 60 zk_167_0 pc (by omega) (by omega)
  have h0 := h2
  rcases Nat.lt_or_ge pc 120 with h | h2
  · exact zchunk (P := fun q => zokE 167 q (zc_167 q) = true) 60 60 zk_167_1 pc (by omega) (by omega)
  have h1 := h2
  rcases Nat.lt_or_ge pc 140 with h | h2
  · exact zchunk (P := fun q => zokE 167 q (zc_167 q) = true) 120 20 zk_167_2 pc (by omega) (by omega)
  have h2 := h2
  have e : zc_167 pc = none := by unfold zc_167; rw [zblt (by omega)]; rfl
  rw [e]; rfl
set_option maxRecDepth 100000 in
theorem zk_168_0 : ∀ q, q < 60 → zokE 168 (q + 0) (zc_168 (q + 0)) = true := by decide +kernel
set_option maxRecDepth 100000 in
theorem zk_168_1 : ∀ q, q < 60 → zokE 168 (q + 60) (zc_168 (q + 60)) = true := by decide +kernel
set_option maxRecDepth 100000 in
theorem zk_168_2 : ∀ q, q < 60 → zokE 168 (q + 120) (zc_168 (q + 120)) = true := by decide +kernel
set_option maxRecDepth 100000 in
theorem zk_168_3 : ∀ q, q < 60 → zokE 168 (q + 180) (zc_168 (q + 180)) = true := by decide +kernel
set_option maxRecDepth 100000 in
theorem zk_168_4 : ∀ q, q < 31 → zokE 168 (q + 240) (zc_168 (q + 240)) = true := by decide +kernel
theorem zk_168 (pc : Nat) : zokE 168 pc (zc_168 pc) = true := by
  rcases Nat.lt_or_ge pc 60 with h | h2
  · exact zchunk (P := fun q => zokE 168 q (zc_168 q) = true) 0 60 zk_168_0 pc (by omega) (by omega)
  have h0 := h2
  rcases Nat.lt_or_ge pc 120 with h | h2
  · exact zchunk (P := fun q => zokE 168 q (zc_168 q) = true) 60 60 zk_168_1 pc (by omega) (by omega)
  have h1 := h2
  rcases Nat.lt_or_ge pc 180 with h | h2
  · exact zchunk (P := fun q => zokE 168 q (zc_168 q) = true) 120 60 zk_168_2 pc (by omega) (by omega)
  have h2 := h2
  rcases Nat.lt_or_ge pc 240 with h | h2
  · exact zchunk (P := fun q => zokE 168 q (zc_168 q) = true) 180 60 zk_168_3 pc (by omega) (by omega)
  have h3 := h2
  rcases Nat.lt_or_ge pc 271 with h | h2
  · exact zchunk (P := fun q => zokE 168 q (zc_168 q) = true) 240 31 zk_168_4 pc (by omega) (by omega)
  have h4 := h2
  have e : zc_168 pc = none := by unfold zc_168; rw [zblt (by omega)]; rfl
  rw [e]; rfl
set_option maxRecDepth 100000 in
theorem zk_169 (pc : Nat) : zokE 169 pc (zc_169 pc) = true := by
  rcases Nat.lt_or_ge pc 26 with h | h
  · exact (by decide +kernel : ∀ q, q < 26 → zokE 169 q (zc_169 q) = true) pc h
  · have e : zc_169 pc = none := by unfold zc_169; rw [zblt h]; rfl
    rw [e]; rfl
set_option maxRecDepth 100000 in
theorem zk_170_0 : ∀ q, q < 60 → zokE 170 (q + 0) (zc_170 (q + 0)) = true := by decide +kernel
set_option maxRecDepth 100000 in
theorem zk_170_1 : ∀ q, q < 60 → zokE 170 (q + 60) (zc_170 (q + 60)) = true := by decide +kernel
set_option maxRecDepth 100000 in
theorem zk_170_2 : ∀ q, q < 60 → zokE 170 (q + 120) (zc_170 (q + 120)) = true := by decide +kernel
set_option maxRecDepth 100000 in
theorem zk_170_3 : ∀ q, q < 60 → zokE 170 (q + 180) (zc_170 (q + 180)) = true := by decide +kernel
set_option maxRecDepth 100000 in
theorem zk_170_4 : ∀ q, q < 60 → zokE 170 (q + 240) (zc_170 (q + 240)) = true := by decide +kernel
set_option maxRecDepth 100000 in
theorem zk_170_5 : ∀ q, q < 21 → zokE 170 (q + 300) (zc_170 (q + 300)) = true := by decide +kernel
theorem zk_170 (pc : Nat) : zokE 170 pc (zc_170 pc) = true := by
  rcases Nat.lt_or_ge pc 60 with h | h2
  · exact zchunk (P := fun q => zokE 170 q (zc_170 q) = true) 0 60 zk_170_0 pc (by omega) (by omega)
  have h0 := h2
  rcases Nat.lt_or_ge pc 120 with h | h2
  · exact zchunk (P := fun q => zokE 170 q (zc_170 q) = true) 60 60 zk_170_1 pc (by omega) (by omega)
  have h1 := h2
  rcases Nat.lt_or_ge pc 180 with h | h2
  · exact zchunk (P := fun q => zokE 170 q (zc_170 q) = true) 120 60 zk_170_2 pc (by omega) (by omega)
  have h2 := h2
  rcases Nat.lt_or_ge pc 240 with h | h2
  · exact zchunk (P := fun q => zokE 170 q (zc_170 q) = true) 180 60 zk_170_3 pc (by omega) (by omega)
  have h3 := h2
  rcases Nat.lt_or_ge pc 300 with h | h2
  · exact zchunk (P := fun q => zokE 170 q (zc_170 q) = true) 240 60 zk_170_4 pc (by omega) (by omega)
  have h4 := h2
  rcases Nat.lt_or_ge pc 321 with h | h2
  · exact zchunk (P := fun q => zokE 170 q (zc_170 q) = true) 300 21 zk_170_5 pc (by omega) (by omega)
  have h5 := h2
  have e : zc_170 pc = none := by unfold zc_170; rw [zblt (by omega)]; rfl
  rw [e]; rfl
set_option maxRecDepth 100000 in
theorem zk_171_0 : ∀ q, q < 60 → zokE 171 (q + 0) (zc_171 (q + 0)) = true := by decide +kernel
set_option maxRecDepth 100000 in
theorem zk_171_1 : ∀ q, q < 60 → zokE 171 (q + 60) (zc_171 (q + 60)) = true := by decide +kernel
set_option maxRecDepth 100000 in
theorem zk_171_2 : ∀ q, q < 60 → zokE 171 (q + 120) (zc_171 (q + 120)) = true := by decide +kernel
set_option maxRecDepth 100000 in
theorem zk_171_3 : ∀ q, q < 42 → zokE 171 (q + 180) (zc_171 (q + 180)) = true := by decide +kernel
theorem zk_171 (pc : Nat) : zokE 171 pc (zc_171 pc) = true := by
  rcases Nat.lt_or_ge pc 60 with h | h2
  · exact zchunk (P := fun q => zokE 171 q (zc_171 q) = true) 0 60 zk_171_0 pc (by omega) (by omega)
  have h0 := h2
  rcases Nat.lt_or_ge pc 120 with h | h2
  · exact zchunk (P := fun q => zokE 171 q (zc_171 q) = true) 60 60 zk_171_1 pc (by omega) (by omega)
  have h1 := h2
  rcases Nat.lt_or_ge pc 180 with h | h2
  · exact zchunk (P := fun q => zokE 171 q (zc_171 q) = true) 120 60 zk_171_2 pc (by omega) (by omega)
  have h2 := h2
  rcases Nat.lt_or_ge pc 222 with h | h2
  · exact zchunk (P := fun q => zokE 171 q (zc_171 q) = true) 180 42 zk_171_3 pc (by omega) (by omega)
  have h3 := h2
  have e : zc_171 pc = none := by unfold zc_171; rw [zblt (by omega)]; rfl
  rw [e]; rfl
set_option maxRecDepth 100000 in
theorem zk_172_0 : ∀ q, q < 60 → zokE 172 (q + 0) (zc_172 (q + 0)) = true := by decide +kernel
set_option maxRecDepth 100000 in
theorem zk_172_1 : ∀ q, q < 60 → zokE 172 (q + 60) (zc_172 (q + 60)) = true := by decide +kernel
set_option maxRecDepth 100000 in
theorem zk_172_2 : ∀ q, q < 23 → zokE 172 (q + 120) (zc_172 (q + 120)) = true := by decide +kernel
theorem zk_172 (pc : Nat) : zokE 172 pc (zc_172 pc) = true := by
  rcases Nat.lt_or_ge pc 60 with h | h2
  · exact zchunk (P := fun q => zokE 172 q (zc_172 q) = true) 0 60 zk_172_0 pc (by omega) (by omega)
  have h0 := h2
  rcases Nat.lt_or_ge pc 120 with h | h2
  · exact zchunk (P := fun q => zokE 172 q (zc_172 q) = true) 60 60 zk_172_1 pc (by omega) (by omega)
  have h1 := h2
  rcases Nat.lt_or_ge pc 143 with h | h2
  · exact zchunk (P := fun q => zokE 172 q (zc_172 q) = true) 120 23 zk_172_2 pc (by omega) (by omega)
  have h2 := h2
  have e : zc_172 pc = none := by unfold zc_172; rw [zblt (by omega)]; rfl
  rw [e]; rfl
set_option maxRecDepth 100000 in
theorem zk_173_0 : ∀ q, q < 60 → zokE 173 (q + 0) (zc_173 (q + 0)) = true := by decide +kernel
set_option maxRecDepth 100000 in
theorem zk_173_1 : ∀ q, q < 60 → zokE 173 (q + 60) (zc_173 (q + 60)) = true := by decide +kernel
set_option maxRecDepth 100000 in
theorem zk_173_2 : ∀ q, q < 18 → zokE 173 (q + 120) (zc_173 (q + 120)) = true := by decide +kernel
theorem zk_173 (pc : Nat) : zokE 173 pc (zc_173 pc) = true := by
  rcases Nat.lt_or_ge pc 60 with h | h2
  · exact zchunk (P := fun q => zokE 173 q (zc_173 q) = true) 0 60 zk_173_0 pc (by omega) (by omega)
  have h0 := h2
  rcases Nat.lt_or_ge pc 120 with h | h2
  · exact zchunk (P := fun q => zokE 173 q (zc_173 q) = true) 60 60 zk_173_1 pc (by omega) (by omega)
  have h1 := h2
  rcases Nat.lt_or_ge pc 138 with h | h2
  · exact zchunk (P := fun q => zokE 173 q (zc_173 q) = true) 120 18 zk_173_2 pc (by omega) (by omega)
  have h2 := h2
  have e : zc_173 pc = none := by unfold zc_173; rw [zblt (by omega)]; rfl
  rw [e]; rfl
set_option maxRecDepth 100000 in
theorem zk_174_0 : ∀ q, q < 60 → zokE 174 (q + 0) (zc_174 (q + 0)) = true := by decide +kernel
set_option maxRecDepth 100000 in
theorem zk_174_1 : ∀ q, q < 60 → zokE 174 (q + 60) (zc_174 (q + 60)) = true := by decide +kernel
set_option maxRecDepth 100000 in
theorem zk_174_2 : ∀ q, q < 60 → zokE 174 (q + 120) (zc_174 (q + 120)) = true := by decide +kernel
set_option maxRecDepth 100000 in
theorem zk_174_3 : ∀ q, q < 12 → zokE 174 (q + 180) (zc_174 (q + 180)) = true := by decide +kernel
theorem zk_174 (pc : Nat) : zokE 174 pc (zc_174 pc) = true := by
  rcases Nat.lt_or_ge pc 60 with h | h2
  · exact zchunk (P := fun q => zokE 174 q (zc_174 q) = true) 0 60 zk_174_0 pc (by omega) (by omega)
  have h0 := h2
  rcases Nat.lt_or_ge pc 120 with h | h2
  · exact zchunk (P := fun q => zokE 174 q (zc_174 q) = true) 60 60 zk_174_1 pc (by omega) (by omega)
  have h1 := h2
  rcases Nat.lt_or_ge pc 180 with h | h2
  · exact zchunk (P := fun q => zokE 174 q (zc_174 q) = true) 120 60 zk_174_2 pc (by omega) (by omega)
  have h2 := h2
  rcases Nat.lt_or_ge pc 192 with h | h2
  · exact zchunk (P := fun q => zokE 174 q (zc_174 q) = true) 180 12 zk_174_3 pc (by omega) (by omega)
  have h3 := h2
  have e : zc_174 pc = none := by unfold zc_174; rw [zblt (by omega)]; rfl
  rw [e]; rfl
set_option maxRecDepth 100000 in
theorem zk_175_0 : ∀ q, q < 60 → zokE 175 (q + 0) (zc_175 (q + 0)) = true := by decide +kernel
set_option maxRecDepth 100000 in
theorem zk_175_1 : ∀ q, q < 47 → zokE 175 (q + 60) (zc_175 (q + 60)) = true := by decide +kernel
theorem zk_175 (pc : Nat) : zokE 175 pc (zc_175 pc) = true := by
  rcases Nat.lt_or_ge pc 60 with h | h2
  · exact zchunk (P := fun q => zokE 175 q (zc_175 q) = true) 0 60 zk_175_0 pc (by omega) (by omega)
  have h0 := h2
  rcases Nat.lt_or_ge pc 107 with h | h2
  · exact zchunk (P := fun q => zokE 175 q (zc_175 q) = true) 60 47 zk_175_1 pc (by omega) (by omega)
  have h1 := h2
  have e : zc_175 pc = none := by unfold zc_175; rw [zblt (by omega)]; rfl
  rw [e]; rfl
set_option maxRecDepth 100000 in
theorem zk_176_0 : ∀ q, q < 60 → zokE 176 (q + 0) (zc_176 (q + 0)) = true := by decide +kernel
set_option maxRecDepth 100000 in
theorem zk_176_1 : ∀ q, q < 41 → zokE 176 (q + 60) (zc_176 (q + 60)) = true := by decide +kernel
theorem zk_176 (pc : Nat) : zokE 176 pc (zc_176 pc) = true := by
  rcases Nat.lt_or_ge pc 60 with h | h2
  · exact zchunk (P := fun q => zokE 176 q (zc_176 q) = true) 0 60 zk_176_0 pc (by omega) (by omega)
  have h0 := h2
  rcases Nat.lt_or_ge pc 101 with h | h2
  · exact zchunk (P := fun q => zokE 176 q (zc_176 q) = true) 60 41 zk_176_1 pc (by omega) (by omega)
  have h1 := h2
  have e : zc_176 pc = none := by unfold zc_176; rw [zblt (by omega)]; rfl
  rw [e]; rfl
set_option maxRecDepth 100000 in
theorem zk_177_0 : ∀ q, q < 60 → zokE 177 (q + 0) (zc_177 (q + 0)) = true := by decide +kernel
set_option maxRecDepth 100000 in
theorem zk_177_1 : ∀ q, q < 60 → zokE 177 (q + 60) (zc_177 (q + 60)) = true := by decide +kernel
set_option maxRecDepth 100000 in
theorem zk_177_2 : ∀ q, q < 3 → zokE 177 (q + 120) (zc_177 (q + 120)) = true := by decide +kernel
theorem zk_177 (pc : Nat) : zokE 177 pc (zc_177 pc) = true := by
  rcases Nat.lt_or_ge pc 60 with h | h2
  · exact zchunk (P := fun q => zokE 177 q (zc_177 q) = true) 0 60 zk_177_0 pc (by omega) (by omega)
  have h0 := h2
  rcases Nat.lt_or_ge pc 120 with h | h2
  · exact zchunk (P := fun q => zokE 177 q (zc_177 q) = true) 60 60 zk_177_1 pc (by omega) (by omega)
  have h1 := h2
  rcases Nat.lt_or_ge pc 123 with h | h2
  · exact zchunk (P := fun q => zokE 177 q (zc_177 q) = true) 120 3 zk_177_2 pc (by omega) (by omega)
  have h2 := h2
  have e : zc_177 pc = none := by unfold zc_177; rw [zblt (by omega)]; rfl
  rw [e]; rfl
set_option maxRecDepth 100000 in
theorem zk_178 (pc : Nat) : zokE 178 pc (zc_178 pc) = true := by
  rcases Nat.lt_or_ge pc 50 with h | h
  · exact (by decide +kernel : ∀ q, q < 50 → zokE 178 q (zc_178 q) = true) pc h
  · have e : zc_178 pc = none := by unfold zc_178; rw [zblt h]; rfl
    rw [e]; rfl
set_option maxRecDepth 100000 in
theorem zk_179 (pc : Nat) : zokE 179 pc (zc_179 pc) = true := by
  rcases Nat.lt_or_ge pc 47 with h | h
  · exact (by decide +kernel : ∀ q, q < 47 → zokE 179 q (zc_179 q) = true) pc h
  · have e : zc_179 pc = none := by unfold zc_179; rw [zblt h]; rfl
    rw [e]; rfl
set_option maxRecDepth 100000 in
theorem zk_180 (pc : Nat) : zokE 180 pc (zc_180 pc) = true := by
  rcases Nat.lt_or_ge pc 60 with h | h
  · exact (by decide +kernel : ∀ q, q < 60 → zokE 180 q (zc_180 q) = true) pc h
  · have e : zc_180 pc = none := by unfold zc_180; rw [zblt h]; rfl
    rw [e]; rfl
set_option maxRecDepth 100000 in
theorem zk_181 (pc : Nat) : zokE 181 pc (zc_181 pc) = true := by
  rcases Nat.lt_or_ge pc 32 with h | h
  · exact (by decide +kernel : ∀ q, q < 32 → zokE 181 q (zc_181 q) = true) pc h
  · have e : zc_181 pc = none := by unfold zc_181; rw [zblt h]; rfl
    rw [e]; rfl
