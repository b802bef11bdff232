set_option maxRecDepth 100000 in
theorem zk_182_0 : ∀ q, q < 60 → zokE 182 (q + 0) (zc_182 (q + 0)) = true := by decide +kernel
set_option maxRecDepth 100000 in
theorem zk_182_1 : ∀ q, q < 41 → zokE 182 (q + 60) (zc_182 (q + 60)) = true := by decide +kernel
theorem zk_182 (pc : Nat) : zokE 182 pc (zc_182 pc) = true := by
  rcases Nat.lt_or_ge pc 60 with h | h2
  · exact zchunk (P := fun q => zokE 182 q (zc_182 q) = true) 0 60 zk_182_0 pc (by omega) (by omega)
  have h0 := h2
  rcases Nat.lt_or_ge pc 101 with h | h2
  · exact zchunk (P := fun q => zokE 182 q (zc_182 q) = true) 60 41 zk_182_1 pc (by omega) (by omega)
  have h1 := h2
  have e : zc_182 pc = none := by unfold zc_182; rw [zblt (by omega)]; rfl
  rw [e]; rfl
set_option maxRecDepth 100000 in
theorem zk_183 (pc : Nat) : zokE 183 pc (zc_183 pc) = true := by
  rcases Nat.lt_or_ge pc 39 with h | h
  · exact (by decide +kernel : ∀ q, q < 39 → zokE 183 q (zc_183 q) = true) pc h
  · have e : zc_183 pc = none := by unfold zc_183; rw [zblt h]; rfl
    rw [e]; rfl
set_option maxRecDepth 100000 in
theorem zk_184_0 : ∀ q, q < 60 → zokE 184 (q + 0) (zc_184 (q + 0)) = true := by decide +kernel
set_option maxRecDepth 100000 in
theorem zk_184_1 : ∀ q, q < 12 → zokE 184 (q + 60) (zc_184 (q + 60)) = true := by decide +kernel
theorem zk_184 (pc : Nat) : zokE 184 pc (zc_184 pc) = true := by
  rcases Nat.lt_or_ge pc 60 with h | h2
  · exact zchunk (P := fun q => zokE 184 q (zc_184 q) = true) 0 60 zk_184_0 pc (by omega) (by omega)
  have h0 := h2
  rcases Nat.lt_or_ge pc 72 with h | h2
  · exact zchunk (P := fun q => zokE 184 q (zc_184 q) = true) 60 12 zk_184_1 pc (by omega) (by omega)
  have h1 := h2
  have e : zc_184 pc = none := by unfold zc_184; rw [zblt (by omega)]; rfl
  rw [e]; rfl
set_option maxRecDepth 100000 in
theorem zk_185_0 : ∀ q, q < 60 → zokE 185 (q + 0) (zc_185 (q + 0)) = true := by decide +kernel
set_option maxRecDepth 100000 in
theorem zk_185_1 : ∀ q, q < 60 → zokE 185 (q + 60) (zc_185 (q + 60)) = true := by decide +kernel
set_option maxRecDepth 100000 in
theorem zk_185_2 : ∀ q, q < 60 → zokE 185 (q + 120) (zc_185 (q + 120)) = true := by decide +kernel
set_option maxRecDepth 100000 in
theorem zk_185_3 : ∀ q, q < 5 → zokE 185 (q + 180) (zc_185 (q + 180)) = true := by decide +kernel
theorem zk_185 (pc : Nat) : zokE 185 pc (zc_185 pc) = true := by
  rcases Nat.lt_or_ge pc 60 with h | h2
  · exact zchunk (P := fun q => zokE 185 q (zc_185 q) = true) 0 60 zk_185_0 pc (by omega) (by omega)
  have h0 := h2
  rcases Nat.lt_or_ge pc 120 with h | h2
  · exact zchunk (P := fun q => zokE 185 q (zc_185 q) = true) 60 60 zk_185_1 pc (by omega) (by omega)
  have h1 := h2
  rcases Nat.lt_or_ge pc 180 with h | h2
  · exact zchunk (P := fun q => zokE 185 q (zc_185 q) = true) 120 60 zk_185_2 pc (by omega) (by omega)
  have h2 := h2
  rcases Nat.lt_or_ge pc 185 with h | h2
  · exact zchunk (P := fun q => zokE 185 q (zc_185 q) = true) 180 5 zk_185_3 pc (by omega) (by omega)
  have h3 := h2
  have e : zc_185 pc = none := by unfold zc_185; rw [zblt (by omega)]; rfl
  rw [e]; rfl
set_option maxRecDepth 100000 in
theorem zk_186 (pc : Nat) : zokE 186 pc (zc_186 pc) = true := by
  rcases Nat.lt_or_ge pc 48 with h | h
  · exact (by decide +kernel : ∀ q, q < 48 → zokE 186 q (zc_186 q) = true) pc h
  · have e : zc_186 pc = none := by unfold zc_186; rw [zblt h]; rfl
    rw [e]; rfl
set_option maxRecDepth 100000 in
theorem zk_187_0 : ∀ q, q < 60 → zokE 187 (q + 0) (zc_187 (q + 0)) = true := by decide +kernel
set_option maxRecDepth 100000 in
theorem zk_187_1 : ∀ q, q < 60 → zokE 187 (q + 60) (zc_187 (q + 60)) = true := by decide +kernel
set_option maxRecDepth 100000 in
theorem zk_187_2 : ∀ q, q < 60 → zokE 187 (q + 120) (zc_187 (q + 120)) = true := by decide +kernel
set_option maxRecDepth 100000 in
theorem zk_187_3 : ∀ q, q < 24 → zokE 187 (q + 180) (zc_187 (q + 180)) = true := by decide +kernel
theorem zk_187 (pc : Nat) : zokE 187 pc (zc_187 pc) = true := by
  rcases Nat.lt_or_ge pc 60 with h | h2
  · exact zchunk (P := fun q => zokE 187 q (zc_187 q) = true) 0 60 zk_187_0 pc (by omega) (by omega)
  have h0 := h2
  rcases Nat.lt_or_ge pc 120 with h | h2
  · exact zchunk (P := fun q => zokE 187 q (zc_187 q) = true) 60 60 zk_187_1 pc (by omega) (by omega)
  have h1 := h2
  rcases Nat.lt_or_ge pc 180 with h | h2
  · exact zchunk (P := fun q => zokE 187 q (zc_187 q) = true) 120 60 zk_187_2 pc (by omega) (by omega)
  have h2 := h2
  rcases Nat.lt_or_ge pc 204 with h | h2
  · exact zchunk (P := fun q => zokE 187 q (zc_187 q) = true) 180 24 zk_187_3 pc (by omega) (by omega)
  have h3 := h2
  have e : zc_187 pc = none := by unfold zc_187; rw [zblt (by omega)]; rfl
  rw [e]; rfl
set_option maxRecDepth 100000 in
theorem zk_188_0 : ∀ q, q < 60 → zokE 188 (q + 0) (zc_188 (q + 0)) = true := by decide +kernel
set_option maxRecDepth 100000 in
theorem zk_188_1 : ∀ q, q < 8 → zokE 188 (q + 60) (zc_188 (q + 60)) = true := by decide +kernel
theorem zk_188 (pc : Nat) : zokE 188 pc (zc_188 pc) = true := by
  rcases Nat.lt_or_ge pc 60 with h | h2
  · exact zchunk (P := fun q => zokE 188 q (zc_188 q) = true) 0 60 zk_188_0 pc (by omega) (by omega)
  have h0 := h2
  rcases Nat.lt_or_ge pc 68 with h | h2
  · exact zchunk (P := fun q => zokE 188 q (zc_188 q) = true) 60 8 zk_188_1 pc (by omega) (by omega)
  have h1 := h2
  have e : zc_188 pc = none := by unfold zc_188; rw [zblt (by omega)]; rfl
  rw [e]; rfl
set_option maxRecDepth 100000 in
theorem zk_189_0 : ∀ q, q < 60 → zokE 189 (q + 0) (zc_189 (q + 0)) = true := by decide +kernel
set_option maxRecDepth 100000 in
theorem zk_189_1 : ∀ q, q < 42 → zokE 189 (q + 60) (zc_189 (q + 60)) = true := by decide +kernel
theorem zk_189 (pc : Nat) : zokE 189 pc (zc_189 pc) = true := by
  rcases Nat.lt_or_ge pc 60 with h | h2
  · exact zchunk (P := fun q => zokE 189 q (zc_189 q) = true) 0 60 zk_189_0 pc (by omega) (by omega)
  have h0 := h2
  rcases Nat.lt_or_ge pc 102 with h | h2
  · exact zchunk (P := fun q => zokE 189 q (zc_189 q) = true) 60 42 zk_189_1 pc (by omega) (by omega)
  have h1 := h2
  have e : zc_189 pc = none := by unfold zc_189; rw [zblt (by omega)]; rfl
  rw [e]; rfl
set_option maxRecDepth 100000 in
theorem zk_190_0 : ∀ q, q < 60 → zokE 190 (q + 0) (zc_190 (q + 0)) = true := by decide +kernel
set_option maxRecDepth 100000 in
theorem zk_190_1 : ∀ q, q < 60 → zokE 190 (q + 60) (zc_190 (q + 60)) = true := by decide +kernel
set_option maxRecDepth 100000 in
theorem zk_190_2 : ∀ q, q < 39 → zokE 190 (q + 120) (zc_190 (q + 120)) = true := by decide +kernel
theorem zk_190 (pc : Nat) : zokE 190 pc (zc_190 pc) = true := by
  rcases Nat.lt_or_ge pc 60 with h | h2
  · exact zchunk (P := fun q => zokE 190 q (zc_190 q) = true) 0 60 zk_190_0 pc (by omega) (by omega)
  have h0 := h2
  rcases Nat.lt_or_ge pc 120 with h | h2
  · exact zchunk (P := fun q => zokE 190 q (zc_190 q) = true) 60 60 zk_190_1 pc (by omega) (by omega)
  have h1 := h2
  rcases Nat.lt_or_ge pc 159 with h | h2
  · exact zchunk (P := fun q => zokE 190 q (zc_190 q) = true) 120 39 zk_190_2 pc (by omega) (by omega)
  have h2 := h2
  have e : zc_190 pc = none := by unfold zc_190; rw [zblt (by omega)]; rfl
  rw [e]; rfl
set_option maxRecDepth 100000 in
theorem zk_191_0 : ∀ q, q < 60 → zokE 191 (q + 0) (zc_191 (q + 0)) = true := by decide +kernel
set_option maxRecDepth 100000 in
theorem zk_191_1 : ∀ q, q < 60 → zokE 191 (q + 60) (zc_191 (q + 60)) = true := by decide +kernel
set_option maxRecDepth 100000 in
theorem zk_191_2 : ∀ q, q < 60 → zokE 191 (q + 120) (zc_191 (q + 120)) = true := by decide +kernel
set_option maxRecDepth 100000 in
theorem zk_191_3 : ∀ q, q < 13 → zokE 191 (q + 180) (zc_191 (q + 180)) = true := by decide +kernel
theorem zk_191 (pc : Nat) : zokE 191 pc (zc_191 pc) = true := by
  rcases Nat.lt_or_ge pc 60 with h | h2
  · exact zchunk (P := fun q => zokE 191 q (zc_191 q) = true) 0 60 zk_191_0 pc (by omega) (by omega)
  have h0 := h2
  rcases Nat.lt_or_ge pc 120 with h | h2
  · exact zchunk (P := fun q => zokE 191 q (zc_191 q) = true) 60 60 zk_191_1 pc (by omega) (by omega)
  have h1 := h2
  rcases Nat.lt_or_ge pc 180 with h | h2
  · exact zchunk (P := fun q => zokE 191 q (zc_191 q) = true) 120 60 zk_191_2 pc (by omega) (by omega)
  have h2 := h2
  rcases Nat.lt_or_ge pc 193 with h | h2
  · exact zchunk (P := fun q => zokE 191 q (zc_191 q) = true) 180 13 zk_191_3 pc (by omega) (by omega)
  have h3 := h2
  have e : zc_191 pc = none := by unfold zc_191; rw [zblt (by omega)]; rfl
  rw [e]; rfl
set_option maxRecDepth 100000 in
theorem zk_192 (pc : Nat) : zokE 192 pc (zc_192 pc) = true := by
  rcases Nat.lt_or_ge pc 12 with h | h
  · exact (by decide +kernel : ∀ q, q < 12 → zokE 192 q (zc_192 q) = true) pc h
  · have e : zc_192 pc = none := by unfold zc_192; rw [zblt h]; rfl
    rw [e]; rfl
set_option maxRecDepth 100000 in
theorem zk_193 (pc : Nat) : zokE 193 pc (zc_193 pc) = true := by
  rcases Nat.lt_or_ge pc 30 with h | h
  · exact (by decide +kernel : ∀ q, q < 30 → zokE 193 q (zc_193 q) = true) pc h
  · have e : zc_193 pc = none := by unfold zc_193; rw [zblt h]; rfl
    rw [e]; rfl
set_option maxRecDepth 100000 in
theorem zk_194 (pc : Nat) : zokE 194 pc (zc_194 pc) = true := by
  rcases Nat.lt_or_ge pc 29 with h | h
  · exact (by decide +kernel : ∀ q, q < 29 → zokE 194 q (zc_194 q) = true) pc h
  · have e : zc_194 pc = none := by unfold zc_194; rw [zblt h]; rfl
    rw [e]; rfl
set_option maxRecDepth 100000 in
theorem zk_195 (pc : Nat) : zokE 195 pc (zc_195 pc) = true := by
  rcases Nat.lt_or_ge pc 51 with h | h
  · exact (by decide +kernel : ∀ q, q < 51 → zokE 195 q (zc_195 q) = true) pc h
  · have e : zc_195 pc = none := by unfold zc_195; rw [zblt h]; rfl
    rw [e]; rfl
set_option maxRecDepth 100000 in
theorem zk_196_0 : ∀ q, q < 60 → zokE 196 (q + 0) (zc_196 (q + 0)) = true := by decide +kernel
set_option maxRecDepth 100000 in
theorem zk_196_1 : ∀ q, q < 2 → zokE 196 (q + 60) (zc_196 (q + 60)) = true := by decide +kernel
theorem zk_196 (pc : Nat) : zokE 196 pc (zc_196 pc) = true := by
  rcases Nat.lt_or_ge pc 60 with h | h2
  · exact zchunk (P := fun q => zokE 196 q (zc_196 q) = true) 0 60 zk_196_0 pc (by omega) (by omega)
  have h0 := h2
  rcases Nat.lt_or_ge pc 62 with h | h2
  · exact zchunk (P := fun q => zokE 196 q (zc_196 q) = true) 60 2 zk_196_1 pc (by omega) (by omega)
  have h1 := h2
  have e : zc_196 pc = none := by unfold zc_196; rw [zblt (by omega)]; rfl
  rw [e]; rfl
set_option maxRecDepth 100000 in
theorem zk_197 (pc : Nat) : zokE 197 pc (zc_197 pc) = true := by
  rcases Nat.lt_or_ge pc 9 with h | h
  · exact (by decide +kernel : ∀ q, q < 9 → zokE 197 q (zc_197 q) = true) pc h
  · have e : zc_197 pc = none := by unfold zc_197; rw [zblt h]; rfl
    rw [e]; rfl
set_option maxRecDepth 100000 in
theorem zk_198 (pc : Nat) : zokE 198 pc (zc_198 pc) = true := by
  rcases Nat.lt_or_ge pc 15 with h | h
  · exact (by decide +kernel : ∀ q, q < 15 → zokE 198 q (zc_198 q) = true) pc h
  · have e : zc_198 pc = none := by unfold zc_198; rw [zblt h]; rfl
    rw [e]; rfl
set_option maxRecDepth 100000 in
theorem zk_199_0 : ∀ q, q < 60 → zokE 199 (q + 0) (zc_199 (q + 0)) = true := by decide +kernel
set_option maxRecDepth 100000 in
theorem zk_199_1 : ∀ q, q < 21 → zokE 199 (q + 60) (zc_199 (q + 60)) = true := by decide +kernel
theorem zk_199 (pc : Nat) : zokE 199 pc (zc_199 pc) = true := by
  rcases Nat.lt_or_ge pc 60 with h | h2
  · exact zchunk (P := fun q => zokE 199 q (zc_199 q) = true) 0 60 zk_199_0 pc (by omega) (by omega)
  have h0 := h2
  rcases Nat.lt_or_ge pc 81 with h | h2
  · exact zchunk (P := fun q => zokE 199 q (zc_199 q) = true) 60 21 zk_199_1 pc (by omega) (by omega)
  have h1 := h2
  have e : zc_199 pc = none := by unfold zc_199; rw [zblt (by omega)]; rfl
  rw [e]; rfl
set_option maxRecDepth 100000 in
theorem zk_200 (pc : Nat) : zokE 200 pc (zc_200 pc) = true := by
  rcases Nat.lt_or_ge pc 15 with h | h
  · exact (by decide +kernel : ∀ q, q < 15 → zokE 200 q (zc_200 q) = true) pc h
  · have e : zc_200 pc = none := by unfold zc_200; rw [zblt h]; rfl
    rw [e]; rfl
set_option maxRecDepth 100000 in
theorem zk_201 (pc : Nat) : zokE 201 pc (zc_201 pc) = true := by
  rcases Nat.lt_or_ge pc 14 with h | h
  · exact (by decide +kernel : ∀ q, q < 14 → zokE 201 q (zc_201 q) = true) pc h
  · have e : zc_201 pc = none := by unfold zc_201; rw [zblt h]; rfl
    rw [e]; rfl
set_option maxRecDepth 100000 in
theorem zk_202_0 : ∀ q, q < 60 → zokE 202 (q + 0) (zc_202 (q + 0)) = true := by decide +kernel
set_option maxRecDepth 100000 in
theorem zk_202_1 : ∀ q, q < 24 → zokE 202 (q + 60) (zc_202 (q + 60)) = true := by decide +kernel
theorem zk_202 (pc : Nat) : zokE 202 pc (zc_202 pc) = true := by
  rcases Nat.lt_or_ge pc 60 with h | h2
  · exact zchunk (P := fun q => zokE 202 q (zc_202 q) = true) 0 60 zk_202_0 pc (by omega) (by omega)
  have h0 := h2
  rcases Nat.lt_or_ge pc 84 with h | h2
  · exact zchunk (P := fun q => zokE 202 q (zc_202 q) = true) 60 24 zk_202_1 pc (by omega) (by omega)
  have h1 := h2
  have e : zc_202 pc = none := by unfold zc_202; rw [zblt (by omega)]; rfl
  rw [e]; rfl
set_option maxRecDepth 100000 in
theorem zk_203 (pc : Nat) : zokE 203 pc (zc_203 pc) = true := by
  rcases Nat.lt_or_ge pc 10 with h | h
  · exact (by decide +kernel : ∀ q, q < 10 → zokE 203 q (zc_203 q) = true) pc h
  · have e : zc_203 pc = none := by unfold zc_203; rw [zblt h]; rfl
    rw [e]; rfl
set_option maxRecDepth 100000 in
theorem zk_204_0 : ∀ q, q < 60 → zokE 204 (q + 0) (zc_204 (q + 0)) = true := by decide +kernel
set_option maxRecDepth 100000 in
theorem zk_204_1 : ∀ q, q < 4 → zokE 204 (q + 60) (zc_204 (q + 60)) = true := by decide +kernel
theorem zk_204 (pc : Nat) : zokE 204 pc (zc_204 pc) = true := by
  rcases Nat.lt_or_ge pc 60 with h | h2
  · exact zchunk (P := fun q => zokE 204 q (zc_204 q) = true) 0 60 zk_204_0 pc (by omega) (by omega)
  have h0 := h2
  rcases Nat.lt_or_ge pc 64 with h | h2
  · exact zchunk (P := fun q => zokE 204 q (zc_204 q) = true) 60 4 zk_204_1 pc (by omega) (by omega)
  have h1 := h2
  have e : zc_204 pc = none := by unfold zc_204; rw [zblt (by omega)]; rfl
  rw [e]; rfl
set_option maxRecDepth 100000 in
theorem zk_205 (pc : Nat) : zokE 205 pc (zc_205 pc) = true := by
  rcases Nat.lt_or_ge pc 21 with h | h
  · exact (by decide +kernel : ∀ q, q < 21 → zokE 205 q (zc_205 q) = true) pc h
  · have e : zc_205 pc = none := by unfold zc_205; rw [zblt h]; rfl
    rw [e]; rfl
set_option maxRecDepth 100000 in
theorem zk_206 (pc : Nat) : zokE 206 pc (zc_206 pc) = true := by
  rcases Nat.lt_or_ge pc 15 with h | h
  · exact (by decide +kernel : ∀ q, q < 15 → zokE 206 q (zc_206 q) = true) pc h
  · have e : zc_206 pc = none := by unfold zc_206; rw [zblt h]; rfl
    rw [e]; rfl
set_option maxRecDepth 100000 in
theorem zk_207 (pc : Nat) : zokE 207 pc (zc_207 pc) = true := by
  rcases Nat.lt_or_ge pc 51 with h | h
  · exact (by decide +kernel : ∀ q, q < 51 → zokE 207 q (zc_207 q) = true) pc h
  · have e : zc_207 pc = none := by unfold zc_207; rw [zblt h]; rfl
    rw [e]; rfl
set_option maxRecDepth 100000 in
theorem zk_208_0 : ∀ q, q < 60 → zokE 208 (q + 0) (zc_208 (q + 0)) = true := by decide +kernel
set_option maxRecDepth 100000 in
theorem zk_208_1 : ∀ q, q < 12 → zokE 208 (q + 60) (zc_208 (q + 60)) = true := by decide +kernel
theorem zk_208 (pc : Nat) : zokE 208 pc (zc_208 pc) = true := by
  rcases Nat.lt_or_ge pc 60 with h | h2
  · exact zchunk (P := fun q => zokE 208 q (zc_208 q) = true) 0 60 zk_208_0 pc (by omega) (by omega)
  have h0 := h2
  rcases Nat.lt_or_ge pc 72 with h | h2
  · exact zchunk (P := fun q => zokE 208 q (zc_208 q) = true) 60 12 zk_208_1 pc (by omega) (by omega)
  have h1 := h2
  have e : zc_208 pc = none := by unfold zc_208; rw [zblt (by omega)]; rfl
  rw [e]; rfl
set_option maxRecDepth 100000 in
theorem zk_209_0 : ∀ q, q < 60 → zokE 209 (q + 0) (zc_209 (q + 0)) = true := by decide +kernel
set_option maxRecDepth 100000 in
theorem zk_209_1 : ∀ q, q < 30 → zokE 209 (q + 60) (zc_209 (q + 60)) = true := by decide +kernel
theorem zk_209 (pc : Nat) : zokE 209 pc (zc_209 pc) = true := by
  rcases Nat.lt_or_ge pc 60 with h | h2
  · exact zchunk (P := fun q => zokE 209 q (zc_209 q) = true) 0 60 zk_209_0 pc (by omega) (by omega)
  have h0 := h2
  rcases Nat.lt_or_ge pc 90 with h | h2
  · exact zchunk (P := fun q => zokE 209 q (zc_209 q) = true) 60 30 zk_209_1 pc (by omega) (by omega)
  have h1 := h2
  have e : zc_209 pc = none := by unfold zc_209; rw [zblt (by omega)]; rfl
  rw [e]; rfl
set_option maxRecDepth 100000 in
theorem zk_210 (pc : Nat) : zokE 210 pc (zc_210 pc) = true := by
  rcases Nat.lt_or_ge pc 7 with h | h
  · exact (by decide +kernel : ∀ q, q < 7 → zokE 210 q (zc_210 q) = true) pc h
  · have e : zc_210 pc = none := by unfold zc_210; rw [zblt h]; rfl
    rw [e]; rfl
set_option maxRecDepth 100000 in
theorem zk_211 (pc : Nat) : zokE 211 pc (zc_211 pc) = true := by
  rcases Nat.lt_or_ge pc 31 with h | h
  · exact (by decide +kernel : ∀ q, q < 31 → zokE 211 q (zc_211 q) = true) pc h
  · have e : zc_211 pc = none := by unfold zc_211; rw [zblt h]; rfl
    rw [e]; rfl
set_option maxRecDepth 100000 in
theorem zk_212_0 : ∀ q, q < 60 → zokE 212 (q + 0) (zc_212 (q + 0)) = true := by decide +kernel
set_option maxRecDepth 100000 in
theorem zk_212_1 : ∀ q, q < 22 → zokE 212 (q + 60) (zc_212 (q + 60)) = true := by decide +kernel
theorem zk_212 (pc : Nat) : zokE 212 pc (zc_212 pc) = true := by
  rcases Nat.lt_or_ge pc 60 with h | h2
  · exact zchunk (P := fun q => zokE 212 q (zc_212 q) = true) 0 60 zk_212_0 pc (by omega) (by omega)
  have h0 := h2
  rcases Nat.lt_or_ge pc 82 with h | h2
  · exact zchunk (P := fun q => zokE 212 q (zc_212 q) = true) 60 22 zk_212_1 pc (by omega) (by omega)
  have h1 := h2
  have e : zc_212 pc = none := by unfold zc_212; rw [zblt (by omega)]; rfl
  rw [e]; rfl
set_option maxRecDepth 100000 in
theorem zk_213 (pc : Nat) : zokE 213 pc (zc_213 pc) = true := by
  rcases Nat.lt_or_ge pc 57 with h | h
  · exact (by decide +kernel : ∀ q, q < 57 → zokE 213 q (zc_213 q) = true) pc h
  · have e : zc_213 pc = none := by unfold zc_213; rw [zblt h]; rfl
    rw [e]; rfl
