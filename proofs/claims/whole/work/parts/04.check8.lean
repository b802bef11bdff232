set_option maxRecDepth 100000 in
theorem zk_214_0 : ∀ q, q < 60 → zokE 214 (q + 0) (zc_214 (q + 0)) = true := by decide +kernel
set_option maxRecDepth 100000 in
theorem zk_214_1 : ∀ q, q < 38 → zokE 214 (q + 60) (zc_214 (q + 60)) = true := by decide +kernel
theorem zk_214 (pc : Nat) : zokE 214 pc (zc_214 pc) = true := by
  rcases Nat.lt_or_ge pc 60 with h | h2
  · exact zchunk (P := fun q => zokE 214 q (zc_214 q) = true) 0 60 zk_214_0 pc (by omega) (by omega)
  have h0 := h2
  rcases Nat.lt_or_ge pc 98 with h | h2
  · exact zchunk (P := fun q => zokE 214 q (zc_214 q) = true) 60 38 zk_214_1 pc (by omega) (by omega)
  have h1 := h2
  have e : zc_214 pc = none := by unfold zc_214; rw [zblt (by omega)]; rfl
  rw [e]; rfl
set_option maxRecDepth 100000 in
theorem zk_215 (pc : Nat) : zokE 215 pc (zc_215 pc) = true := by
  rcases Nat.lt_or_ge pc 27 with h | h
  · exact (by decide +kernel : ∀ q, q < 27 → zokE 215 q (zc_215 q) = true) pc h
  · have e : zc_215 pc = none := by unfold zc_215; rw [zblt h]; rfl
    rw [e]; rfl
set_option maxRecDepth 100000 in
theorem zk_216_0 : ∀ q, q < 60 → zokE 216 (q + 0) (zc_216 (q + 0)) = true := by decide +kernel
set_option maxRecDepth 100000 in
theorem zk_216_1 : ∀ q, q < 60 → zokE 216 (q + 60) (zc_216 (q + 60)) = true := by decide +kernel
set_option maxRecDepth 100000 in
theorem zk_216_2 : ∀ q, q < 60 → zokE 216 (q + 120) (zc_216 (q + 120)) = true := by decide +kernel
set_option maxRecDepth 100000 in
theorem zk_216_3 : ∀ q, q < 8 → zokE 216 (q + 180) (zc_216 (q + 180)) = true := by decide +kernel
theorem zk_216 (pc : Nat) : zokE 216 pc (zc_216 pc) = true := by
  rcases Nat.lt_or_ge pc 60 with h | h2
  · exact zchunk (P := fun q => zokE 216 q (zc_216 q) = true) 0 60 zk_216_0 pc (by omega) (by omega)
  have h0 := h2
  rcases Nat.lt_or_ge pc 120 with h | h2
  · exact zchunk (P := fun q => zokE 216 q (zc_216 q) = true) 60 60 zk_216_1 pc (by omega) (by omega)
  have h1 := h2
  rcases Nat.lt_or_ge pc 180 with h | h2
  · exact zchunk (P := fun q => zokE 216 q (zc_216 q) = true) 120 60 zk_216_2 pc (by omega) (by omega)
  have h2 := h2
  rcases Nat.lt_or_ge pc 188 with h | h2
  · exact zchunk (P := fun q => zokE 216 q (zc_216 q) = true) 180 8 zk_216_3 pc (by omega) (by omega)
  have h3 := h2
  have e : zc_216 pc = none := by unfold zc_216; rw [zblt (by omega)]; rfl
  rw [e]; rfl
set_option maxRecDepth 100000 in
theorem zk_217_0 : ∀ q, q < 60 → zokE 217 (q + 0) (zc_217 (q + 0)) = true := by decide +kernel
set_option maxRecDepth 100000 in
theorem zk_217_1 : ∀ q, q < 16 → zokE 217 (q + 60) (zc_217 (q + 60)) = true := by decide +kernel
theorem zk_217 (pc : Nat) : zokE 217 pc (zc_217 pc) = true := by
  rcases Nat.lt_or_ge pc 60 with h | h2
  · exact zchunk (P := fun q => zokE 217 q (zc_217 q) = true) 0 60 zk_217_0 pc (by omega) (by omega)
  have h0 := h2
  rcases Nat.lt_or_ge pc 76 with h | h2
  · exact zchunk (P := fun q => zokE 217 q (zc_217 q) = true) 60 16 zk_217_1 pc (by omega) (by omega)
  have h1 := h2
  have e : zc_217 pc = none := by unfold zc_217; rw [zblt (by omega)]; rfl
  rw [e]; rfl
set_option maxRecDepth 100000 in
theorem zk_218 (pc : Nat) : zokE 218 pc (zc_218 pc) = true := by
  rcases Nat.lt_or_ge pc 11 with h | h
  · exact (by decide +kernel : ∀ q, q < 11 → zokE 218 q (zc_218 q) = true) pc h
  · have e : zc_218 pc = none := by unfold zc_218; rw [zblt h]; rfl
    rw [e]; rfl
set_option maxRecDepth 100000 in
theorem zk_219 (pc : Nat) : zokE 219 pc (zc_219 pc) = true := by
  rcases Nat.lt_or_ge pc 7 with h | h
  · exact (by decide +kernel : ∀ q, q < 7 → zokE 219 q (zc_219 q) = true) pc h
  · have e : zc_219 pc = none := by unfold zc_219; rw [zblt h]; rfl
    rw [e]; rfl
set_option maxRecDepth 100000 in
theorem zk_220 (pc : Nat) : zokE 220 pc (zc_220 pc) = true := by
  rcases Nat.lt_or_ge pc 37 with h | h
  · exact (by decide +kernel : ∀ q, q < 37 → zokE 220 q (zc_220 q) = true) pc h
  · have e : zc_220 pc = none := by unfold zc_220; rw [zblt h]; rfl
    rw [e]; rfl
set_option maxRecDepth 100000 in
theorem zk_221 (pc : Nat) : zokE 221 pc (zc_221 pc) = true := by
  rcases Nat.lt_or_ge pc 15 with h | h
  · exact (by decide +kernel : ∀ q, q < 15 → zokE 221 q (zc_221 q) = true) pc h
  · have e : zc_221 pc = none := by unfold zc_221; rw [zblt h]; rfl
    rw [e]; rfl
set_option maxRecDepth 100000 in
theorem zk_222 (pc : Nat) : zokE 222 pc (zc_222 pc) = true := by
  rcases Nat.lt_or_ge pc 19 with h | h
  · exact (by decide +kernel : ∀ q, q < 19 → zokE 222 q (zc_222 q) = true) pc h
  · have e : zc_222 pc = none := by unfold zc_222; rw [zblt h]; rfl
    rw [e]; rfl
set_option maxRecDepth 100000 in
theorem zk_223 (pc : Nat) : zokE 223 pc (zc_223 pc) = true := by
  rcases Nat.lt_or_ge pc 17 with h | h
  · exact (by decide +kernel : ∀ q, q < 17 → zokE 223 q (zc_223 q) = true) pc h
  · have e : zc_223 pc = none := by unfold zc_223; rw [zblt h]; rfl
    rw [e]; rfl
set_option maxRecDepth 100000 in
theorem zk_224 (pc : Nat) : zokE 224 pc (zc_224 pc) = true := by
  rcases Nat.lt_or_ge pc 37 with h | h
  · exact (by decide +kernel : ∀ q, q < 37 → zokE 224 q (zc_224 q) = true) pc h
  · have e : zc_224 pc = none := by unfold zc_224; rw [zblt h]; rfl
    rw [e]; rfl
set_option maxRecDepth 100000 in
theorem zk_225 (pc : Nat) : zokE 225 pc (zc_225 pc) = true := by
  rcases Nat.lt_or_ge pc 33 with h | h
  · exact (by decide +kernel : ∀ q, q < 33 → zokE 225 q (zc_225 q) = true) pc h
  · have e : zc_225 pc = none := by unfold zc_225; rw [zblt h]; rfl
    rw [e]; rfl
theorem zk_all (pc : Nat) : ∀ m, m < 226 → zokE m pc (zcode m pc) = true := by
  have h0 : ∀ m, m < 1 → zokE m pc (zcode m pc) = true := lt_s lt_0 (zk_0 pc)
  have h1 := lt_s h0 (zk_1 pc)
  have h2 := lt_s h1 (zk_2 pc)
  have h3 := lt_s h2 (zk_3 pc)
  have h4 := lt_s h3 (zk_4 pc)
  have h5 := lt_s h4 (zk_5 pc)
  have h6 := lt_s h5 (zk_6 pc)
  have h7 := lt_s h6 (zk_7 pc)
  have h8 := lt_s h7 (zk_8 pc)
  have h9 := lt_s h8 (zk_9 pc)
  have h10 := lt_s h9 (zk_10 pc)
  have h11 := lt_s h10 (zk_11 pc)
  have h12 := lt_s h11 (zk_12 pc)
  have h13 := lt_s h12 (zk_13 pc)
  have h14 := lt_s h13 (zk_14 pc)
  have h15 := lt_s h14 (zk_15 pc)
  have h16 := lt_s h15 (zk_16 pc)
  have h17 := lt_s h16 (zk_17 pc)
  have h18 := lt_s h17 (zk_18 pc)
  have h19 := lt_s h18 (zk_19 pc)
  have h20 := lt_s h19 (zk_20 pc)
  have h21 := lt_s h20 (zk_21 pc)
  have h22 := lt_s h21 (zk_22 pc)
  have h23 := lt_s h22 (zk_23 pc)
  have h24 := lt_s h23 (zk_24 pc)
  have h25 := lt_s h24 (zk_25 pc)
  have h26 := lt_s h25 (zk_26 pc)
  have h27 := lt_s h26 (zk_27 pc)
  have h28 := lt_s h27 (zk_28 pc)
  have h29 := lt_s h28 (zk_29 pc)
  have h30 := lt_s h29 (zk_30 pc)
  have h31 := lt_s h30 (zk_31 pc)
  have h32 := lt_s h31 (zk_32 pc)
  have h33 := lt_s h32 (zk_33 pc)
  have h34 := lt_s h33 (zk_34 pc)
  have h35 := lt_s h34 (zk_35 pc)
  have h36 := lt_s h35 (zk_36 pc)
  have h37 := lt_s h36 (zk_37 pc)
  have h38 := lt_s h37 (zk_38 pc)
  have h39 := lt_s h38 (zk_39 pc)
  have h40 := lt_s h39 (zk_40 pc)
  have h41 := lt_s h40 (zk_41 pc)
  have h42 := lt_s h41 (zk_42 pc)
  have h43 := lt_s h42 (zk_43 pc)
  have h44 := lt_s h43 (zk_44 pc)
  have h45 := lt_s h44 (zk_45 pc)
  have h46 := lt_s h45 (zk_46 pc)
  have h47 := lt_s h46 (zk_47 pc)
  have h48 := lt_s h47 (zk_48 pc)
  have h49 := lt_s h48 (zk_49 pc)
  have h50 := lt_s h49 (zk_50 pc)
  have h51 := lt_s h50 (zk_51 pc)
  have h52 := lt_s h51 (zk_52 pc)
  have h53 := lt_s h52 (zk_53 pc)
  have h54 := lt_s h53 (zk_54 pc)
  have h55 := lt_s h54 (zk_55 pc)
  have h56 := lt_s h55 (zk_56 pc)
  have h57 := lt_s h56 (zk_57 pc)
  have h58 := lt_s h57 (zk_58 pc)
  have h59 := lt_s h58 (zk_59 pc)
  have h60 := lt_s h59 (zk_60 pc)
  have h61 := lt_s h60 (zk_61 pc)
  have h62 := lt_s h61 (zk_62 pc)
  have h63 := lt_s h62 (zk_63 pc)
  have h64 := lt_s h63 (zk_64 pc)
  have h65 := lt_s h64 (zk_65 pc)
  have h66 := lt_s h65 (zk_66 pc)
  have h67 := lt_s h66 (zk_67 pc)
  have h68 := lt_s h67 (zk_68 pc)
  have h69 := lt_s h68 (zk_69 pc)
  have h70 := lt_s h69 (zk_70 pc)
  have h71 := lt_s h70 (zk_71 pc)
  have h72 := lt_s h71 (zk_72 pc)
  have h73 := lt_s h72 (zk_73 pc)
  have h74 := lt_s h73 (zk_74 pc)
  have h75 := lt_s h74 (zk_75 pc)
  have h76 := lt_s h75 (zk_76 pc)
  have h77 := lt_s h76 (zk_77 pc)
  have h78 := lt_s h77 (zk_78 pc)
  have h79 := lt_s h78 (zk_79 pc)
  have h80 := lt_s h79 (zk_80 pc)
  have h81 := lt_s h80 (zk_81 pc)
  have h82 := lt_s h81 (zk_82 pc)
  have h83 := lt_s h82 (zk_83 pc)
  have h84 := lt_s h83 (zk_84 pc)
  have h85 := lt_s h84 (zk_85 pc)
  have h86 := lt_s h85 (zk_86 pc)
  have h87 := lt_s h86 (zk_87 pc)
  have h88 := lt_s h87 (zk_88 pc)
  have h89 := lt_s h88 (zk_89 pc)
  have h90 := lt_s h89 (zk_90 pc)
  have h91 := lt_s h90 (zk_91 pc)
  have h92 := lt_s h91 (zk_92 pc)
  have h93 := lt_s h92 (zk_93 pc)
  have h94 := lt_s h93 (zk_94 pc)
  have h95 := lt_s h94 (zk_95 pc)
  have h96 := lt_s h95 (zk_96 pc)
  have h97 := lt_s h96 (zk_97 pc)
  have h98 := lt_s h97 (zk_98 pc)
  have h99 := lt_s h98 (zk_99 pc)
  have h100 := lt_s h99 (zk_100 pc)
  have h101 := lt_s h100 (zk_101 pc)
  have h102 := lt_s h101 (zk_102 pc)
  have h103 := lt_s h102 (zk_103 pc)
  have h104 := lt_s h103 (zk_104 pc)
  have h105 := lt_s h104 (zk_105 pc)
  have h106 := lt_s h105 (zk_106 pc)
  have h107 := lt_s h106 (zk_107 pc)
  have h108 := lt_s h107 (zk_108 pc)
  have h109 := lt_s h108 (zk_109 pc)
  have h110 := lt_s h109 (zk_110 pc)
  have h111 := lt_s h110 (zk_111 pc)
  have h112 := lt_s h111 (zk_112 pc)
  have h113 := lt_s h112 (zk_113 pc)
  have h114 := lt_s h113 (zk_114 pc)
  have h115 := lt_s h114 (zk_115 pc)
  have h116 := lt_s h115 (zk_116 pc)
  have h117 := lt_s h116 (zk_117 pc)
  have h118 := lt_s h117 (zk_118 pc)
  have h119 := lt_s h118 (zk_119 pc)
  have h120 := lt_s h119 (zk_120 pc)
  have h121 := lt_s h120 (zk_121 pc)
  have h122 := lt_s h121 (zk_122 pc)
  have h123 := lt_s h122 (zk_123 pc)
  have h124 := lt_s h123 (zk_124 pc)
  have h125 := lt_s h124 (zk_125 pc)
  have h126 := lt_s h125 (zk_126 pc)
  have h127 := lt_s h126 (zk_127 pc)
  have h128 := lt_s h127 (zk_128 pc)
  have h129 := lt_s h128 (zk_129 pc)
  have h130 := lt_s h129 (zk_130 pc)
  have h131 := lt_s h130 (zk_131 pc)
  have h132 := lt_s h131 (zk_132 pc)
  have h133 := lt_s h132 (zk_133 pc)
  have h134 := lt_s h133 (zk_134 pc)
  have h135 := lt_s h134 (zk_135 pc)
  have h136 := lt_s h135 (zk_136 pc)
  have h137 := lt_s h136 (zk_137 pc)
  have h138 := lt_s h137 (zk_138 pc)
  have h139 := lt_s h138 (zk_139 pc)
  have h140 := lt_s h139 (zk_140 pc)
  have h141 := lt_s h140 (zk_141 pc)
  have h142 := lt_s h141 (zk_142 pc)
  have h143 := lt_s h142 (zk_143 pc)
  have h144 := lt_s h143 (zk_144 pc)
  have h145 := lt_s h144 (zk_145 pc)
  have h146 := lt_s h145 (zk_146 pc)
  have h147 := lt_s h146 (zk_147 pc)
  have h148 := lt_s h147 (zk_148 pc)
  have h149 := lt_s h148 (zk_149 pc)
  have h150 := lt_s h149 (zk_150 pc)
  have h151 := lt_s h150 (zk_151 pc)
  have h152 := lt_s h151 (zk_152 pc)
  have h153 := lt_s h152 (zk_153 pc)
  have h154 := lt_s h153 (zk_154 pc)
  have h155 := lt_s h154 (zk_155 pc)
  have h156 := lt_s h155 (zk_156 pc)
  have h157 := lt_s h156 (zk_157 pc)
  have h158 := lt_s h157 (zk_158 pc)
  have h159 := lt_s h158 (zk_159 pc)
  have h160 := lt_s h159 (zk_160 pc)
  have h161 := lt_s h160 (zk_161 pc)
  have h162 := lt_s h161 (zk_162 pc)
  have h163 := lt_s h162 (zk_163 pc)
  have h164 := lt_s h163 (zk_164 pc)
  have h165 := lt_s h164 (zk_165 pc)
  have h166 := lt_s h165 (zk_166 pc)
  have h167 := lt_s h166 (zk_167 pc)
  have h168 := lt_s h167 (zk_168 pc)
  have h169 := lt_s h168 (zk_169 pc)
  have h170 := lt_s h169 (zk_170 pc)
  have h171 := lt_s h170 (zk_171 pc)
  have h172 := lt_s h171 (zk_172 pc)
  have h173 := lt_s h172 (zk_173 pc)
  have h174 := lt_s h173 (zk_174 pc)
  have h175 := lt_s h174 (zk_175 pc)
  have h176 := lt_s h175 (zk_176 pc)
  have h177 := lt_s h176 (zk_177 pc)
  have h178 := lt_s h177 (zk_178 pc)
  have h179 := lt_s h178 (zk_179 pc)
  have h180 := lt_s h179 (zk_180 pc)
  have h181 := lt_s h180 (zk_181 pc)
  have h182 := lt_s h181 (zk_182 pc)
  have h183 := lt_s h182 (zk_183 pc)
  have h184 := lt_s h183 (zk_184 pc)
  have h185 := lt_s h184 (zk_185 pc)
  have h186 := lt_s h185 (zk_186 pc)
  have h187 := lt_s h186 (zk_187 pc)
  have h188 := lt_s h187 (zk_188 pc)
  have h189 := lt_s h188 (zk_189 pc)
  have h190 := lt_s h189 (zk_190 pc)
  have h191 := lt_s h190 (zk_191 pc)
  have h192 := lt_s h191 (zk_192 pc)
  have h193 := lt_s h192 (zk_193 pc)
  have h194 := lt_s h193 (zk_194 pc)
  have h195 := lt_s h194 (zk_195 pc)
  have h196 := lt_s h195 (zk_196 pc)
  have h197 := lt_s h196 (zk_197 pc)
  have h198 := lt_s h197 (zk_198 pc)
  have h199 := lt_s h198 (zk_199 pc)
  have h200 := lt_s h199 (zk_200 pc)
  have h201 := lt_s h200 (zk_201 pc)
  have h202 := lt_s h201 (zk_202 pc)
  have h203 := lt_s h202 (zk_203 pc)
  have h204 := lt_s h203 (zk_204 pc)
  have h205 := lt_s h204 (zk_205 pc)
  have h206 := lt_s h205 (zk_206 pc)
  have h207 := lt_s h206 (zk_207 pc)
  have h208 := lt_s h207 (zk_208 pc)
  have h209 := lt_s h208 (zk_209 pc)
  have h210 := lt_s h209 (zk_210 pc)
  have h211 := lt_s h210 (zk_211 pc)
  have h212 := lt_s h211 (zk_212 pc)
  have h213 := lt_s h212 (zk_213 pc)
  have h214 := lt_s h213 (zk_214 pc)
  have h215 := lt_s h214 (zk_215 pc)
  have h216 := lt_s h215 (zk_216 pc)
  have h217 := lt_s h216 (zk_217 pc)
  have h218 := lt_s h217 (zk_218 pc)
  have h219 := lt_s h218 (zk_219 pc)
  have h220 := lt_s h219 (zk_220 pc)
  have h221 := lt_s h220 (zk_221 pc)
  have h222 := lt_s h221 (zk_222 pc)
  have h223 := lt_s h222 (zk_223 pc)
  have h224 := lt_s h223 (zk_224 pc)
  have h225 := lt_s h224 (zk_225 pc)
  exact h225
theorem zk_ok {m pc : Nat} {e : zI} (h : zcode m pc = some e) : m < 226 ∧ decode (zby m) pc = .ok (e.1, e.2.1) ∧ zlen1 e.1 e.2.1 = true ∧ zaux (zoc m) e.1 e.2.2.1 e.2.2.2.1 e.2.2.2.2 = true := by
  have hm : m < 226 := by
    rcases Nat.lt_or_ge m 226 with g | g
    · exact g
    · exfalso
      unfold zcode at h
      rw [zblt g] at h
      cases h
  have h1 := zk_all pc m hm
  rw [h] at h1
  unfold zokE at h1
  obtain ⟨h1, h2⟩ := zband h1
  obtain ⟨h1, h3⟩ := zband h1
  exact ⟨hm, of_decide_eq_true h1, h3, h2⟩
