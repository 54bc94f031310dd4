theorem dX12_rules_0 : decode cX12_rules 0 = .ok (.aload_n 0, 1) := by decide +kernel
theorem dX12_rules_1 : decode cX12_rules 1 = .ok (.iconst 0, 1) := by decide +kernel
theorem dX12_rules_2 : decode cX12_rules 2 = .ok (.putfield 102, 3) := by decide +kernel
theorem dX12_rules_5 : decode cX12_rules 5 = .ok (.aload_n 0, 1) := by decide +kernel
theorem dX12_rules_6 : decode cX12_rules 6 = .ok (.aload_n 0, 1) := by decide +kernel
theorem dX12_rules_7 : decode cX12_rules 7 = .ok (.getfield 183, 3) := by decide +kernel
theorem dX12_rules_10 : decode cX12_rules 10 = .ok (.putfield 188, 3) := by decide +kernel
theorem dX12_rules_13 : decode cX12_rules 13 = .ok (.aload_n 0, 1) := by decide +kernel
theorem dX12_rules_14 : decode cX12_rules 14 = .ok (.iconst 0, 1) := by decide +kernel
theorem dX12_rules_15 : decode cX12_rules 15 = .ok (.putfield 183, 3) := by decide +kernel
theorem dX12_rules_18 : decode cX12_rules 18 = .ok (.aload_n 0, 1) := by decide +kernel
theorem dX12_rules_19 : decode cX12_rules 19 = .ok (.iconst 0, 1) := by decide +kernel
theorem dX12_rules_20 : decode cX12_rules 20 = .ok (.putfield 191, 3) := by decide +kernel
theorem dX12_rules_23 : decode cX12_rules 23 = .ok (.aload_n 0, 1) := by decide +kernel
theorem dX12_rules_24 : decode cX12_rules 24 = .ok (.iconst 0, 1) := by decide +kernel
theorem dX12_rules_25 : decode cX12_rules 25 = .ok (.putfield 212, 3) := by decide +kernel
theorem dX12_rules_28 : decode cX12_rules 28 = .ok (.aload_n 0, 1) := by decide +kernel
theorem dX12_rules_29 : decode cX12_rules 29 = .ok (.iconst 0, 1) := by decide +kernel
theorem dX12_rules_30 : decode cX12_rules 30 = .ok (.putfield 253, 3) := by decide +kernel
theorem dX12_rules_33 : decode cX12_rules 33 = .ok (.aload_n 0, 1) := by decide +kernel
theorem dX12_rules_34 : decode cX12_rules 34 = .ok (.getfield 77, 3) := by decide +kernel
theorem dX12_rules_37 : decode cX12_rules 37 = .ok (.iconst 0, 1) := by decide +kernel
theorem dX12_rules_38 : decode cX12_rules 38 = .ok (.bipush 100, 2) := by decide +kernel
theorem dX12_rules_40 : decode cX12_rules 40 = .ok (.iastore, 1) := by decide +kernel
theorem dX12_rules_41 : decode cX12_rules 41 = .ok (.aload_n 0, 1) := by decide +kernel
theorem dX12_rules_42 : decode cX12_rules 42 = .ok (.getfield 77, 3) := by decide +kernel
theorem dX12_rules_45 : decode cX12_rules 45 = .ok (.iconst 1, 1) := by decide +kernel
theorem dX12_rules_46 : decode cX12_rules 46 = .ok (.bipush 50, 2) := by decide +kernel
theorem dX12_rules_48 : decode cX12_rules 48 = .ok (.iastore, 1) := by decide +kernel
theorem dX12_rules_49 : decode cX12_rules 49 = .ok (.aload_n 0, 1) := by decide +kernel
theorem dX12_rules_50 : decode cX12_rules 50 = .ok (.getfield 77, 3) := by decide +kernel
theorem dX12_rules_53 : decode cX12_rules 53 = .ok (.iconst 2, 1) := by decide +kernel
theorem dX12_rules_54 : decode cX12_rules 54 = .ok (.bipush 10, 2) := by decide +kernel
theorem dX12_rules_56 : decode cX12_rules 56 = .ok (.iastore, 1) := by decide +kernel
theorem dX12_rules_57 : decode cX12_rules 57 = .ok (.aload_n 0, 1) := by decide +kernel
theorem dX12_rules_58 : decode cX12_rules 58 = .ok (.getfield 77, 3) := by decide +kernel
theorem dX12_rules_61 : decode cX12_rules 61 = .ok (.iconst 3, 1) := by decide +kernel
theorem dX12_rules_62 : decode cX12_rules 62 = .ok (.bipush 20, 2) := by decide +kernel
theorem dX12_rules_64 : decode cX12_rules 64 = .ok (.iastore, 1) := by decide +kernel
theorem dX12_rules_65 : decode cX12_rules 65 = .ok (.aload_n 0, 1) := by decide +kernel
theorem dX12_rules_66 : decode cX12_rules 66 = .ok (.invokevirtual 222, 3) := by decide +kernel
theorem dX12_rules_69 : decode cX12_rules 69 = .ok (.aload_n 0, 1) := by decide +kernel
theorem dX12_rules_70 : decode cX12_rules 70 = .ok (.getfield 212, 3) := by decide +kernel
theorem dX12_rules_73 : decode cX12_rules 73 = .ok (.ifCond .ne 18, 3) := by decide +kernel
theorem dX12_rules_76 : decode cX12_rules 76 = .ok (.aload_n 0, 1) := by decide +kernel
theorem dX12_rules_77 : decode cX12_rules 77 = .ok (.getfield 200, 3) := by decide +kernel
theorem dX12_rules_80 : decode cX12_rules 80 = .ok (.iconst 1, 1) := by decide +kernel
theorem dX12_rules_81 : decode cX12_rules 81 = .ok (.if_icmp .eq 10, 3) := by decide +kernel
theorem dX12_rules_84 : decode cX12_rules 84 = .ok (.aload_n 0, 1) := by decide +kernel
theorem dX12_rules_85 : decode cX12_rules 85 = .ok (.invokevirtual 285, 3) := by decide +kernel
theorem dX12_rules_88 : decode cX12_rules 88 = .ok (.goto (-19), 3) := by decide +kernel
theorem dX12_rules_91 : decode cX12_rules 91 = .ok (.aload_n 0, 1) := by decide +kernel
theorem dX12_rules_92 : decode cX12_rules 92 = .ok (.getfield 212, 3) := by decide +kernel
theorem dX12_rules_95 : decode cX12_rules 95 = .ok (.ifCond .le 20, 3) := by decide +kernel
theorem dX12_rules_98 : decode cX12_rules 98 = .ok (.aload_n 0, 1) := by decide +kernel
theorem dX12_rules_99 : decode cX12_rules 99 = .ok (.aload_n 0, 1) := by decide +kernel
theorem dX12_rules_100 : decode cX12_rules 100 = .ok (.getfield 212, 3) := by decide +kernel
theorem dX12_rules_103 : decode cX12_rules 103 = .ok (.putfield 288, 3) := by decide +kernel
theorem dX12_rules_106 : decode cX12_rules 106 = .ok (.ldc_w 291, 3) := by decide +kernel
theorem dX12_rules_109 : decode cX12_rules 109 = .ok (.aload_n 0, 1) := by decide +kernel
theorem dX12_rules_110 : decode cX12_rules 110 = .ok (.getfield 215, 3) := by decide +kernel
theorem dX12_rules_113 : decode cX12_rules 113 = .ok (.isub, 1) := by decide +kernel
theorem dX12_rules_114 : decode cX12_rules 114 = .ok (.ireturn, 1) := by decide +kernel
theorem dX12_rules_115 : decode cX12_rules 115 = .ok (.aload_n 0, 1) := by decide +kernel
theorem dX12_rules_116 : decode cX12_rules 116 = .ok (.aload_n 0, 1) := by decide +kernel
theorem dX12_rules_117 : decode cX12_rules 117 = .ok (.getfield 77, 3) := by decide +kernel
theorem dX12_rules_120 : decode cX12_rules 120 = .ok (.iconst 0, 1) := by decide +kernel
theorem dX12_rules_121 : decode cX12_rules 121 = .ok (.iaload, 1) := by decide +kernel
theorem dX12_rules_122 : decode cX12_rules 122 = .ok (.putfield 43, 3) := by decide +kernel
theorem dX12_rules_125 : decode cX12_rules 125 = .ok (.aload_n 0, 1) := by decide +kernel
theorem dX12_rules_126 : decode cX12_rules 126 = .ok (.aload_n 0, 1) := by decide +kernel
theorem dX12_rules_127 : decode cX12_rules 127 = .ok (.getfield 77, 3) := by decide +kernel
theorem dX12_rules_130 : decode cX12_rules 130 = .ok (.iconst 1, 1) := by decide +kernel
theorem dX12_rules_131 : decode cX12_rules 131 = .ok (.iaload, 1) := by decide +kernel
theorem dX12_rules_132 : decode cX12_rules 132 = .ok (.putfield 47, 3) := by decide +kernel
theorem dX12_rules_135 : decode cX12_rules 135 = .ok (.aload_n 0, 1) := by decide +kernel
theorem dX12_rules_136 : decode cX12_rules 136 = .ok (.aload_n 0, 1) := by decide +kernel
theorem dX12_rules_137 : decode cX12_rules 137 = .ok (.getfield 77, 3) := by decide +kernel
theorem dX12_rules_140 : decode cX12_rules 140 = .ok (.iconst 2, 1) := by decide +kernel
theorem dX12_rules_141 : decode cX12_rules 141 = .ok (.iaload, 1) := by decide +kernel
theorem dX12_rules_142 : decode cX12_rules 142 = .ok (.putfield 50, 3) := by decide +kernel
theorem dX12_rules_145 : decode cX12_rules 145 = .ok (.aload_n 0, 1) := by decide +kernel
theorem dX12_rules_146 : decode cX12_rules 146 = .ok (.aload_n 0, 1) := by decide +kernel
theorem dX12_rules_147 : decode cX12_rules 147 = .ok (.getfield 77, 3) := by decide +kernel
theorem dX12_rules_150 : decode cX12_rules 150 = .ok (.iconst 3, 1) := by decide +kernel
theorem dX12_rules_151 : decode cX12_rules 151 = .ok (.iaload, 1) := by decide +kernel
theorem dX12_rules_152 : decode cX12_rules 152 = .ok (.putfield 53, 3) := by decide +kernel
theorem dX12_rules_155 : decode cX12_rules 155 = .ok (.aload_n 0, 1) := by decide +kernel
theorem dX12_rules_156 : decode cX12_rules 156 = .ok (.aload_n 0, 1) := by decide +kernel
theorem dX12_rules_157 : decode cX12_rules 157 = .ok (.getfield 253, 3) := by decide +kernel
theorem dX12_rules_160 : decode cX12_rules 160 = .ok (.putfield 292, 3) := by decide +kernel
theorem dX12_rules_163 : decode cX12_rules 163 = .ok (.iconst 0, 1) := by decide +kernel
theorem dX12_rules_164 : decode cX12_rules 164 = .ok (.istore_n 1, 1) := by decide +kernel
theorem dX12_rules_165 : decode cX12_rules 165 = .ok (.iload_n 1, 1) := by decide +kernel
theorem dX12_rules_166 : decode cX12_rules 166 = .ok (.bipush 12, 2) := by decide +kernel
theorem dX12_rules_168 : decode cX12_rules 168 = .ok (.if_icmp .ge 69, 3) := by decide +kernel
theorem dX12_rules_171 : decode cX12_rules 171 = .ok (.aload_n 0, 1) := by decide +kernel
theorem dX12_rules_172 : decode cX12_rules 172 = .ok (.getfield 59, 3) := by decide +kernel
theorem dX12_rules_175 : decode cX12_rules 175 = .ok (.iload_n 1, 1) := by decide +kernel
theorem dX12_rules_176 : decode cX12_rules 176 = .ok (.aload_n 0, 1) := by decide +kernel
theorem dX12_rules_177 : decode cX12_rules 177 = .ok (.getfield 68, 3) := by decide +kernel
theorem dX12_rules_180 : decode cX12_rules 180 = .ok (.iload_n 1, 1) := by decide +kernel
theorem dX12_rules_181 : decode cX12_rules 181 = .ok (.iaload, 1) := by decide +kernel
theorem dX12_rules_182 : decode cX12_rules 182 = .ok (.iastore, 1) := by decide +kernel
theorem dX12_rules_183 : decode cX12_rules 183 = .ok (.aload_n 0, 1) := by decide +kernel
theorem dX12_rules_184 : decode cX12_rules 184 = .ok (.getfield 62, 3) := by decide +kernel
theorem dX12_rules_187 : decode cX12_rules 187 = .ok (.iload_n 1, 1) := by decide +kernel
theorem dX12_rules_188 : decode cX12_rules 188 = .ok (.aload_n 0, 1) := by decide +kernel
theorem dX12_rules_189 : decode cX12_rules 189 = .ok (.getfield 71, 3) := by decide +kernel
theorem dX12_rules_192 : decode cX12_rules 192 = .ok (.iload_n 1, 1) := by decide +kernel
theorem dX12_rules_193 : decode cX12_rules 193 = .ok (.iaload, 1) := by decide +kernel
theorem dX12_rules_194 : decode cX12_rules 194 = .ok (.iastore, 1) := by decide +kernel
theorem dX12_rules_195 : decode cX12_rules 195 = .ok (.iconst 0, 1) := by decide +kernel
theorem dX12_rules_196 : decode cX12_rules 196 = .ok (.istore_n 2, 1) := by decide +kernel
theorem dX12_rules_197 : decode cX12_rules 197 = .ok (.iload_n 2, 1) := by decide +kernel
theorem dX12_rules_198 : decode cX12_rules 198 = .ok (.bipush 12, 2) := by decide +kernel
theorem dX12_rules_200 : decode cX12_rules 200 = .ok (.if_icmp .ge 31, 3) := by decide +kernel
theorem dX12_rules_203 : decode cX12_rules 203 = .ok (.aload_n 0, 1) := by decide +kernel
theorem dX12_rules_204 : decode cX12_rules 204 = .ok (.getfield 65, 3) := by decide +kernel
theorem dX12_rules_207 : decode cX12_rules 207 = .ok (.bipush 12, 2) := by decide +kernel
theorem dX12_rules_209 : decode cX12_rules 209 = .ok (.iload_n 1, 1) := by decide +kernel
theorem dX12_rules_210 : decode cX12_rules 210 = .ok (.imul, 1) := by decide +kernel
theorem dX12_rules_211 : decode cX12_rules 211 = .ok (.iload_n 2, 1) := by decide +kernel
theorem dX12_rules_212 : decode cX12_rules 212 = .ok (.iadd, 1) := by decide +kernel
theorem dX12_rules_213 : decode cX12_rules 213 = .ok (.aload_n 0, 1) := by decide +kernel
theorem dX12_rules_214 : decode cX12_rules 214 = .ok (.getfield 74, 3) := by decide +kernel
theorem dX12_rules_217 : decode cX12_rules 217 = .ok (.bipush 12, 2) := by decide +kernel
theorem dX12_rules_219 : decode cX12_rules 219 = .ok (.iload_n 1, 1) := by decide +kernel
theorem dX12_rules_220 : decode cX12_rules 220 = .ok (.imul, 1) := by decide +kernel
theorem dX12_rules_221 : decode cX12_rules 221 = .ok (.iload_n 2, 1) := by decide +kernel
theorem dX12_rules_222 : decode cX12_rules 222 = .ok (.iadd, 1) := by decide +kernel
theorem dX12_rules_223 : decode cX12_rules 223 = .ok (.iaload, 1) := by decide +kernel
theorem dX12_rules_224 : decode cX12_rules 224 = .ok (.iastore, 1) := by decide +kernel
theorem dX12_rules_225 : decode cX12_rules 225 = .ok (.iinc 2 1, 3) := by decide +kernel
theorem dX12_rules_228 : decode cX12_rules 228 = .ok (.goto (-31), 3) := by decide +kernel
theorem dX12_rules_231 : decode cX12_rules 231 = .ok (.iinc 1 1, 3) := by decide +kernel
theorem dX12_rules_234 : decode cX12_rules 234 = .ok (.goto (-69), 3) := by decide +kernel
theorem dX12_rules_237 : decode cX12_rules 237 = .ok (.aload_n 0, 1) := by decide +kernel
theorem dX12_rules_238 : decode cX12_rules 238 = .ok (.getfield 292, 3) := by decide +kernel
theorem dX12_rules_241 : decode cX12_rules 241 = .ok (.ireturn, 1) := by decide +kernel
theorem kd_X12_rules : aKd m_X12_rules 0 := ⟨wd_29_17, wd_1_5, ⟨by decide +kernel, by decide +kernel, by decide +kernel⟩⟩
set_option maxRecDepth 100000 in
set_option maxHeartbeats 4000000 in
theorem l_X12_rules_197_b (rec165 : Int32 → aSt → Option (Int32 × aSt)) (hrec165 : ∀ (x1 : Int32) (σ : aSt) (o : Int32 × aSt), rec165 x1 σ = some o → AW true m_X12_rules 165 [(0, va_rf (some (57))), (1, Value.int (x1))] [] σ 0 0 (some (.int o.1)) o.2) (rec197 : Int32 → Int32 → aSt → Option (Int32 × aSt)) (hrec197 : ∀ (x1 : Int32) (x2 : Int32) (σ : aSt) (o : Int32 × aSt), rec197 x1 x2 σ = some o → AW true m_X12_rules 197 [(0, va_rf (some (57))), (1, Value.int (x1)), (2, Value.int (x2))] [] σ 0 0 (some (.int o.1)) o.2) (x1 : Int32) (x2 : Int32) (σ : aSt) (o : Int32 × aSt) (h : f_X12_rules_197_b rec165 rec197 x1 x2 σ = some o) : AW true m_X12_rules 197 [(0, va_rf (some (57))), (1, Value.int (x1)), (2, Value.int (x2))] [] σ 0 0 (some (.int o.1)) o.2 := by
  unfold f_X12_rules_197_b at h
  refine w_iload_n 2 dX12_rules_197 rfl rfl ?_
  refine w_bipush (v := 12) dX12_rules_198 (by decide) ?_
  refine w_icmp_ge 231 dX12_rules_200 (by decide) (fun c1 => ?_) (fun c1 => ?_)
  · replace h := e_t c1 h
    refine w_iinc (q := 1) (v := x1 + 1) dX12_rules_231 rfl rfl (by decide) rfl ?_
    refine w_goto 165 dX12_rules_234 (by decide) ?_
    refine w_sub [1, 0] rfl ?_
    exact hrec165 _ _ _ h
  · replace h := e_f c1 h
    refine w_aload_n 0 ((some (57))) dX12_rules_203 rfl rfl ?_
    refine w_get (v := va_rf (some 72)) dX12_rules_204 fl_RX12_65 ⟨rfl, Or.inr ⟨rfl, by decide⟩⟩ (aFv_k rfl) ?_
    refine w_bipush (v := 12) dX12_rules_207 (by decide) ?_
    refine w_iload_n 1 dX12_rules_209 rfl rfl ?_
    refine w_imul dX12_rules_210 ?_
    refine w_iload_n 2 dX12_rules_211 rfl rfl ?_
    refine w_iadd dX12_rules_212 ?_
    refine w_aload_n 0 ((some (57))) dX12_rules_213 rfl rfl ?_
    refine w_get (v := va_rf (some 75)) dX12_rules_214 fl_RX12_74 ⟨rfl, Or.inr ⟨rfl, by decide⟩⟩ (aFv_k rfl) ?_
    refine w_bipush (v := 12) dX12_rules_217 (by decide) ?_
    refine w_iload_n 1 dX12_rules_219 rfl rfl ?_
    refine w_imul dX12_rules_220 ?_
    refine w_iload_n 2 dX12_rules_221 rfl rfl ?_
    refine w_iadd dX12_rules_222 ?_
    replace h := e_grd h; obtain ⟨b2, h⟩ := h
    refine w_iaload dX12_rules_223 ⟨rfl, Or.inr ⟨rfl, by decide⟩⟩ b2 ?_
    replace h := e_grd h; obtain ⟨b3, h⟩ := h
    refine w_iastore dX12_rules_224 ⟨rfl, Or.inr ⟨rfl, by decide⟩⟩ b3 ?_
    refine w_iinc (q := 2) (v := x2 + 1) dX12_rules_225 rfl rfl (by decide) rfl ?_
    refine w_goto 197 dX12_rules_228 (by decide) ?_
    refine w_sub [1, 2, 0] rfl ?_
    exact hrec197 _ _ _ _ h
theorem l_X12_rules_197 (rec165 : Int32 → aSt → Option (Int32 × aSt)) (hrec165 : ∀ (x1 : Int32) (σ : aSt) (o : Int32 × aSt), rec165 x1 σ = some o → AW true m_X12_rules 165 [(0, va_rf (some (57))), (1, Value.int (x1))] [] σ 0 0 (some (.int o.1)) o.2) : ∀ (n : Nat) (x1 : Int32) (x2 : Int32) (σ : aSt) (o : Int32 × aSt), f_X12_rules_197 rec165 n x1 x2 σ = some o → AW true m_X12_rules 197 [(0, va_rf (some (57))), (1, Value.int (x1)), (2, Value.int (x2))] [] σ 0 0 (some (.int o.1)) o.2
  | 0 => fun x1 x2 σ o h => by cases h
  | n + 1 => fun x1 x2 σ o h => l_X12_rules_197_b rec165 hrec165 (f_X12_rules_197 rec165 n) (l_X12_rules_197 rec165 hrec165 n) x1 x2 σ o h
set_option maxRecDepth 100000 in
set_option maxHeartbeats 4000000 in
theorem l_X12_rules_165_b (rec165 : Int32 → aSt → Option (Int32 × aSt)) (hrec165 : ∀ (x1 : Int32) (σ : aSt) (o : Int32 × aSt), rec165 x1 σ = some o → AW true m_X12_rules 165 [(0, va_rf (some (57))), (1, Value.int (x1))] [] σ 0 0 (some (.int o.1)) o.2) (x1 : Int32) (σ : aSt) (o : Int32 × aSt) (h : f_X12_rules_165_b rec165 x1 σ = some o) : AW true m_X12_rules 165 [(0, va_rf (some (57))), (1, Value.int (x1))] [] σ 0 0 (some (.int o.1)) o.2 := by
  unfold f_X12_rules_165_b at h
  refine w_iload_n 1 dX12_rules_165 rfl rfl ?_
  refine w_bipush (v := 12) dX12_rules_166 (by decide) ?_
  refine w_icmp_ge 237 dX12_rules_168 (by decide) (fun c4 => ?_) (fun c4 => ?_)
  · replace h := e_t c4 h
    refine w_aload_n 0 ((some (57))) dX12_rules_237 rfl rfl ?_
    refine w_get dX12_rules_238 fl_RX12_292 ⟨rfl, Or.inr ⟨rfl, by decide⟩⟩ (aFv_i rfl) ?_
    obtain rfl := Option.some.inj h
    exact w_ireturn dX12_rules_241 rfl (Nat.le_of_ble_eq_true rfl) (Nat.le_of_ble_eq_true rfl)
  · replace h := e_f c4 h
    refine w_aload_n 0 ((some (57))) dX12_rules_171 rfl rfl ?_
    refine w_get (v := va_rf (some 70)) dX12_rules_172 fl_RX12_59 ⟨rfl, Or.inr ⟨rfl, by decide⟩⟩ (aFv_k rfl) ?_
    refine w_iload_n 1 dX12_rules_175 rfl rfl ?_
    refine w_aload_n 0 ((some (57))) dX12_rules_176 rfl rfl ?_
    refine w_get (v := va_rf (some 73)) dX12_rules_177 fl_RX12_68 ⟨rfl, Or.inr ⟨rfl, by decide⟩⟩ (aFv_k rfl) ?_
    refine w_iload_n 1 dX12_rules_180 rfl rfl ?_
    replace h := e_grd h; obtain ⟨b5, h⟩ := h
    refine w_iaload dX12_rules_181 ⟨rfl, Or.inr ⟨rfl, by decide⟩⟩ b5 ?_
    replace h := e_grd h; obtain ⟨b6, h⟩ := h
    refine w_iastore dX12_rules_182 ⟨rfl, Or.inr ⟨rfl, by decide⟩⟩ b6 ?_
    refine w_aload_n 0 ((some (57))) dX12_rules_183 rfl rfl ?_
    refine w_get (v := va_rf (some 71)) dX12_rules_184 fl_RX12_62 ⟨rfl, Or.inr ⟨rfl, by decide⟩⟩ (aFv_k rfl) ?_
    refine w_iload_n 1 dX12_rules_187 rfl rfl ?_
    refine w_aload_n 0 ((some (57))) dX12_rules_188 rfl rfl ?_
    refine w_get (v := va_rf (some 74)) dX12_rules_189 fl_RX12_71 ⟨rfl, Or.inr ⟨rfl, by decide⟩⟩ (aFv_k rfl) ?_
    refine w_iload_n 1 dX12_rules_192 rfl rfl ?_
    replace h := e_grd h; obtain ⟨b7, h⟩ := h
    refine w_iaload dX12_rules_193 ⟨rfl, Or.inr ⟨rfl, by decide⟩⟩ b7 ?_
    replace h := e_grd h; obtain ⟨b8, h⟩ := h
    refine w_iastore dX12_rules_194 ⟨rfl, Or.inr ⟨rfl, by decide⟩⟩ b8 ?_
    refine w_iconst (v := 0) dX12_rules_195 (by decide) ?_
    refine w_istore_n dX12_rules_196 rfl (by decide) rfl ?_
    refine w_sub [1, 2, 0] rfl ?_
    exact l_X12_rules_197 rec165 hrec165 aN _ _ _ _ h
theorem l_X12_rules_165  : ∀ (n : Nat) (x1 : Int32) (σ : aSt) (o : Int32 × aSt), f_X12_rules_165  n x1 σ = some o → AW true m_X12_rules 165 [(0, va_rf (some (57))), (1, Value.int (x1))] [] σ 0 0 (some (.int o.1)) o.2
  | 0 => fun x1 σ o h => by cases h
  | n + 1 => fun x1 σ o h => l_X12_rules_165_b (f_X12_rules_165  n) (l_X12_rules_165  n) x1 σ o h
set_option maxRecDepth 100000 in
set_option maxHeartbeats 4000000 in
theorem l_X12_rules_145   (σ : aSt) (o : Int32 × aSt) (h : f_X12_rules_145   σ = some o) : AW true m_X12_rules 145 [(0, va_rf (some (57)))] [] σ 0 0 (some (.int o.1)) o.2 := by
  unfold f_X12_rules_145 at h
  refine w_aload_n 0 ((some (57))) dX12_rules_145 rfl rfl ?_
  refine w_aload_n 0 ((some (57))) dX12_rules_146 rfl rfl ?_
  refine w_get (v := va_rf (some 76)) dX12_rules_147 fl_RX12_77 ⟨rfl, Or.inr ⟨rfl, by decide⟩⟩ (aFv_k rfl) ?_
  refine w_iconst (v := 3) dX12_rules_150 (by decide) ?_
  refine w_iaload dX12_rules_151 ⟨rfl, Or.inr ⟨rfl, by decide⟩⟩ (by decide) ?_
  refine w_putI dX12_rules_152 fl_RX12_53 (Or.inl rfl) rfl ⟨rfl, Or.inr ⟨rfl, by decide⟩⟩ ?_
  refine w_aload_n 0 ((some (57))) dX12_rules_155 rfl rfl ?_
  refine w_aload_n 0 ((some (57))) dX12_rules_156 rfl rfl ?_
  refine w_get dX12_rules_157 fl_RX12_253 ⟨rfl, Or.inr ⟨rfl, by decide⟩⟩ (aFv_i rfl) ?_
  refine w_putI dX12_rules_160 fl_RX12_292 (Or.inl rfl) rfl ⟨rfl, Or.inr ⟨rfl, by decide⟩⟩ ?_
  refine w_iconst (v := 0) dX12_rules_163 (by decide) ?_
  refine w_istore_n dX12_rules_164 rfl (by decide) rfl ?_
  refine w_sub [1, 0] rfl ?_
  exact l_X12_rules_165 aN _ _ _ h
set_option maxRecDepth 100000 in
set_option maxHeartbeats 4000000 in
theorem l_X12_rules_91   (σ : aSt) (o : Int32 × aSt) (h : f_X12_rules_91   σ = some o) : AW true m_X12_rules 91 [(0, va_rf (some (57)))] [] σ 0 0 (some (.int o.1)) o.2 := by
  unfold f_X12_rules_91 at h
  refine w_aload_n 0 ((some (57))) dX12_rules_91 rfl rfl ?_
  refine w_get dX12_rules_92 fl_RX12_212 ⟨rfl, Or.inr ⟨rfl, by decide⟩⟩ (aFv_i rfl) ?_
  refine w_if_le 115 dX12_rules_95 (by decide) (fun c10 => ?_) (fun c10 => ?_)
  · replace h := e_t c10 h
    refine w_aload_n 0 ((some (57))) dX12_rules_115 rfl rfl ?_
    refine w_aload_n 0 ((some (57))) dX12_rules_116 rfl rfl ?_
    refine w_get (v := va_rf (some 76)) dX12_rules_117 fl_RX12_77 ⟨rfl, Or.inr ⟨rfl, by decide⟩⟩ (aFv_k rfl) ?_
    refine w_iconst (v := 0) dX12_rules_120 (by decide) ?_
    refine w_iaload dX12_rules_121 ⟨rfl, Or.inr ⟨rfl, by decide⟩⟩ (by decide) ?_
    refine w_putI dX12_rules_122 fl_RX12_43 (Or.inl rfl) rfl ⟨rfl, Or.inr ⟨rfl, by decide⟩⟩ ?_
    refine w_aload_n 0 ((some (57))) dX12_rules_125 rfl rfl ?_
    refine w_aload_n 0 ((some (57))) dX12_rules_126 rfl rfl ?_
    refine w_get (v := va_rf (some 76)) dX12_rules_127 fl_RX12_77 ⟨rfl, Or.inr ⟨rfl, by decide⟩⟩ (aFv_k rfl) ?_
    refine w_iconst (v := 1) dX12_rules_130 (by decide) ?_
    refine w_iaload dX12_rules_131 ⟨rfl, Or.inr ⟨rfl, by decide⟩⟩ (by decide) ?_
    refine w_putI dX12_rules_132 fl_RX12_47 (Or.inl rfl) rfl ⟨rfl, Or.inr ⟨rfl, by decide⟩⟩ ?_
    refine w_aload_n 0 ((some (57))) dX12_rules_135 rfl rfl ?_
    refine w_aload_n 0 ((some (57))) dX12_rules_136 rfl rfl ?_
    refine w_get (v := va_rf (some 76)) dX12_rules_137 fl_RX12_77 ⟨rfl, Or.inr ⟨rfl, by decide⟩⟩ (aFv_k rfl) ?_
    refine w_iconst (v := 2) dX12_rules_140 (by decide) ?_
    refine w_iaload dX12_rules_141 ⟨rfl, Or.inr ⟨rfl, by decide⟩⟩ (by decide) ?_
    refine w_putI dX12_rules_142 fl_RX12_50 (Or.inl rfl) rfl ⟨rfl, Or.inr ⟨rfl, by decide⟩⟩ ?_
    exact l_X12_rules_145 _ _ h
  · replace h := e_f c10 h
    refine w_aload_n 0 ((some (57))) dX12_rules_98 rfl rfl ?_
    refine w_aload_n 0 ((some (57))) dX12_rules_99 rfl rfl ?_
    refine w_get dX12_rules_100 fl_RX12_212 ⟨rfl, Or.inr ⟨rfl, by decide⟩⟩ (aFv_i rfl) ?_
    refine w_putI dX12_rules_103 fl_RX12_288 (Or.inl rfl) rfl ⟨rfl, Or.inr ⟨rfl, by decide⟩⟩ ?_
    refine w_ldcw (v := (-1000100)) dX12_rules_106 wd_30_0 ?_
    refine w_aload_n 0 ((some (57))) dX12_rules_109 rfl rfl ?_
    refine w_get dX12_rules_110 fl_RX12_215 ⟨rfl, Or.inr ⟨rfl, by decide⟩⟩ (aFv_i rfl) ?_
    refine w_isub dX12_rules_113 ?_
    obtain rfl := Option.some.inj h
    exact w_ireturn dX12_rules_114 rfl (Nat.le_of_ble_eq_true rfl) (Nat.le_of_ble_eq_true rfl)
set_option maxRecDepth 100000 in
set_option maxHeartbeats 4000000 in
theorem l_X12_rules_69_b (rec69 : aSt → Option (Int32 × aSt)) (hrec69 : ∀  (σ : aSt) (o : Int32 × aSt), rec69  σ = some o → AW true m_X12_rules 69 [(0, va_rf (some (57)))] [] σ 0 0 (some (.int o.1)) o.2)  (σ : aSt) (o : Int32 × aSt) (h : f_X12_rules_69_b rec69  σ = some o) : AW true m_X12_rules 69 [(0, va_rf (some (57)))] [] σ 0 0 (some (.int o.1)) o.2 := by
  unfold f_X12_rules_69_b at h
  refine w_aload_n 0 ((some (57))) dX12_rules_69 rfl rfl ?_
  refine w_get dX12_rules_70 fl_RX12_212 ⟨rfl, Or.inr ⟨rfl, by decide⟩⟩ (aFv_i rfl) ?_
  refine w_if_ne 91 dX12_rules_73 (by decide) (fun c14 => ?_) (fun c14 => ?_)
  · replace h := e_f c14 h
    exact l_X12_rules_91 _ _ h
  · replace h := e_t c14 h
    refine w_aload_n 0 ((some (57))) dX12_rules_76 rfl rfl ?_
    refine w_get dX12_rules_77 fl_RX12_200 ⟨rfl, Or.inr ⟨rfl, by decide⟩⟩ (aFv_i rfl) ?_
    refine w_iconst (v := 1) dX12_rules_80 (by decide) ?_
    refine w_icmp_eq 91 dX12_rules_81 (by decide) (fun c15 => ?_) (fun c15 => ?_)
    · replace h := e_t c15 h
      exact l_X12_rules_91 _ _ h
    · replace h := e_f c15 h
      refine w_aload_n 0 ((some (57))) dX12_rules_84 rfl rfl ?_
      replace h := e_bind h; obtain ⟨q16, e17, h⟩ := h
      refine w_callV0 (M2 := m_X12_readLine) (av := []) (ci := 12) (c_X12_readLine  _ _ e17) dX12_rules_85 kd_X12_readLine wd_30_19 wd_30_20 wd_30_21 rfl rfl ⟨rfl, Or.inr ⟨rfl, by decide⟩⟩ rfl ⟨Nat.le_of_ble_eq_true rfl, Nat.le_of_ble_eq_true rfl, Nat.le_of_ble_eq_true rfl, Nat.le_of_ble_eq_true rfl⟩ (Nat.le_of_ble_eq_true rfl) ?_
      refine w_goto 69 dX12_rules_88 (by decide) ?_
      exact hrec69 _ _ h
theorem l_X12_rules_69  : ∀ (n : Nat)  (σ : aSt) (o : Int32 × aSt), f_X12_rules_69  n  σ = some o → AW true m_X12_rules 69 [(0, va_rf (some (57)))] [] σ 0 0 (some (.int o.1)) o.2
  | 0 => fun  σ o h => by cases h
  | n + 1 => fun  σ o h => l_X12_rules_69_b (f_X12_rules_69  n) (l_X12_rules_69  n)  σ o h
set_option maxRecDepth 100000 in
set_option maxHeartbeats 4000000 in
theorem l_X12_rules_57   (σ : aSt) (o : Int32 × aSt) (h : f_X12_rules_57   σ = some o) : AW true m_X12_rules 57 [(0, va_rf (some (57)))] [] σ 0 0 (some (.int o.1)) o.2 := by
  unfold f_X12_rules_57 at h
  refine w_aload_n 0 ((some (57))) dX12_rules_57 rfl rfl ?_
  refine w_get (v := va_rf (some 76)) dX12_rules_58 fl_RX12_77 ⟨rfl, Or.inr ⟨rfl, by decide⟩⟩ (aFv_k rfl) ?_
  refine w_iconst (v := 3) dX12_rules_61 (by decide) ?_
  refine w_bipush (v := 20) dX12_rules_62 (by decide) ?_
  refine w_iastore dX12_rules_64 ⟨rfl, Or.inr ⟨rfl, by decide⟩⟩ (by decide) ?_
  refine w_aload_n 0 ((some (57))) dX12_rules_65 rfl rfl ?_
  replace h := e_bind h; obtain ⟨q19, e20, h⟩ := h
  refine w_callV0 (M2 := m_X12_step) (av := []) (ci := 12) (c_X12_step  _ _ e20) dX12_rules_66 kd_X12_step wd_30_3 wd_30_4 wd_30_5 rfl rfl ⟨rfl, Or.inr ⟨rfl, by decide⟩⟩ rfl ⟨Nat.le_of_ble_eq_true rfl, Nat.le_of_ble_eq_true rfl, Nat.le_of_ble_eq_true rfl, Nat.le_of_ble_eq_true rfl⟩ (Nat.le_of_ble_eq_true rfl) ?_
  exact l_X12_rules_69 aN _ _ h
set_option maxRecDepth 100000 in
set_option maxHeartbeats 4000000 in
theorem l_X12_rules_33   (σ : aSt) (o : Int32 × aSt) (h : f_X12_rules_33   σ = some o) : AW true m_X12_rules 33 [(0, va_rf (some (57)))] [] σ 0 0 (some (.int o.1)) o.2 := by
  unfold f_X12_rules_33 at h
  refine w_aload_n 0 ((some (57))) dX12_rules_33 rfl rfl ?_
  refine w_get (v := va_rf (some 76)) dX12_rules_34 fl_RX12_77 ⟨rfl, Or.inr ⟨rfl, by decide⟩⟩ (aFv_k rfl) ?_
  refine w_iconst (v := 0) dX12_rules_37 (by decide) ?_
  refine w_bipush (v := 100) dX12_rules_38 (by decide) ?_
  refine w_iastore dX12_rules_40 ⟨rfl, Or.inr ⟨rfl, by decide⟩⟩ (by decide) ?_
  refine w_aload_n 0 ((some (57))) dX12_rules_41 rfl rfl ?_
  refine w_get (v := va_rf (some 76)) dX12_rules_42 fl_RX12_77 ⟨rfl, Or.inr ⟨rfl, by decide⟩⟩ (aFv_k rfl) ?_
  refine w_iconst (v := 1) dX12_rules_45 (by decide) ?_
  refine w_bipush (v := 50) dX12_rules_46 (by decide) ?_
  refine w_iastore dX12_rules_48 ⟨rfl, Or.inr ⟨rfl, by decide⟩⟩ (by decide) ?_
  refine w_aload_n 0 ((some (57))) dX12_rules_49 rfl rfl ?_
  refine w_get (v := va_rf (some 76)) dX12_rules_50 fl_RX12_77 ⟨rfl, Or.inr ⟨rfl, by decide⟩⟩ (aFv_k rfl) ?_
  refine w_iconst (v := 2) dX12_rules_53 (by decide) ?_
  refine w_bipush (v := 10) dX12_rules_54 (by decide) ?_
  refine w_iastore dX12_rules_56 ⟨rfl, Or.inr ⟨rfl, by decide⟩⟩ (by decide) ?_
  exact l_X12_rules_57 _ _ h
set_option maxRecDepth 100000 in
set_option maxHeartbeats 4000000 in
theorem l_X12_rules_18   (σ : aSt) (o : Int32 × aSt) (h : f_X12_rules_18   σ = some o) : AW true m_X12_rules 18 [(0, va_rf (some (57)))] [] σ 0 0 (some (.int o.1)) o.2 := by
  unfold f_X12_rules_18 at h
  refine w_aload_n 0 ((some (57))) dX12_rules_18 rfl rfl ?_
  refine w_iconst (v := 0) dX12_rules_19 (by decide) ?_
  refine w_putI dX12_rules_20 fl_RX12_191 (Or.inl rfl) rfl ⟨rfl, Or.inr ⟨rfl, by decide⟩⟩ ?_
  refine w_aload_n 0 ((some (57))) dX12_rules_23 rfl rfl ?_
  refine w_iconst (v := 0) dX12_rules_24 (by decide) ?_
  refine w_putI dX12_rules_25 fl_RX12_212 (Or.inl rfl) rfl ⟨rfl, Or.inr ⟨rfl, by decide⟩⟩ ?_
  refine w_aload_n 0 ((some (57))) dX12_rules_28 rfl rfl ?_
  refine w_iconst (v := 0) dX12_rules_29 (by decide) ?_
  refine w_putI dX12_rules_30 fl_RX12_253 (Or.inl rfl) rfl ⟨rfl, Or.inr ⟨rfl, by decide⟩⟩ ?_
  exact l_X12_rules_33 _ _ h
set_option maxRecDepth 100000 in
set_option maxHeartbeats 4000000 in
theorem c_X12_rules  (σ : aSt) (o : Int32 × aSt) (h : f_X12_rules  σ = some o) : AM true m_X12_rules [va_rf (some (57))] σ (some (.int o.1)) o.2 := by
  refine AM_of2 (lv := [(0, va_rf (some (57)))]) (by decide +kernel) rfl (Nat.le_of_ble_eq_true rfl) ?_
  unfold f_X12_rules at h
  refine w_aload_n 0 ((some (57))) dX12_rules_0 rfl rfl ?_
  refine w_iconst (v := 0) dX12_rules_1 (by decide) ?_
  refine w_putI dX12_rules_2 fl_RX12_102 (Or.inl rfl) rfl ⟨rfl, Or.inr ⟨rfl, by decide⟩⟩ ?_
  refine w_aload_n 0 ((some (57))) dX12_rules_5 rfl rfl ?_
  refine w_aload_n 0 ((some (57))) dX12_rules_6 rfl rfl ?_
  refine w_get dX12_rules_7 fl_RX12_183 ⟨rfl, Or.inr ⟨rfl, by decide⟩⟩ (aFv_i rfl) ?_
  refine w_putI dX12_rules_10 fl_RX12_188 (Or.inl rfl) rfl ⟨rfl, Or.inr ⟨rfl, by decide⟩⟩ ?_
  refine w_aload_n 0 ((some (57))) dX12_rules_13 rfl rfl ?_
  refine w_iconst (v := 0) dX12_rules_14 (by decide) ?_
  refine w_putI dX12_rules_15 fl_RX12_183 (Or.inl rfl) rfl ⟨rfl, Or.inr ⟨rfl, by decide⟩⟩ ?_
  exact l_X12_rules_18 _ _ h
theorem dX12_fault_0 : decode cX12_fault 0 = .ok (.aload_n 0, 1) := by decide +kernel
theorem dX12_fault_1 : decode cX12_fault 1 = .ok (.iconst 0, 1) := by decide +kernel
theorem dX12_fault_2 : decode cX12_fault 2 = .ok (.putfield 102, 3) := by decide +kernel
theorem dX12_fault_5 : decode cX12_fault 5 = .ok (.aload_n 0, 1) := by decide +kernel
theorem dX12_fault_6 : decode cX12_fault 6 = .ok (.getfield 288, 3) := by decide +kernel
theorem dX12_fault_9 : decode cX12_fault 9 = .ok (.ireturn, 1) := by decide +kernel
theorem kd_X12_fault : aKd m_X12_fault 0 := ⟨wd_33_5, wd_1_5, ⟨by decide +kernel, by decide +kernel, by decide +kernel⟩⟩
set_option maxRecDepth 100000 in
set_option maxHeartbeats 4000000 in
theorem c_X12_fault  (σ : aSt) (o : Int32 × aSt) (h : f_X12_fault  σ = some o) : AM true m_X12_fault [va_rf (some (57))] σ (some (.int o.1)) o.2 := by
  refine AM_of2 (lv := [(0, va_rf (some (57)))]) (by decide +kernel) rfl (Nat.le_of_ble_eq_true rfl) ?_
  unfold f_X12_fault at h
  refine w_aload_n 0 ((some (57))) dX12_fault_0 rfl rfl ?_
  refine w_iconst (v := 0) dX12_fault_1 (by decide) ?_
  refine w_putI dX12_fault_2 fl_RX12_102 (Or.inl rfl) rfl ⟨rfl, Or.inr ⟨rfl, by decide⟩⟩ ?_
  refine w_aload_n 0 ((some (57))) dX12_fault_5 rfl rfl ?_
  refine w_get dX12_fault_6 fl_RX12_288 ⟨rfl, Or.inr ⟨rfl, by decide⟩⟩ (aFv_i rfl) ?_
  obtain rfl := Option.some.inj h
  exact w_ireturn dX12_fault_9 rfl (Nat.le_of_ble_eq_true rfl) (Nat.le_of_ble_eq_true rfl)
theorem dX12_rule_0 : decode cX12_rule 0 = .ok (.aload_n 0, 1) := by decide +kernel
theorem dX12_rule_1 : decode cX12_rule 1 = .ok (.iconst 0, 1) := by decide +kernel
theorem dX12_rule_2 : decode cX12_rule 2 = .ok (.putfield 102, 3) := by decide +kernel
theorem dX12_rule_5 : decode cX12_rule 5 = .ok (.iload_n 1, 1) := by decide +kernel
theorem dX12_rule_6 : decode cX12_rule 6 = .ok (.ifCond .ne 10, 3) := by decide +kernel
theorem dX12_rule_9 : decode cX12_rule 9 = .ok (.aload_n 0, 1) := by decide +kernel
theorem dX12_rule_10 : decode cX12_rule 10 = .ok (.getfield 43, 3) := by decide +kernel
theorem dX12_rule_13 : decode cX12_rule 13 = .ok (.goto 41, 3) := by decide +kernel
theorem dX12_rule_16 : decode cX12_rule 16 = .ok (.iload_n 1, 1) := by decide +kernel
theorem dX12_rule_17 : decode cX12_rule 17 = .ok (.iconst 1, 1) := by decide +kernel
theorem dX12_rule_18 : decode cX12_rule 18 = .ok (.if_icmp .ne 10, 3) := by decide +kernel
theorem dX12_rule_21 : decode cX12_rule 21 = .ok (.aload_n 0, 1) := by decide +kernel
theorem dX12_rule_22 : decode cX12_rule 22 = .ok (.getfield 47, 3) := by decide +kernel
theorem dX12_rule_25 : decode cX12_rule 25 = .ok (.goto 29, 3) := by decide +kernel
theorem dX12_rule_28 : decode cX12_rule 28 = .ok (.iload_n 1, 1) := by decide +kernel
theorem dX12_rule_29 : decode cX12_rule 29 = .ok (.iconst 2, 1) := by decide +kernel
theorem dX12_rule_30 : decode cX12_rule 30 = .ok (.if_icmp .ne 10, 3) := by decide +kernel
theorem dX12_rule_33 : decode cX12_rule 33 = .ok (.aload_n 0, 1) := by decide +kernel
theorem dX12_rule_34 : decode cX12_rule 34 = .ok (.getfield 50, 3) := by decide +kernel
theorem dX12_rule_37 : decode cX12_rule 37 = .ok (.goto 17, 3) := by decide +kernel
theorem dX12_rule_40 : decode cX12_rule 40 = .ok (.iload_n 1, 1) := by decide +kernel
theorem dX12_rule_41 : decode cX12_rule 41 = .ok (.iconst 3, 1) := by decide +kernel
theorem dX12_rule_42 : decode cX12_rule 42 = .ok (.if_icmp .ne 10, 3) := by decide +kernel
theorem dX12_rule_45 : decode cX12_rule 45 = .ok (.aload_n 0, 1) := by decide +kernel
theorem dX12_rule_46 : decode cX12_rule 46 = .ok (.getfield 53, 3) := by decide +kernel
theorem dX12_rule_49 : decode cX12_rule 49 = .ok (.goto 5, 3) := by decide +kernel
theorem dX12_rule_52 : decode cX12_rule 52 = .ok (.ldc 121, 2) := by decide +kernel
theorem dX12_rule_54 : decode cX12_rule 54 = .ok (.ireturn, 1) := by decide +kernel
theorem kd_X12_rule : aKd m_X12_rule 1 := ⟨wd_33_14, wd_1_5, ⟨by decide +kernel, by decide +kernel, by decide +kernel⟩⟩
set_option maxRecDepth 100000 in
set_option maxHeartbeats 4000000 in
theorem l_X12_rule_54  (t0 : Int32) (σ : aSt) (o : Int32 × aSt) (h : f_X12_rule_54  t0 σ = some o) : AW true m_X12_rule 54 [] [.int (t0)] σ 0 0 (some (.int o.1)) o.2 := by
  unfold f_X12_rule_54 at h
  obtain rfl := Option.some.inj h
  exact w_ireturn dX12_rule_54 rfl (Nat.le_of_ble_eq_true rfl) (Nat.le_of_ble_eq_true rfl)
set_option maxRecDepth 100000 in
set_option maxHeartbeats 4000000 in
theorem c_X12_rule (p1 : Int32) (σ : aSt) (o : Int32 × aSt) (h : f_X12_rule p1 σ = some o) : AM true m_X12_rule [va_rf (some (57)), .int (p1)] σ (some (.int o.1)) o.2 := by
  refine AM_of2 (lv := [(0, va_rf (some (57))), (1, Value.int (p1))]) (by decide +kernel) rfl (Nat.le_of_ble_eq_true rfl) ?_
  unfold f_X12_rule at h
  refine w_aload_n 0 ((some (57))) dX12_rule_0 rfl rfl ?_
  refine w_iconst (v := 0) dX12_rule_1 (by decide) ?_
  refine w_putI dX12_rule_2 fl_RX12_102 (Or.inl rfl) rfl ⟨rfl, Or.inr ⟨rfl, by decide⟩⟩ ?_
  refine w_iload_n 1 dX12_rule_5 rfl rfl ?_
  refine w_if_ne 16 dX12_rule_6 (by decide) (fun c1 => ?_) (fun c1 => ?_)
  · replace h := e_f c1 h
    refine w_iload_n 1 dX12_rule_16 rfl rfl ?_
    refine w_iconst (v := 1) dX12_rule_17 (by decide) ?_
    refine w_icmp_ne 28 dX12_rule_18 (by decide) (fun c2 => ?_) (fun c2 => ?_)
    · replace h := e_f c2 h
      refine w_iload_n 1 dX12_rule_28 rfl rfl ?_
      refine w_iconst (v := 2) dX12_rule_29 (by decide) ?_
      refine w_icmp_ne 40 dX12_rule_30 (by decide) (fun c3 => ?_) (fun c3 => ?_)
      · replace h := e_f c3 h
        refine w_iload_n 1 dX12_rule_40 rfl rfl ?_
        refine w_iconst (v := 3) dX12_rule_41 (by decide) ?_
        refine w_icmp_ne 52 dX12_rule_42 (by decide) (fun c4 => ?_) (fun c4 => ?_)
        · replace h := e_f c4 h
          refine w_ldc (v := (-1000001)) dX12_rule_52 wd_10_21 ?_
          refine w_sub [] rfl ?_
          exact l_X12_rule_54 _ _ _ h
        · replace h := e_t c4 h
          refine w_aload_n 0 ((some (57))) dX12_rule_45 rfl rfl ?_
          refine w_get dX12_rule_46 fl_RX12_53 ⟨rfl, Or.inr ⟨rfl, by decide⟩⟩ (aFv_i rfl) ?_
          refine w_goto 54 dX12_rule_49 (by decide) ?_
          refine w_sub [] rfl ?_
          exact l_X12_rule_54 _ _ _ h
      · replace h := e_t c3 h
        refine w_aload_n 0 ((some (57))) dX12_rule_33 rfl rfl ?_
        refine w_get dX12_rule_34 fl_RX12_50 ⟨rfl, Or.inr ⟨rfl, by decide⟩⟩ (aFv_i rfl) ?_
        refine w_goto 54 dX12_rule_37 (by decide) ?_
        refine w_sub [] rfl ?_
        exact l_X12_rule_54 _ _ _ h
    · replace h := e_t c2 h
      refine w_aload_n 0 ((some (57))) dX12_rule_21 rfl rfl ?_
      refine w_get dX12_rule_22 fl_RX12_47 ⟨rfl, Or.inr ⟨rfl, by decide⟩⟩ (aFv_i rfl) ?_
      refine w_goto 54 dX12_rule_25 (by decide) ?_
      refine w_sub [] rfl ?_
      exact l_X12_rule_54 _ _ _ h
  · replace h := e_t c1 h
    refine w_aload_n 0 ((some (57))) dX12_rule_9 rfl rfl ?_
    refine w_get dX12_rule_10 fl_RX12_43 ⟨rfl, Or.inr ⟨rfl, by decide⟩⟩ (aFv_i rfl) ?_
    refine w_goto 54 dX12_rule_13 (by decide) ?_
    refine w_sub [] rfl ?_
    exact l_X12_rule_54 _ _ _ h
theorem dX12_holding_0 : decode cX12_holding 0 = .ok (.iconst 0, 1) := by decide +kernel
theorem dX12_holding_1 : decode cX12_holding 1 = .ok (.istore_n 1, 1) := by decide +kernel
theorem dX12_holding_2 : decode cX12_holding 2 = .ok (.iconst 0, 1) := by decide +kernel
theorem dX12_holding_3 : decode cX12_holding 3 = .ok (.istore_n 2, 1) := by decide +kernel
theorem dX12_holding_4 : decode cX12_holding 4 = .ok (.iload_n 2, 1) := by decide +kernel
theorem dX12_holding_5 : decode cX12_holding 5 = .ok (.aload_n 0, 1) := by decide +kernel
theorem dX12_holding_6 : decode cX12_holding 6 = .ok (.getfield 292, 3) := by decide +kernel
theorem dX12_holding_9 : decode cX12_holding 9 = .ok (.if_icmp .ge 146, 3) := by decide +kernel
theorem dX12_holding_12 : decode cX12_holding 12 = .ok (.iconst 1, 1) := by decide +kernel
theorem dX12_holding_13 : decode cX12_holding 13 = .ok (.istore_n 3, 1) := by decide +kernel
theorem dX12_holding_14 : decode cX12_holding 14 = .ok (.iconst 0, 1) := by decide +kernel
theorem dX12_holding_15 : decode cX12_holding 15 = .ok (.istore 4, 2) := by decide +kernel
theorem dX12_holding_17 : decode cX12_holding 17 = .ok (.iload 4, 2) := by decide +kernel
theorem dX12_holding_19 : decode cX12_holding 19 = .ok (.aload_n 0, 1) := by decide +kernel
theorem dX12_holding_20 : decode cX12_holding 20 = .ok (.getfield 62, 3) := by decide +kernel
theorem dX12_holding_23 : decode cX12_holding 23 = .ok (.iload_n 2, 1) := by decide +kernel
theorem dX12_holding_24 : decode cX12_holding 24 = .ok (.iaload, 1) := by decide +kernel
theorem dX12_holding_25 : decode cX12_holding 25 = .ok (.if_icmp .ge 110, 3) := by decide +kernel
theorem dX12_holding_28 : decode cX12_holding 28 = .ok (.bipush 12, 2) := by decide +kernel
theorem dX12_holding_30 : decode cX12_holding 30 = .ok (.iload_n 2, 1) := by decide +kernel
theorem dX12_holding_31 : decode cX12_holding 31 = .ok (.imul, 1) := by decide +kernel
theorem dX12_holding_32 : decode cX12_holding 32 = .ok (.iconst 3, 1) := by decide +kernel
theorem dX12_holding_33 : decode cX12_holding 33 = .ok (.iload 4, 2) := by decide +kernel
theorem dX12_holding_35 : decode cX12_holding 35 = .ok (.imul, 1) := by decide +kernel
theorem dX12_holding_36 : decode cX12_holding 36 = .ok (.iadd, 1) := by decide +kernel
theorem dX12_holding_37 : decode cX12_holding 37 = .ok (.istore 5, 2) := by decide +kernel
theorem dX12_holding_39 : decode cX12_holding 39 = .ok (.aload_n 0, 1) := by decide +kernel
theorem dX12_holding_40 : decode cX12_holding 40 = .ok (.getfield 56, 3) := by decide +kernel
theorem dX12_holding_43 : decode cX12_holding 43 = .ok (.aload_n 0, 1) := by decide +kernel
theorem dX12_holding_44 : decode cX12_holding 44 = .ok (.getfield 65, 3) := by decide +kernel
theorem dX12_holding_47 : decode cX12_holding 47 = .ok (.iload 5, 2) := by decide +kernel
theorem dX12_holding_49 : decode cX12_holding 49 = .ok (.iaload, 1) := by decide +kernel
theorem dX12_holding_50 : decode cX12_holding 50 = .ok (.iaload, 1) := by decide +kernel
theorem dX12_holding_51 : decode cX12_holding 51 = .ok (.istore 6, 2) := by decide +kernel
theorem dX12_holding_53 : decode cX12_holding 53 = .ok (.aload_n 0, 1) := by decide +kernel
theorem dX12_holding_54 : decode cX12_holding 54 = .ok (.getfield 65, 3) := by decide +kernel
theorem dX12_holding_57 : decode cX12_holding 57 = .ok (.iload 5, 2) := by decide +kernel
theorem dX12_holding_59 : decode cX12_holding 59 = .ok (.iconst 2, 1) := by decide +kernel
theorem dX12_holding_60 : decode cX12_holding 60 = .ok (.iadd, 1) := by decide +kernel
theorem dX12_holding_61 : decode cX12_holding 61 = .ok (.iaload, 1) := by decide +kernel
theorem dX12_holding_62 : decode cX12_holding 62 = .ok (.istore 7, 2) := by decide +kernel
theorem dX12_holding_64 : decode cX12_holding 64 = .ok (.iload_n 3, 1) := by decide +kernel
theorem dX12_holding_65 : decode cX12_holding 65 = .ok (.ifCond .eq 62, 3) := by decide +kernel
theorem dX12_holding_68 : decode cX12_holding 68 = .ok (.aload_n 0, 1) := by decide +kernel
theorem dX12_holding_69 : decode cX12_holding 69 = .ok (.getfield 65, 3) := by decide +kernel
theorem dX12_holding_72 : decode cX12_holding 72 = .ok (.iload 5, 2) := by decide +kernel
theorem dX12_holding_74 : decode cX12_holding 74 = .ok (.iconst 1, 1) := by decide +kernel
theorem dX12_holding_75 : decode cX12_holding 75 = .ok (.iadd, 1) := by decide +kernel
theorem dX12_holding_76 : decode cX12_holding 76 = .ok (.iaload, 1) := by decide +kernel
theorem dX12_holding_77 : decode cX12_holding 77 = .ok (.bipush 60, 2) := by decide +kernel
theorem dX12_holding_79 : decode cX12_holding 79 = .ok (.if_icmp .ne 13, 3) := by decide +kernel
theorem dX12_holding_82 : decode cX12_holding 82 = .ok (.iload 6, 2) := by decide +kernel
theorem dX12_holding_84 : decode cX12_holding 84 = .ok (.iload 7, 2) := by decide +kernel
theorem dX12_holding_86 : decode cX12_holding 86 = .ok (.if_icmp .ge 41, 3) := by decide +kernel
theorem dX12_holding_89 : decode cX12_holding 89 = .ok (.goto 34, 3) := by decide +kernel
theorem dX12_holding_92 : decode cX12_holding 92 = .ok (.aload_n 0, 1) := by decide +kernel
theorem dX12_holding_93 : decode cX12_holding 93 = .ok (.getfield 65, 3) := by decide +kernel
theorem dX12_holding_96 : decode cX12_holding 96 = .ok (.iload 5, 2) := by decide +kernel
theorem dX12_holding_98 : decode cX12_holding 98 = .ok (.iconst 1, 1) := by decide +kernel
theorem dX12_holding_99 : decode cX12_holding 99 = .ok (.iadd, 1) := by decide +kernel
theorem dX12_holding_100 : decode cX12_holding 100 = .ok (.iaload, 1) := by decide +kernel
theorem dX12_holding_101 : decode cX12_holding 101 = .ok (.bipush 62, 2) := by decide +kernel
theorem dX12_holding_103 : decode cX12_holding 103 = .ok (.if_icmp .ne 13, 3) := by decide +kernel
theorem dX12_holding_106 : decode cX12_holding 106 = .ok (.iload 6, 2) := by decide +kernel
theorem dX12_holding_108 : decode cX12_holding 108 = .ok (.iload 7, 2) := by decide +kernel
theorem dX12_holding_110 : decode cX12_holding 110 = .ok (.if_icmp .le 17, 3) := by decide +kernel
theorem dX12_holding_113 : decode cX12_holding 113 = .ok (.goto 10, 3) := by decide +kernel
theorem dX12_holding_116 : decode cX12_holding 116 = .ok (.iload 6, 2) := by decide +kernel
theorem dX12_holding_118 : decode cX12_holding 118 = .ok (.iload 7, 2) := by decide +kernel
theorem dX12_holding_120 : decode cX12_holding 120 = .ok (.if_icmp .ne 7, 3) := by decide +kernel
theorem dX12_holding_123 : decode cX12_holding 123 = .ok (.iconst 1, 1) := by decide +kernel
theorem dX12_holding_124 : decode cX12_holding 124 = .ok (.goto 4, 3) := by decide +kernel
theorem dX12_holding_127 : decode cX12_holding 127 = .ok (.iconst 0, 1) := by decide +kernel
theorem dX12_holding_128 : decode cX12_holding 128 = .ok (.istore_n 3, 1) := by decide +kernel
theorem dX12_holding_129 : decode cX12_holding 129 = .ok (.iinc 4 1, 3) := by decide +kernel
theorem dX12_holding_132 : decode cX12_holding 132 = .ok (.goto (-115), 3) := by decide +kernel
theorem dX12_holding_135 : decode cX12_holding 135 = .ok (.iload_n 1, 1) := by decide +kernel
theorem dX12_holding_136 : decode cX12_holding 136 = .ok (.iload_n 3, 1) := by decide +kernel
theorem dX12_holding_137 : decode cX12_holding 137 = .ok (.ifCond .eq 9, 3) := by decide +kernel
theorem dX12_holding_140 : decode cX12_holding 140 = .ok (.iconst 1, 1) := by decide +kernel
theorem dX12_holding_141 : decode cX12_holding 141 = .ok (.iload_n 2, 1) := by decide +kernel
theorem dX12_holding_142 : decode cX12_holding 142 = .ok (.ishl, 1) := by decide +kernel
theorem dX12_holding_143 : decode cX12_holding 143 = .ok (.goto 4, 3) := by decide +kernel
theorem dX12_holding_146 : decode cX12_holding 146 = .ok (.iconst 0, 1) := by decide +kernel
theorem dX12_holding_147 : decode cX12_holding 147 = .ok (.ior, 1) := by decide +kernel
theorem dX12_holding_148 : decode cX12_holding 148 = .ok (.istore_n 1, 1) := by decide +kernel
theorem dX12_holding_149 : decode cX12_holding 149 = .ok (.iinc 2 1, 3) := by decide +kernel
theorem dX12_holding_152 : decode cX12_holding 152 = .ok (.goto (-148), 3) := by decide +kernel
theorem dX12_holding_155 : decode cX12_holding 155 = .ok (.iload_n 1, 1) := by decide +kernel
theorem dX12_holding_156 : decode cX12_holding 156 = .ok (.ireturn, 1) := by decide +kernel
theorem kd_X12_holding : aKd m_X12_holding 0 := ⟨wd_36_11, wd_1_5, ⟨by decide +kernel, by decide +kernel, by decide +kernel⟩⟩
set_option maxRecDepth 100000 in
set_option maxHeartbeats 4000000 in
theorem l_X12_holding_128 (rec4 : Int32 → Int32 → aSt → Option (Int32 × aSt)) (hrec4 : ∀ (x1 : Int32) (x2 : Int32) (σ : aSt) (o : Int32 × aSt), rec4 x1 x2 σ = some o → AW true m_X12_holding 4 [(0, va_rf (some (57))), (1, Value.int (x1)), (2, Value.int (x2))] [] σ 0 0 (some (.int o.1)) o.2) (rec17 : Int32 → Int32 → Int32 → Int32 → aSt → Option (Int32 × aSt)) (hrec17 : ∀ (x1 : Int32) (x2 : Int32) (x3 : Int32) (x4 : Int32) (σ : aSt) (o : Int32 × aSt), rec17 x1 x2 x3 x4 σ = some o → AW true m_X12_holding 17 [(0, va_rf (some (57))), (1, Value.int (x1)), (2, Value.int (x2)), (3, Value.int (x3)), (4, Value.int (x4))] [] σ 0 0 (some (.int o.1)) o.2) (x1 : Int32) (x2 : Int32) (x4 : Int32) (t0 : Int32) (σ : aSt) (o : Int32 × aSt) (h : f_X12_holding_128 rec4 rec17 x1 x2 x4 t0 σ = some o) : AW true m_X12_holding 128 [(0, va_rf (some (57))), (1, Value.int (x1)), (2, Value.int (x2)), (4, Value.int (x4))] [.int (t0)] σ 0 0 (some (.int o.1)) o.2 := by
  unfold f_X12_holding_128 at h
  refine w_istore_n dX12_holding_128 rfl (by decide) rfl ?_
  refine w_iinc (q := 4) (v := x4 + 1) dX12_holding_129 rfl rfl (by decide) rfl ?_
  refine w_goto 17 dX12_holding_132 (by decide) ?_
  refine w_sub [2, 3, 4, 1, 0] rfl ?_
  exact hrec17 _ _ _ _ _ _ h
set_option maxRecDepth 100000 in
set_option maxHeartbeats 4000000 in
theorem l_X12_holding_123 (rec4 : Int32 → Int32 → aSt → Option (Int32 × aSt)) (hrec4 : ∀ (x1 : Int32) (x2 : Int32) (σ : aSt) (o : Int32 × aSt), rec4 x1 x2 σ = some o → AW true m_X12_holding 4 [(0, va_rf (some (57))), (1, Value.int (x1)), (2, Value.int (x2))] [] σ 0 0 (some (.int o.1)) o.2) (rec17 : Int32 → Int32 → Int32 → Int32 → aSt → Option (Int32 × aSt)) (hrec17 : ∀ (x1 : Int32) (x2 : Int32) (x3 : Int32) (x4 : Int32) (σ : aSt) (o : Int32 × aSt), rec17 x1 x2 x3 x4 σ = some o → AW true m_X12_holding 17 [(0, va_rf (some (57))), (1, Value.int (x1)), (2, Value.int (x2)), (3, Value.int (x3)), (4, Value.int (x4))] [] σ 0 0 (some (.int o.1)) o.2) (x1 : Int32) (x2 : Int32) (x4 : Int32) (σ : aSt) (o : Int32 × aSt) (h : f_X12_holding_123 rec4 rec17 x1 x2 x4 σ = some o) : AW true m_X12_holding 123 [(0, va_rf (some (57))), (1, Value.int (x1)), (2, Value.int (x2)), (4, Value.int (x4))] [] σ 0 0 (some (.int o.1)) o.2 := by
  unfold f_X12_holding_123 at h
  refine w_iconst (v := 1) dX12_holding_123 (by decide) ?_
  refine w_goto 128 dX12_holding_124 (by decide) ?_
  exact l_X12_holding_128 rec4 hrec4 rec17 hrec17 _ _ _ _ _ _ h
set_option maxRecDepth 100000 in
set_option maxHeartbeats 4000000 in
theorem l_X12_holding_127 (rec4 : Int32 → Int32 → aSt → Option (Int32 × aSt)) (hrec4 : ∀ (x1 : Int32) (x2 : Int32) (σ : aSt) (o : Int32 × aSt), rec4 x1 x2 σ = some o → AW true m_X12_holding 4 [(0, va_rf (some (57))), (1, Value.int (x1)), (2, Value.int (x2))] [] σ 0 0 (some (.int o.1)) o.2) (rec17 : Int32 → Int32 → Int32 → Int32 → aSt → Option (Int32 × aSt)) (hrec17 : ∀ (x1 : Int32) (x2 : Int32) (x3 : Int32) (x4 : Int32) (σ : aSt) (o : Int32 × aSt), rec17 x1 x2 x3 x4 σ = some o → AW true m_X12_holding 17 [(0, va_rf (some (57))), (1, Value.int (x1)), (2, Value.int (x2)), (3, Value.int (x3)), (4, Value.int (x4))] [] σ 0 0 (some (.int o.1)) o.2) (x1 : Int32) (x2 : Int32) (x4 : Int32) (σ : aSt) (o : Int32 × aSt) (h : f_X12_holding_127 rec4 rec17 x1 x2 x4 σ = some o) : AW true m_X12_holding 127 [(0, va_rf (some (57))), (1, Value.int (x1)), (2, Value.int (x2)), (4, Value.int (x4))] [] σ 0 0 (some (.int o.1)) o.2 := by
  unfold f_X12_holding_127 at h
  refine w_iconst (v := 0) dX12_holding_127 (by decide) ?_
  exact l_X12_holding_128 rec4 hrec4 rec17 hrec17 _ _ _ _ _ _ h
set_option maxRecDepth 100000 in
set_option maxHeartbeats 4000000 in
theorem l_X12_holding_147 (rec4 : Int32 → Int32 → aSt → Option (Int32 × aSt)) (hrec4 : ∀ (x1 : Int32) (x2 : Int32) (σ : aSt) (o : Int32 × aSt), rec4 x1 x2 σ = some o → AW true m_X12_holding 4 [(0, va_rf (some (57))), (1, Value.int (x1)), (2, Value.int (x2))] [] σ 0 0 (some (.int o.1)) o.2) (x2 : Int32) (t0 : Int32) (t1 : Int32) (σ : aSt) (o : Int32 × aSt) (h : f_X12_holding_147 rec4 x2 t0 t1 σ = some o) : AW true m_X12_holding 147 [(0, va_rf (some (57))), (2, Value.int (x2))] [.int (t1), .int (t0)] σ 0 0 (some (.int o.1)) o.2 := by
  unfold f_X12_holding_147 at h
  refine w_ior dX12_holding_147 ?_
  refine w_istore_n dX12_holding_148 rfl (by decide) rfl ?_
  refine w_iinc (q := 2) (v := x2 + 1) dX12_holding_149 rfl rfl (by decide) rfl ?_
  refine w_goto 4 dX12_holding_152 (by decide) ?_
  refine w_sub [2, 1, 0] rfl ?_
  exact hrec4 _ _ _ _ h
set_option maxRecDepth 100000 in
set_option maxHeartbeats 4000000 in
theorem l_X12_holding_17_b (rec4 : Int32 → Int32 → aSt → Option (Int32 × aSt)) (hrec4 : ∀ (x1 : Int32) (x2 : Int32) (σ : aSt) (o : Int32 × aSt), rec4 x1 x2 σ = some o → AW true m_X12_holding 4 [(0, va_rf (some (57))), (1, Value.int (x1)), (2, Value.int (x2))] [] σ 0 0 (some (.int o.1)) o.2) (rec17 : Int32 → Int32 → Int32 → Int32 → aSt → Option (Int32 × aSt)) (hrec17 : ∀ (x1 : Int32) (x2 : Int32) (x3 : Int32) (x4 : Int32) (σ : aSt) (o : Int32 × aSt), rec17 x1 x2 x3 x4 σ = some o → AW true m_X12_holding 17 [(0, va_rf (some (57))), (1, Value.int (x1)), (2, Value.int (x2)), (3, Value.int (x3)), (4, Value.int (x4))] [] σ 0 0 (some (.int o.1)) o.2) (x1 : Int32) (x2 : Int32) (x3 : Int32) (x4 : Int32) (σ : aSt) (o : Int32 × aSt) (h : f_X12_holding_17_b rec4 rec17 x1 x2 x3 x4 σ = some o) : AW true m_X12_holding 17 [(0, va_rf (some (57))), (1, Value.int (x1)), (2, Value.int (x2)), (3, Value.int (x3)), (4, Value.int (x4))] [] σ 0 0 (some (.int o.1)) o.2 := by
  unfold f_X12_holding_17_b at h
  refine w_iload 4 dX12_holding_17 rfl ?_
  refine w_aload_n 0 ((some (57))) dX12_holding_19 rfl rfl ?_
  refine w_get (v := va_rf (some 71)) dX12_holding_20 fl_RX12_62 ⟨rfl, Or.inr ⟨rfl, by decide⟩⟩ (aFv_k rfl) ?_
  refine w_iload_n 2 dX12_holding_23 rfl rfl ?_
  replace h := e_grd h; obtain ⟨b1, h⟩ := h
  refine w_iaload dX12_holding_24 ⟨rfl, Or.inr ⟨rfl, by decide⟩⟩ b1 ?_
  refine w_icmp_ge 135 dX12_holding_25 (by decide) (fun c2 => ?_) (fun c2 => ?_)
  · replace h := e_t c2 h
    refine w_iload_n 1 dX12_holding_135 rfl rfl ?_
    refine w_iload_n 3 dX12_holding_136 rfl rfl ?_
    refine w_if_eq 146 dX12_holding_137 (by decide) (fun c3 => ?_) (fun c3 => ?_)
    · replace h := e_t c3 h
      refine w_iconst (v := 0) dX12_holding_146 (by decide) ?_
      refine w_sub [0, 2] rfl ?_
      exact l_X12_holding_147 rec4 hrec4 _ _ _ _ _ h
    · replace h := e_f c3 h
      refine w_iconst (v := 1) dX12_holding_140 (by decide) ?_
      refine w_iload_n 2 dX12_holding_141 rfl rfl ?_
      refine w_ishl dX12_holding_142 ?_
      refine w_goto 147 dX12_holding_143 (by decide) ?_
      refine w_sub [0, 2] rfl ?_
      exact l_X12_holding_147 rec4 hrec4 _ _ _ _ _ h
  · replace h := e_f c2 h
    refine w_bipush (v := 12) dX12_holding_28 (by decide) ?_
    refine w_iload_n 2 dX12_holding_30 rfl rfl ?_
    refine w_imul dX12_holding_31 ?_
    refine w_iconst (v := 3) dX12_holding_32 (by decide) ?_
    refine w_iload 4 dX12_holding_33 rfl ?_
    refine w_imul dX12_holding_35 ?_
    refine w_iadd dX12_holding_36 ?_
    refine w_istore dX12_holding_37 (by decide) rfl ?_
    refine w_aload_n 1 ((some (57))) dX12_holding_39 rfl rfl ?_
    refine w_get (v := va_rf (some 69)) dX12_holding_40 fl_RX12_56 ⟨rfl, Or.inr ⟨rfl, by decide⟩⟩ (aFv_k rfl) ?_
    refine w_aload_n 1 ((some (57))) dX12_holding_43 rfl rfl ?_
    refine w_get (v := va_rf (some 72)) dX12_holding_44 fl_RX12_65 ⟨rfl, Or.inr ⟨rfl, by decide⟩⟩ (aFv_k rfl) ?_
    refine w_iload 0 dX12_holding_47 rfl ?_
    replace h := e_grd h; obtain ⟨b4, h⟩ := h
    refine w_iaload dX12_holding_49 ⟨rfl, Or.inr ⟨rfl, by decide⟩⟩ b4 ?_
    replace h := e_grd h; obtain ⟨b5, h⟩ := h
    refine w_iaload dX12_holding_50 ⟨rfl, Or.inr ⟨rfl, by decide⟩⟩ b5 ?_
    refine w_istore dX12_holding_51 (by decide) rfl ?_
    refine w_aload_n 2 ((some (57))) dX12_holding_53 rfl rfl ?_
    refine w_get (v := va_rf (some 72)) dX12_holding_54 fl_RX12_65 ⟨rfl, Or.inr ⟨rfl, by decide⟩⟩ (aFv_k rfl) ?_
    refine w_iload 1 dX12_holding_57 rfl ?_
    refine w_iconst (v := 2) dX12_holding_59 (by decide) ?_
    refine w_iadd dX12_holding_60 ?_
    replace h := e_grd h; obtain ⟨b6, h⟩ := h
    refine w_iaload dX12_holding_61 ⟨rfl, Or.inr ⟨rfl, by decide⟩⟩ b6 ?_
    refine w_istore dX12_holding_62 (by decide) rfl ?_
    refine w_iload_n 6 dX12_holding_64 rfl rfl ?_
    refine w_if_eq 127 dX12_holding_65 (by decide) (fun c7 => ?_) (fun c7 => ?_)
    · replace h := e_t c7 h
      refine w_sub [3, 4, 5, 7] rfl ?_
      exact l_X12_holding_127 rec4 hrec4 rec17 hrec17 _ _ _ _ _ h
    · replace h := e_f c7 h
      refine w_aload_n 3 ((some (57))) dX12_holding_68 rfl rfl ?_
      refine w_get (v := va_rf (some 72)) dX12_holding_69 fl_RX12_65 ⟨rfl, Or.inr ⟨rfl, by decide⟩⟩ (aFv_k rfl) ?_
      refine w_iload 2 dX12_holding_72 rfl ?_
      refine w_iconst (v := 1) dX12_holding_74 (by decide) ?_
      refine w_iadd dX12_holding_75 ?_
      replace h := e_grd h; obtain ⟨b8, h⟩ := h
      refine w_iaload dX12_holding_76 ⟨rfl, Or.inr ⟨rfl, by decide⟩⟩ b8 ?_
      refine w_bipush (v := 60) dX12_holding_77 (by decide) ?_
      refine w_icmp_ne 92 dX12_holding_79 (by decide) (fun c9 => ?_) (fun c9 => ?_)
      · replace h := e_f c9 h
        refine w_aload_n 3 ((some (57))) dX12_holding_92 rfl rfl ?_
        refine w_get (v := va_rf (some 72)) dX12_holding_93 fl_RX12_65 ⟨rfl, Or.inr ⟨rfl, by decide⟩⟩ (aFv_k rfl) ?_
        refine w_iload 2 dX12_holding_96 rfl ?_
        refine w_iconst (v := 1) dX12_holding_98 (by decide) ?_
        refine w_iadd dX12_holding_99 ?_
        replace h := e_grd h; obtain ⟨b10, h⟩ := h
        refine w_iaload dX12_holding_100 ⟨rfl, Or.inr ⟨rfl, by decide⟩⟩ b10 ?_
        refine w_bipush (v := 62) dX12_holding_101 (by decide) ?_
        refine w_icmp_ne 116 dX12_holding_103 (by decide) (fun c11 => ?_) (fun c11 => ?_)
        · replace h := e_f c11 h
          refine w_iload 1 dX12_holding_116 rfl ?_
          refine w_iload 0 dX12_holding_118 rfl ?_
          refine w_icmp_ne 127 dX12_holding_120 (by decide) (fun c12 => ?_) (fun c12 => ?_)
          · replace h := e_f c12 h
            refine w_sub [3, 4, 5, 7] rfl ?_
            exact l_X12_holding_127 rec4 hrec4 rec17 hrec17 _ _ _ _ _ h
          · replace h := e_t c12 h
            refine w_sub [3, 4, 5, 7] rfl ?_
            exact l_X12_holding_123 rec4 hrec4 rec17 hrec17 _ _ _ _ _ h
        · replace h := e_t c11 h
          refine w_iload 1 dX12_holding_106 rfl ?_
          refine w_iload 0 dX12_holding_108 rfl ?_
          refine w_icmp_le 127 dX12_holding_110 (by decide) (fun c13 => ?_) (fun c13 => ?_)
          · replace h := e_t c13 h
            refine w_sub [3, 4, 5, 7] rfl ?_
            exact l_X12_holding_127 rec4 hrec4 rec17 hrec17 _ _ _ _ _ h
          · replace h := e_f c13 h
            refine w_goto 123 dX12_holding_113 (by decide) ?_
            refine w_sub [3, 4, 5, 7] rfl ?_
            exact l_X12_holding_123 rec4 hrec4 rec17 hrec17 _ _ _ _ _ h
      · replace h := e_t c9 h
        refine w_iload 1 dX12_holding_82 rfl ?_
        refine w_iload 0 dX12_holding_84 rfl ?_
        refine w_icmp_ge 127 dX12_holding_86 (by decide) (fun c14 => ?_) (fun c14 => ?_)
        · replace h := e_t c14 h
          refine w_sub [3, 4, 5, 7] rfl ?_
          exact l_X12_holding_127 rec4 hrec4 rec17 hrec17 _ _ _ _ _ h
        · replace h := e_f c14 h
          refine w_goto 123 dX12_holding_89 (by decide) ?_
          refine w_sub [3, 4, 5, 7] rfl ?_
          exact l_X12_holding_123 rec4 hrec4 rec17 hrec17 _ _ _ _ _ h
theorem l_X12_holding_17 (rec4 : Int32 → Int32 → aSt → Option (Int32 × aSt)) (hrec4 : ∀ (x1 : Int32) (x2 : Int32) (σ : aSt) (o : Int32 × aSt), rec4 x1 x2 σ = some o → AW true m_X12_holding 4 [(0, va_rf (some (57))), (1, Value.int (x1)), (2, Value.int (x2))] [] σ 0 0 (some (.int o.1)) o.2) : ∀ (n : Nat) (x1 : Int32) (x2 : Int32) (x3 : Int32) (x4 : Int32) (σ : aSt) (o : Int32 × aSt), f_X12_holding_17 rec4 n x1 x2 x3 x4 σ = some o → AW true m_X12_holding 17 [(0, va_rf (some (57))), (1, Value.int (x1)), (2, Value.int (x2)), (3, Value.int (x3)), (4, Value.int (x4))] [] σ 0 0 (some (.int o.1)) o.2
  | 0 => fun x1 x2 x3 x4 σ o h => by cases h
  | n + 1 => fun x1 x2 x3 x4 σ o h => l_X12_holding_17_b rec4 hrec4 (f_X12_holding_17 rec4 n) (l_X12_holding_17 rec4 hrec4 n) x1 x2 x3 x4 σ o h
set_option maxRecDepth 100000 in
set_option maxHeartbeats 4000000 in
theorem l_X12_holding_4_b (rec4 : Int32 → Int32 → aSt → Option (Int32 × aSt)) (hrec4 : ∀ (x1 : Int32) (x2 : Int32) (σ : aSt) (o : Int32 × aSt), rec4 x1 x2 σ = some o → AW true m_X12_holding 4 [(0, va_rf (some (57))), (1, Value.int (x1)), (2, Value.int (x2))] [] σ 0 0 (some (.int o.1)) o.2) (x1 : Int32) (x2 : Int32) (σ : aSt) (o : Int32 × aSt) (h : f_X12_holding_4_b rec4 x1 x2 σ = some o) : AW true m_X12_holding 4 [(0, va_rf (some (57))), (1, Value.int (x1)), (2, Value.int (x2))] [] σ 0 0 (some (.int o.1)) o.2 := by
  unfold f_X12_holding_4_b at h
  refine w_iload_n 2 dX12_holding_4 rfl rfl ?_
  refine w_aload_n 0 ((some (57))) dX12_holding_5 rfl rfl ?_
  refine w_get dX12_holding_6 fl_RX12_292 ⟨rfl, Or.inr ⟨rfl, by decide⟩⟩ (aFv_i rfl) ?_
  refine w_icmp_ge 155 dX12_holding_9 (by decide) (fun c15 => ?_) (fun c15 => ?_)
  · replace h := e_t c15 h
    refine w_iload_n 1 dX12_holding_155 rfl rfl ?_
    obtain rfl := Option.some.inj h
    exact w_ireturn dX12_holding_156 rfl (Nat.le_of_ble_eq_true rfl) (Nat.le_of_ble_eq_true rfl)
  · replace h := e_f c15 h
    refine w_iconst (v := 1) dX12_holding_12 (by decide) ?_
    refine w_istore_n dX12_holding_13 rfl (by decide) rfl ?_
    refine w_iconst (v := 0) dX12_holding_14 (by decide) ?_
    refine w_istore dX12_holding_15 (by decide) rfl ?_
    refine w_sub [2, 3, 4, 1, 0] rfl ?_
    exact l_X12_holding_17 rec4 hrec4 aN _ _ _ _ _ _ h
theorem l_X12_holding_4  : ∀ (n : Nat) (x1 : Int32) (x2 : Int32) (σ : aSt) (o : Int32 × aSt), f_X12_holding_4  n x1 x2 σ = some o → AW true m_X12_holding 4 [(0, va_rf (some (57))), (1, Value.int (x1)), (2, Value.int (x2))] [] σ 0 0 (some (.int o.1)) o.2
  | 0 => fun x1 x2 σ o h => by cases h
  | n + 1 => fun x1 x2 σ o h => l_X12_holding_4_b (f_X12_holding_4  n) (l_X12_holding_4  n) x1 x2 σ o h
set_option maxRecDepth 100000 in
set_option maxHeartbeats 4000000 in
theorem c_X12_holding  (σ : aSt) (o : Int32 × aSt) (h : f_X12_holding  σ = some o) : AM true m_X12_holding [va_rf (some (57))] σ (some (.int o.1)) o.2 := by
  refine AM_of2 (lv := [(0, va_rf (some (57)))]) (by decide +kernel) rfl (Nat.le_of_ble_eq_true rfl) ?_
  unfold f_X12_holding at h
  refine w_iconst (v := 0) dX12_holding_0 (by decide) ?_
  refine w_istore_n dX12_holding_1 rfl (by decide) rfl ?_
  refine w_iconst (v := 0) dX12_holding_2 (by decide) ?_
  refine w_istore_n dX12_holding_3 rfl (by decide) rfl ?_
  refine w_sub [2, 1, 0] rfl ?_
  exact l_X12_holding_4 aN _ _ _ _ h
theorem dX12_setOf_0 : decode cX12_setOf 0 = .ok (.aload_n 0, 1) := by decide +kernel
theorem dX12_setOf_1 : decode cX12_setOf 1 = .ok (.iload_n 1, 1) := by decide +kernel
theorem dX12_setOf_2 : decode cX12_setOf 2 = .ok (.iload_n 2, 1) := by decide +kernel
theorem dX12_setOf_3 : decode cX12_setOf 3 = .ok (.iload_n 3, 1) := by decide +kernel
theorem dX12_setOf_4 : decode cX12_setOf 4 = .ok (.invokevirtual 177, 3) := by decide +kernel
theorem dX12_setOf_7 : decode cX12_setOf 7 = .ok (.aload_n 0, 1) := by decide +kernel
theorem dX12_setOf_8 : decode cX12_setOf 8 = .ok (.invokevirtual 295, 3) := by decide +kernel
theorem dX12_setOf_11 : decode cX12_setOf 11 = .ok (.ireturn, 1) := by decide +kernel
theorem kd_X12_setOf : aKd m_X12_setOf 3 := ⟨wd_36_7, wd_1_5, ⟨by decide +kernel, by decide +kernel, by decide +kernel⟩⟩
set_option maxRecDepth 100000 in
set_option maxHeartbeats 4000000 in
theorem c_X12_setOf (p1 : Int32) (p2 : Int32) (p3 : Int32) (σ : aSt) (o : Int32 × aSt) (h : f_X12_setOf p1 p2 p3 σ = some o) : AM true m_X12_setOf [va_rf (some (57)), .int (p1), .int (p2), .int (p3)] σ (some (.int o.1)) o.2 := by
  refine AM_of2 (lv := [(0, va_rf (some (57))), (1, Value.int (p1)), (2, Value.int (p2)), (3, Value.int (p3))]) (by decide +kernel) rfl (Nat.le_of_ble_eq_true rfl) ?_
  unfold f_X12_setOf at h
  refine w_aload_n 0 ((some (57))) dX12_setOf_0 rfl rfl ?_
  refine w_iload_n 1 dX12_setOf_1 rfl rfl ?_
  refine w_iload_n 2 dX12_setOf_2 rfl rfl ?_
  refine w_iload_n 3 dX12_setOf_3 rfl rfl ?_
  replace h := e_bind h; obtain ⟨q1, e2, h⟩ := h
  refine w_callV0 (M2 := m_X12_features) (av := [.int (p1), .int (p2), .int (p3)]) (ci := 12) (c_X12_features _ _ _ _ _ e2) dX12_setOf_4 kd_X12_features wd_20_22 wd_20_23 wd_21_0 rfl rfl ⟨rfl, Or.inr ⟨rfl, by decide⟩⟩ rfl ⟨Nat.le_of_ble_eq_true rfl, Nat.le_of_ble_eq_true rfl, Nat.le_of_ble_eq_true rfl, Nat.le_of_ble_eq_true rfl⟩ (Nat.le_of_ble_eq_true rfl) ?_
  refine w_aload_n 0 ((some (57))) dX12_setOf_7 rfl rfl ?_
  replace h := e_bind h; obtain ⟨q3, e4, h⟩ := h
  refine w_callV1 (M2 := m_X12_holding) (av := []) (ci := 12) (c_X12_holding  _ _ e4) dX12_setOf_8 kd_X12_holding wd_36_8 wd_36_9 wd_36_10 rfl rfl ⟨rfl, Or.inr ⟨rfl, by decide⟩⟩ rfl ⟨Nat.le_of_ble_eq_true rfl, Nat.le_of_ble_eq_true rfl, Nat.le_of_ble_eq_true rfl, Nat.le_of_ble_eq_true rfl⟩ (Nat.le_of_ble_eq_true rfl) ?_
  obtain rfl := Option.some.inj h
  exact w_ireturn dX12_setOf_11 rfl (Nat.le_of_ble_eq_true rfl) (Nat.le_of_ble_eq_true rfl)
theorem dX12_weightOf_0 : decode cX12_weightOf 0 = .ok (.iconst 0, 1) := by decide +kernel
theorem dX12_weightOf_1 : decode cX12_weightOf 1 = .ok (.istore_n 2, 1) := by decide +kernel
theorem dX12_weightOf_2 : decode cX12_weightOf 2 = .ok (.iconst 0, 1) := by decide +kernel
theorem dX12_weightOf_3 : decode cX12_weightOf 3 = .ok (.istore_n 3, 1) := by decide +kernel
theorem dX12_weightOf_4 : decode cX12_weightOf 4 = .ok (.iload_n 3, 1) := by decide +kernel
theorem dX12_weightOf_5 : decode cX12_weightOf 5 = .ok (.aload_n 0, 1) := by decide +kernel
theorem dX12_weightOf_6 : decode cX12_weightOf 6 = .ok (.getfield 292, 3) := by decide +kernel
theorem dX12_weightOf_9 : decode cX12_weightOf 9 = .ok (.if_icmp .ge 31, 3) := by decide +kernel
theorem dX12_weightOf_12 : decode cX12_weightOf 12 = .ok (.iload_n 2, 1) := by decide +kernel
theorem dX12_weightOf_13 : decode cX12_weightOf 13 = .ok (.iload_n 1, 1) := by decide +kernel
theorem dX12_weightOf_14 : decode cX12_weightOf 14 = .ok (.iload_n 3, 1) := by decide +kernel
theorem dX12_weightOf_15 : decode cX12_weightOf 15 = .ok (.ishr, 1) := by decide +kernel
theorem dX12_weightOf_16 : decode cX12_weightOf 16 = .ok (.iconst 1, 1) := by decide +kernel
theorem dX12_weightOf_17 : decode cX12_weightOf 17 = .ok (.iand, 1) := by decide +kernel
theorem dX12_weightOf_18 : decode cX12_weightOf 18 = .ok (.iconst 1, 1) := by decide +kernel
theorem dX12_weightOf_19 : decode cX12_weightOf 19 = .ok (.if_icmp .ne 12, 3) := by decide +kernel
theorem dX12_weightOf_22 : decode cX12_weightOf 22 = .ok (.aload_n 0, 1) := by decide +kernel
theorem dX12_weightOf_23 : decode cX12_weightOf 23 = .ok (.getfield 59, 3) := by decide +kernel
theorem dX12_weightOf_26 : decode cX12_weightOf 26 = .ok (.iload_n 3, 1) := by decide +kernel
theorem dX12_weightOf_27 : decode cX12_weightOf 27 = .ok (.iaload, 1) := by decide +kernel
theorem dX12_weightOf_28 : decode cX12_weightOf 28 = .ok (.goto 4, 3) := by decide +kernel
theorem dX12_weightOf_31 : decode cX12_weightOf 31 = .ok (.iconst 0, 1) := by decide +kernel
theorem dX12_weightOf_32 : decode cX12_weightOf 32 = .ok (.iadd, 1) := by decide +kernel
theorem dX12_weightOf_33 : decode cX12_weightOf 33 = .ok (.istore_n 2, 1) := by decide +kernel
theorem dX12_weightOf_34 : decode cX12_weightOf 34 = .ok (.iinc 3 1, 3) := by decide +kernel
theorem dX12_weightOf_37 : decode cX12_weightOf 37 = .ok (.goto (-33), 3) := by decide +kernel
theorem dX12_weightOf_40 : decode cX12_weightOf 40 = .ok (.iload_n 2, 1) := by decide +kernel
theorem dX12_weightOf_41 : decode cX12_weightOf 41 = .ok (.ireturn, 1) := by decide +kernel
theorem kd_X12_weightOf : aKd m_X12_weightOf 1 := ⟨wd_36_15, wd_1_5, ⟨by decide +kernel, by decide +kernel, by decide +kernel⟩⟩
set_option maxRecDepth 100000 in
set_option maxHeartbeats 4000000 in
theorem l_X12_weightOf_32 (rec4 : Int32 → Int32 → Int32 → aSt → Option (Int32 × aSt)) (hrec4 : ∀ (x1 : Int32) (x2 : Int32) (x3 : Int32) (σ : aSt) (o : Int32 × aSt), rec4 x1 x2 x3 σ = some o → AW true m_X12_weightOf 4 [(0, va_rf (some (57))), (1, Value.int (x1)), (2, Value.int (x2)), (3, Value.int (x3))] [] σ 0 0 (some (.int o.1)) o.2) (x1 : Int32) (x3 : Int32) (t0 : Int32) (t1 : Int32) (σ : aSt) (o : Int32 × aSt) (h : f_X12_weightOf_32 rec4 x1 x3 t0 t1 σ = some o) : AW true m_X12_weightOf 32 [(0, va_rf (some (57))), (1, Value.int (x1)), (3, Value.int (x3))] [.int (t1), .int (t0)] σ 0 0 (some (.int o.1)) o.2 := by
  unfold f_X12_weightOf_32 at h
  refine w_iadd dX12_weightOf_32 ?_
  refine w_istore_n dX12_weightOf_33 rfl (by decide) rfl ?_
  refine w_iinc (q := 3) (v := x3 + 1) dX12_weightOf_34 rfl rfl (by decide) rfl ?_
  refine w_goto 4 dX12_weightOf_37 (by decide) ?_
  refine w_sub [2, 3, 1, 0] rfl ?_
  exact hrec4 _ _ _ _ _ h
set_option maxRecDepth 100000 in
set_option maxHeartbeats 4000000 in
theorem l_X12_weightOf_4_b (rec4 : Int32 → Int32 → Int32 → aSt → Option (Int32 × aSt)) (hrec4 : ∀ (x1 : Int32) (x2 : Int32) (x3 : Int32) (σ : aSt) (o : Int32 × aSt), rec4 x1 x2 x3 σ = some o → AW true m_X12_weightOf 4 [(0, va_rf (some (57))), (1, Value.int (x1)), (2, Value.int (x2)), (3, Value.int (x3))] [] σ 0 0 (some (.int o.1)) o.2) (x1 : Int32) (x2 : Int32) (x3 : Int32) (σ : aSt) (o : Int32 × aSt) (h : f_X12_weightOf_4_b rec4 x1 x2 x3 σ = some o) : AW true m_X12_weightOf 4 [(0, va_rf (some (57))), (1, Value.int (x1)), (2, Value.int (x2)), (3, Value.int (x3))] [] σ 0 0 (some (.int o.1)) o.2 := by
  unfold f_X12_weightOf_4_b at h
  refine w_iload_n 3 dX12_weightOf_4 rfl rfl ?_
  refine w_aload_n 0 ((some (57))) dX12_weightOf_5 rfl rfl ?_
  refine w_get dX12_weightOf_6 fl_RX12_292 ⟨rfl, Or.inr ⟨rfl, by decide⟩⟩ (aFv_i rfl) ?_
  refine w_icmp_ge 40 dX12_weightOf_9 (by decide) (fun c1 => ?_) (fun c1 => ?_)
  · replace h := e_t c1 h
    refine w_iload_n 2 dX12_weightOf_40 rfl rfl ?_
    obtain rfl := Option.some.inj h
    exact w_ireturn dX12_weightOf_41 rfl (Nat.le_of_ble_eq_true rfl) (Nat.le_of_ble_eq_true rfl)
  · replace h := e_f c1 h
    refine w_iload_n 2 dX12_weightOf_12 rfl rfl ?_
    refine w_iload_n 1 dX12_weightOf_13 rfl rfl ?_
    refine w_iload_n 3 dX12_weightOf_14 rfl rfl ?_
    refine w_ishr dX12_weightOf_15 ?_
    refine w_iconst (v := 1) dX12_weightOf_16 (by decide) ?_
    refine w_iand dX12_weightOf_17 ?_
    refine w_iconst (v := 1) dX12_weightOf_18 (by decide) ?_
    refine w_icmp_ne 31 dX12_weightOf_19 (by decide) (fun c2 => ?_) (fun c2 => ?_)
    · replace h := e_f c2 h
      refine w_iconst (v := 0) dX12_weightOf_31 (by decide) ?_
      refine w_sub [0, 1, 3] rfl ?_
      exact l_X12_weightOf_32 rec4 hrec4 _ _ _ _ _ _ h
    · replace h := e_t c2 h
      refine w_aload_n 0 ((some (57))) dX12_weightOf_22 rfl rfl ?_
      refine w_get (v := va_rf (some 70)) dX12_weightOf_23 fl_RX12_59 ⟨rfl, Or.inr ⟨rfl, by decide⟩⟩ (aFv_k rfl) ?_
      refine w_iload_n 3 dX12_weightOf_26 rfl rfl ?_
      replace h := e_grd h; obtain ⟨b3, h⟩ := h
      refine w_iaload dX12_weightOf_27 ⟨rfl, Or.inr ⟨rfl, by decide⟩⟩ b3 ?_
      refine w_goto 32 dX12_weightOf_28 (by decide) ?_
      refine w_sub [0, 1, 3] rfl ?_
      exact l_X12_weightOf_32 rec4 hrec4 _ _ _ _ _ _ h
theorem l_X12_weightOf_4  : ∀ (n : Nat) (x1 : Int32) (x2 : Int32) (x3 : Int32) (σ : aSt) (o : Int32 × aSt), f_X12_weightOf_4  n x1 x2 x3 σ = some o → AW true m_X12_weightOf 4 [(0, va_rf (some (57))), (1, Value.int (x1)), (2, Value.int (x2)), (3, Value.int (x3))] [] σ 0 0 (some (.int o.1)) o.2
  | 0 => fun x1 x2 x3 σ o h => by cases h
  | n + 1 => fun x1 x2 x3 σ o h => l_X12_weightOf_4_b (f_X12_weightOf_4  n) (l_X12_weightOf_4  n) x1 x2 x3 σ o h
set_option maxRecDepth 100000 in
set_option maxHeartbeats 4000000 in
theorem c_X12_weightOf (p1 : Int32) (σ : aSt) (o : Int32 × aSt) (h : f_X12_weightOf p1 σ = some o) : AM true m_X12_weightOf [va_rf (some (57)), .int (p1)] σ (some (.int o.1)) o.2 := by
  refine AM_of2 (lv := [(0, va_rf (some (57))), (1, Value.int (p1))]) (by decide +kernel) rfl (Nat.le_of_ble_eq_true rfl) ?_
  unfold f_X12_weightOf at h
  refine w_iconst (v := 0) dX12_weightOf_0 (by decide) ?_
  refine w_istore_n dX12_weightOf_1 rfl (by decide) rfl ?_
  refine w_iconst (v := 0) dX12_weightOf_2 (by decide) ?_
  refine w_istore_n dX12_weightOf_3 rfl (by decide) rfl ?_
  refine w_sub [2, 3, 1, 0] rfl ?_
  exact l_X12_weightOf_4 aN _ _ _ _ _ h
theorem dX12_actBy_0 : decode cX12_actBy 0 = .ok (.iload_n 1, 1) := by decide +kernel
theorem dX12_actBy_1 : decode cX12_actBy 1 = .ok (.aload_n 0, 1) := by decide +kernel
theorem dX12_actBy_2 : decode cX12_actBy 2 = .ok (.getfield 53, 3) := by decide +kernel
theorem dX12_actBy_5 : decode cX12_actBy 5 = .ok (.if_icmp .lt 7, 3) := by decide +kernel
theorem dX12_actBy_8 : decode cX12_actBy 8 = .ok (.iconst 2, 1) := by decide +kernel
theorem dX12_actBy_9 : decode cX12_actBy 9 = .ok (.goto 16, 3) := by decide +kernel
theorem dX12_actBy_12 : decode cX12_actBy 12 = .ok (.iload_n 1, 1) := by decide +kernel
theorem dX12_actBy_13 : decode cX12_actBy 13 = .ok (.aload_n 0, 1) := by decide +kernel
theorem dX12_actBy_14 : decode cX12_actBy 14 = .ok (.getfield 50, 3) := by decide +kernel
theorem dX12_actBy_17 : decode cX12_actBy 17 = .ok (.if_icmp .lt 7, 3) := by decide +kernel
theorem dX12_actBy_20 : decode cX12_actBy 20 = .ok (.iconst 1, 1) := by decide +kernel
theorem dX12_actBy_21 : decode cX12_actBy 21 = .ok (.goto 4, 3) := by decide +kernel
theorem dX12_actBy_24 : decode cX12_actBy 24 = .ok (.iconst 0, 1) := by decide +kernel
theorem dX12_actBy_25 : decode cX12_actBy 25 = .ok (.ireturn, 1) := by decide +kernel
theorem kd_X12_actBy : aKd m_X12_actBy 1 := ⟨wd_36_19, wd_1_5, ⟨by decide +kernel, by decide +kernel, by decide +kernel⟩⟩
set_option maxRecDepth 100000 in
set_option maxHeartbeats 4000000 in
theorem l_X12_actBy_25  (t0 : Int32) (σ : aSt) (o : Int32 × aSt) (h : f_X12_actBy_25  t0 σ = some o) : AW true m_X12_actBy 25 [] [.int (t0)] σ 0 0 (some (.int o.1)) o.2 := by
  unfold f_X12_actBy_25 at h
  obtain rfl := Option.some.inj h
  exact w_ireturn dX12_actBy_25 rfl (Nat.le_of_ble_eq_true rfl) (Nat.le_of_ble_eq_true rfl)
set_option maxRecDepth 100000 in
set_option maxHeartbeats 4000000 in
theorem c_X12_actBy (p1 : Int32) (σ : aSt) (o : Int32 × aSt) (h : f_X12_actBy p1 σ = some o) : AM true m_X12_actBy [va_rf (some (57)), .int (p1)] σ (some (.int o.1)) o.2 := by
  refine AM_of2 (lv := [(0, va_rf (some (57))), (1, Value.int (p1))]) (by decide +kernel) rfl (Nat.le_of_ble_eq_true rfl) ?_
  unfold f_X12_actBy at h
  refine w_iload_n 1 dX12_actBy_0 rfl rfl ?_
  refine w_aload_n 0 ((some (57))) dX12_actBy_1 rfl rfl ?_
  refine w_get dX12_actBy_2 fl_RX12_53 ⟨rfl, Or.inr ⟨rfl, by decide⟩⟩ (aFv_i rfl) ?_
  refine w_icmp_lt 12 dX12_actBy_5 (by decide) (fun c1 => ?_) (fun c1 => ?_)
  · replace h := e_t c1 h
    refine w_iload_n 1 dX12_actBy_12 rfl rfl ?_
    refine w_aload_n 0 ((some (57))) dX12_actBy_13 rfl rfl ?_
    refine w_get dX12_actBy_14 fl_RX12_50 ⟨rfl, Or.inr ⟨rfl, by decide⟩⟩ (aFv_i rfl) ?_
    refine w_icmp_lt 24 dX12_actBy_17 (by decide) (fun c2 => ?_) (fun c2 => ?_)
    · replace h := e_t c2 h
      refine w_iconst (v := 0) dX12_actBy_24 (by decide) ?_
      refine w_sub [] rfl ?_
      exact l_X12_actBy_25 _ _ _ h
    · replace h := e_f c2 h
      refine w_iconst (v := 1) dX12_actBy_20 (by decide) ?_
      refine w_goto 25 dX12_actBy_21 (by decide) ?_
      refine w_sub [] rfl ?_
      exact l_X12_actBy_25 _ _ _ h
  · replace h := e_f c1 h
    refine w_iconst (v := 2) dX12_actBy_8 (by decide) ?_
    refine w_goto 25 dX12_actBy_9 (by decide) ?_
    refine w_sub [] rfl ?_
    exact l_X12_actBy_25 _ _ _ h
theorem dX12_whyOf_0 : decode cX12_whyOf 0 = .ok (.aload_n 0, 1) := by decide +kernel
theorem dX12_whyOf_1 : decode cX12_whyOf 1 = .ok (.aload_n 0, 1) := by decide +kernel
theorem dX12_whyOf_2 : decode cX12_whyOf 2 = .ok (.iload_n 1, 1) := by decide +kernel
theorem dX12_whyOf_3 : decode cX12_whyOf 3 = .ok (.invokevirtual 302, 3) := by decide +kernel
theorem dX12_whyOf_6 : decode cX12_whyOf 6 = .ok (.invokevirtual 305, 3) := by decide +kernel
theorem dX12_whyOf_9 : decode cX12_whyOf 9 = .ok (.istore_n 2, 1) := by decide +kernel
theorem dX12_whyOf_10 : decode cX12_whyOf 10 = .ok (.iload_n 2, 1) := by decide +kernel
theorem dX12_whyOf_11 : decode cX12_whyOf 11 = .ok (.iconst 2, 1) := by decide +kernel
theorem dX12_whyOf_12 : decode cX12_whyOf 12 = .ok (.if_icmp .ne 10, 3) := by decide +kernel
theorem dX12_whyOf_15 : decode cX12_whyOf 15 = .ok (.aload_n 0, 1) := by decide +kernel
theorem dX12_whyOf_16 : decode cX12_whyOf 16 = .ok (.getfield 53, 3) := by decide +kernel
theorem dX12_whyOf_19 : decode cX12_whyOf 19 = .ok (.goto 7, 3) := by decide +kernel
theorem dX12_whyOf_22 : decode cX12_whyOf 22 = .ok (.aload_n 0, 1) := by decide +kernel
theorem dX12_whyOf_23 : decode cX12_whyOf 23 = .ok (.getfield 50, 3) := by decide +kernel
theorem dX12_whyOf_26 : decode cX12_whyOf 26 = .ok (.istore_n 3, 1) := by decide +kernel
theorem dX12_whyOf_27 : decode cX12_whyOf 27 = .ok (.ldc 126, 2) := by decide +kernel
theorem dX12_whyOf_29 : decode cX12_whyOf 29 = .ok (.istore 4, 2) := by decide +kernel
theorem dX12_whyOf_31 : decode cX12_whyOf 31 = .ok (.iconst 0, 1) := by decide +kernel
theorem dX12_whyOf_32 : decode cX12_whyOf 32 = .ok (.istore 5, 2) := by decide +kernel
theorem dX12_whyOf_34 : decode cX12_whyOf 34 = .ok (.iload 5, 2) := by decide +kernel
theorem dX12_whyOf_36 : decode cX12_whyOf 36 = .ok (.iconst 1, 1) := by decide +kernel
theorem dX12_whyOf_37 : decode cX12_whyOf 37 = .ok (.aload_n 0, 1) := by decide +kernel
theorem dX12_whyOf_38 : decode cX12_whyOf 38 = .ok (.getfield 292, 3) := by decide +kernel
theorem dX12_whyOf_41 : decode cX12_whyOf 41 = .ok (.ishl, 1) := by decide +kernel
theorem dX12_whyOf_42 : decode cX12_whyOf 42 = .ok (.if_icmp .ge 56, 3) := by decide +kernel
theorem dX12_whyOf_45 : decode cX12_whyOf 45 = .ok (.iload_n 2, 1) := by decide +kernel
theorem dX12_whyOf_46 : decode cX12_whyOf 46 = .ok (.ifCond .le 52, 3) := by decide +kernel
theorem dX12_whyOf_49 : decode cX12_whyOf 49 = .ok (.iload 5, 2) := by decide +kernel
theorem dX12_whyOf_51 : decode cX12_whyOf 51 = .ok (.iload_n 1, 1) := by decide +kernel
theorem dX12_whyOf_52 : decode cX12_whyOf 52 = .ok (.iconst (-1), 1) := by decide +kernel
theorem dX12_whyOf_53 : decode cX12_whyOf 53 = .ok (.ixor, 1) := by decide +kernel
theorem dX12_whyOf_54 : decode cX12_whyOf 54 = .ok (.iand, 1) := by decide +kernel
theorem dX12_whyOf_55 : decode cX12_whyOf 55 = .ok (.ifCond .ne 37, 3) := by decide +kernel
theorem dX12_whyOf_58 : decode cX12_whyOf 58 = .ok (.aload_n 0, 1) := by decide +kernel
theorem dX12_whyOf_59 : decode cX12_whyOf 59 = .ok (.iload 5, 2) := by decide +kernel
theorem dX12_whyOf_61 : decode cX12_whyOf 61 = .ok (.invokevirtual 302, 3) := by decide +kernel
theorem dX12_whyOf_64 : decode cX12_whyOf 64 = .ok (.iload_n 3, 1) := by decide +kernel
theorem dX12_whyOf_65 : decode cX12_whyOf 65 = .ok (.if_icmp .lt 27, 3) := by decide +kernel
theorem dX12_whyOf_68 : decode cX12_whyOf 68 = .ok (.iload 4, 2) := by decide +kernel
theorem dX12_whyOf_70 : decode cX12_whyOf 70 = .ok (.ldc 126, 2) := by decide +kernel
theorem dX12_whyOf_72 : decode cX12_whyOf 72 = .ok (.if_icmp .eq 16, 3) := by decide +kernel
theorem dX12_whyOf_75 : decode cX12_whyOf 75 = .ok (.iload 5, 2) := by decide +kernel
theorem dX12_whyOf_77 : decode cX12_whyOf 77 = .ok (.invokestatic 166, 3) := by decide +kernel
theorem dX12_whyOf_80 : decode cX12_whyOf 80 = .ok (.iload 4, 2) := by decide +kernel
theorem dX12_whyOf_82 : decode cX12_whyOf 82 = .ok (.invokestatic 166, 3) := by decide +kernel
theorem dX12_whyOf_85 : decode cX12_whyOf 85 = .ok (.if_icmp .ge 7, 3) := by decide +kernel
theorem dX12_whyOf_88 : decode cX12_whyOf 88 = .ok (.iload 5, 2) := by decide +kernel
theorem dX12_whyOf_90 : decode cX12_whyOf 90 = .ok (.istore 4, 2) := by decide +kernel
theorem dX12_whyOf_92 : decode cX12_whyOf 92 = .ok (.iinc 5 1, 3) := by decide +kernel
theorem dX12_whyOf_95 : decode cX12_whyOf 95 = .ok (.goto (-61), 3) := by decide +kernel
theorem dX12_whyOf_98 : decode cX12_whyOf 98 = .ok (.iload 4, 2) := by decide +kernel
theorem dX12_whyOf_100 : decode cX12_whyOf 100 = .ok (.ldc 126, 2) := by decide +kernel
theorem dX12_whyOf_102 : decode cX12_whyOf 102 = .ok (.if_icmp .ne 7, 3) := by decide +kernel
theorem dX12_whyOf_105 : decode cX12_whyOf 105 = .ok (.iconst 0, 1) := by decide +kernel
theorem dX12_whyOf_106 : decode cX12_whyOf 106 = .ok (.goto 5, 3) := by decide +kernel
theorem dX12_whyOf_109 : decode cX12_whyOf 109 = .ok (.iload 4, 2) := by decide +kernel
theorem dX12_whyOf_111 : decode cX12_whyOf 111 = .ok (.ireturn, 1) := by decide +kernel
theorem kd_X12_whyOf : aKd m_X12_whyOf 1 := ⟨wd_36_23, wd_1_5, ⟨by decide +kernel, by decide +kernel, by decide +kernel⟩⟩
set_option maxRecDepth 100000 in
set_option maxHeartbeats 4000000 in
theorem l_X12_whyOf_92 (rec34 : Int32 → Int32 → Int32 → Int32 → Int32 → aSt → Option (Int32 × aSt)) (hrec34 : ∀ (x1 : Int32) (x2 : Int32) (x3 : Int32) (x4 : Int32) (x5 : Int32) (σ : aSt) (o : Int32 × aSt), rec34 x1 x2 x3 x4 x5 σ = some o → AW true m_X12_whyOf 34 [(0, va_rf (some (57))), (1, Value.int (x1)), (2, Value.int (x2)), (3, Value.int (x3)), (4, Value.int (x4)), (5, Value.int (x5))] [] σ 0 0 (some (.int o.1)) o.2) (x1 : Int32) (x2 : Int32) (x3 : Int32) (x4 : Int32) (x5 : Int32) (σ : aSt) (o : Int32 × aSt) (h : f_X12_whyOf_92 rec34 x1 x2 x3 x4 x5 σ = some o) : AW true m_X12_whyOf 92 [(0, va_rf (some (57))), (1, Value.int (x1)), (2, Value.int (x2)), (3, Value.int (x3)), (4, Value.int (x4)), (5, Value.int (x5))] [] σ 0 0 (some (.int o.1)) o.2 := by
  unfold f_X12_whyOf_92 at h
  refine w_iinc (q := 5) (v := x5 + 1) dX12_whyOf_92 rfl rfl (by decide) rfl ?_
  refine w_goto 34 dX12_whyOf_95 (by decide) ?_
  refine w_sub [1, 2, 3, 4, 5, 0] rfl ?_
  exact hrec34 _ _ _ _ _ _ _ h
set_option maxRecDepth 100000 in
set_option maxHeartbeats 4000000 in
theorem l_X12_whyOf_88 (rec34 : Int32 → Int32 → Int32 → Int32 → Int32 → aSt → Option (Int32 × aSt)) (hrec34 : ∀ (x1 : Int32) (x2 : Int32) (x3 : Int32) (x4 : Int32) (x5 : Int32) (σ : aSt) (o : Int32 × aSt), rec34 x1 x2 x3 x4 x5 σ = some o → AW true m_X12_whyOf 34 [(0, va_rf (some (57))), (1, Value.int (x1)), (2, Value.int (x2)), (3, Value.int (x3)), (4, Value.int (x4)), (5, Value.int (x5))] [] σ 0 0 (some (.int o.1)) o.2) (x1 : Int32) (x2 : Int32) (x3 : Int32) (x5 : Int32) (σ : aSt) (o : Int32 × aSt) (h : f_X12_whyOf_88 rec34 x1 x2 x3 x5 σ = some o) : AW true m_X12_whyOf 88 [(0, va_rf (some (57))), (1, Value.int (x1)), (2, Value.int (x2)), (3, Value.int (x3)), (5, Value.int (x5))] [] σ 0 0 (some (.int o.1)) o.2 := by
  unfold f_X12_whyOf_88 at h
  refine w_iload 4 dX12_whyOf_88 rfl ?_
  refine w_istore dX12_whyOf_90 (by decide) rfl ?_
  refine w_sub [1, 2, 3, 4, 0, 5] rfl ?_
  exact l_X12_whyOf_92 rec34 hrec34 _ _ _ _ _ _ _ h
set_option maxRecDepth 100000 in
set_option maxHeartbeats 4000000 in
theorem l_X12_whyOf_111  (t0 : Int32) (σ : aSt) (o : Int32 × aSt) (h : f_X12_whyOf_111  t0 σ = some o) : AW true m_X12_whyOf 111 [] [.int (t0)] σ 0 0 (some (.int o.1)) o.2 := by
  unfold f_X12_whyOf_111 at h
  obtain rfl := Option.some.inj h
  exact w_ireturn dX12_whyOf_111 rfl (Nat.le_of_ble_eq_true rfl) (Nat.le_of_ble_eq_true rfl)
set_option maxRecDepth 100000 in
set_option maxHeartbeats 4000000 in
theorem l_X12_whyOf_98  (x4 : Int32) (σ : aSt) (o : Int32 × aSt) (h : f_X12_whyOf_98  x4 σ = some o) : AW true m_X12_whyOf 98 [(4, Value.int (x4))] [] σ 0 0 (some (.int o.1)) o.2 := by
  unfold f_X12_whyOf_98 at h
  refine w_iload 0 dX12_whyOf_98 rfl ?_
  refine w_ldc (v := (-1000000)) dX12_whyOf_100 wd_15_11 ?_
  refine w_icmp_ne 109 dX12_whyOf_102 (by decide) (fun c6 => ?_) (fun c6 => ?_)
  · replace h := e_f c6 h
    refine w_iload 0 dX12_whyOf_109 rfl ?_
    refine w_sub [] rfl ?_
    exact l_X12_whyOf_111 _ _ _ h
  · replace h := e_t c6 h
    refine w_iconst (v := 0) dX12_whyOf_105 (by decide) ?_
    refine w_goto 111 dX12_whyOf_106 (by decide) ?_
    refine w_sub [] rfl ?_
    exact l_X12_whyOf_111 _ _ _ h
set_option maxRecDepth 100000 in
set_option maxHeartbeats 4000000 in
theorem l_X12_whyOf_34_b (rec34 : Int32 → Int32 → Int32 → Int32 → Int32 → aSt → Option (Int32 × aSt)) (hrec34 : ∀ (x1 : Int32) (x2 : Int32) (x3 : Int32) (x4 : Int32) (x5 : Int32) (σ : aSt) (o : Int32 × aSt), rec34 x1 x2 x3 x4 x5 σ = some o → AW true m_X12_whyOf 34 [(0, va_rf (some (57))), (1, Value.int (x1)), (2, Value.int (x2)), (3, Value.int (x3)), (4, Value.int (x4)), (5, Value.int (x5))] [] σ 0 0 (some (.int o.1)) o.2) (x1 : Int32) (x2 : Int32) (x3 : Int32) (x4 : Int32) (x5 : Int32) (σ : aSt) (o : Int32 × aSt) (h : f_X12_whyOf_34_b rec34 x1 x2 x3 x4 x5 σ = some o) : AW true m_X12_whyOf 34 [(0, va_rf (some (57))), (1, Value.int (x1)), (2, Value.int (x2)), (3, Value.int (x3)), (4, Value.int (x4)), (5, Value.int (x5))] [] σ 0 0 (some (.int o.1)) o.2 := by
  unfold f_X12_whyOf_34_b at h
  refine w_iload 5 dX12_whyOf_34 rfl ?_
  refine w_iconst (v := 1) dX12_whyOf_36 (by decide) ?_
  refine w_aload_n 0 ((some (57))) dX12_whyOf_37 rfl rfl ?_
  refine w_get dX12_whyOf_38 fl_RX12_292 ⟨rfl, Or.inr ⟨rfl, by decide⟩⟩ (aFv_i rfl) ?_
  refine w_ishl dX12_whyOf_41 ?_
  refine w_icmp_ge 98 dX12_whyOf_42 (by decide) (fun c7 => ?_) (fun c7 => ?_)
  · replace h := e_t c7 h
    refine w_sub [4] rfl ?_
    exact l_X12_whyOf_98 _ _ _ h
  · replace h := e_f c7 h
    refine w_iload_n 2 dX12_whyOf_45 rfl rfl ?_
    refine w_if_le 98 dX12_whyOf_46 (by decide) (fun c8 => ?_) (fun c8 => ?_)
    · replace h := e_t c8 h
      refine w_sub [4] rfl ?_
      exact l_X12_whyOf_98 _ _ _ h
    · replace h := e_f c8 h
      refine w_iload 5 dX12_whyOf_49 rfl ?_
      refine w_iload_n 1 dX12_whyOf_51 rfl rfl ?_
      refine w_iconst (v := (-1)) dX12_whyOf_52 (by decide) ?_
      refine w_ixor dX12_whyOf_53 ?_
      refine w_iand dX12_whyOf_54 ?_
      refine w_if_ne 92 dX12_whyOf_55 (by decide) (fun c9 => ?_) (fun c9 => ?_)
      · replace h := e_f c9 h
        exact l_X12_whyOf_92 rec34 hrec34 _ _ _ _ _ _ _ h
      · replace h := e_t c9 h
        refine w_aload_n 0 ((some (57))) dX12_whyOf_58 rfl rfl ?_
        refine w_iload 5 dX12_whyOf_59 rfl ?_
        replace h := e_bind h; obtain ⟨q10, e11, h⟩ := h
        refine w_callV1 (M2 := m_X12_weightOf) (av := [.int (x5)]) (ci := 12) (c_X12_weightOf _ _ _ e11) dX12_whyOf_61 kd_X12_weightOf wd_36_12 wd_36_13 wd_36_14 rfl rfl ⟨rfl, Or.inr ⟨rfl, by decide⟩⟩ rfl ⟨Nat.le_of_ble_eq_true rfl, Nat.le_of_ble_eq_true rfl, Nat.le_of_ble_eq_true rfl, Nat.le_of_ble_eq_true rfl⟩ (Nat.le_of_ble_eq_true rfl) ?_
        refine w_iload_n 3 dX12_whyOf_64 rfl rfl ?_
        refine w_icmp_lt 92 dX12_whyOf_65 (by decide) (fun c12 => ?_) (fun c12 => ?_)
        · replace h := e_t c12 h
          exact l_X12_whyOf_92 rec34 hrec34 _ _ _ _ _ _ _ h
        · replace h := e_f c12 h
          refine w_iload 4 dX12_whyOf_68 rfl ?_
          refine w_ldc (v := (-1000000)) dX12_whyOf_70 wd_15_11 ?_
          refine w_icmp_eq 88 dX12_whyOf_72 (by decide) (fun c13 => ?_) (fun c13 => ?_)
          · replace h := e_t c13 h
            refine w_sub [0, 1, 2, 3, 5] rfl ?_
            exact l_X12_whyOf_88 rec34 hrec34 _ _ _ _ _ _ h
          · replace h := e_f c13 h
            refine w_iload 5 dX12_whyOf_75 rfl ?_
            replace h := e_bind h; obtain ⟨q14, e15, h⟩ := h
            refine w_callS1 (M2 := m_X12_bits) (av := [.int (x5)]) (c_X12_bits _ _ _ e15) dX12_whyOf_77 kd_X12_bits wd_21_6 wd_21_7 rfl rfl ⟨Nat.le_of_ble_eq_true rfl, Nat.le_of_ble_eq_true rfl, Nat.le_of_ble_eq_true rfl, Nat.le_of_ble_eq_true rfl⟩ (Nat.le_of_ble_eq_true rfl) ?_
            refine w_iload 4 dX12_whyOf_80 rfl ?_
            replace h := e_bind h; obtain ⟨q16, e17, h⟩ := h
            refine w_callS1 (M2 := m_X12_bits) (av := [.int (x4)]) (c_X12_bits _ _ _ e17) dX12_whyOf_82 kd_X12_bits wd_21_6 wd_21_7 rfl rfl ⟨Nat.le_of_ble_eq_true rfl, Nat.le_of_ble_eq_true rfl, Nat.le_of_ble_eq_true rfl, Nat.le_of_ble_eq_true rfl⟩ (Nat.le_of_ble_eq_true rfl) ?_
            refine w_icmp_ge 92 dX12_whyOf_85 (by decide) (fun c18 => ?_) (fun c18 => ?_)
            · replace h := e_t c18 h
              exact l_X12_whyOf_92 rec34 hrec34 _ _ _ _ _ _ _ h
            · replace h := e_f c18 h
              refine w_sub [0, 1, 2, 3, 5] rfl ?_
              exact l_X12_whyOf_88 rec34 hrec34 _ _ _ _ _ _ h
theorem l_X12_whyOf_34  : ∀ (n : Nat) (x1 : Int32) (x2 : Int32) (x3 : Int32) (x4 : Int32) (x5 : Int32) (σ : aSt) (o : Int32 × aSt), f_X12_whyOf_34  n x1 x2 x3 x4 x5 σ = some o → AW true m_X12_whyOf 34 [(0, va_rf (some (57))), (1, Value.int (x1)), (2, Value.int (x2)), (3, Value.int (x3)), (4, Value.int (x4)), (5, Value.int (x5))] [] σ 0 0 (some (.int o.1)) o.2
  | 0 => fun x1 x2 x3 x4 x5 σ o h => by cases h
  | n + 1 => fun x1 x2 x3 x4 x5 σ o h => l_X12_whyOf_34_b (f_X12_whyOf_34  n) (l_X12_whyOf_34  n) x1 x2 x3 x4 x5 σ o h
set_option maxRecDepth 100000 in
set_option maxHeartbeats 4000000 in
theorem l_X12_whyOf_26  (x1 : Int32) (x2 : Int32) (t0 : Int32) (σ : aSt) (o : Int32 × aSt) (h : f_X12_whyOf_26  x1 x2 t0 σ = some o) : AW true m_X12_whyOf 26 [(0, va_rf (some (57))), (1, Value.int (x1)), (2, Value.int (x2))] [.int (t0)] σ 0 0 (some (.int o.1)) o.2 := by
  unfold f_X12_whyOf_26 at h
  refine w_istore_n dX12_whyOf_26 rfl (by decide) rfl ?_
  refine w_ldc (v := (-1000000)) dX12_whyOf_27 wd_15_11 ?_
  refine w_istore dX12_whyOf_29 (by decide) rfl ?_
  refine w_iconst (v := 0) dX12_whyOf_31 (by decide) ?_
  refine w_istore dX12_whyOf_32 (by decide) rfl ?_
  refine w_sub [3, 4, 5, 2, 1, 0] rfl ?_
  exact l_X12_whyOf_34 aN _ _ _ _ _ _ _ h
set_option maxRecDepth 100000 in
set_option maxHeartbeats 4000000 in
theorem c_X12_whyOf (p1 : Int32) (σ : aSt) (o : Int32 × aSt) (h : f_X12_whyOf p1 σ = some o) : AM true m_X12_whyOf [va_rf (some (57)), .int (p1)] σ (some (.int o.1)) o.2 := by
  refine AM_of2 (lv := [(0, va_rf (some (57))), (1, Value.int (p1))]) (by decide +kernel) rfl (Nat.le_of_ble_eq_true rfl) ?_
  unfold f_X12_whyOf at h
  refine w_aload_n 0 ((some (57))) dX12_whyOf_0 rfl rfl ?_
  refine w_aload_n 0 ((some (57))) dX12_whyOf_1 rfl rfl ?_
  refine w_iload_n 1 dX12_whyOf_2 rfl rfl ?_
  replace h := e_bind h; obtain ⟨q1, e2, h⟩ := h
  refine w_callV1 (M2 := m_X12_weightOf) (av := [.int (p1)]) (ci := 12) (c_X12_weightOf _ _ _ e2) dX12_whyOf_3 kd_X12_weightOf wd_36_12 wd_36_13 wd_36_14 rfl rfl ⟨rfl, Or.inr ⟨rfl, by decide⟩⟩ rfl ⟨Nat.le_of_ble_eq_true rfl, Nat.le_of_ble_eq_true rfl, Nat.le_of_ble_eq_true rfl, Nat.le_of_ble_eq_true rfl⟩ (Nat.le_of_ble_eq_true rfl) ?_
  replace h := e_bind h; obtain ⟨q3, e4, h⟩ := h
  refine w_callV1 (M2 := m_X12_actBy) (av := [.int (q1.1)]) (ci := 12) (c_X12_actBy _ _ _ e4) dX12_whyOf_6 kd_X12_actBy wd_36_16 wd_36_17 wd_36_18 rfl rfl ⟨rfl, Or.inr ⟨rfl, by decide⟩⟩ rfl ⟨Nat.le_of_ble_eq_true rfl, Nat.le_of_ble_eq_true rfl, Nat.le_of_ble_eq_true rfl, Nat.le_of_ble_eq_true rfl⟩ (Nat.le_of_ble_eq_true rfl) ?_
  refine w_istore_n dX12_whyOf_9 rfl (by decide) rfl ?_
  refine w_iload_n 0 dX12_whyOf_10 rfl rfl ?_
  refine w_iconst (v := 2) dX12_whyOf_11 (by decide) ?_
  refine w_icmp_ne 22 dX12_whyOf_12 (by decide) (fun c5 => ?_) (fun c5 => ?_)
  · replace h := e_f c5 h
    refine w_aload_n 1 ((some (57))) dX12_whyOf_22 rfl rfl ?_
    refine w_get dX12_whyOf_23 fl_RX12_50 ⟨rfl, Or.inr ⟨rfl, by decide⟩⟩ (aFv_i rfl) ?_
    refine w_sub [1, 2, 0] rfl ?_
    exact l_X12_whyOf_26 _ _ _ _ _ h
  · replace h := e_t c5 h
    refine w_aload_n 1 ((some (57))) dX12_whyOf_15 rfl rfl ?_
    refine w_get dX12_whyOf_16 fl_RX12_53 ⟨rfl, Or.inr ⟨rfl, by decide⟩⟩ (aFv_i rfl) ?_
    refine w_goto 26 dX12_whyOf_19 (by decide) ?_
    refine w_sub [1, 2, 0] rfl ?_
    exact l_X12_whyOf_26 _ _ _ _ _ h
theorem dX12_judged_0 : decode cX12_judged 0 = .ok (.aload_n 0, 1) := by decide +kernel
theorem dX12_judged_1 : decode cX12_judged 1 = .ok (.iconst 0, 1) := by decide +kernel
theorem dX12_judged_2 : decode cX12_judged 2 = .ok (.putfield 102, 3) := by decide +kernel
theorem dX12_judged_5 : decode cX12_judged 5 = .ok (.aload_n 0, 1) := by decide +kernel
theorem dX12_judged_6 : decode cX12_judged 6 = .ok (.iload_n 1, 1) := by decide +kernel
theorem dX12_judged_7 : decode cX12_judged 7 = .ok (.invokevirtual 138, 3) := by decide +kernel
theorem dX12_judged_10 : decode cX12_judged 10 = .ok (.istore 4, 2) := by decide +kernel
theorem dX12_judged_12 : decode cX12_judged 12 = .ok (.iload 4, 2) := by decide +kernel
theorem dX12_judged_14 : decode cX12_judged 14 = .ok (.ldc 126, 2) := by decide +kernel
theorem dX12_judged_16 : decode cX12_judged 16 = .ok (.if_icmp .eq 25, 3) := by decide +kernel
theorem dX12_judged_19 : decode cX12_judged 19 = .ok (.iload_n 2, 1) := by decide +kernel
theorem dX12_judged_20 : decode cX12_judged 20 = .ok (.i2l, 1) := by decide +kernel
theorem dX12_judged_21 : decode cX12_judged 21 = .ok (.lconst 0, 1) := by decide +kernel
theorem dX12_judged_22 : decode cX12_judged 22 = .ok (.lconst 1, 1) := by decide +kernel
theorem dX12_judged_23 : decode cX12_judged 23 = .ok (.invokestatic 111, 3) := by decide +kernel
theorem dX12_judged_26 : decode cX12_judged 26 = .ok (.ifCond .eq 15, 3) := by decide +kernel
theorem dX12_judged_29 : decode cX12_judged 29 = .ok (.iload_n 3, 1) := by decide +kernel
theorem dX12_judged_30 : decode cX12_judged 30 = .ok (.i2l, 1) := by decide +kernel
theorem dX12_judged_31 : decode cX12_judged 31 = .ok (.lconst 0, 1) := by decide +kernel
theorem dX12_judged_32 : decode cX12_judged 32 = .ok (.ldc2_w 136, 3) := by decide +kernel
theorem dX12_judged_35 : decode cX12_judged 35 = .ok (.invokestatic 111, 3) := by decide +kernel
theorem dX12_judged_38 : decode cX12_judged 38 = .ok (.ifCond .ne 6, 3) := by decide +kernel
theorem dX12_judged_41 : decode cX12_judged 41 = .ok (.ldc 121, 2) := by decide +kernel
theorem dX12_judged_43 : decode cX12_judged 43 = .ok (.ireturn, 1) := by decide +kernel
theorem dX12_judged_44 : decode cX12_judged 44 = .ok (.aload_n 0, 1) := by decide +kernel
theorem dX12_judged_45 : decode cX12_judged 45 = .ok (.iload 4, 2) := by decide +kernel
theorem dX12_judged_47 : decode cX12_judged 47 = .ok (.iload_n 2, 1) := by decide +kernel
theorem dX12_judged_48 : decode cX12_judged 48 = .ok (.aload_n 0, 1) := by decide +kernel
theorem dX12_judged_49 : decode cX12_judged 49 = .ok (.getfield 31, 3) := by decide +kernel
theorem dX12_judged_52 : decode cX12_judged 52 = .ok (.iload 4, 2) := by decide +kernel
theorem dX12_judged_54 : decode cX12_judged 54 = .ok (.iaload, 1) := by decide +kernel
theorem dX12_judged_55 : decode cX12_judged 55 = .ok (.invokevirtual 298, 3) := by decide +kernel
theorem dX12_judged_58 : decode cX12_judged 58 = .ok (.istore 5, 2) := by decide +kernel
theorem dX12_judged_60 : decode cX12_judged 60 = .ok (.iload_n 3, 1) := by decide +kernel
theorem dX12_judged_61 : decode cX12_judged 61 = .ok (.ifCond .ne 12, 3) := by decide +kernel
theorem dX12_judged_64 : decode cX12_judged 64 = .ok (.aload_n 0, 1) := by decide +kernel
theorem dX12_judged_65 : decode cX12_judged 65 = .ok (.iload 5, 2) := by decide +kernel
theorem dX12_judged_67 : decode cX12_judged 67 = .ok (.invokevirtual 302, 3) := by decide +kernel
theorem dX12_judged_70 : decode cX12_judged 70 = .ok (.goto 37, 3) := by decide +kernel
theorem dX12_judged_73 : decode cX12_judged 73 = .ok (.iload_n 3, 1) := by decide +kernel
theorem dX12_judged_74 : decode cX12_judged 74 = .ok (.iconst 1, 1) := by decide +kernel
theorem dX12_judged_75 : decode cX12_judged 75 = .ok (.if_icmp .ne 16, 3) := by decide +kernel
theorem dX12_judged_78 : decode cX12_judged 78 = .ok (.aload_n 0, 1) := by decide +kernel
theorem dX12_judged_79 : decode cX12_judged 79 = .ok (.aload_n 0, 1) := by decide +kernel
theorem dX12_judged_80 : decode cX12_judged 80 = .ok (.iload 5, 2) := by decide +kernel
theorem dX12_judged_82 : decode cX12_judged 82 = .ok (.invokevirtual 302, 3) := by decide +kernel
theorem dX12_judged_85 : decode cX12_judged 85 = .ok (.invokevirtual 305, 3) := by decide +kernel
theorem dX12_judged_88 : decode cX12_judged 88 = .ok (.goto 19, 3) := by decide +kernel
theorem dX12_judged_91 : decode cX12_judged 91 = .ok (.iload_n 3, 1) := by decide +kernel
theorem dX12_judged_92 : decode cX12_judged 92 = .ok (.iconst 2, 1) := by decide +kernel
theorem dX12_judged_93 : decode cX12_judged 93 = .ok (.if_icmp .ne 8, 3) := by decide +kernel
theorem dX12_judged_96 : decode cX12_judged 96 = .ok (.iload 5, 2) := by decide +kernel
theorem dX12_judged_98 : decode cX12_judged 98 = .ok (.goto 9, 3) := by decide +kernel
theorem dX12_judged_101 : decode cX12_judged 101 = .ok (.aload_n 0, 1) := by decide +kernel
theorem dX12_judged_102 : decode cX12_judged 102 = .ok (.iload 5, 2) := by decide +kernel
theorem dX12_judged_104 : decode cX12_judged 104 = .ok (.invokevirtual 308, 3) := by decide +kernel
theorem dX12_judged_107 : decode cX12_judged 107 = .ok (.ireturn, 1) := by decide +kernel
theorem kd_X12_judged : aKd m_X12_judged 3 := ⟨wd_36_3, wd_1_5, ⟨by decide +kernel, by decide +kernel, by decide +kernel⟩⟩
set_option maxRecDepth 100000 in
set_option maxHeartbeats 4000000 in
theorem l_X12_judged_41   (σ : aSt) (o : Int32 × aSt) (h : f_X12_judged_41   σ = some o) : AW true m_X12_judged 41 [] [] σ 0 0 (some (.int o.1)) o.2 := by
  unfold f_X12_judged_41 at h
  refine w_ldc (v := (-1000001)) dX12_judged_41 wd_10_21 ?_
  obtain rfl := Option.some.inj h
  exact w_ireturn dX12_judged_43 rfl (Nat.le_of_ble_eq_true rfl) (Nat.le_of_ble_eq_true rfl)
set_option maxRecDepth 100000 in
set_option maxHeartbeats 4000000 in
theorem l_X12_judged_107  (t0 : Int32) (σ : aSt) (o : Int32 × aSt) (h : f_X12_judged_107  t0 σ = some o) : AW true m_X12_judged 107 [] [.int (t0)] σ 0 0 (some (.int o.1)) o.2 := by
  unfold f_X12_judged_107 at h
  obtain rfl := Option.some.inj h
  exact w_ireturn dX12_judged_107 rfl (Nat.le_of_ble_eq_true rfl) (Nat.le_of_ble_eq_true rfl)
set_option maxRecDepth 100000 in
set_option maxHeartbeats 4000000 in
theorem c_X12_judged (p1 : Int32) (p2 : Int32) (p3 : Int32) (σ : aSt) (o : Int32 × aSt) (h : f_X12_judged p1 p2 p3 σ = some o) : AM true m_X12_judged [va_rf (some (57)), .int (p1), .int (p2), .int (p3)] σ (some (.int o.1)) o.2 := by
  refine AM_of2 (lv := [(0, va_rf (some (57))), (1, Value.int (p1)), (2, Value.int (p2)), (3, Value.int (p3))]) (by decide +kernel) rfl (Nat.le_of_ble_eq_true rfl) ?_
  unfold f_X12_judged at h
  refine w_aload_n 0 ((some (57))) dX12_judged_0 rfl rfl ?_
  refine w_iconst (v := 0) dX12_judged_1 (by decide) ?_
  refine w_putI dX12_judged_2 fl_RX12_102 (Or.inl rfl) rfl ⟨rfl, Or.inr ⟨rfl, by decide⟩⟩ ?_
  refine w_aload_n 0 ((some (57))) dX12_judged_5 rfl rfl ?_
  refine w_iload_n 1 dX12_judged_6 rfl rfl ?_
  replace h := e_bind h; obtain ⟨q1, e2, h⟩ := h
  refine w_callV1 (M2 := m_X12_numberOf) (av := [.int (p1)]) (ci := 12) (c_X12_numberOf _ _ _ e2) dX12_judged_7 kd_X12_numberOf wd_15_15 wd_15_16 wd_15_17 rfl rfl ⟨rfl, Or.inr ⟨rfl, by decide⟩⟩ rfl ⟨Nat.le_of_ble_eq_true rfl, Nat.le_of_ble_eq_true rfl, Nat.le_of_ble_eq_true rfl, Nat.le_of_ble_eq_true rfl⟩ (Nat.le_of_ble_eq_true rfl) ?_
  refine w_istore dX12_judged_10 (by decide) rfl ?_
  refine w_iload 0 dX12_judged_12 rfl ?_
  refine w_ldc (v := (-1000000)) dX12_judged_14 wd_15_11 ?_
  refine w_icmp_eq 41 dX12_judged_16 (by decide) (fun c3 => ?_) (fun c3 => ?_)
  · replace h := e_t c3 h
    refine w_sub [] rfl ?_
    exact l_X12_judged_41 _ _ h
  · replace h := e_f c3 h
    refine w_iload_n 3 dX12_judged_19 rfl rfl ?_
    refine w_i2l dX12_judged_20 ?_
    refine w_lconst (v := 0) dX12_judged_21 (by decide) ?_
    refine w_lconst (v := 1) dX12_judged_22 (by decide) ?_
    replace h := e_bind h; obtain ⟨q4, e5, h⟩ := h
    refine w_callS1 (M2 := m_X12_in) (av := [.long (p2.toInt64), .long (0), .long (1)]) (c_X12_in _ _ _ _ _ e5) dX12_judged_23 kd_X12_in wd_11_3 wd_11_4 rfl rfl ⟨Nat.le_of_ble_eq_true rfl, Nat.le_of_ble_eq_true rfl, Nat.le_of_ble_eq_true rfl, Nat.le_of_ble_eq_true rfl⟩ (Nat.le_of_ble_eq_true rfl) ?_
    refine w_if_eq 41 dX12_judged_26 (by decide) (fun c6 => ?_) (fun c6 => ?_)
    · replace h := e_t c6 h
      refine w_sub [] rfl ?_
      exact l_X12_judged_41 _ _ h
    · replace h := e_f c6 h
      refine w_iload_n 4 dX12_judged_29 rfl rfl ?_
      refine w_i2l dX12_judged_30 ?_
      refine w_lconst (v := 0) dX12_judged_31 (by decide) ?_
      refine w_ldc2 (v := 3) dX12_judged_32 wd_15_10 ?_
      replace h := e_bind h; obtain ⟨q7, e8, h⟩ := h
      refine w_callS1 (M2 := m_X12_in) (av := [.long (p3.toInt64), .long (0), .long (3)]) (c_X12_in _ _ _ _ _ e8) dX12_judged_35 kd_X12_in wd_11_3 wd_11_4 rfl rfl ⟨Nat.le_of_ble_eq_true rfl, Nat.le_of_ble_eq_true rfl, Nat.le_of_ble_eq_true rfl, Nat.le_of_ble_eq_true rfl⟩ (Nat.le_of_ble_eq_true rfl) ?_
      refine w_if_ne 44 dX12_judged_38 (by decide) (fun c9 => ?_) (fun c9 => ?_)
      · replace h := e_f c9 h
        refine w_aload_n 1 ((some (57))) dX12_judged_44 rfl rfl ?_
        refine w_iload 0 dX12_judged_45 rfl ?_
        refine w_iload_n 3 dX12_judged_47 rfl rfl ?_
        refine w_aload_n 1 ((some (57))) dX12_judged_48 rfl rfl ?_
        refine w_get (v := va_rf (some 65)) dX12_judged_49 fl_RX12_31 ⟨rfl, Or.inr ⟨rfl, by decide⟩⟩ (aFv_k rfl) ?_
        refine w_iload 0 dX12_judged_52 rfl ?_
        replace h := e_grd h; obtain ⟨b10, h⟩ := h
        refine w_iaload dX12_judged_54 ⟨rfl, Or.inr ⟨rfl, by decide⟩⟩ b10 ?_
        replace h := e_bind h; obtain ⟨q11, e12, h⟩ := h
        refine w_callV1 (M2 := m_X12_setOf) (av := [.int (q1.1), .int (p2), .int (gI q7.2 65 q1.1.toNatClampNeg)]) (ci := 12) (c_X12_setOf _ _ _ _ _ e12) dX12_judged_55 kd_X12_setOf wd_36_4 wd_36_5 wd_36_6 rfl rfl ⟨rfl, Or.inr ⟨rfl, by decide⟩⟩ rfl ⟨Nat.le_of_ble_eq_true rfl, Nat.le_of_ble_eq_true rfl, Nat.le_of_ble_eq_true rfl, Nat.le_of_ble_eq_true rfl⟩ (Nat.le_of_ble_eq_true rfl) ?_
        refine w_istore dX12_judged_58 (by decide) rfl ?_
        refine w_iload_n 5 dX12_judged_60 rfl rfl ?_
        refine w_if_ne 73 dX12_judged_61 (by decide) (fun c13 => ?_) (fun c13 => ?_)
        · replace h := e_f c13 h
          refine w_iload_n 5 dX12_judged_73 rfl rfl ?_
          refine w_iconst (v := 1) dX12_judged_74 (by decide) ?_
          refine w_icmp_ne 91 dX12_judged_75 (by decide) (fun c14 => ?_) (fun c14 => ?_)
          · replace h := e_f c14 h
            refine w_iload_n 5 dX12_judged_91 rfl rfl ?_
            refine w_iconst (v := 2) dX12_judged_92 (by decide) ?_
            refine w_icmp_ne 101 dX12_judged_93 (by decide) (fun c15 => ?_) (fun c15 => ?_)
            · replace h := e_f c15 h
              refine w_aload_n 2 ((some (57))) dX12_judged_101 rfl rfl ?_
              refine w_iload 0 dX12_judged_102 rfl ?_
              replace h := e_bind h; obtain ⟨q16, e17, h⟩ := h
              refine w_callV1 (M2 := m_X12_whyOf) (av := [.int (q11.1)]) (ci := 12) (c_X12_whyOf _ _ _ e17) dX12_judged_104 kd_X12_whyOf wd_36_20 wd_36_21 wd_36_22 rfl rfl ⟨rfl, Or.inr ⟨rfl, by decide⟩⟩ rfl ⟨Nat.le_of_ble_eq_true rfl, Nat.le_of_ble_eq_true rfl, Nat.le_of_ble_eq_true rfl, Nat.le_of_ble_eq_true rfl⟩ (Nat.le_of_ble_eq_true rfl) ?_
              refine w_sub [] rfl ?_
              exact l_X12_judged_107 _ _ _ h
            · replace h := e_t c15 h
              refine w_iload 0 dX12_judged_96 rfl ?_
              refine w_goto 107 dX12_judged_98 (by decide) ?_
              refine w_sub [] rfl ?_
              exact l_X12_judged_107 _ _ _ h
          · replace h := e_t c14 h
            refine w_aload_n 2 ((some (57))) dX12_judged_78 rfl rfl ?_
            refine w_aload_n 2 ((some (57))) dX12_judged_79 rfl rfl ?_
            refine w_iload 0 dX12_judged_80 rfl ?_
            replace h := e_bind h; obtain ⟨q18, e19, h⟩ := h
            refine w_callV1 (M2 := m_X12_weightOf) (av := [.int (q11.1)]) (ci := 12) (c_X12_weightOf _ _ _ e19) dX12_judged_82 kd_X12_weightOf wd_36_12 wd_36_13 wd_36_14 rfl rfl ⟨rfl, Or.inr ⟨rfl, by decide⟩⟩ rfl ⟨Nat.le_of_ble_eq_true rfl, Nat.le_of_ble_eq_true rfl, Nat.le_of_ble_eq_true rfl, Nat.le_of_ble_eq_true rfl⟩ (Nat.le_of_ble_eq_true rfl) ?_
            replace h := e_bind h; obtain ⟨q20, e21, h⟩ := h
            refine w_callV1 (M2 := m_X12_actBy) (av := [.int (q18.1)]) (ci := 12) (c_X12_actBy _ _ _ e21) dX12_judged_85 kd_X12_actBy wd_36_16 wd_36_17 wd_36_18 rfl rfl ⟨rfl, Or.inr ⟨rfl, by decide⟩⟩ rfl ⟨Nat.le_of_ble_eq_true rfl, Nat.le_of_ble_eq_true rfl, Nat.le_of_ble_eq_true rfl, Nat.le_of_ble_eq_true rfl⟩ (Nat.le_of_ble_eq_true rfl) ?_
            refine w_goto 107 dX12_judged_88 (by decide) ?_
            refine w_sub [] rfl ?_
            exact l_X12_judged_107 _ _ _ h
        · replace h := e_t c13 h
          refine w_aload_n 2 ((some (57))) dX12_judged_64 rfl rfl ?_
          refine w_iload 0 dX12_judged_65 rfl ?_
          replace h := e_bind h; obtain ⟨q22, e23, h⟩ := h
          refine w_callV1 (M2 := m_X12_weightOf) (av := [.int (q11.1)]) (ci := 12) (c_X12_weightOf _ _ _ e23) dX12_judged_67 kd_X12_weightOf wd_36_12 wd_36_13 wd_36_14 rfl rfl ⟨rfl, Or.inr ⟨rfl, by decide⟩⟩ rfl ⟨Nat.le_of_ble_eq_true rfl, Nat.le_of_ble_eq_true rfl, Nat.le_of_ble_eq_true rfl, Nat.le_of_ble_eq_true rfl⟩ (Nat.le_of_ble_eq_true rfl) ?_
          refine w_goto 107 dX12_judged_70 (by decide) ?_
          refine w_sub [] rfl ?_
          exact l_X12_judged_107 _ _ _ h
      · replace h := e_t c9 h
        refine w_sub [] rfl ?_
        exact l_X12_judged_41 _ _ h
theorem dX12_would_0 : decode cX12_would 0 = .ok (.aload_n 0, 1) := by decide +kernel
theorem dX12_would_1 : decode cX12_would 1 = .ok (.iconst 0, 1) := by decide +kernel
theorem dX12_would_2 : decode cX12_would 2 = .ok (.putfield 102, 3) := by decide +kernel
theorem dX12_would_5 : decode cX12_would 5 = .ok (.aload_n 0, 1) := by decide +kernel
theorem dX12_would_6 : decode cX12_would 6 = .ok (.iload_n 1, 1) := by decide +kernel
theorem dX12_would_7 : decode cX12_would 7 = .ok (.invokevirtual 138, 3) := by decide +kernel
theorem dX12_would_10 : decode cX12_would 10 = .ok (.istore_n 3, 1) := by decide +kernel
theorem dX12_would_11 : decode cX12_would 11 = .ok (.iload_n 3, 1) := by decide +kernel
theorem dX12_would_12 : decode cX12_would 12 = .ok (.ldc 126, 2) := by decide +kernel
theorem dX12_would_14 : decode cX12_would 14 = .ok (.if_icmp .eq 15, 3) := by decide +kernel
theorem dX12_would_17 : decode cX12_would 17 = .ok (.iload_n 2, 1) := by decide +kernel
theorem dX12_would_18 : decode cX12_would 18 = .ok (.i2l, 1) := by decide +kernel
theorem dX12_would_19 : decode cX12_would 19 = .ok (.lconst 1, 1) := by decide +kernel
theorem dX12_would_20 : decode cX12_would 20 = .ok (.ldc2_w 132, 3) := by decide +kernel
theorem dX12_would_23 : decode cX12_would 23 = .ok (.invokestatic 111, 3) := by decide +kernel
theorem dX12_would_26 : decode cX12_would 26 = .ok (.ifCond .ne 8, 3) := by decide +kernel
theorem dX12_would_29 : decode cX12_would 29 = .ok (.ldc 121, 2) := by decide +kernel
theorem dX12_would_31 : decode cX12_would 31 = .ok (.goto 18, 3) := by decide +kernel
theorem dX12_would_34 : decode cX12_would 34 = .ok (.aload_n 0, 1) := by decide +kernel
theorem dX12_would_35 : decode cX12_would 35 = .ok (.aload_n 0, 1) := by decide +kernel
theorem dX12_would_36 : decode cX12_would 36 = .ok (.aload_n 0, 1) := by decide +kernel
theorem dX12_would_37 : decode cX12_would 37 = .ok (.iload_n 3, 1) := by decide +kernel
theorem dX12_would_38 : decode cX12_would 38 = .ok (.iconst 0, 1) := by decide +kernel
theorem dX12_would_39 : decode cX12_would 39 = .ok (.iload_n 2, 1) := by decide +kernel
theorem dX12_would_40 : decode cX12_would 40 = .ok (.invokevirtual 298, 3) := by decide +kernel
theorem dX12_would_43 : decode cX12_would 43 = .ok (.invokevirtual 302, 3) := by decide +kernel
theorem dX12_would_46 : decode cX12_would 46 = .ok (.invokevirtual 305, 3) := by decide +kernel
theorem dX12_would_49 : decode cX12_would 49 = .ok (.ireturn, 1) := by decide +kernel
theorem kd_X12_would : aKd m_X12_would 2 := ⟨wd_37_13, wd_1_5, ⟨by decide +kernel, by decide +kernel, by decide +kernel⟩⟩
set_option maxRecDepth 100000 in
set_option maxHeartbeats 4000000 in
theorem l_X12_would_49  (t0 : Int32) (σ : aSt) (o : Int32 × aSt) (h : f_X12_would_49  t0 σ = some o) : AW true m_X12_would 49 [] [.int (t0)] σ 0 0 (some (.int o.1)) o.2 := by
  unfold f_X12_would_49 at h
  obtain rfl := Option.some.inj h
  exact w_ireturn dX12_would_49 rfl (Nat.le_of_ble_eq_true rfl) (Nat.le_of_ble_eq_true rfl)
set_option maxRecDepth 100000 in
set_option maxHeartbeats 4000000 in
theorem l_X12_would_29   (σ : aSt) (o : Int32 × aSt) (h : f_X12_would_29   σ = some o) : AW true m_X12_would 29 [] [] σ 0 0 (some (.int o.1)) o.2 := by
  unfold f_X12_would_29 at h
  refine w_ldc (v := (-1000001)) dX12_would_29 wd_10_21 ?_
  refine w_goto 49 dX12_would_31 (by decide) ?_
  exact l_X12_would_49 _ _ _ h
set_option maxRecDepth 100000 in
set_option maxHeartbeats 4000000 in
theorem c_X12_would (p1 : Int32) (p2 : Int32) (σ : aSt) (o : Int32 × aSt) (h : f_X12_would p1 p2 σ = some o) : AM true m_X12_would [va_rf (some (57)), .int (p1), .int (p2)] σ (some (.int o.1)) o.2 := by
  refine AM_of2 (lv := [(0, va_rf (some (57))), (1, Value.int (p1)), (2, Value.int (p2))]) (by decide +kernel) rfl (Nat.le_of_ble_eq_true rfl) ?_
  unfold f_X12_would at h
  refine w_aload_n 0 ((some (57))) dX12_would_0 rfl rfl ?_
  refine w_iconst (v := 0) dX12_would_1 (by decide) ?_
  refine w_putI dX12_would_2 fl_RX12_102 (Or.inl rfl) rfl ⟨rfl, Or.inr ⟨rfl, by decide⟩⟩ ?_
  refine w_aload_n 0 ((some (57))) dX12_would_5 rfl rfl ?_
  refine w_iload_n 1 dX12_would_6 rfl rfl ?_
  replace h := e_bind h; obtain ⟨q1, e2, h⟩ := h
  refine w_callV1 (M2 := m_X12_numberOf) (av := [.int (p1)]) (ci := 12) (c_X12_numberOf _ _ _ e2) dX12_would_7 kd_X12_numberOf wd_15_15 wd_15_16 wd_15_17 rfl rfl ⟨rfl, Or.inr ⟨rfl, by decide⟩⟩ rfl ⟨Nat.le_of_ble_eq_true rfl, Nat.le_of_ble_eq_true rfl, Nat.le_of_ble_eq_true rfl, Nat.le_of_ble_eq_true rfl⟩ (Nat.le_of_ble_eq_true rfl) ?_
  refine w_istore_n dX12_would_10 rfl (by decide) rfl ?_
  refine w_iload_n 0 dX12_would_11 rfl rfl ?_
  refine w_ldc (v := (-1000000)) dX12_would_12 wd_15_11 ?_
  refine w_icmp_eq 29 dX12_would_14 (by decide) (fun c3 => ?_) (fun c3 => ?_)
  · replace h := e_t c3 h
    refine w_sub [] rfl ?_
    exact l_X12_would_29 _ _ h
  · replace h := e_f c3 h
    refine w_iload_n 3 dX12_would_17 rfl rfl ?_
    refine w_i2l dX12_would_18 ?_
    refine w_lconst (v := 1) dX12_would_19 (by decide) ?_
    refine w_ldc2 (v := 100000) dX12_would_20 wd_15_8 ?_
    replace h := e_bind h; obtain ⟨q4, e5, h⟩ := h
    refine w_callS1 (M2 := m_X12_in) (av := [.long (p2.toInt64), .long (1), .long (100000)]) (c_X12_in _ _ _ _ _ e5) dX12_would_23 kd_X12_in wd_11_3 wd_11_4 rfl rfl ⟨Nat.le_of_ble_eq_true rfl, Nat.le_of_ble_eq_true rfl, Nat.le_of_ble_eq_true rfl, Nat.le_of_ble_eq_true rfl⟩ (Nat.le_of_ble_eq_true rfl) ?_
    refine w_if_ne 34 dX12_would_26 (by decide) (fun c6 => ?_) (fun c6 => ?_)
    · replace h := e_f c6 h
      refine w_aload_n 1 ((some (57))) dX12_would_34 rfl rfl ?_
      refine w_aload_n 1 ((some (57))) dX12_would_35 rfl rfl ?_
      refine w_aload_n 1 ((some (57))) dX12_would_36 rfl rfl ?_
      refine w_iload_n 0 dX12_would_37 rfl rfl ?_
      refine w_iconst (v := 0) dX12_would_38 (by decide) ?_
      refine w_iload_n 3 dX12_would_39 rfl rfl ?_
      replace h := e_bind h; obtain ⟨q7, e8, h⟩ := h
      refine w_callV1 (M2 := m_X12_setOf) (av := [.int (q1.1), .int (0), .int (p2)]) (ci := 12) (c_X12_setOf _ _ _ _ _ e8) dX12_would_40 kd_X12_setOf wd_36_4 wd_36_5 wd_36_6 rfl rfl ⟨rfl, Or.inr ⟨rfl, by decide⟩⟩ rfl ⟨Nat.le_of_ble_eq_true rfl, Nat.le_of_ble_eq_true rfl, Nat.le_of_ble_eq_true rfl, Nat.le_of_ble_eq_true rfl⟩ (Nat.le_of_ble_eq_true rfl) ?_
      replace h := e_bind h; obtain ⟨q9, e10, h⟩ := h
      refine w_callV1 (M2 := m_X12_weightOf) (av := [.int (q7.1)]) (ci := 12) (c_X12_weightOf _ _ _ e10) dX12_would_43 kd_X12_weightOf wd_36_12 wd_36_13 wd_36_14 rfl rfl ⟨rfl, Or.inr ⟨rfl, by decide⟩⟩ rfl ⟨Nat.le_of_ble_eq_true rfl, Nat.le_of_ble_eq_true rfl, Nat.le_of_ble_eq_true rfl, Nat.le_of_ble_eq_true rfl⟩ (Nat.le_of_ble_eq_true rfl) ?_
      replace h := e_bind h; obtain ⟨q11, e12, h⟩ := h
      refine w_callV1 (M2 := m_X12_actBy) (av := [.int (q9.1)]) (ci := 12) (c_X12_actBy _ _ _ e12) dX12_would_46 kd_X12_actBy wd_36_16 wd_36_17 wd_36_18 rfl rfl ⟨rfl, Or.inr ⟨rfl, by decide⟩⟩ rfl ⟨Nat.le_of_ble_eq_true rfl, Nat.le_of_ble_eq_true rfl, Nat.le_of_ble_eq_true rfl, Nat.le_of_ble_eq_true rfl⟩ (Nat.le_of_ble_eq_true rfl) ?_
      refine w_sub [] rfl ?_
      exact l_X12_would_49 _ _ _ h
    · replace h := e_t c6 h
      refine w_sub [] rfl ?_
      exact l_X12_would_29 _ _ h
theorem dX12_scoreOf_0 : decode cX12_scoreOf 0 = .ok (.aload_n 0, 1) := by decide +kernel
theorem dX12_scoreOf_1 : decode cX12_scoreOf 1 = .ok (.aload_n 0, 1) := by decide +kernel
theorem dX12_scoreOf_2 : decode cX12_scoreOf 2 = .ok (.iload_n 1, 1) := by decide +kernel
theorem dX12_scoreOf_3 : decode cX12_scoreOf 3 = .ok (.iload_n 2, 1) := by decide +kernel
theorem dX12_scoreOf_4 : decode cX12_scoreOf 4 = .ok (.aload_n 0, 1) := by decide +kernel
theorem dX12_scoreOf_5 : decode cX12_scoreOf 5 = .ok (.getfield 31, 3) := by decide +kernel
theorem dX12_scoreOf_8 : decode cX12_scoreOf 8 = .ok (.iload_n 1, 1) := by decide +kernel
theorem dX12_scoreOf_9 : decode cX12_scoreOf 9 = .ok (.iaload, 1) := by decide +kernel
theorem dX12_scoreOf_10 : decode cX12_scoreOf 10 = .ok (.invokevirtual 298, 3) := by decide +kernel
theorem dX12_scoreOf_13 : decode cX12_scoreOf 13 = .ok (.invokevirtual 302, 3) := by decide +kernel
theorem dX12_scoreOf_16 : decode cX12_scoreOf 16 = .ok (.ireturn, 1) := by decide +kernel
theorem kd_X12_scoreOf : aKd m_X12_scoreOf 2 := ⟨wd_38_11, wd_1_5, ⟨by decide +kernel, by decide +kernel, by decide +kernel⟩⟩
set_option maxRecDepth 100000 in
set_option maxHeartbeats 4000000 in
theorem c_X12_scoreOf (p1 : Int32) (p2 : Int32) (σ : aSt) (o : Int32 × aSt) (h : f_X12_scoreOf p1 p2 σ = some o) : AM true m_X12_scoreOf [va_rf (some (57)), .int (p1), .int (p2)] σ (some (.int o.1)) o.2 := by
  refine AM_of2 (lv := [(0, va_rf (some (57))), (1, Value.int (p1)), (2, Value.int (p2))]) (by decide +kernel) rfl (Nat.le_of_ble_eq_true rfl) ?_
  unfold f_X12_scoreOf at h
  refine w_aload_n 0 ((some (57))) dX12_scoreOf_0 rfl rfl ?_
  refine w_aload_n 0 ((some (57))) dX12_scoreOf_1 rfl rfl ?_
  refine w_iload_n 1 dX12_scoreOf_2 rfl rfl ?_
  refine w_iload_n 2 dX12_scoreOf_3 rfl rfl ?_
  refine w_aload_n 0 ((some (57))) dX12_scoreOf_4 rfl rfl ?_
  refine w_get (v := va_rf (some 65)) dX12_scoreOf_5 fl_RX12_31 ⟨rfl, Or.inr ⟨rfl, by decide⟩⟩ (aFv_k rfl) ?_
  refine w_iload_n 1 dX12_scoreOf_8 rfl rfl ?_
  replace h := e_grd h; obtain ⟨b1, h⟩ := h
  refine w_iaload dX12_scoreOf_9 ⟨rfl, Or.inr ⟨rfl, by decide⟩⟩ b1 ?_
  replace h := e_bind h; obtain ⟨q2, e3, h⟩ := h
  refine w_callV1 (M2 := m_X12_setOf) (av := [.int (p1), .int (p2), .int (gI σ 65 p1.toNatClampNeg)]) (ci := 12) (c_X12_setOf _ _ _ _ _ e3) dX12_scoreOf_10 kd_X12_setOf wd_36_4 wd_36_5 wd_36_6 rfl rfl ⟨rfl, Or.inr ⟨rfl, by decide⟩⟩ rfl ⟨Nat.le_of_ble_eq_true rfl, Nat.le_of_ble_eq_true rfl, Nat.le_of_ble_eq_true rfl, Nat.le_of_ble_eq_true rfl⟩ (Nat.le_of_ble_eq_true rfl) ?_
  replace h := e_bind h; obtain ⟨q4, e5, h⟩ := h
  refine w_callV1 (M2 := m_X12_weightOf) (av := [.int (q2.1)]) (ci := 12) (c_X12_weightOf _ _ _ e5) dX12_scoreOf_13 kd_X12_weightOf wd_36_12 wd_36_13 wd_36_14 rfl rfl ⟨rfl, Or.inr ⟨rfl, by decide⟩⟩ rfl ⟨Nat.le_of_ble_eq_true rfl, Nat.le_of_ble_eq_true rfl, Nat.le_of_ble_eq_true rfl, Nat.le_of_ble_eq_true rfl⟩ (Nat.le_of_ble_eq_true rfl) ?_
  obtain rfl := Option.some.inj h
  exact w_ireturn dX12_scoreOf_16 rfl (Nat.le_of_ble_eq_true rfl) (Nat.le_of_ble_eq_true rfl)
theorem dX12_acts_0 : decode cX12_acts 0 = .ok (.aload_n 0, 1) := by decide +kernel
theorem dX12_acts_1 : decode cX12_acts 1 = .ok (.iconst 0, 1) := by decide +kernel
theorem dX12_acts_2 : decode cX12_acts 2 = .ok (.putfield 102, 3) := by decide +kernel
theorem dX12_acts_5 : decode cX12_acts 5 = .ok (.iload_n 1, 1) := by decide +kernel
theorem dX12_acts_6 : decode cX12_acts 6 = .ok (.i2l, 1) := by decide +kernel
theorem dX12_acts_7 : decode cX12_acts 7 = .ok (.lconst 0, 1) := by decide +kernel
theorem dX12_acts_8 : decode cX12_acts 8 = .ok (.ldc2_w 136, 3) := by decide +kernel
theorem dX12_acts_11 : decode cX12_acts 11 = .ok (.invokestatic 111, 3) := by decide +kernel
theorem dX12_acts_14 : decode cX12_acts 14 = .ok (.ifCond .ne 6, 3) := by decide +kernel
theorem dX12_acts_17 : decode cX12_acts 17 = .ok (.ldc 121, 2) := by decide +kernel
theorem dX12_acts_19 : decode cX12_acts 19 = .ok (.ireturn, 1) := by decide +kernel
theorem dX12_acts_20 : decode cX12_acts 20 = .ok (.iconst 0, 1) := by decide +kernel
theorem dX12_acts_21 : decode cX12_acts 21 = .ok (.istore_n 2, 1) := by decide +kernel
theorem dX12_acts_22 : decode cX12_acts 22 = .ok (.iconst 0, 1) := by decide +kernel
theorem dX12_acts_23 : decode cX12_acts 23 = .ok (.istore_n 3, 1) := by decide +kernel
theorem dX12_acts_24 : decode cX12_acts 24 = .ok (.iload_n 3, 1) := by decide +kernel
theorem dX12_acts_25 : decode cX12_acts 25 = .ok (.aload_n 0, 1) := by decide +kernel
theorem dX12_acts_26 : decode cX12_acts 26 = .ok (.getfield 127, 3) := by decide +kernel
theorem dX12_acts_29 : decode cX12_acts 29 = .ok (.if_icmp .ge 60, 3) := by decide +kernel
theorem dX12_acts_32 : decode cX12_acts 32 = .ok (.aload_n 0, 1) := by decide +kernel
theorem dX12_acts_33 : decode cX12_acts 33 = .ok (.aload_n 0, 1) := by decide +kernel
theorem dX12_acts_34 : decode cX12_acts 34 = .ok (.iload_n 3, 1) := by decide +kernel
theorem dX12_acts_35 : decode cX12_acts 35 = .ok (.iconst 0, 1) := by decide +kernel
theorem dX12_acts_36 : decode cX12_acts 36 = .ok (.invokevirtual 311, 3) := by decide +kernel
theorem dX12_acts_39 : decode cX12_acts 39 = .ok (.invokevirtual 305, 3) := by decide +kernel
theorem dX12_acts_42 : decode cX12_acts 42 = .ok (.istore 4, 2) := by decide +kernel
theorem dX12_acts_44 : decode cX12_acts 44 = .ok (.iload_n 2, 1) := by decide +kernel
theorem dX12_acts_45 : decode cX12_acts 45 = .ok (.iload_n 1, 1) := by decide +kernel
theorem dX12_acts_46 : decode cX12_acts 46 = .ok (.iconst 3, 1) := by decide +kernel
theorem dX12_acts_47 : decode cX12_acts 47 = .ok (.if_icmp .ne 21, 3) := by decide +kernel
theorem dX12_acts_50 : decode cX12_acts 50 = .ok (.aload_n 0, 1) := by decide +kernel
theorem dX12_acts_51 : decode cX12_acts 51 = .ok (.aload_n 0, 1) := by decide +kernel
theorem dX12_acts_52 : decode cX12_acts 52 = .ok (.iload_n 3, 1) := by decide +kernel
theorem dX12_acts_53 : decode cX12_acts 53 = .ok (.iconst 1, 1) := by decide +kernel
theorem dX12_acts_54 : decode cX12_acts 54 = .ok (.invokevirtual 311, 3) := by decide +kernel
theorem dX12_acts_57 : decode cX12_acts 57 = .ok (.invokevirtual 305, 3) := by decide +kernel
theorem dX12_acts_60 : decode cX12_acts 60 = .ok (.iload 4, 2) := by decide +kernel
theorem dX12_acts_62 : decode cX12_acts 62 = .ok (.if_icmp .eq 18, 3) := by decide +kernel
theorem dX12_acts_65 : decode cX12_acts 65 = .ok (.goto 11, 3) := by decide +kernel
theorem dX12_acts_68 : decode cX12_acts 68 = .ok (.iload 4, 2) := by decide +kernel
theorem dX12_acts_70 : decode cX12_acts 70 = .ok (.iconst 2, 1) := by decide +kernel
theorem dX12_acts_71 : decode cX12_acts 71 = .ok (.iload_n 1, 1) := by decide +kernel
theorem dX12_acts_72 : decode cX12_acts 72 = .ok (.isub, 1) := by decide +kernel
theorem dX12_acts_73 : decode cX12_acts 73 = .ok (.if_icmp .ne 7, 3) := by decide +kernel
theorem dX12_acts_76 : decode cX12_acts 76 = .ok (.iconst 1, 1) := by decide +kernel
theorem dX12_acts_77 : decode cX12_acts 77 = .ok (.goto 4, 3) := by decide +kernel
theorem dX12_acts_80 : decode cX12_acts 80 = .ok (.iconst 0, 1) := by decide +kernel
theorem dX12_acts_81 : decode cX12_acts 81 = .ok (.iadd, 1) := by decide +kernel
theorem dX12_acts_82 : decode cX12_acts 82 = .ok (.istore_n 2, 1) := by decide +kernel
theorem dX12_acts_83 : decode cX12_acts 83 = .ok (.iinc 3 1, 3) := by decide +kernel
theorem dX12_acts_86 : decode cX12_acts 86 = .ok (.goto (-62), 3) := by decide +kernel
theorem dX12_acts_89 : decode cX12_acts 89 = .ok (.iload_n 2, 1) := by decide +kernel
theorem dX12_acts_90 : decode cX12_acts 90 = .ok (.ireturn, 1) := by decide +kernel
theorem kd_X12_acts : aKd m_X12_acts 1 := ⟨wd_38_7, wd_1_5, ⟨by decide +kernel, by decide +kernel, by decide +kernel⟩⟩
set_option maxRecDepth 100000 in
set_option maxHeartbeats 4000000 in
theorem l_X12_acts_81 (rec24 : Int32 → Int32 → Int32 → aSt → Option (Int32 × aSt)) (hrec24 : ∀ (x1 : Int32) (x2 : Int32) (x3 : Int32) (σ : aSt) (o : Int32 × aSt), rec24 x1 x2 x3 σ = some o → AW true m_X12_acts 24 [(0, va_rf (some (57))), (1, Value.int (x1)), (2, Value.int (x2)), (3, Value.int (x3))] [] σ 0 0 (some (.int o.1)) o.2) (x1 : Int32) (x3 : Int32) (t0 : Int32) (t1 : Int32) (σ : aSt) (o : Int32 × aSt) (h : f_X12_acts_81 rec24 x1 x3 t0 t1 σ = some o) : AW true m_X12_acts 81 [(0, va_rf (some (57))), (1, Value.int (x1)), (3, Value.int (x3))] [.int (t1), .int (t0)] σ 0 0 (some (.int o.1)) o.2 := by
  unfold f_X12_acts_81 at h
  refine w_iadd dX12_acts_81 ?_
  refine w_istore_n dX12_acts_82 rfl (by decide) rfl ?_
  refine w_iinc (q := 3) (v := x3 + 1) dX12_acts_83 rfl rfl (by decide) rfl ?_
  refine w_goto 24 dX12_acts_86 (by decide) ?_
  refine w_sub [2, 3, 1, 0] rfl ?_
  exact hrec24 _ _ _ _ _ h
set_option maxRecDepth 100000 in
set_option maxHeartbeats 4000000 in
theorem l_X12_acts_76 (rec24 : Int32 → Int32 → Int32 → aSt → Option (Int32 × aSt)) (hrec24 : ∀ (x1 : Int32) (x2 : Int32) (x3 : Int32) (σ : aSt) (o : Int32 × aSt), rec24 x1 x2 x3 σ = some o → AW true m_X12_acts 24 [(0, va_rf (some (57))), (1, Value.int (x1)), (2, Value.int (x2)), (3, Value.int (x3))] [] σ 0 0 (some (.int o.1)) o.2) (x1 : Int32) (x3 : Int32) (t0 : Int32) (σ : aSt) (o : Int32 × aSt) (h : f_X12_acts_76 rec24 x1 x3 t0 σ = some o) : AW true m_X12_acts 76 [(0, va_rf (some (57))), (1, Value.int (x1)), (3, Value.int (x3))] [.int (t0)] σ 0 0 (some (.int o.1)) o.2 := by
  unfold f_X12_acts_76 at h
  refine w_iconst (v := 1) dX12_acts_76 (by decide) ?_
  refine w_goto 81 dX12_acts_77 (by decide) ?_
  exact l_X12_acts_81 rec24 hrec24 _ _ _ _ _ _ h
set_option maxRecDepth 100000 in
set_option maxHeartbeats 4000000 in
theorem l_X12_acts_80 (rec24 : Int32 → Int32 → Int32 → aSt → Option (Int32 × aSt)) (hrec24 : ∀ (x1 : Int32) (x2 : Int32) (x3 : Int32) (σ : aSt) (o : Int32 × aSt), rec24 x1 x2 x3 σ = some o → AW true m_X12_acts 24 [(0, va_rf (some (57))), (1, Value.int (x1)), (2, Value.int (x2)), (3, Value.int (x3))] [] σ 0 0 (some (.int o.1)) o.2) (x1 : Int32) (x3 : Int32) (t0 : Int32) (σ : aSt) (o : Int32 × aSt) (h : f_X12_acts_80 rec24 x1 x3 t0 σ = some o) : AW true m_X12_acts 80 [(0, va_rf (some (57))), (1, Value.int (x1)), (3, Value.int (x3))] [.int (t0)] σ 0 0 (some (.int o.1)) o.2 := by
  unfold f_X12_acts_80 at h
  refine w_iconst (v := 0) dX12_acts_80 (by decide) ?_
  exact l_X12_acts_81 rec24 hrec24 _ _ _ _ _ _ h
set_option maxRecDepth 100000 in
set_option maxHeartbeats 4000000 in
theorem l_X12_acts_24_b (rec24 : Int32 → Int32 → Int32 → aSt → Option (Int32 × aSt)) (hrec24 : ∀ (x1 : Int32) (x2 : Int32) (x3 : Int32) (σ : aSt) (o : Int32 × aSt), rec24 x1 x2 x3 σ = some o → AW true m_X12_acts 24 [(0, va_rf (some (57))), (1, Value.int (x1)), (2, Value.int (x2)), (3, Value.int (x3))] [] σ 0 0 (some (.int o.1)) o.2) (x1 : Int32) (x2 : Int32) (x3 : Int32) (σ : aSt) (o : Int32 × aSt) (h : f_X12_acts_24_b rec24 x1 x2 x3 σ = some o) : AW true m_X12_acts 24 [(0, va_rf (some (57))), (1, Value.int (x1)), (2, Value.int (x2)), (3, Value.int (x3))] [] σ 0 0 (some (.int o.1)) o.2 := by
  unfold f_X12_acts_24_b at h
  refine w_iload_n 3 dX12_acts_24 rfl rfl ?_
  refine w_aload_n 0 ((some (57))) dX12_acts_25 rfl rfl ?_
  refine w_get dX12_acts_26 fl_RX12_127 ⟨rfl, Or.inr ⟨rfl, by decide⟩⟩ (aFv_i rfl) ?_
  refine w_icmp_ge 89 dX12_acts_29 (by decide) (fun c4 => ?_) (fun c4 => ?_)
  · replace h := e_t c4 h
    refine w_iload_n 2 dX12_acts_89 rfl rfl ?_
    obtain rfl := Option.some.inj h
    exact w_ireturn dX12_acts_90 rfl (Nat.le_of_ble_eq_true rfl) (Nat.le_of_ble_eq_true rfl)
  · replace h := e_f c4 h
    refine w_aload_n 0 ((some (57))) dX12_acts_32 rfl rfl ?_
    refine w_aload_n 0 ((some (57))) dX12_acts_33 rfl rfl ?_
    refine w_iload_n 3 dX12_acts_34 rfl rfl ?_
    refine w_iconst (v := 0) dX12_acts_35 (by decide) ?_
    replace h := e_bind h; obtain ⟨q5, e6, h⟩ := h
    refine w_callV1 (M2 := m_X12_scoreOf) (av := [.int (x3), .int (0)]) (ci := 12) (c_X12_scoreOf _ _ _ _ e6) dX12_acts_36 kd_X12_scoreOf wd_38_8 wd_38_9 wd_38_10 rfl rfl ⟨rfl, Or.inr ⟨rfl, by decide⟩⟩ rfl ⟨Nat.le_of_ble_eq_true rfl, Nat.le_of_ble_eq_true rfl, Nat.le_of_ble_eq_true rfl, Nat.le_of_ble_eq_true rfl⟩ (Nat.le_of_ble_eq_true rfl) ?_
    replace h := e_bind h; obtain ⟨q7, e8, h⟩ := h
    refine w_callV1 (M2 := m_X12_actBy) (av := [.int (q5.1)]) (ci := 12) (c_X12_actBy _ _ _ e8) dX12_acts_39 kd_X12_actBy wd_36_16 wd_36_17 wd_36_18 rfl rfl ⟨rfl, Or.inr ⟨rfl, by decide⟩⟩ rfl ⟨Nat.le_of_ble_eq_true rfl, Nat.le_of_ble_eq_true rfl, Nat.le_of_ble_eq_true rfl, Nat.le_of_ble_eq_true rfl⟩ (Nat.le_of_ble_eq_true rfl) ?_
    refine w_istore dX12_acts_42 (by decide) rfl ?_
    refine w_iload_n 3 dX12_acts_44 rfl rfl ?_
    refine w_iload_n 2 dX12_acts_45 rfl rfl ?_
    refine w_iconst (v := 3) dX12_acts_46 (by decide) ?_
    refine w_icmp_ne 68 dX12_acts_47 (by decide) (fun c9 => ?_) (fun c9 => ?_)
    · replace h := e_f c9 h
      refine w_iload 0 dX12_acts_68 rfl ?_
      refine w_iconst (v := 2) dX12_acts_70 (by decide) ?_
      refine w_iload_n 2 dX12_acts_71 rfl rfl ?_
      refine w_isub dX12_acts_72 ?_
      refine w_icmp_ne 80 dX12_acts_73 (by decide) (fun c10 => ?_) (fun c10 => ?_)
      · replace h := e_f c10 h
        refine w_sub [1, 2, 4] rfl ?_
        exact l_X12_acts_80 rec24 hrec24 _ _ _ _ _ h
      · replace h := e_t c10 h
        refine w_sub [1, 2, 4] rfl ?_
        exact l_X12_acts_76 rec24 hrec24 _ _ _ _ _ h
    · replace h := e_t c9 h
      refine w_aload_n 1 ((some (57))) dX12_acts_50 rfl rfl ?_
      refine w_aload_n 1 ((some (57))) dX12_acts_51 rfl rfl ?_
      refine w_iload_n 4 dX12_acts_52 rfl rfl ?_
      refine w_iconst (v := 1) dX12_acts_53 (by decide) ?_
      replace h := e_bind h; obtain ⟨q11, e12, h⟩ := h
      refine w_callV1 (M2 := m_X12_scoreOf) (av := [.int (x3), .int (1)]) (ci := 12) (c_X12_scoreOf _ _ _ _ e12) dX12_acts_54 kd_X12_scoreOf wd_38_8 wd_38_9 wd_38_10 rfl rfl ⟨rfl, Or.inr ⟨rfl, by decide⟩⟩ rfl ⟨Nat.le_of_ble_eq_true rfl, Nat.le_of_ble_eq_true rfl, Nat.le_of_ble_eq_true rfl, Nat.le_of_ble_eq_true rfl⟩ (Nat.le_of_ble_eq_true rfl) ?_
      replace h := e_bind h; obtain ⟨q13, e14, h⟩ := h
      refine w_callV1 (M2 := m_X12_actBy) (av := [.int (q11.1)]) (ci := 12) (c_X12_actBy _ _ _ e14) dX12_acts_57 kd_X12_actBy wd_36_16 wd_36_17 wd_36_18 rfl rfl ⟨rfl, Or.inr ⟨rfl, by decide⟩⟩ rfl ⟨Nat.le_of_ble_eq_true rfl, Nat.le_of_ble_eq_true rfl, Nat.le_of_ble_eq_true rfl, Nat.le_of_ble_eq_true rfl⟩ (Nat.le_of_ble_eq_true rfl) ?_
      refine w_iload 0 dX12_acts_60 rfl ?_
      refine w_icmp_eq 80 dX12_acts_62 (by decide) (fun c15 => ?_) (fun c15 => ?_)
      · replace h := e_t c15 h
        refine w_sub [1, 2, 4] rfl ?_
        exact l_X12_acts_80 rec24 hrec24 _ _ _ _ _ h
      · replace h := e_f c15 h
        refine w_goto 76 dX12_acts_65 (by decide) ?_
        refine w_sub [1, 2, 4] rfl ?_
        exact l_X12_acts_76 rec24 hrec24 _ _ _ _ _ h
theorem l_X12_acts_24  : ∀ (n : Nat) (x1 : Int32) (x2 : Int32) (x3 : Int32) (σ : aSt) (o : Int32 × aSt), f_X12_acts_24  n x1 x2 x3 σ = some o → AW true m_X12_acts 24 [(0, va_rf (some (57))), (1, Value.int (x1)), (2, Value.int (x2)), (3, Value.int (x3))] [] σ 0 0 (some (.int o.1)) o.2
  | 0 => fun x1 x2 x3 σ o h => by cases h
  | n + 1 => fun x1 x2 x3 σ o h => l_X12_acts_24_b (f_X12_acts_24  n) (l_X12_acts_24  n) x1 x2 x3 σ o h
set_option maxRecDepth 100000 in
set_option maxHeartbeats 4000000 in
theorem c_X12_acts (p1 : Int32) (σ : aSt) (o : Int32 × aSt) (h : f_X12_acts p1 σ = some o) : AM true m_X12_acts [va_rf (some (57)), .int (p1)] σ (some (.int o.1)) o.2 := by
  refine AM_of2 (lv := [(0, va_rf (some (57))), (1, Value.int (p1))]) (by decide +kernel) rfl (Nat.le_of_ble_eq_true rfl) ?_
  unfold f_X12_acts at h
  refine w_aload_n 0 ((some (57))) dX12_acts_0 rfl rfl ?_
  refine w_iconst (v := 0) dX12_acts_1 (by decide) ?_
  refine w_putI dX12_acts_2 fl_RX12_102 (Or.inl rfl) rfl ⟨rfl, Or.inr ⟨rfl, by decide⟩⟩ ?_
  refine w_iload_n 1 dX12_acts_5 rfl rfl ?_
  refine w_i2l dX12_acts_6 ?_
  refine w_lconst (v := 0) dX12_acts_7 (by decide) ?_
  refine w_ldc2 (v := 3) dX12_acts_8 wd_15_10 ?_
  replace h := e_bind h; obtain ⟨q1, e2, h⟩ := h
  refine w_callS1 (M2 := m_X12_in) (av := [.long (p1.toInt64), .long (0), .long (3)]) (c_X12_in _ _ _ _ _ e2) dX12_acts_11 kd_X12_in wd_11_3 wd_11_4 rfl rfl ⟨Nat.le_of_ble_eq_true rfl, Nat.le_of_ble_eq_true rfl, Nat.le_of_ble_eq_true rfl, Nat.le_of_ble_eq_true rfl⟩ (Nat.le_of_ble_eq_true rfl) ?_
  refine w_if_ne 20 dX12_acts_14 (by decide) (fun c3 => ?_) (fun c3 => ?_)
  · replace h := e_f c3 h
    refine w_iconst (v := 0) dX12_acts_20 (by decide) ?_
    refine w_istore_n dX12_acts_21 rfl (by decide) rfl ?_
    refine w_iconst (v := 0) dX12_acts_22 (by decide) ?_
    refine w_istore_n dX12_acts_23 rfl (by decide) rfl ?_
    refine w_sub [2, 3, 1, 0] rfl ?_
    exact l_X12_acts_24 aN _ _ _ _ _ h
  · replace h := e_t c3 h
    refine w_ldc (v := (-1000001)) dX12_acts_17 wd_10_21 ?_
    obtain rfl := Option.some.inj h
    exact w_ireturn dX12_acts_19 rfl (Nat.le_of_ble_eq_true rfl) (Nat.le_of_ble_eq_true rfl)
theorem dX12_verdict_0 : decode cX12_verdict 0 = .ok (.aload_n 0, 1) := by decide +kernel
theorem dX12_verdict_1 : decode cX12_verdict 1 = .ok (.iconst 0, 1) := by decide +kernel
theorem dX12_verdict_2 : decode cX12_verdict 2 = .ok (.putfield 102, 3) := by decide +kernel
theorem dX12_verdict_5 : decode cX12_verdict 5 = .ok (.aload_n 0, 1) := by decide +kernel
theorem dX12_verdict_6 : decode cX12_verdict 6 = .ok (.iload_n 1, 1) := by decide +kernel
theorem dX12_verdict_7 : decode cX12_verdict 7 = .ok (.invokevirtual 138, 3) := by decide +kernel
theorem dX12_verdict_10 : decode cX12_verdict 10 = .ok (.istore_n 3, 1) := by decide +kernel
theorem dX12_verdict_11 : decode cX12_verdict 11 = .ok (.iload_n 3, 1) := by decide +kernel
theorem dX12_verdict_12 : decode cX12_verdict 12 = .ok (.ldc 126, 2) := by decide +kernel
theorem dX12_verdict_14 : decode cX12_verdict 14 = .ok (.if_icmp .eq 13, 3) := by decide +kernel
theorem dX12_verdict_17 : decode cX12_verdict 17 = .ok (.iload_n 2, 1) := by decide +kernel
theorem dX12_verdict_18 : decode cX12_verdict 18 = .ok (.i2l, 1) := by decide +kernel
theorem dX12_verdict_19 : decode cX12_verdict 19 = .ok (.lconst 0, 1) := by decide +kernel
theorem dX12_verdict_20 : decode cX12_verdict 20 = .ok (.lconst 1, 1) := by decide +kernel
theorem dX12_verdict_21 : decode cX12_verdict 21 = .ok (.invokestatic 111, 3) := by decide +kernel
theorem dX12_verdict_24 : decode cX12_verdict 24 = .ok (.ifCond .ne 6, 3) := by decide +kernel
theorem dX12_verdict_27 : decode cX12_verdict 27 = .ok (.ldc 121, 2) := by decide +kernel
theorem dX12_verdict_29 : decode cX12_verdict 29 = .ok (.ireturn, 1) := by decide +kernel
theorem dX12_verdict_30 : decode cX12_verdict 30 = .ok (.aload_n 0, 1) := by decide +kernel
theorem dX12_verdict_31 : decode cX12_verdict 31 = .ok (.getfield 37, 3) := by decide +kernel
theorem dX12_verdict_34 : decode cX12_verdict 34 = .ok (.iload_n 3, 1) := by decide +kernel
theorem dX12_verdict_35 : decode cX12_verdict 35 = .ok (.iaload, 1) := by decide +kernel
theorem dX12_verdict_36 : decode cX12_verdict 36 = .ok (.istore 4, 2) := by decide +kernel
theorem dX12_verdict_38 : decode cX12_verdict 38 = .ok (.aload_n 0, 1) := by decide +kernel
theorem dX12_verdict_39 : decode cX12_verdict 39 = .ok (.getfield 37, 3) := by decide +kernel
theorem dX12_verdict_42 : decode cX12_verdict 42 = .ok (.iload_n 3, 1) := by decide +kernel
theorem dX12_verdict_43 : decode cX12_verdict 43 = .ok (.iload_n 2, 1) := by decide +kernel
theorem dX12_verdict_44 : decode cX12_verdict 44 = .ok (.iastore, 1) := by decide +kernel
theorem dX12_verdict_45 : decode cX12_verdict 45 = .ok (.iload 4, 2) := by decide +kernel
theorem dX12_verdict_47 : decode cX12_verdict 47 = .ok (.ireturn, 1) := by decide +kernel
theorem kd_X12_verdict : aKd m_X12_verdict 2 := ⟨wd_38_19, wd_1_5, ⟨by decide +kernel, by decide +kernel, by decide +kernel⟩⟩
set_option maxRecDepth 100000 in
set_option maxHeartbeats 4000000 in
theorem l_X12_verdict_27   (σ : aSt) (o : Int32 × aSt) (h : f_X12_verdict_27   σ = some o) : AW true m_X12_verdict 27 [] [] σ 0 0 (some (.int o.1)) o.2 := by
  unfold f_X12_verdict_27 at h
  refine w_ldc (v := (-1000001)) dX12_verdict_27 wd_10_21 ?_
  obtain rfl := Option.some.inj h
  exact w_ireturn dX12_verdict_29 rfl (Nat.le_of_ble_eq_true rfl) (Nat.le_of_ble_eq_true rfl)
set_option maxRecDepth 100000 in
set_option maxHeartbeats 4000000 in
theorem c_X12_verdict (p1 : Int32) (p2 : Int32) (σ : aSt) (o : Int32 × aSt) (h : f_X12_verdict p1 p2 σ = some o) : AM true m_X12_verdict [va_rf (some (57)), .int (p1), .int (p2)] σ (some (.int o.1)) o.2 := by
  refine AM_of2 (lv := [(0, va_rf (some (57))), (1, Value.int (p1)), (2, Value.int (p2))]) (by decide +kernel) rfl (Nat.le_of_ble_eq_true rfl) ?_
  unfold f_X12_verdict at h
  refine w_aload_n 0 ((some (57))) dX12_verdict_0 rfl rfl ?_
  refine w_iconst (v := 0) dX12_verdict_1 (by decide) ?_
  refine w_putI dX12_verdict_2 fl_RX12_102 (Or.inl rfl) rfl ⟨rfl, Or.inr ⟨rfl, by decide⟩⟩ ?_
  refine w_aload_n 0 ((some (57))) dX12_verdict_5 rfl rfl ?_
  refine w_iload_n 1 dX12_verdict_6 rfl rfl ?_
  replace h := e_bind h; obtain ⟨q1, e2, h⟩ := h
  refine w_callV1 (M2 := m_X12_numberOf) (av := [.int (p1)]) (ci := 12) (c_X12_numberOf _ _ _ e2) dX12_verdict_7 kd_X12_numberOf wd_15_15 wd_15_16 wd_15_17 rfl rfl ⟨rfl, Or.inr ⟨rfl, by decide⟩⟩ rfl ⟨Nat.le_of_ble_eq_true rfl, Nat.le_of_ble_eq_true rfl, Nat.le_of_ble_eq_true rfl, Nat.le_of_ble_eq_true rfl⟩ (Nat.le_of_ble_eq_true rfl) ?_
  refine w_istore_n dX12_verdict_10 rfl (by decide) rfl ?_
  refine w_iload_n 0 dX12_verdict_11 rfl rfl ?_
  refine w_ldc (v := (-1000000)) dX12_verdict_12 wd_15_11 ?_
  refine w_icmp_eq 27 dX12_verdict_14 (by decide) (fun c3 => ?_) (fun c3 => ?_)
  · replace h := e_t c3 h
    refine w_sub [] rfl ?_
    exact l_X12_verdict_27 _ _ h
  · replace h := e_f c3 h
    refine w_iload_n 3 dX12_verdict_17 rfl rfl ?_
    refine w_i2l dX12_verdict_18 ?_
    refine w_lconst (v := 0) dX12_verdict_19 (by decide) ?_
    refine w_lconst (v := 1) dX12_verdict_20 (by decide) ?_
    replace h := e_bind h; obtain ⟨q4, e5, h⟩ := h
    refine w_callS1 (M2 := m_X12_in) (av := [.long (p2.toInt64), .long (0), .long (1)]) (c_X12_in _ _ _ _ _ e5) dX12_verdict_21 kd_X12_in wd_11_3 wd_11_4 rfl rfl ⟨Nat.le_of_ble_eq_true rfl, Nat.le_of_ble_eq_true rfl, Nat.le_of_ble_eq_true rfl, Nat.le_of_ble_eq_true rfl⟩ (Nat.le_of_ble_eq_true rfl) ?_
    refine w_if_ne 30 dX12_verdict_24 (by decide) (fun c6 => ?_) (fun c6 => ?_)
    · replace h := e_f c6 h
      refine w_aload_n 1 ((some (57))) dX12_verdict_30 rfl rfl ?_
      refine w_get (v := va_rf (some 67)) dX12_verdict_31 fl_RX12_37 ⟨rfl, Or.inr ⟨rfl, by decide⟩⟩ (aFv_k rfl) ?_
      refine w_iload_n 0 dX12_verdict_34 rfl rfl ?_
      replace h := e_grd h; obtain ⟨b7, h⟩ := h
      refine w_iaload dX12_verdict_35 ⟨rfl, Or.inr ⟨rfl, by decide⟩⟩ b7 ?_
      refine w_istore dX12_verdict_36 (by decide) rfl ?_
      refine w_aload_n 2 ((some (57))) dX12_verdict_38 rfl rfl ?_
      refine w_get (v := va_rf (some 67)) dX12_verdict_39 fl_RX12_37 ⟨rfl, Or.inr ⟨rfl, by decide⟩⟩ (aFv_k rfl) ?_
      refine w_iload_n 1 dX12_verdict_42 rfl rfl ?_
      refine w_iload_n 4 dX12_verdict_43 rfl rfl ?_
      replace h := e_grd h; obtain ⟨b8, h⟩ := h
      refine w_iastore dX12_verdict_44 ⟨rfl, Or.inr ⟨rfl, by decide⟩⟩ b8 ?_
      refine w_iload 0 dX12_verdict_45 rfl ?_
      obtain rfl := Option.some.inj h
      exact w_ireturn dX12_verdict_47 rfl (Nat.le_of_ble_eq_true rfl) (Nat.le_of_ble_eq_true rfl)
    · replace h := e_t c6 h
      refine w_sub [] rfl ?_
      exact l_X12_verdict_27 _ _ h
theorem dX12_findQueue_0 : decode cX12_findQueue 0 = .ok (.aload_n 0, 1) := by decide +kernel
theorem dX12_findQueue_1 : decode cX12_findQueue 1 = .ok (.iconst 0, 1) := by decide +kernel
theorem dX12_findQueue_2 : decode cX12_findQueue 2 = .ok (.putfield 314, 3) := by decide +kernel
theorem dX12_findQueue_5 : decode cX12_findQueue 5 = .ok (.iconst 0, 1) := by decide +kernel
theorem dX12_findQueue_6 : decode cX12_findQueue 6 = .ok (.istore_n 1, 1) := by decide +kernel
theorem dX12_findQueue_7 : decode cX12_findQueue 7 = .ok (.iload_n 1, 1) := by decide +kernel
theorem dX12_findQueue_8 : decode cX12_findQueue 8 = .ok (.aload_n 0, 1) := by decide +kernel
theorem dX12_findQueue_9 : decode cX12_findQueue 9 = .ok (.getfield 127, 3) := by decide +kernel
theorem dX12_findQueue_12 : decode cX12_findQueue 12 = .ok (.if_icmp .ge 147, 3) := by decide +kernel
theorem dX12_findQueue_15 : decode cX12_findQueue 15 = .ok (.aload_n 0, 1) := by decide +kernel
theorem dX12_findQueue_16 : decode cX12_findQueue 16 = .ok (.getfield 40, 3) := by decide +kernel
theorem dX12_findQueue_19 : decode cX12_findQueue 19 = .ok (.iload_n 1, 1) := by decide +kernel
theorem dX12_findQueue_20 : decode cX12_findQueue 20 = .ok (.iaload, 1) := by decide +kernel
theorem dX12_findQueue_21 : decode cX12_findQueue 21 = .ok (.istore_n 2, 1) := by decide +kernel
theorem dX12_findQueue_22 : decode cX12_findQueue 22 = .ok (.aload_n 0, 1) := by decide +kernel
theorem dX12_findQueue_23 : decode cX12_findQueue 23 = .ok (.getfield 83, 3) := by decide +kernel
theorem dX12_findQueue_26 : decode cX12_findQueue 26 = .ok (.iload_n 2, 1) := by decide +kernel
theorem dX12_findQueue_27 : decode cX12_findQueue 27 = .ok (.aload_n 0, 1) := by decide +kernel
theorem dX12_findQueue_28 : decode cX12_findQueue 28 = .ok (.iload_n 2, 1) := by decide +kernel
theorem dX12_findQueue_29 : decode cX12_findQueue 29 = .ok (.iconst 0, 1) := by decide +kernel
theorem dX12_findQueue_30 : decode cX12_findQueue 30 = .ok (.invokevirtual 311, 3) := by decide +kernel
theorem dX12_findQueue_33 : decode cX12_findQueue 33 = .ok (.iastore, 1) := by decide +kernel
theorem dX12_findQueue_34 : decode cX12_findQueue 34 = .ok (.aload_n 0, 1) := by decide +kernel
theorem dX12_findQueue_35 : decode cX12_findQueue 35 = .ok (.getfield 37, 3) := by decide +kernel
theorem dX12_findQueue_38 : decode cX12_findQueue 38 = .ok (.iload_n 2, 1) := by decide +kernel
theorem dX12_findQueue_39 : decode cX12_findQueue 39 = .ok (.iaload, 1) := by decide +kernel
theorem dX12_findQueue_40 : decode cX12_findQueue 40 = .ok (.ldc 126, 2) := by decide +kernel
theorem dX12_findQueue_42 : decode cX12_findQueue 42 = .ok (.if_icmp .ne 111, 3) := by decide +kernel
theorem dX12_findQueue_45 : decode cX12_findQueue 45 = .ok (.aload_n 0, 1) := by decide +kernel
theorem dX12_findQueue_46 : decode cX12_findQueue 46 = .ok (.aload_n 0, 1) := by decide +kernel
theorem dX12_findQueue_47 : decode cX12_findQueue 47 = .ok (.getfield 83, 3) := by decide +kernel
theorem dX12_findQueue_50 : decode cX12_findQueue 50 = .ok (.iload_n 2, 1) := by decide +kernel
theorem dX12_findQueue_51 : decode cX12_findQueue 51 = .ok (.iaload, 1) := by decide +kernel
theorem dX12_findQueue_52 : decode cX12_findQueue 52 = .ok (.invokevirtual 305, 3) := by decide +kernel
theorem dX12_findQueue_55 : decode cX12_findQueue 55 = .ok (.iconst 1, 1) := by decide +kernel
theorem dX12_findQueue_56 : decode cX12_findQueue 56 = .ok (.if_icmp .ne 97, 3) := by decide +kernel
theorem dX12_findQueue_59 : decode cX12_findQueue 59 = .ok (.aload_n 0, 1) := by decide +kernel
theorem dX12_findQueue_60 : decode cX12_findQueue 60 = .ok (.getfield 314, 3) := by decide +kernel
theorem dX12_findQueue_63 : decode cX12_findQueue 63 = .ok (.istore_n 3, 1) := by decide +kernel
theorem dX12_findQueue_64 : decode cX12_findQueue 64 = .ok (.iload_n 3, 1) := by decide +kernel
theorem dX12_findQueue_65 : decode cX12_findQueue 65 = .ok (.ifCond .le 71, 3) := by decide +kernel
theorem dX12_findQueue_68 : decode cX12_findQueue 68 = .ok (.aload_n 0, 1) := by decide +kernel
theorem dX12_findQueue_69 : decode cX12_findQueue 69 = .ok (.getfield 31, 3) := by decide +kernel
theorem dX12_findQueue_72 : decode cX12_findQueue 72 = .ok (.aload_n 0, 1) := by decide +kernel
theorem dX12_findQueue_73 : decode cX12_findQueue 73 = .ok (.getfield 86, 3) := by decide +kernel
theorem dX12_findQueue_76 : decode cX12_findQueue 76 = .ok (.iload_n 3, 1) := by decide +kernel
theorem dX12_findQueue_77 : decode cX12_findQueue 77 = .ok (.iconst 1, 1) := by decide +kernel
theorem dX12_findQueue_78 : decode cX12_findQueue 78 = .ok (.isub, 1) := by decide +kernel
theorem dX12_findQueue_79 : decode cX12_findQueue 79 = .ok (.iaload, 1) := by decide +kernel
theorem dX12_findQueue_80 : decode cX12_findQueue 80 = .ok (.iaload, 1) := by decide +kernel
theorem dX12_findQueue_81 : decode cX12_findQueue 81 = .ok (.i2l, 1) := by decide +kernel
theorem dX12_findQueue_82 : decode cX12_findQueue 82 = .ok (.aload_n 0, 1) := by decide +kernel
theorem dX12_findQueue_83 : decode cX12_findQueue 83 = .ok (.getfield 83, 3) := by decide +kernel
theorem dX12_findQueue_86 : decode cX12_findQueue 86 = .ok (.aload_n 0, 1) := by decide +kernel
theorem dX12_findQueue_87 : decode cX12_findQueue 87 = .ok (.getfield 86, 3) := by decide +kernel
theorem dX12_findQueue_90 : decode cX12_findQueue 90 = .ok (.iload_n 3, 1) := by decide +kernel
theorem dX12_findQueue_91 : decode cX12_findQueue 91 = .ok (.iconst 1, 1) := by decide +kernel
theorem dX12_findQueue_92 : decode cX12_findQueue 92 = .ok (.isub, 1) := by decide +kernel
theorem dX12_findQueue_93 : decode cX12_findQueue 93 = .ok (.iaload, 1) := by decide +kernel
theorem dX12_findQueue_94 : decode cX12_findQueue 94 = .ok (.iaload, 1) := by decide +kernel
theorem dX12_findQueue_95 : decode cX12_findQueue 95 = .ok (.i2l, 1) := by decide +kernel
theorem dX12_findQueue_96 : decode cX12_findQueue 96 = .ok (.lmul, 1) := by decide +kernel
theorem dX12_findQueue_97 : decode cX12_findQueue 97 = .ok (.aload_n 0, 1) := by decide +kernel
theorem dX12_findQueue_98 : decode cX12_findQueue 98 = .ok (.getfield 31, 3) := by decide +kernel
theorem dX12_findQueue_101 : decode cX12_findQueue 101 = .ok (.iload_n 2, 1) := by decide +kernel
theorem dX12_findQueue_102 : decode cX12_findQueue 102 = .ok (.iaload, 1) := by decide +kernel
theorem dX12_findQueue_103 : decode cX12_findQueue 103 = .ok (.i2l, 1) := by decide +kernel
theorem dX12_findQueue_104 : decode cX12_findQueue 104 = .ok (.aload_n 0, 1) := by decide +kernel
theorem dX12_findQueue_105 : decode cX12_findQueue 105 = .ok (.getfield 83, 3) := by decide +kernel
theorem dX12_findQueue_108 : decode cX12_findQueue 108 = .ok (.iload_n 2, 1) := by decide +kernel
theorem dX12_findQueue_109 : decode cX12_findQueue 109 = .ok (.iaload, 1) := by decide +kernel
theorem dX12_findQueue_110 : decode cX12_findQueue 110 = .ok (.i2l, 1) := by decide +kernel
theorem dX12_findQueue_111 : decode cX12_findQueue 111 = .ok (.lmul, 1) := by decide +kernel
theorem dX12_findQueue_112 : decode cX12_findQueue 112 = .ok (.lcmp, 1) := by decide +kernel
theorem dX12_findQueue_113 : decode cX12_findQueue 113 = .ok (.ifCond .ge 23, 3) := by decide +kernel
theorem dX12_findQueue_116 : decode cX12_findQueue 116 = .ok (.aload_n 0, 1) := by decide +kernel
theorem dX12_findQueue_117 : decode cX12_findQueue 117 = .ok (.getfield 86, 3) := by decide +kernel
theorem dX12_findQueue_120 : decode cX12_findQueue 120 = .ok (.iload_n 3, 1) := by decide +kernel
theorem dX12_findQueue_121 : decode cX12_findQueue 121 = .ok (.aload_n 0, 1) := by decide +kernel
theorem dX12_findQueue_122 : decode cX12_findQueue 122 = .ok (.getfield 86, 3) := by decide +kernel
theorem dX12_findQueue_125 : decode cX12_findQueue 125 = .ok (.iload_n 3, 1) := by decide +kernel
theorem dX12_findQueue_126 : decode cX12_findQueue 126 = .ok (.iconst 1, 1) := by decide +kernel
theorem dX12_findQueue_127 : decode cX12_findQueue 127 = .ok (.isub, 1) := by decide +kernel
theorem dX12_findQueue_128 : decode cX12_findQueue 128 = .ok (.iaload, 1) := by decide +kernel
theorem dX12_findQueue_129 : decode cX12_findQueue 129 = .ok (.iastore, 1) := by decide +kernel
theorem dX12_findQueue_130 : decode cX12_findQueue 130 = .ok (.iinc 3 (-1), 3) := by decide +kernel
theorem dX12_findQueue_133 : decode cX12_findQueue 133 = .ok (.goto (-69), 3) := by decide +kernel
theorem dX12_findQueue_136 : decode cX12_findQueue 136 = .ok (.aload_n 0, 1) := by decide +kernel
theorem dX12_findQueue_137 : decode cX12_findQueue 137 = .ok (.getfield 86, 3) := by decide +kernel
theorem dX12_findQueue_140 : decode cX12_findQueue 140 = .ok (.iload_n 3, 1) := by decide +kernel
theorem dX12_findQueue_141 : decode cX12_findQueue 141 = .ok (.iload_n 2, 1) := by decide +kernel
theorem dX12_findQueue_142 : decode cX12_findQueue 142 = .ok (.iastore, 1) := by decide +kernel
theorem dX12_findQueue_143 : decode cX12_findQueue 143 = .ok (.aload_n 0, 1) := by decide +kernel
theorem dX12_findQueue_144 : decode cX12_findQueue 144 = .ok (.dup, 1) := by decide +kernel
theorem dX12_findQueue_145 : decode cX12_findQueue 145 = .ok (.getfield 314, 3) := by decide +kernel
theorem dX12_findQueue_148 : decode cX12_findQueue 148 = .ok (.iconst 1, 1) := by decide +kernel
theorem dX12_findQueue_149 : decode cX12_findQueue 149 = .ok (.iadd, 1) := by decide +kernel
theorem dX12_findQueue_150 : decode cX12_findQueue 150 = .ok (.putfield 314, 3) := by decide +kernel
theorem dX12_findQueue_153 : decode cX12_findQueue 153 = .ok (.iinc 1 1, 3) := by decide +kernel
theorem dX12_findQueue_156 : decode cX12_findQueue 156 = .ok (.goto (-149), 3) := by decide +kernel
theorem dX12_findQueue_159 : decode cX12_findQueue 159 = .ok (.return_, 1) := by decide +kernel
theorem kd_X12_findQueue : aKd m_X12_findQueue 0 := ⟨wd_39_22, wd_1_5, ⟨by decide +kernel, by decide +kernel, by decide +kernel⟩⟩
set_option maxRecDepth 100000 in
set_option maxHeartbeats 4000000 in
theorem l_X12_findQueue_153 (rec7 : Int32 → aSt → Option (Unit × aSt)) (hrec7 : ∀ (x1 : Int32) (σ : aSt) (o : Unit × aSt), rec7 x1 σ = some o → AW true m_X12_findQueue 7 [(0, va_rf (some (57))), (1, Value.int (x1))] [] σ 0 0 none o.2) (x1 : Int32) (σ : aSt) (o : Unit × aSt) (h : f_X12_findQueue_153 rec7 x1 σ = some o) : AW true m_X12_findQueue 153 [(0, va_rf (some (57))), (1, Value.int (x1))] [] σ 0 0 none o.2 := by
  unfold f_X12_findQueue_153 at h
  refine w_iinc (q := 1) (v := x1 + 1) dX12_findQueue_153 rfl rfl (by decide) rfl ?_
  refine w_goto 7 dX12_findQueue_156 (by decide) ?_
  refine w_sub [1, 0] rfl ?_
  exact hrec7 _ _ _ h
set_option maxRecDepth 100000 in
set_option maxHeartbeats 4000000 in
theorem l_X12_findQueue_136 (rec7 : Int32 → aSt → Option (Unit × aSt)) (hrec7 : ∀ (x1 : Int32) (σ : aSt) (o : Unit × aSt), rec7 x1 σ = some o → AW true m_X12_findQueue 7 [(0, va_rf (some (57))), (1, Value.int (x1))] [] σ 0 0 none o.2) (x1 : Int32) (x2 : Int32) (x3 : Int32) (σ : aSt) (o : Unit × aSt) (h : f_X12_findQueue_136 rec7 x1 x2 x3 σ = some o) : AW true m_X12_findQueue 136 [(0, va_rf (some (57))), (1, Value.int (x1)), (2, Value.int (x2)), (3, Value.int (x3))] [] σ 0 0 none o.2 := by
  unfold f_X12_findQueue_136 at h
  refine w_aload_n 0 ((some (57))) dX12_findQueue_136 rfl rfl ?_
  refine w_get (v := va_rf (some 79)) dX12_findQueue_137 fl_RX12_86 ⟨rfl, Or.inr ⟨rfl, by decide⟩⟩ (aFv_k rfl) ?_
  refine w_iload_n 3 dX12_findQueue_140 rfl rfl ?_
  refine w_iload_n 2 dX12_findQueue_141 rfl rfl ?_
  replace h := e_grd h; obtain ⟨b1, h⟩ := h
  refine w_iastore dX12_findQueue_142 ⟨rfl, Or.inr ⟨rfl, by decide⟩⟩ b1 ?_
  refine w_aload_n 0 ((some (57))) dX12_findQueue_143 rfl rfl ?_
  refine w_dup dX12_findQueue_144 (aRf_cat _) ?_
  refine w_get dX12_findQueue_145 fl_RX12_314 ⟨rfl, Or.inr ⟨rfl, by decide⟩⟩ (aFv_i rfl) ?_
  refine w_iconst (v := 1) dX12_findQueue_148 (by decide) ?_
  refine w_iadd dX12_findQueue_149 ?_
  refine w_putI dX12_findQueue_150 fl_RX12_314 (Or.inl rfl) rfl ⟨rfl, Or.inr ⟨rfl, by decide⟩⟩ ?_
  refine w_sub [0, 1] rfl ?_
  exact l_X12_findQueue_153 rec7 hrec7 _ _ _ h
set_option maxRecDepth 100000 in
set_option maxHeartbeats 4000000 in
theorem l_X12_findQueue_64_b (rec7 : Int32 → aSt → Option (Unit × aSt)) (hrec7 : ∀ (x1 : Int32) (σ : aSt) (o : Unit × aSt), rec7 x1 σ = some o → AW true m_X12_findQueue 7 [(0, va_rf (some (57))), (1, Value.int (x1))] [] σ 0 0 none o.2) (rec64 : Int32 → Int32 → Int32 → aSt → Option (Unit × aSt)) (hrec64 : ∀ (x1 : Int32) (x2 : Int32) (x3 : Int32) (σ : aSt) (o : Unit × aSt), rec64 x1 x2 x3 σ = some o → AW true m_X12_findQueue 64 [(0, va_rf (some (57))), (1, Value.int (x1)), (2, Value.int (x2)), (3, Value.int (x3))] [] σ 0 0 none o.2) (x1 : Int32) (x2 : Int32) (x3 : Int32) (σ : aSt) (o : Unit × aSt) (h : f_X12_findQueue_64_b rec7 rec64 x1 x2 x3 σ = some o) : AW true m_X12_findQueue 64 [(0, va_rf (some (57))), (1, Value.int (x1)), (2, Value.int (x2)), (3, Value.int (x3))] [] σ 0 0 none o.2 := by
  unfold f_X12_findQueue_64_b at h
  refine w_iload_n 3 dX12_findQueue_64 rfl rfl ?_
  refine w_if_le 136 dX12_findQueue_65 (by decide) (fun c2 => ?_) (fun c2 => ?_)
  · replace h := e_t c2 h
    exact l_X12_findQueue_136 rec7 hrec7 _ _ _ _ _ h
  · replace h := e_f c2 h
    refine w_aload_n 0 ((some (57))) dX12_findQueue_68 rfl rfl ?_
    refine w_get (v := va_rf (some 65)) dX12_findQueue_69 fl_RX12_31 ⟨rfl, Or.inr ⟨rfl, by decide⟩⟩ (aFv_k rfl) ?_
    refine w_aload_n 0 ((some (57))) dX12_findQueue_72 rfl rfl ?_
    refine w_get (v := va_rf (some 79)) dX12_findQueue_73 fl_RX12_86 ⟨rfl, Or.inr ⟨rfl, by decide⟩⟩ (aFv_k rfl) ?_
    refine w_iload_n 3 dX12_findQueue_76 rfl rfl ?_
    refine w_iconst (v := 1) dX12_findQueue_77 (by decide) ?_
    refine w_isub dX12_findQueue_78 ?_
    replace h := e_grd h; obtain ⟨b3, h⟩ := h
    refine w_iaload dX12_findQueue_79 ⟨rfl, Or.inr ⟨rfl, by decide⟩⟩ b3 ?_
    replace h := e_grd h; obtain ⟨b4, h⟩ := h
    refine w_iaload dX12_findQueue_80 ⟨rfl, Or.inr ⟨rfl, by decide⟩⟩ b4 ?_
    refine w_i2l dX12_findQueue_81 ?_
    refine w_aload_n 0 ((some (57))) dX12_findQueue_82 rfl rfl ?_
    refine w_get (v := va_rf (some 78)) dX12_findQueue_83 fl_RX12_83 ⟨rfl, Or.inr ⟨rfl, by decide⟩⟩ (aFv_k rfl) ?_
    refine w_aload_n 0 ((some (57))) dX12_findQueue_86 rfl rfl ?_
    refine w_get (v := va_rf (some 79)) dX12_findQueue_87 fl_RX12_86 ⟨rfl, Or.inr ⟨rfl, by decide⟩⟩ (aFv_k rfl) ?_
    refine w_iload_n 3 dX12_findQueue_90 rfl rfl ?_
    refine w_iconst (v := 1) dX12_findQueue_91 (by decide) ?_
    refine w_isub dX12_findQueue_92 ?_
    replace h := e_grd h; obtain ⟨b5, h⟩ := h
    refine w_iaload dX12_findQueue_93 ⟨rfl, Or.inr ⟨rfl, by decide⟩⟩ b5 ?_
    replace h := e_grd h; obtain ⟨b6, h⟩ := h
    refine w_iaload dX12_findQueue_94 ⟨rfl, Or.inr ⟨rfl, by decide⟩⟩ b6 ?_
    refine w_i2l dX12_findQueue_95 ?_
    refine w_lmul dX12_findQueue_96 ?_
    refine w_aload_n 0 ((some (57))) dX12_findQueue_97 rfl rfl ?_
    refine w_get (v := va_rf (some 65)) dX12_findQueue_98 fl_RX12_31 ⟨rfl, Or.inr ⟨rfl, by decide⟩⟩ (aFv_k rfl) ?_
    refine w_iload_n 2 dX12_findQueue_101 rfl rfl ?_
    replace h := e_grd h; obtain ⟨b7, h⟩ := h
    refine w_iaload dX12_findQueue_102 ⟨rfl, Or.inr ⟨rfl, by decide⟩⟩ b7 ?_
    refine w_i2l dX12_findQueue_103 ?_
    refine w_aload_n 0 ((some (57))) dX12_findQueue_104 rfl rfl ?_
    refine w_get (v := va_rf (some 78)) dX12_findQueue_105 fl_RX12_83 ⟨rfl, Or.inr ⟨rfl, by decide⟩⟩ (aFv_k rfl) ?_
    refine w_iload_n 2 dX12_findQueue_108 rfl rfl ?_
    replace h := e_grd h; obtain ⟨b8, h⟩ := h
    refine w_iaload dX12_findQueue_109 ⟨rfl, Or.inr ⟨rfl, by decide⟩⟩ b8 ?_
    refine w_i2l dX12_findQueue_110 ?_
    refine w_lmul dX12_findQueue_111 ?_
    refine w_lcmp dX12_findQueue_112 ?_
    refine w_if_ge 136 dX12_findQueue_113 (by decide) (fun c9 => ?_) (fun c9 => ?_)
    · replace h := e_t c9 h
      exact l_X12_findQueue_136 rec7 hrec7 _ _ _ _ _ h
    · replace h := e_f c9 h
      refine w_aload_n 0 ((some (57))) dX12_findQueue_116 rfl rfl ?_
      refine w_get (v := va_rf (some 79)) dX12_findQueue_117 fl_RX12_86 ⟨rfl, Or.inr ⟨rfl, by decide⟩⟩ (aFv_k rfl) ?_
      refine w_iload_n 3 dX12_findQueue_120 rfl rfl ?_
      refine w_aload_n 0 ((some (57))) dX12_findQueue_121 rfl rfl ?_
      refine w_get (v := va_rf (some 79)) dX12_findQueue_122 fl_RX12_86 ⟨rfl, Or.inr ⟨rfl, by decide⟩⟩ (aFv_k rfl) ?_
      refine w_iload_n 3 dX12_findQueue_125 rfl rfl ?_
      refine w_iconst (v := 1) dX12_findQueue_126 (by decide) ?_
      refine w_isub dX12_findQueue_127 ?_
      replace h := e_grd h; obtain ⟨b10, h⟩ := h
      refine w_iaload dX12_findQueue_128 ⟨rfl, Or.inr ⟨rfl, by decide⟩⟩ b10 ?_
      replace h := e_grd h; obtain ⟨b11, h⟩ := h
      refine w_iastore dX12_findQueue_129 ⟨rfl, Or.inr ⟨rfl, by decide⟩⟩ b11 ?_
      refine w_iinc (q := 3) (v := x3 + (-1)) dX12_findQueue_130 rfl rfl (by decide) rfl ?_
      refine w_goto 64 dX12_findQueue_133 (by decide) ?_
      refine w_sub [1, 2, 3, 0] rfl ?_
      exact hrec64 _ _ _ _ _ h
theorem l_X12_findQueue_64 (rec7 : Int32 → aSt → Option (Unit × aSt)) (hrec7 : ∀ (x1 : Int32) (σ : aSt) (o : Unit × aSt), rec7 x1 σ = some o → AW true m_X12_findQueue 7 [(0, va_rf (some (57))), (1, Value.int (x1))] [] σ 0 0 none o.2) : ∀ (n : Nat) (x1 : Int32) (x2 : Int32) (x3 : Int32) (σ : aSt) (o : Unit × aSt), f_X12_findQueue_64 rec7 n x1 x2 x3 σ = some o → AW true m_X12_findQueue 64 [(0, va_rf (some (57))), (1, Value.int (x1)), (2, Value.int (x2)), (3, Value.int (x3))] [] σ 0 0 none o.2
  | 0 => fun x1 x2 x3 σ o h => by cases h
  | n + 1 => fun x1 x2 x3 σ o h => l_X12_findQueue_64_b rec7 hrec7 (f_X12_findQueue_64 rec7 n) (l_X12_findQueue_64 rec7 hrec7 n) x1 x2 x3 σ o h
set_option maxRecDepth 100000 in
set_option maxHeartbeats 4000000 in
theorem l_X12_findQueue_7_b (rec7 : Int32 → aSt → Option (Unit × aSt)) (hrec7 : ∀ (x1 : Int32) (σ : aSt) (o : Unit × aSt), rec7 x1 σ = some o → AW true m_X12_findQueue 7 [(0, va_rf (some (57))), (1, Value.int (x1))] [] σ 0 0 none o.2) (x1 : Int32) (σ : aSt) (o : Unit × aSt) (h : f_X12_findQueue_7_b rec7 x1 σ = some o) : AW true m_X12_findQueue 7 [(0, va_rf (some (57))), (1, Value.int (x1))] [] σ 0 0 none o.2 := by
  unfold f_X12_findQueue_7_b at h
  refine w_iload_n 1 dX12_findQueue_7 rfl rfl ?_
  refine w_aload_n 0 ((some (57))) dX12_findQueue_8 rfl rfl ?_
  refine w_get dX12_findQueue_9 fl_RX12_127 ⟨rfl, Or.inr ⟨rfl, by decide⟩⟩ (aFv_i rfl) ?_
  refine w_icmp_ge 159 dX12_findQueue_12 (by decide) (fun c12 => ?_) (fun c12 => ?_)
  · replace h := e_t c12 h
    obtain rfl := Option.some.inj h
    exact w_vreturn dX12_findQueue_159 rfl (Nat.le_of_ble_eq_true rfl) (Nat.le_of_ble_eq_true rfl)
  · replace h := e_f c12 h
    refine w_aload_n 0 ((some (57))) dX12_findQueue_15 rfl rfl ?_
    refine w_get (v := va_rf (some 68)) dX12_findQueue_16 fl_RX12_40 ⟨rfl, Or.inr ⟨rfl, by decide⟩⟩ (aFv_k rfl) ?_
    refine w_iload_n 1 dX12_findQueue_19 rfl rfl ?_
    replace h := e_grd h; obtain ⟨b13, h⟩ := h
    refine w_iaload dX12_findQueue_20 ⟨rfl, Or.inr ⟨rfl, by decide⟩⟩ b13 ?_
    refine w_istore_n dX12_findQueue_21 rfl (by decide) rfl ?_
    refine w_aload_n 1 ((some (57))) dX12_findQueue_22 rfl rfl ?_
    refine w_get (v := va_rf (some 78)) dX12_findQueue_23 fl_RX12_83 ⟨rfl, Or.inr ⟨rfl, by decide⟩⟩ (aFv_k rfl) ?_
    refine w_iload_n 0 dX12_findQueue_26 rfl rfl ?_
    refine w_aload_n 1 ((some (57))) dX12_findQueue_27 rfl rfl ?_
    refine w_iload_n 0 dX12_findQueue_28 rfl rfl ?_
    refine w_iconst (v := 0) dX12_findQueue_29 (by decide) ?_
    replace h := e_bind h; obtain ⟨q14, e15, h⟩ := h
    refine w_callV1 (M2 := m_X12_scoreOf) (av := [.int (gI σ 68 x1.toNatClampNeg), .int (0)]) (ci := 12) (c_X12_scoreOf _ _ _ _ e15) dX12_findQueue_30 kd_X12_scoreOf wd_38_8 wd_38_9 wd_38_10 rfl rfl ⟨rfl, Or.inr ⟨rfl, by decide⟩⟩ rfl ⟨Nat.le_of_ble_eq_true rfl, Nat.le_of_ble_eq_true rfl, Nat.le_of_ble_eq_true rfl, Nat.le_of_ble_eq_true rfl⟩ (Nat.le_of_ble_eq_true rfl) ?_
    replace h := e_grd h; obtain ⟨b16, h⟩ := h
    refine w_iastore dX12_findQueue_33 ⟨rfl, Or.inr ⟨rfl, by decide⟩⟩ b16 ?_
    refine w_aload_n 1 ((some (57))) dX12_findQueue_34 rfl rfl ?_
    refine w_get (v := va_rf (some 67)) dX12_findQueue_35 fl_RX12_37 ⟨rfl, Or.inr ⟨rfl, by decide⟩⟩ (aFv_k rfl) ?_
    refine w_iload_n 0 dX12_findQueue_38 rfl rfl ?_
    replace h := e_grd h; obtain ⟨b17, h⟩ := h
    refine w_iaload dX12_findQueue_39 ⟨rfl, Or.inr ⟨rfl, by decide⟩⟩ b17 ?_
    refine w_ldc (v := (-1000000)) dX12_findQueue_40 wd_15_11 ?_
    refine w_icmp_ne 153 dX12_findQueue_42 (by decide) (fun c18 => ?_) (fun c18 => ?_)
    · replace h := e_f c18 h
      refine w_sub [1, 2] rfl ?_
      exact l_X12_findQueue_153 rec7 hrec7 _ _ _ h
    · replace h := e_t c18 h
      refine w_aload_n 1 ((some (57))) dX12_findQueue_45 rfl rfl ?_
      refine w_aload_n 1 ((some (57))) dX12_findQueue_46 rfl rfl ?_
      refine w_get (v := va_rf (some 78)) dX12_findQueue_47 fl_RX12_83 ⟨rfl, Or.inr ⟨rfl, by decide⟩⟩ (aFv_k rfl) ?_
      refine w_iload_n 0 dX12_findQueue_50 rfl rfl ?_
      replace h := e_grd h; obtain ⟨b19, h⟩ := h
      refine w_iaload dX12_findQueue_51 ⟨rfl, Or.inr ⟨rfl, by decide⟩⟩ b19 ?_
      replace h := e_bind h; obtain ⟨q20, e21, h⟩ := h
      refine w_callV1 (M2 := m_X12_actBy) (av := [.int (gI (sI q14.2 78 (gI σ 68 x1.toNatClampNeg).toNatClampNeg (q14.1)) 78 (gI σ 68 x1.toNatClampNeg).toNatClampNeg)]) (ci := 12) (c_X12_actBy _ _ _ e21) dX12_findQueue_52 kd_X12_actBy wd_36_16 wd_36_17 wd_36_18 rfl rfl ⟨rfl, Or.inr ⟨rfl, by decide⟩⟩ rfl ⟨Nat.le_of_ble_eq_true rfl, Nat.le_of_ble_eq_true rfl, Nat.le_of_ble_eq_true rfl, Nat.le_of_ble_eq_true rfl⟩ (Nat.le_of_ble_eq_true rfl) ?_
      refine w_iconst (v := 1) dX12_findQueue_55 (by decide) ?_
      refine w_icmp_ne 153 dX12_findQueue_56 (by decide) (fun c22 => ?_) (fun c22 => ?_)
      · replace h := e_f c22 h
        refine w_sub [1, 2] rfl ?_
        exact l_X12_findQueue_153 rec7 hrec7 _ _ _ h
      · replace h := e_t c22 h
        refine w_aload_n 1 ((some (57))) dX12_findQueue_59 rfl rfl ?_
        refine w_get dX12_findQueue_60 fl_RX12_314 ⟨rfl, Or.inr ⟨rfl, by decide⟩⟩ (aFv_i rfl) ?_
        refine w_istore_n dX12_findQueue_63 rfl (by decide) rfl ?_
        refine w_sub [2, 3, 1, 0] rfl ?_
        exact l_X12_findQueue_64 rec7 hrec7 aN _ _ _ _ _ h
theorem l_X12_findQueue_7  : ∀ (n : Nat) (x1 : Int32) (σ : aSt) (o : Unit × aSt), f_X12_findQueue_7  n x1 σ = some o → AW true m_X12_findQueue 7 [(0, va_rf (some (57))), (1, Value.int (x1))] [] σ 0 0 none o.2
  | 0 => fun x1 σ o h => by cases h
  | n + 1 => fun x1 σ o h => l_X12_findQueue_7_b (f_X12_findQueue_7  n) (l_X12_findQueue_7  n) x1 σ o h
set_option maxRecDepth 100000 in
set_option maxHeartbeats 4000000 in
theorem c_X12_findQueue  (σ : aSt) (o : Unit × aSt) (h : f_X12_findQueue  σ = some o) : AM true m_X12_findQueue [va_rf (some (57))] σ none o.2 := by
  refine AM_of2 (lv := [(0, va_rf (some (57)))]) (by decide +kernel) rfl (Nat.le_of_ble_eq_true rfl) ?_
  unfold f_X12_findQueue at h
  refine w_aload_n 0 ((some (57))) dX12_findQueue_0 rfl rfl ?_
  refine w_iconst (v := 0) dX12_findQueue_1 (by decide) ?_
  refine w_putI dX12_findQueue_2 fl_RX12_314 (Or.inl rfl) rfl ⟨rfl, Or.inr ⟨rfl, by decide⟩⟩ ?_
  refine w_iconst (v := 0) dX12_findQueue_5 (by decide) ?_
  refine w_istore_n dX12_findQueue_6 rfl (by decide) rfl ?_
  refine w_sub [1, 0] rfl ?_
  exact l_X12_findQueue_7 aN _ _ _ h
