/-! MY OWN (by program): X11_isDigit, X11_lex, X11_ahead, X11_isSign, X11_isWord, X11_must, X11_isOwn, X11_manyOf, X11_nameOf, X11_named, X11_lookedAt, X11_number, X11_add, X11_rank, X11_joins, X11_holdsBack, X11_pushes -/
theorem dX11_isDigit_0 : decode cX11_isDigit 0 = .ok (.iload_n 0, 1) := by decide +kernel
theorem dX11_isDigit_1 : decode cX11_isDigit 1 = .ok (.bipush 48, 2) := by decide +kernel
theorem dX11_isDigit_3 : decode cX11_isDigit 3 = .ok (.if_icmp .lt 13, 3) := by decide +kernel
theorem dX11_isDigit_6 : decode cX11_isDigit 6 = .ok (.iload_n 0, 1) := by decide +kernel
theorem dX11_isDigit_7 : decode cX11_isDigit 7 = .ok (.bipush 57, 2) := by decide +kernel
theorem dX11_isDigit_9 : decode cX11_isDigit 9 = .ok (.if_icmp .gt 7, 3) := by decide +kernel
theorem dX11_isDigit_12 : decode cX11_isDigit 12 = .ok (.iconst 1, 1) := by decide +kernel
theorem dX11_isDigit_13 : decode cX11_isDigit 13 = .ok (.goto 4, 3) := by decide +kernel
theorem dX11_isDigit_16 : decode cX11_isDigit 16 = .ok (.iconst 0, 1) := by decide +kernel
theorem dX11_isDigit_17 : decode cX11_isDigit 17 = .ok (.ireturn, 1) := by decide +kernel
def fX11_isDigit (p0 : Int32) : Int32 := if p0 < 48 then 0 else if 57 < p0 then 0 else 1
theorem eX11_isDigit {sc : Nat × (Nat → Int32)} {μ : zM} (p0 : Int32) (w : Int32) (h : fX11_isDigit p0 = w) : zR (zY0 sc) 1 0 0 mX11_isDigit 0 [(0, .int p0)] [] μ (some (.int w), μ) := by
  unfold fX11_isDigit at h
  refine kR.iload_n dX11_isDigit_0 0 rfl ?_
  refine zR.bipush (v := 48) dX11_isDigit_1 (by decide) ?_
  refine kR.icmp_lt (tgt := 16) dX11_isDigit_3 (by decide) h (fun h => ?_) (fun h => ?_)
  · refine zR.iconst (v := 0) dX11_isDigit_16 (by decide) ?_
    exact kR.iret dX11_isDigit_17 (nzZ rfl (Or.inl rfl)) h
  · refine kR.iload_n dX11_isDigit_6 0 rfl ?_
    refine zR.bipush (v := 57) dX11_isDigit_7 (by decide) ?_
    refine kR.icmp_gt (tgt := 16) dX11_isDigit_9 (by decide) h (fun h => ?_) (fun h => ?_)
    · refine zR.iconst (v := 0) dX11_isDigit_16 (by decide) ?_
      exact kR.iret dX11_isDigit_17 (nzZ rfl (Or.inl rfl)) h
    · refine zR.iconst (v := 1) dX11_isDigit_12 (by decide) ?_
      refine zR.goto (tgt := 17) dX11_isDigit_13 (by decide) ?_
      exact kR.iret dX11_isDigit_17 (nzZ rfl (Or.inr rfl)) h
theorem lX11_isDigit {sc : Nat × (Nat → Int32)} {μ : zM} (p0 : Int32) : zC (zY0 sc) 1 0 0 mX11_isDigit [.int p0] μ (some (.int (fX11_isDigit p0)), μ) := zC.of (by decide +kernel) (Nat.le_of_ble_eq_true rfl) ⟨_, rfl⟩ (eX11_isDigit p0 _ rfl)
theorem dX11_lex_0 : decode cX11_lex 0 = .ok (.aload_n 0, 1) := by decide +kernel
theorem dX11_lex_1 : decode cX11_lex 1 = .ok (.getfield 48, 3) := by decide +kernel
theorem dX11_lex_4 : decode cX11_lex 4 = .ok (.iconst (-1), 1) := by decide +kernel
theorem dX11_lex_5 : decode cX11_lex 5 = .ok (.if_icmp .eq 12, 3) := by decide +kernel
theorem dX11_lex_8 : decode cX11_lex 8 = .ok (.aload_n 0, 1) := by decide +kernel
theorem dX11_lex_9 : decode cX11_lex 9 = .ok (.iconst 1, 1) := by decide +kernel
theorem dX11_lex_10 : decode cX11_lex 10 = .ok (.aload_n 0, 1) := by decide +kernel
theorem dX11_lex_11 : decode cX11_lex 11 = .ok (.getfield 48, 3) := by decide +kernel
theorem dX11_lex_14 : decode cX11_lex 14 = .ok (.invokevirtual 260, 3) := by decide +kernel
theorem dX11_lex_17 : decode cX11_lex 17 = .ok (.return_, 1) := by decide +kernel
def fX11_lex (σ : zS) : Option zS := if (iG σ 56 12) = ((-1)) then some σ else bnr (fX11_blame 1 (iG σ 56 12) σ) fun σ1 => some σ1
theorem eX11_lex {sc : Nat × (Nat → Int32)} (σ : zS) (w : zS) (h : fX11_lex σ = some w) : zR (zY0 sc) 2 0 0 mX11_lex 0 [(0, .ref 56)] [] (zE σ) (none, zE w) := by
  unfold fX11_lex at h
  refine kR.aload_n dX11_lex_0 0 rfl ?_
  refine kR.getI dX11_lex_1 flX11_48 zcf11 zp56 (Or.inl rfl) ?_
  refine zR.iconst (v := (-1)) dX11_lex_4 (by decide) ?_
  refine kR.icmp_eq (tgt := 17) dX11_lex_5 (by decide) h (fun h => ?_) (fun h => ?_)
  · exact kR.vret dX11_lex_17 h
  · refine kR.aload_n dX11_lex_8 0 rfl ?_
    refine zR.iconst (v := 1) dX11_lex_9 (by decide) ?_
    refine kR.aload_n dX11_lex_10 0 rfl ?_
    refine kR.getI dX11_lex_11 flX11_48 zcf11 zp56 (Or.inl rfl) ?_
    obtain ⟨σ1, e2, h⟩ := bnr_some h
    refine kR.cVv [.int 1, .int (iG σ 56 12)] dX11_lex_14 rfl (by decide) mwX11_260 zp56 (by decide) rfl rfl (Nat.le_of_ble_eq_true rfl) (lX11_blame 1 (iG σ 56 12) σ _ e2) ?_
    exact kR.vret dX11_lex_17 h
theorem lX11_lex {sc : Nat × (Nat → Int32)} (σ : zS) (w : zS) (h : fX11_lex σ = some w) : zC (zY0 sc) 2 0 0 mX11_lex [.ref 56] (zE σ) (none, zE w) := zC.of (by decide +kernel) (Nat.le_of_ble_eq_true rfl) rfl (eX11_lex σ w h)
theorem dX11_ahead_0 : decode cX11_ahead 0 = .ok (.aload_n 0, 1) := by decide +kernel
theorem dX11_ahead_1 : decode cX11_ahead 1 = .ok (.getfield 26, 3) := by decide +kernel
theorem dX11_ahead_4 : decode cX11_ahead 4 = .ok (.istore_n 1, 1) := by decide +kernel
theorem dX11_ahead_5 : decode cX11_ahead 5 = .ok (.iload_n 1, 1) := by decide +kernel
theorem dX11_ahead_6 : decode cX11_ahead 6 = .ok (.aload_n 0, 1) := by decide +kernel
theorem dX11_ahead_7 : decode cX11_ahead 7 = .ok (.getfield 17, 3) := by decide +kernel
theorem dX11_ahead_10 : decode cX11_ahead 10 = .ok (.if_icmp .ge 31, 3) := by decide +kernel
theorem dX11_ahead_13 : decode cX11_ahead 13 = .ok (.aload_n 0, 1) := by decide +kernel
theorem dX11_ahead_14 : decode cX11_ahead 14 = .ok (.getfield 7, 3) := by decide +kernel
theorem dX11_ahead_17 : decode cX11_ahead 17 = .ok (.iload_n 1, 1) := by decide +kernel
theorem dX11_ahead_18 : decode cX11_ahead 18 = .ok (.iaload, 1) := by decide +kernel
theorem dX11_ahead_19 : decode cX11_ahead 19 = .ok (.bipush 32, 2) := by decide +kernel
theorem dX11_ahead_21 : decode cX11_ahead 21 = .ok (.if_icmp .eq 14, 3) := by decide +kernel
theorem dX11_ahead_24 : decode cX11_ahead 24 = .ok (.aload_n 0, 1) := by decide +kernel
theorem dX11_ahead_25 : decode cX11_ahead 25 = .ok (.getfield 7, 3) := by decide +kernel
theorem dX11_ahead_28 : decode cX11_ahead 28 = .ok (.iload_n 1, 1) := by decide +kernel
theorem dX11_ahead_29 : decode cX11_ahead 29 = .ok (.iaload, 1) := by decide +kernel
theorem dX11_ahead_30 : decode cX11_ahead 30 = .ok (.bipush 10, 2) := by decide +kernel
theorem dX11_ahead_32 : decode cX11_ahead 32 = .ok (.if_icmp .ne 9, 3) := by decide +kernel
theorem dX11_ahead_35 : decode cX11_ahead 35 = .ok (.iinc 1 1, 3) := by decide +kernel
theorem dX11_ahead_38 : decode cX11_ahead 38 = .ok (.goto (-33), 3) := by decide +kernel
theorem dX11_ahead_41 : decode cX11_ahead 41 = .ok (.aload_n 0, 1) := by decide +kernel
theorem dX11_ahead_42 : decode cX11_ahead 42 = .ok (.iload_n 1, 1) := by decide +kernel
theorem dX11_ahead_43 : decode cX11_ahead 43 = .ok (.putfield 23, 3) := by decide +kernel
theorem dX11_ahead_46 : decode cX11_ahead 46 = .ok (.aload_n 0, 1) := by decide +kernel
theorem dX11_ahead_47 : decode cX11_ahead 47 = .ok (.iload_n 1, 1) := by decide +kernel
theorem dX11_ahead_48 : decode cX11_ahead 48 = .ok (.putfield 26, 3) := by decide +kernel
theorem dX11_ahead_51 : decode cX11_ahead 51 = .ok (.aload_n 0, 1) := by decide +kernel
theorem dX11_ahead_52 : decode cX11_ahead 52 = .ok (.iconst 0, 1) := by decide +kernel
theorem dX11_ahead_53 : decode cX11_ahead 53 = .ok (.putfield 20, 3) := by decide +kernel
theorem dX11_ahead_56 : decode cX11_ahead 56 = .ok (.aload_n 0, 1) := by decide +kernel
theorem dX11_ahead_57 : decode cX11_ahead 57 = .ok (.iconst (-1), 1) := by decide +kernel
theorem dX11_ahead_58 : decode cX11_ahead 58 = .ok (.putfield 48, 3) := by decide +kernel
theorem dX11_ahead_61 : decode cX11_ahead 61 = .ok (.iload_n 1, 1) := by decide +kernel
theorem dX11_ahead_62 : decode cX11_ahead 62 = .ok (.aload_n 0, 1) := by decide +kernel
theorem dX11_ahead_63 : decode cX11_ahead 63 = .ok (.getfield 17, 3) := by decide +kernel
theorem dX11_ahead_66 : decode cX11_ahead 66 = .ok (.if_icmp .lt 4, 3) := by decide +kernel
theorem dX11_ahead_69 : decode cX11_ahead 69 = .ok (.return_, 1) := by decide +kernel
theorem dX11_ahead_70 : decode cX11_ahead 70 = .ok (.aload_n 0, 1) := by decide +kernel
theorem dX11_ahead_71 : decode cX11_ahead 71 = .ok (.getfield 7, 3) := by decide +kernel
theorem dX11_ahead_74 : decode cX11_ahead 74 = .ok (.iload_n 1, 1) := by decide +kernel
theorem dX11_ahead_75 : decode cX11_ahead 75 = .ok (.iaload, 1) := by decide +kernel
theorem dX11_ahead_76 : decode cX11_ahead 76 = .ok (.invokestatic 264, 3) := by decide +kernel
theorem dX11_ahead_79 : decode cX11_ahead 79 = .ok (.istore_n 2, 1) := by decide +kernel
theorem dX11_ahead_80 : decode cX11_ahead 80 = .ok (.aload_n 0, 1) := by decide +kernel
theorem dX11_ahead_81 : decode cX11_ahead 81 = .ok (.getfield 7, 3) := by decide +kernel
theorem dX11_ahead_84 : decode cX11_ahead 84 = .ok (.iload_n 1, 1) := by decide +kernel
theorem dX11_ahead_85 : decode cX11_ahead 85 = .ok (.iaload, 1) := by decide +kernel
theorem dX11_ahead_86 : decode cX11_ahead 86 = .ok (.invokestatic 268, 3) := by decide +kernel
theorem dX11_ahead_89 : decode cX11_ahead 89 = .ok (.istore_n 3, 1) := by decide +kernel
theorem dX11_ahead_90 : decode cX11_ahead 90 = .ok (.iload_n 2, 1) := by decide +kernel
theorem dX11_ahead_91 : decode cX11_ahead 91 = .ok (.ifCond .ne 7, 3) := by decide +kernel
theorem dX11_ahead_94 : decode cX11_ahead 94 = .ok (.iload_n 3, 1) := by decide +kernel
theorem dX11_ahead_95 : decode cX11_ahead 95 = .ok (.ifCond .eq 40, 3) := by decide +kernel
theorem dX11_ahead_98 : decode cX11_ahead 98 = .ok (.iload_n 1, 1) := by decide +kernel
theorem dX11_ahead_99 : decode cX11_ahead 99 = .ok (.ifCond .le 36, 3) := by decide +kernel
theorem dX11_ahead_102 : decode cX11_ahead 102 = .ok (.aload_n 0, 1) := by decide +kernel
theorem dX11_ahead_103 : decode cX11_ahead 103 = .ok (.getfield 7, 3) := by decide +kernel
theorem dX11_ahead_106 : decode cX11_ahead 106 = .ok (.iload_n 1, 1) := by decide +kernel
theorem dX11_ahead_107 : decode cX11_ahead 107 = .ok (.iconst 1, 1) := by decide +kernel
theorem dX11_ahead_108 : decode cX11_ahead 108 = .ok (.isub, 1) := by decide +kernel
theorem dX11_ahead_109 : decode cX11_ahead 109 = .ok (.iaload, 1) := by decide +kernel
theorem dX11_ahead_110 : decode cX11_ahead 110 = .ok (.invokestatic 264, 3) := by decide +kernel
theorem dX11_ahead_113 : decode cX11_ahead 113 = .ok (.ifCond .ne 17, 3) := by decide +kernel
theorem dX11_ahead_116 : decode cX11_ahead 116 = .ok (.aload_n 0, 1) := by decide +kernel
theorem dX11_ahead_117 : decode cX11_ahead 117 = .ok (.getfield 7, 3) := by decide +kernel
theorem dX11_ahead_120 : decode cX11_ahead 120 = .ok (.iload_n 1, 1) := by decide +kernel
theorem dX11_ahead_121 : decode cX11_ahead 121 = .ok (.iconst 1, 1) := by decide +kernel
theorem dX11_ahead_122 : decode cX11_ahead 122 = .ok (.isub, 1) := by decide +kernel
theorem dX11_ahead_123 : decode cX11_ahead 123 = .ok (.iaload, 1) := by decide +kernel
theorem dX11_ahead_124 : decode cX11_ahead 124 = .ok (.invokestatic 268, 3) := by decide +kernel
theorem dX11_ahead_127 : decode cX11_ahead 127 = .ok (.ifCond .eq 8, 3) := by decide +kernel
theorem dX11_ahead_130 : decode cX11_ahead 130 = .ok (.aload_n 0, 1) := by decide +kernel
theorem dX11_ahead_131 : decode cX11_ahead 131 = .ok (.iload_n 1, 1) := by decide +kernel
theorem dX11_ahead_132 : decode cX11_ahead 132 = .ok (.putfield 48, 3) := by decide +kernel
theorem dX11_ahead_135 : decode cX11_ahead 135 = .ok (.aload_n 0, 1) := by decide +kernel
theorem dX11_ahead_136 : decode cX11_ahead 136 = .ok (.iconst 0, 1) := by decide +kernel
theorem dX11_ahead_137 : decode cX11_ahead 137 = .ok (.putfield 29, 3) := by decide +kernel
theorem dX11_ahead_140 : decode cX11_ahead 140 = .ok (.aload_n 0, 1) := by decide +kernel
theorem dX11_ahead_141 : decode cX11_ahead 141 = .ok (.lconst 0, 1) := by decide +kernel
theorem dX11_ahead_142 : decode cX11_ahead 142 = .ok (.putfield 32, 3) := by decide +kernel
theorem dX11_ahead_145 : decode cX11_ahead 145 = .ok (.aload_n 0, 1) := by decide +kernel
theorem dX11_ahead_146 : decode cX11_ahead 146 = .ok (.iconst 3, 1) := by decide +kernel
theorem dX11_ahead_147 : decode cX11_ahead 147 = .ok (.putfield 20, 3) := by decide +kernel
theorem dX11_ahead_150 : decode cX11_ahead 150 = .ok (.aload_n 0, 1) := by decide +kernel
theorem dX11_ahead_151 : decode cX11_ahead 151 = .ok (.iload_n 1, 1) := by decide +kernel
theorem dX11_ahead_152 : decode cX11_ahead 152 = .ok (.iconst 1, 1) := by decide +kernel
theorem dX11_ahead_153 : decode cX11_ahead 153 = .ok (.iadd, 1) := by decide +kernel
theorem dX11_ahead_154 : decode cX11_ahead 154 = .ok (.putfield 26, 3) := by decide +kernel
theorem dX11_ahead_157 : decode cX11_ahead 157 = .ok (.iload_n 2, 1) := by decide +kernel
theorem dX11_ahead_158 : decode cX11_ahead 158 = .ok (.ifCond .ne 18, 3) := by decide +kernel
theorem dX11_ahead_161 : decode cX11_ahead 161 = .ok (.iload_n 3, 1) := by decide +kernel
theorem dX11_ahead_162 : decode cX11_ahead 162 = .ok (.ifCond .ne 14, 3) := by decide +kernel
theorem dX11_ahead_165 : decode cX11_ahead 165 = .ok (.aload_n 0, 1) := by decide +kernel
theorem dX11_ahead_166 : decode cX11_ahead 166 = .ok (.aload_n 0, 1) := by decide +kernel
theorem dX11_ahead_167 : decode cX11_ahead 167 = .ok (.getfield 7, 3) := by decide +kernel
theorem dX11_ahead_170 : decode cX11_ahead 170 = .ok (.iload_n 1, 1) := by decide +kernel
theorem dX11_ahead_171 : decode cX11_ahead 171 = .ok (.iaload, 1) := by decide +kernel
theorem dX11_ahead_172 : decode cX11_ahead 172 = .ok (.putfield 29, 3) := by decide +kernel
theorem dX11_ahead_175 : decode cX11_ahead 175 = .ok (.return_, 1) := by decide +kernel
theorem dX11_ahead_176 : decode cX11_ahead 176 = .ok (.aload_n 0, 1) := by decide +kernel
theorem dX11_ahead_177 : decode cX11_ahead 177 = .ok (.iload_n 2, 1) := by decide +kernel
theorem dX11_ahead_178 : decode cX11_ahead 178 = .ok (.ifCond .eq 7, 3) := by decide +kernel
theorem dX11_ahead_181 : decode cX11_ahead 181 = .ok (.iconst 1, 1) := by decide +kernel
theorem dX11_ahead_182 : decode cX11_ahead 182 = .ok (.goto 4, 3) := by decide +kernel
theorem dX11_ahead_185 : decode cX11_ahead 185 = .ok (.iconst 2, 1) := by decide +kernel
theorem dX11_ahead_186 : decode cX11_ahead 186 = .ok (.putfield 20, 3) := by decide +kernel
theorem dX11_ahead_189 : decode cX11_ahead 189 = .ok (.iload_n 2, 1) := by decide +kernel
theorem dX11_ahead_190 : decode cX11_ahead 190 = .ok (.ifCond .eq 8, 3) := by decide +kernel
theorem dX11_ahead_193 : decode cX11_ahead 193 = .ok (.bipush 6, 2) := by decide +kernel
theorem dX11_ahead_195 : decode cX11_ahead 195 = .ok (.goto 4, 3) := by decide +kernel
theorem dX11_ahead_198 : decode cX11_ahead 198 = .ok (.iconst 4, 1) := by decide +kernel
theorem dX11_ahead_199 : decode cX11_ahead 199 = .ok (.istore 4, 2) := by decide +kernel
theorem dX11_ahead_201 : decode cX11_ahead 201 = .ok (.iconst 0, 1) := by decide +kernel
theorem dX11_ahead_202 : decode cX11_ahead 202 = .ok (.istore 5, 2) := by decide +kernel
theorem dX11_ahead_204 : decode cX11_ahead 204 = .ok (.iload_n 1, 1) := by decide +kernel
theorem dX11_ahead_205 : decode cX11_ahead 205 = .ok (.aload_n 0, 1) := by decide +kernel
theorem dX11_ahead_206 : decode cX11_ahead 206 = .ok (.getfield 17, 3) := by decide +kernel
theorem dX11_ahead_209 : decode cX11_ahead 209 = .ok (.if_icmp .ge 125, 3) := by decide +kernel
theorem dX11_ahead_212 : decode cX11_ahead 212 = .ok (.iload_n 2, 1) := by decide +kernel
theorem dX11_ahead_213 : decode cX11_ahead 213 = .ok (.ifCond .eq 18, 3) := by decide +kernel
theorem dX11_ahead_216 : decode cX11_ahead 216 = .ok (.aload_n 0, 1) := by decide +kernel
theorem dX11_ahead_217 : decode cX11_ahead 217 = .ok (.getfield 7, 3) := by decide +kernel
theorem dX11_ahead_220 : decode cX11_ahead 220 = .ok (.iload_n 1, 1) := by decide +kernel
theorem dX11_ahead_221 : decode cX11_ahead 221 = .ok (.iaload, 1) := by decide +kernel
theorem dX11_ahead_222 : decode cX11_ahead 222 = .ok (.invokestatic 264, 3) := by decide +kernel
theorem dX11_ahead_225 : decode cX11_ahead 225 = .ok (.ifCond .eq 109, 3) := by decide +kernel
theorem dX11_ahead_228 : decode cX11_ahead 228 = .ok (.goto 15, 3) := by decide +kernel
theorem dX11_ahead_231 : decode cX11_ahead 231 = .ok (.aload_n 0, 1) := by decide +kernel
theorem dX11_ahead_232 : decode cX11_ahead 232 = .ok (.getfield 7, 3) := by decide +kernel
theorem dX11_ahead_235 : decode cX11_ahead 235 = .ok (.iload_n 1, 1) := by decide +kernel
theorem dX11_ahead_236 : decode cX11_ahead 236 = .ok (.iaload, 1) := by decide +kernel
theorem dX11_ahead_237 : decode cX11_ahead 237 = .ok (.invokestatic 268, 3) := by decide +kernel
theorem dX11_ahead_240 : decode cX11_ahead 240 = .ok (.ifCond .eq 94, 3) := by decide +kernel
theorem dX11_ahead_243 : decode cX11_ahead 243 = .ok (.iload 5, 2) := by decide +kernel
theorem dX11_ahead_245 : decode cX11_ahead 245 = .ok (.iload 4, 2) := by decide +kernel
theorem dX11_ahead_247 : decode cX11_ahead 247 = .ok (.if_icmp .ne 16, 3) := by decide +kernel
theorem dX11_ahead_250 : decode cX11_ahead 250 = .ok (.aload_n 0, 1) := by decide +kernel
theorem dX11_ahead_251 : decode cX11_ahead 251 = .ok (.getfield 48, 3) := by decide +kernel
theorem dX11_ahead_254 : decode cX11_ahead 254 = .ok (.iconst (-1), 1) := by decide +kernel
theorem dX11_ahead_255 : decode cX11_ahead 255 = .ok (.if_icmp .ne 8, 3) := by decide +kernel
theorem dX11_ahead_258 : decode cX11_ahead 258 = .ok (.aload_n 0, 1) := by decide +kernel
theorem dX11_ahead_259 : decode cX11_ahead 259 = .ok (.iload_n 1, 1) := by decide +kernel
theorem dX11_ahead_260 : decode cX11_ahead 260 = .ok (.putfield 48, 3) := by decide +kernel
theorem dX11_ahead_263 : decode cX11_ahead 263 = .ok (.iload 5, 2) := by decide +kernel
theorem dX11_ahead_265 : decode cX11_ahead 265 = .ok (.iload 4, 2) := by decide +kernel
theorem dX11_ahead_267 : decode cX11_ahead 267 = .ok (.if_icmp .ge 26, 3) := by decide +kernel
theorem dX11_ahead_270 : decode cX11_ahead 270 = .ok (.iload_n 2, 1) := by decide +kernel
theorem dX11_ahead_271 : decode cX11_ahead 271 = .ok (.ifCond .eq 22, 3) := by decide +kernel
theorem dX11_ahead_274 : decode cX11_ahead 274 = .ok (.aload_n 0, 1) := by decide +kernel
theorem dX11_ahead_275 : decode cX11_ahead 275 = .ok (.aload_n 0, 1) := by decide +kernel
theorem dX11_ahead_276 : decode cX11_ahead 276 = .ok (.getfield 32, 3) := by decide +kernel
theorem dX11_ahead_279 : decode cX11_ahead 279 = .ok (.bipush 8, 2) := by decide +kernel
theorem dX11_ahead_281 : decode cX11_ahead 281 = .ok (.lshl, 1) := by decide +kernel
theorem dX11_ahead_282 : decode cX11_ahead 282 = .ok (.aload_n 0, 1) := by decide +kernel
theorem dX11_ahead_283 : decode cX11_ahead 283 = .ok (.getfield 7, 3) := by decide +kernel
theorem dX11_ahead_286 : decode cX11_ahead 286 = .ok (.iload_n 1, 1) := by decide +kernel
theorem dX11_ahead_287 : decode cX11_ahead 287 = .ok (.iaload, 1) := by decide +kernel
theorem dX11_ahead_288 : decode cX11_ahead 288 = .ok (.i2l, 1) := by decide +kernel
theorem dX11_ahead_289 : decode cX11_ahead 289 = .ok (.lor, 1) := by decide +kernel
theorem dX11_ahead_290 : decode cX11_ahead 290 = .ok (.putfield 32, 3) := by decide +kernel
theorem dX11_ahead_293 : decode cX11_ahead 293 = .ok (.iload 5, 2) := by decide +kernel
theorem dX11_ahead_295 : decode cX11_ahead 295 = .ok (.iload 4, 2) := by decide +kernel
theorem dX11_ahead_297 : decode cX11_ahead 297 = .ok (.if_icmp .ge 28, 3) := by decide +kernel
theorem dX11_ahead_300 : decode cX11_ahead 300 = .ok (.iload_n 3, 1) := by decide +kernel
theorem dX11_ahead_301 : decode cX11_ahead 301 = .ok (.ifCond .eq 24, 3) := by decide +kernel
theorem dX11_ahead_304 : decode cX11_ahead 304 = .ok (.aload_n 0, 1) := by decide +kernel
theorem dX11_ahead_305 : decode cX11_ahead 305 = .ok (.bipush 10, 2) := by decide +kernel
theorem dX11_ahead_307 : decode cX11_ahead 307 = .ok (.aload_n 0, 1) := by decide +kernel
theorem dX11_ahead_308 : decode cX11_ahead 308 = .ok (.getfield 29, 3) := by decide +kernel
theorem dX11_ahead_311 : decode cX11_ahead 311 = .ok (.imul, 1) := by decide +kernel
theorem dX11_ahead_312 : decode cX11_ahead 312 = .ok (.aload_n 0, 1) := by decide +kernel
theorem dX11_ahead_313 : decode cX11_ahead 313 = .ok (.getfield 7, 3) := by decide +kernel
theorem dX11_ahead_316 : decode cX11_ahead 316 = .ok (.iload_n 1, 1) := by decide +kernel
theorem dX11_ahead_317 : decode cX11_ahead 317 = .ok (.iaload, 1) := by decide +kernel
theorem dX11_ahead_318 : decode cX11_ahead 318 = .ok (.iadd, 1) := by decide +kernel
theorem dX11_ahead_319 : decode cX11_ahead 319 = .ok (.bipush 48, 2) := by decide +kernel
theorem dX11_ahead_321 : decode cX11_ahead 321 = .ok (.isub, 1) := by decide +kernel
theorem dX11_ahead_322 : decode cX11_ahead 322 = .ok (.putfield 29, 3) := by decide +kernel
theorem dX11_ahead_325 : decode cX11_ahead 325 = .ok (.iinc 5 1, 3) := by decide +kernel
theorem dX11_ahead_328 : decode cX11_ahead 328 = .ok (.iinc 1 1, 3) := by decide +kernel
theorem dX11_ahead_331 : decode cX11_ahead 331 = .ok (.goto (-127), 3) := by decide +kernel
theorem dX11_ahead_334 : decode cX11_ahead 334 = .ok (.aload_n 0, 1) := by decide +kernel
theorem dX11_ahead_335 : decode cX11_ahead 335 = .ok (.iload_n 1, 1) := by decide +kernel
theorem dX11_ahead_336 : decode cX11_ahead 336 = .ok (.putfield 26, 3) := by decide +kernel
theorem dX11_ahead_339 : decode cX11_ahead 339 = .ok (.return_, 1) := by decide +kernel
def fX11_ahead_334 (x1 : Int32) (σ : zS) : Option zS := bnd (iS σ 56 5 x1) fun σ12 => some σ12
theorem kX11_ahead_334 {sc : Nat × (Nat → Int32)} (x1 : Int32) (σ : zS) (w : zS) (h : fX11_ahead_334 x1 σ = some w) : zR (zY0 sc) 2 0 0 mX11_ahead 334 [(0, .ref 56), (1, .int x1)] [] (zE σ) (none, zE w) := by
  unfold fX11_ahead_334 at h
  refine kR.aload_n dX11_ahead_334 0 rfl ?_
  refine kR.iload_n dX11_ahead_335 1 rfl ?_
  refine kR.putI dX11_ahead_336 fpX11_26 zcf11 zp56 rfl h (fun σ12 h => ?_)
  exact kR.vret dX11_ahead_339 h
def fX11_ahead_325 (r204 : Int32 → Int32 → Int32 → Int32 → Int32 → zS → Option zS) (x1 : Int32) (x2 : Int32) (x3 : Int32) (x4 : Int32) (x5 : Int32) (σ : zS) : Option zS := r204 (x1 + 1) x2 x3 x4 (x5 + 1) σ
theorem kX11_ahead_325 {sc : Nat × (Nat → Int32)} (r204 : Int32 → Int32 → Int32 → Int32 → Int32 → zS → Option zS) (hr204 : ∀ (x1 : Int32) (x2 : Int32) (x3 : Int32) (x4 : Int32) (x5 : Int32) (σ : zS) (w : zS), r204 x1 x2 x3 x4 x5 σ = some w → zR (zY0 sc) 2 0 0 mX11_ahead 204 [(0, .ref 56), (1, .int x1), (2, .int x2), (3, .int x3), (4, .int x4), (5, .int x5)] [] (zE σ) (none, zE w)) (x1 : Int32) (x2 : Int32) (x3 : Int32) (x4 : Int32) (x5 : Int32) (σ : zS) (w : zS) (h : fX11_ahead_325 r204 x1 x2 x3 x4 x5 σ = some w) : zR (zY0 sc) 2 0 0 mX11_ahead 325 [(0, .ref 56), (1, .int x1), (2, .int x2), (3, .int x3), (4, .int x4), (5, .int x5)] [] (zE σ) (none, zE w) := by
  unfold fX11_ahead_325 at h
  refine zR.iinc 5 (v := x5 + 1) (ls' := [(5, .int (x5 + 1)), (0, .ref 56), (1, .int x1), (2, .int x2), (3, .int x3), (4, .int x4)]) dX11_ahead_325 rfl rfl (by decide) rfl ?_
  refine zR.iinc 2 (v := x1 + 1) (ls' := [(1, .int (x1 + 1)), (5, .int (x5 + 1)), (0, .ref 56), (2, .int x2), (3, .int x3), (4, .int x4)]) dX11_ahead_328 rfl rfl (by decide) rfl ?_
  refine zR.goto (tgt := 204) dX11_ahead_331 (by decide) ?_
  refine zR.sub [2, 0, 3, 4, 5, 1] rfl ?_
  exact hr204 _ _ _ _ _ _ _ h
def fX11_ahead_293 (r204 : Int32 → Int32 → Int32 → Int32 → Int32 → zS → Option zS) (x1 : Int32) (x2 : Int32) (x3 : Int32) (x4 : Int32) (x5 : Int32) (σ : zS) : Option zS := if x4 ≤ x5 then fX11_ahead_325 r204 x1 x2 x3 x4 x5 σ else if x3 = 0 then fX11_ahead_325 r204 x1 x2 x3 x4 x5 σ else aI σ 57 1800 x1 fun v14 => bnd (iS σ 56 6 (((10 * (iG σ 56 6)) + v14) - 48)) fun σ15 => fX11_ahead_325 r204 x1 x2 x3 x4 x5 σ15
theorem kX11_ahead_293 {sc : Nat × (Nat → Int32)} (r204 : Int32 → Int32 → Int32 → Int32 → Int32 → zS → Option zS) (hr204 : ∀ (x1 : Int32) (x2 : Int32) (x3 : Int32) (x4 : Int32) (x5 : Int32) (σ : zS) (w : zS), r204 x1 x2 x3 x4 x5 σ = some w → zR (zY0 sc) 2 0 0 mX11_ahead 204 [(0, .ref 56), (1, .int x1), (2, .int x2), (3, .int x3), (4, .int x4), (5, .int x5)] [] (zE σ) (none, zE w)) (x1 : Int32) (x2 : Int32) (x3 : Int32) (x4 : Int32) (x5 : Int32) (σ : zS) (w : zS) (h : fX11_ahead_293 r204 x1 x2 x3 x4 x5 σ = some w) : zR (zY0 sc) 2 0 0 mX11_ahead 293 [(0, .ref 56), (1, .int x1), (2, .int x2), (3, .int x3), (4, .int x4), (5, .int x5)] [] (zE σ) (none, zE w) := by
  unfold fX11_ahead_293 at h
  refine kR.iload dX11_ahead_293 5 rfl ?_
  refine kR.iload dX11_ahead_295 4 rfl ?_
  refine kR.icmp_ge (tgt := 325) dX11_ahead_297 (by decide) h (fun h => ?_) (fun h => ?_)
  · exact kX11_ahead_325 r204 hr204 _ _ _ _ _ _ _ h
  · refine kR.iload_n dX11_ahead_300 3 rfl ?_
    refine kR.if_eq (tgt := 325) dX11_ahead_301 (by decide) h (fun h => ?_) (fun h => ?_)
    · exact kX11_ahead_325 r204 hr204 _ _ _ _ _ _ _ h
    · refine kR.aload_n dX11_ahead_304 0 rfl ?_
      refine zR.bipush (v := 10) dX11_ahead_305 (by decide) ?_
      refine kR.aload_n dX11_ahead_307 0 rfl ?_
      refine kR.getI dX11_ahead_308 flX11_29 zcf11 zp56 (Or.inl rfl) ?_
      refine zR.imul dX11_ahead_311 ?_
      refine kR.aload_n dX11_ahead_312 0 rfl ?_
      refine kR.getR (v := 57) dX11_ahead_313 flX11_7 zcf11 zp56 (Or.inr ⟨_, rfl⟩) rfl ?_
      refine kR.iload_n dX11_ahead_316 1 rfl ?_
      refine kR.iald dX11_ahead_317 zp57 rfl h (fun v14 h => ?_)
      refine zR.iadd dX11_ahead_318 ?_
      refine zR.bipush (v := 48) dX11_ahead_319 (by decide) ?_
      refine zR.isub dX11_ahead_321 ?_
      refine kR.putI dX11_ahead_322 fpX11_29 zcf11 zp56 rfl h (fun σ15 h => ?_)
      exact kX11_ahead_325 r204 hr204 _ _ _ _ _ _ _ h
def fX11_ahead_263 (r204 : Int32 → Int32 → Int32 → Int32 → Int32 → zS → Option zS) (x1 : Int32) (x2 : Int32) (x3 : Int32) (x4 : Int32) (x5 : Int32) (σ : zS) : Option zS := if x4 ≤ x5 then fX11_ahead_293 r204 x1 x2 x3 x4 x5 σ else if x2 = 0 then fX11_ahead_293 r204 x1 x2 x3 x4 x5 σ else aI σ 57 1800 x1 fun v16 => bnd (lS σ 56 7 (((lG σ 56 7) <<< (((8) : Int32).toInt64 &&& 63)) ||| v16.toInt64)) fun σ17 => fX11_ahead_293 r204 x1 x2 x3 x4 x5 σ17
theorem kX11_ahead_263 {sc : Nat × (Nat → Int32)} (r204 : Int32 → Int32 → Int32 → Int32 → Int32 → zS → Option zS) (hr204 : ∀ (x1 : Int32) (x2 : Int32) (x3 : Int32) (x4 : Int32) (x5 : Int32) (σ : zS) (w : zS), r204 x1 x2 x3 x4 x5 σ = some w → zR (zY0 sc) 2 0 0 mX11_ahead 204 [(0, .ref 56), (1, .int x1), (2, .int x2), (3, .int x3), (4, .int x4), (5, .int x5)] [] (zE σ) (none, zE w)) (x1 : Int32) (x2 : Int32) (x3 : Int32) (x4 : Int32) (x5 : Int32) (σ : zS) (w : zS) (h : fX11_ahead_263 r204 x1 x2 x3 x4 x5 σ = some w) : zR (zY0 sc) 2 0 0 mX11_ahead 263 [(0, .ref 56), (1, .int x1), (2, .int x2), (3, .int x3), (4, .int x4), (5, .int x5)] [] (zE σ) (none, zE w) := by
  unfold fX11_ahead_263 at h
  refine kR.iload dX11_ahead_263 5 rfl ?_
  refine kR.iload dX11_ahead_265 4 rfl ?_
  refine kR.icmp_ge (tgt := 293) dX11_ahead_267 (by decide) h (fun h => ?_) (fun h => ?_)
  · exact kX11_ahead_293 r204 hr204 _ _ _ _ _ _ _ h
  · refine kR.iload_n dX11_ahead_270 2 rfl ?_
    refine kR.if_eq (tgt := 293) dX11_ahead_271 (by decide) h (fun h => ?_) (fun h => ?_)
    · exact kX11_ahead_293 r204 hr204 _ _ _ _ _ _ _ h
    · refine kR.aload_n dX11_ahead_274 0 rfl ?_
      refine kR.aload_n dX11_ahead_275 0 rfl ?_
      refine kR.getL dX11_ahead_276 flX11_32 zcf11 zp56 rfl ?_
      refine zR.bipush (v := 8) dX11_ahead_279 (by decide) ?_
      refine zR.lshl dX11_ahead_281 ?_
      refine kR.aload_n dX11_ahead_282 0 rfl ?_
      refine kR.getR (v := 57) dX11_ahead_283 flX11_7 zcf11 zp56 (Or.inr ⟨_, rfl⟩) rfl ?_
      refine kR.iload_n dX11_ahead_286 1 rfl ?_
      refine kR.iald dX11_ahead_287 zp57 rfl h (fun v16 h => ?_)
      refine zR.i2l dX11_ahead_288 ?_
      refine zR.lor dX11_ahead_289 ?_
      refine kR.putL dX11_ahead_290 fpX11_32 zcf11 zp56 rfl h (fun σ17 h => ?_)
      exact kX11_ahead_293 r204 hr204 _ _ _ _ _ _ _ h
def fX11_ahead_243 (r204 : Int32 → Int32 → Int32 → Int32 → Int32 → zS → Option zS) (x1 : Int32) (x2 : Int32) (x3 : Int32) (x4 : Int32) (x5 : Int32) (σ : zS) : Option zS := if x5 = x4 then if (iG σ 56 12) = ((-1)) then bnd (iS σ 56 12 x1) fun σ18 => fX11_ahead_263 r204 x1 x2 x3 x4 x5 σ18 else fX11_ahead_263 r204 x1 x2 x3 x4 x5 σ else fX11_ahead_263 r204 x1 x2 x3 x4 x5 σ
theorem kX11_ahead_243 {sc : Nat × (Nat → Int32)} (r204 : Int32 → Int32 → Int32 → Int32 → Int32 → zS → Option zS) (hr204 : ∀ (x1 : Int32) (x2 : Int32) (x3 : Int32) (x4 : Int32) (x5 : Int32) (σ : zS) (w : zS), r204 x1 x2 x3 x4 x5 σ = some w → zR (zY0 sc) 2 0 0 mX11_ahead 204 [(0, .ref 56), (1, .int x1), (2, .int x2), (3, .int x3), (4, .int x4), (5, .int x5)] [] (zE σ) (none, zE w)) (x1 : Int32) (x2 : Int32) (x3 : Int32) (x4 : Int32) (x5 : Int32) (σ : zS) (w : zS) (h : fX11_ahead_243 r204 x1 x2 x3 x4 x5 σ = some w) : zR (zY0 sc) 2 0 0 mX11_ahead 243 [(0, .ref 56), (1, .int x1), (2, .int x2), (3, .int x3), (4, .int x4), (5, .int x5)] [] (zE σ) (none, zE w) := by
  unfold fX11_ahead_243 at h
  refine kR.iload dX11_ahead_243 5 rfl ?_
  refine kR.iload dX11_ahead_245 4 rfl ?_
  refine kR.icmp_ne (tgt := 263) dX11_ahead_247 (by decide) h (fun h => ?_) (fun h => ?_)
  · exact kX11_ahead_263 r204 hr204 _ _ _ _ _ _ _ h
  · refine kR.aload_n dX11_ahead_250 0 rfl ?_
    refine kR.getI dX11_ahead_251 flX11_48 zcf11 zp56 (Or.inl rfl) ?_
    refine zR.iconst (v := (-1)) dX11_ahead_254 (by decide) ?_
    refine kR.icmp_ne (tgt := 263) dX11_ahead_255 (by decide) h (fun h => ?_) (fun h => ?_)
    · exact kX11_ahead_263 r204 hr204 _ _ _ _ _ _ _ h
    · refine kR.aload_n dX11_ahead_258 0 rfl ?_
      refine kR.iload_n dX11_ahead_259 1 rfl ?_
      refine kR.putI dX11_ahead_260 fpX11_48 zcf11 zp56 rfl h (fun σ18 h => ?_)
      exact kX11_ahead_263 r204 hr204 _ _ _ _ _ _ _ h
def fX11_ahead_204 : Nat → Int32 → Int32 → Int32 → Int32 → Int32 → zS → Option zS
  | 0, _, _, _, _, _, _ => none
  | f + 1, x1, x2, x3, x4, x5, σ => if (iG σ 56 2) ≤ x1 then fX11_ahead_334 x1 σ else if x2 = 0 then aI σ 57 1800 x1 fun v13 => if (fX11_isDigit v13) = 0 then fX11_ahead_334 x1 σ else fX11_ahead_243 (fX11_ahead_204 f) x1 x2 x3 x4 x5 σ else aI σ 57 1800 x1 fun v19 => if (fX11_isLetter v19) = 0 then fX11_ahead_334 x1 σ else fX11_ahead_243 (fX11_ahead_204 f) x1 x2 x3 x4 x5 σ
theorem kX11_ahead_204 {sc : Nat × (Nat → Int32)} : ∀ (fuel : Nat) (x1 : Int32) (x2 : Int32) (x3 : Int32) (x4 : Int32) (x5 : Int32) (σ : zS) (w : zS) (h : fX11_ahead_204 fuel x1 x2 x3 x4 x5 σ = some w), zR (zY0 sc) 2 0 0 mX11_ahead 204 [(0, .ref 56), (1, .int x1), (2, .int x2), (3, .int x3), (4, .int x4), (5, .int x5)] [] (zE σ) (none, zE w) := by
  intro fuel
  induction fuel with
  | zero => intro x1 x2 x3 x4 x5 σ w h; exact nomatch h
  | succ f ih =>
    intro x1 x2 x3 x4 x5 σ w h
    rw [fX11_ahead_204] at h
    refine kR.iload_n dX11_ahead_204 1 rfl ?_
    refine kR.aload_n dX11_ahead_205 0 rfl ?_
    refine kR.getI dX11_ahead_206 flX11_17 zcf11 zp56 (Or.inl rfl) ?_
    refine kR.icmp_ge (tgt := 334) dX11_ahead_209 (by decide) h (fun h => ?_) (fun h => ?_)
    · refine zR.sub [0, 1] rfl ?_
      exact kX11_ahead_334 _ _ _ h
    · refine kR.iload_n dX11_ahead_212 2 rfl ?_
      refine kR.if_eq (tgt := 231) dX11_ahead_213 (by decide) h (fun h => ?_) (fun h => ?_)
      · refine kR.aload_n dX11_ahead_231 0 rfl ?_
        refine kR.getR (v := 57) dX11_ahead_232 flX11_7 zcf11 zp56 (Or.inr ⟨_, rfl⟩) rfl ?_
        refine kR.iload_n dX11_ahead_235 1 rfl ?_
        refine kR.iald dX11_ahead_236 zp57 rfl h (fun v13 h => ?_)
        refine kR.cSi [.int v13] dX11_ahead_237 rfl (by decide) (Or.inl mwX11_268) rfl (Nat.le_of_ble_eq_true rfl) (lX11_isDigit v13) ?_
        refine kR.if_eq (tgt := 334) dX11_ahead_240 (by decide) h (fun h => ?_) (fun h => ?_)
        · refine zR.sub [0, 1] rfl ?_
          exact kX11_ahead_334 _ _ _ h
        · exact kX11_ahead_243 (fX11_ahead_204 f) ih _ _ _ _ _ _ _ h
      · refine kR.aload_n dX11_ahead_216 0 rfl ?_
        refine kR.getR (v := 57) dX11_ahead_217 flX11_7 zcf11 zp56 (Or.inr ⟨_, rfl⟩) rfl ?_
        refine kR.iload_n dX11_ahead_220 1 rfl ?_
        refine kR.iald dX11_ahead_221 zp57 rfl h (fun v19 h => ?_)
        refine kR.cSi [.int v19] dX11_ahead_222 rfl (by decide) (Or.inl mwX11_264) rfl (Nat.le_of_ble_eq_true rfl) (lX11_isLetter v19) ?_
        refine kR.if_eq (tgt := 334) dX11_ahead_225 (by decide) h (fun h => ?_) (fun h => ?_)
        · refine zR.sub [0, 1] rfl ?_
          exact kX11_ahead_334 _ _ _ h
        · refine zR.goto (tgt := 243) dX11_ahead_228 (by decide) ?_
          exact kX11_ahead_243 (fX11_ahead_204 f) ih _ _ _ _ _ _ _ h
def fX11_ahead_199 (x1 : Int32) (x2 : Int32) (x3 : Int32) (s0 : Int32) (σ : zS) : Option zS := fX11_ahead_204 zF x1 x2 x3 s0 0 σ
theorem kX11_ahead_199 {sc : Nat × (Nat → Int32)} (x1 : Int32) (x2 : Int32) (x3 : Int32) (s0 : Int32) (σ : zS) (w : zS) (h : fX11_ahead_199 x1 x2 x3 s0 σ = some w) : zR (zY0 sc) 2 0 0 mX11_ahead 199 [(0, .ref 56), (1, .int x1), (2, .int x2), (3, .int x3)] [.int s0] (zE σ) (none, zE w) := by
  unfold fX11_ahead_199 at h
  refine zR.istore (i := 4) (ls' := [(4, .int s0), (0, .ref 56), (1, .int x1), (2, .int x2), (3, .int x3)]) dX11_ahead_199 (by decide) rfl ?_
  refine zR.iconst (v := 0) dX11_ahead_201 (by decide) ?_
  refine zR.istore (i := 5) (ls' := [(5, .int 0), (4, .int s0), (0, .ref 56), (1, .int x1), (2, .int x2), (3, .int x3)]) dX11_ahead_202 (by decide) rfl ?_
  refine zR.sub [2, 3, 4, 5, 1, 0] rfl ?_
  exact kX11_ahead_204 zF _ _ _ _ _ _ _ h
def fX11_ahead_186 (x1 : Int32) (x2 : Int32) (x3 : Int32) (s0 : Int32) (σ : zS) : Option zS := bnd (iS σ 56 3 s0) fun σ11 => if x2 = 0 then fX11_ahead_199 x1 x2 x3 4 σ11 else fX11_ahead_199 x1 x2 x3 6 σ11
theorem kX11_ahead_186 {sc : Nat × (Nat → Int32)} (x1 : Int32) (x2 : Int32) (x3 : Int32) (s0 : Int32) (σ : zS) (w : zS) (h : fX11_ahead_186 x1 x2 x3 s0 σ = some w) : zR (zY0 sc) 2 0 0 mX11_ahead 186 [(0, .ref 56), (1, .int x1), (2, .int x2), (3, .int x3)] [.int s0, .ref 56] (zE σ) (none, zE w) := by
  unfold fX11_ahead_186 at h
  refine kR.putI dX11_ahead_186 fpX11_20 zcf11 zp56 rfl h (fun σ11 h => ?_)
  refine kR.iload_n dX11_ahead_189 2 rfl ?_
  refine kR.if_eq (tgt := 198) dX11_ahead_190 (by decide) h (fun h => ?_) (fun h => ?_)
  · refine zR.iconst (v := 4) dX11_ahead_198 (by decide) ?_
    exact kX11_ahead_199 _ _ _ _ _ _ h
  · refine zR.bipush (v := 6) dX11_ahead_193 (by decide) ?_
    refine zR.goto (tgt := 199) dX11_ahead_195 (by decide) ?_
    exact kX11_ahead_199 _ _ _ _ _ _ h
def fX11_ahead_176 (x1 : Int32) (x2 : Int32) (x3 : Int32) (σ : zS) : Option zS := if x2 = 0 then fX11_ahead_186 x1 x2 x3 2 σ else fX11_ahead_186 x1 x2 x3 1 σ
theorem kX11_ahead_176 {sc : Nat × (Nat → Int32)} (x1 : Int32) (x2 : Int32) (x3 : Int32) (σ : zS) (w : zS) (h : fX11_ahead_176 x1 x2 x3 σ = some w) : zR (zY0 sc) 2 0 0 mX11_ahead 176 [(0, .ref 56), (1, .int x1), (2, .int x2), (3, .int x3)] [] (zE σ) (none, zE w) := by
  unfold fX11_ahead_176 at h
  refine kR.aload_n dX11_ahead_176 0 rfl ?_
  refine kR.iload_n dX11_ahead_177 2 rfl ?_
  refine kR.if_eq (tgt := 185) dX11_ahead_178 (by decide) h (fun h => ?_) (fun h => ?_)
  · refine zR.iconst (v := 2) dX11_ahead_185 (by decide) ?_
    exact kX11_ahead_186 _ _ _ _ _ _ h
  · refine zR.iconst (v := 1) dX11_ahead_181 (by decide) ?_
    refine zR.goto (tgt := 186) dX11_ahead_182 (by decide) ?_
    exact kX11_ahead_186 _ _ _ _ _ _ h
def fX11_ahead_135 (x1 : Int32) (x2 : Int32) (x3 : Int32) (σ : zS) : Option zS := bnd (iS σ 56 6 0) fun σ7 => bnd (lS σ7 56 7 0) fun σ8 => bnd (iS σ8 56 3 3) fun σ9 => bnd (iS σ9 56 5 (x1 + 1)) fun σ10 => if x2 = 0 then if x3 = 0 then aI σ10 57 1800 x1 fun v20 => bnd (iS σ10 56 6 v20) fun σ21 => some σ21 else fX11_ahead_176 x1 x2 x3 σ10 else fX11_ahead_176 x1 x2 x3 σ10
theorem kX11_ahead_135 {sc : Nat × (Nat → Int32)} (x1 : Int32) (x2 : Int32) (x3 : Int32) (σ : zS) (w : zS) (h : fX11_ahead_135 x1 x2 x3 σ = some w) : zR (zY0 sc) 2 0 0 mX11_ahead 135 [(0, .ref 56), (1, .int x1), (2, .int x2), (3, .int x3)] [] (zE σ) (none, zE w) := by
  unfold fX11_ahead_135 at h
  refine kR.aload_n dX11_ahead_135 0 rfl ?_
  refine zR.iconst (v := 0) dX11_ahead_136 (by decide) ?_
  refine kR.putI dX11_ahead_137 fpX11_29 zcf11 zp56 rfl h (fun σ7 h => ?_)
  refine kR.aload_n dX11_ahead_140 0 rfl ?_
  refine zR.lconst (v := 0) dX11_ahead_141 (by decide) ?_
  refine kR.putL dX11_ahead_142 fpX11_32 zcf11 zp56 rfl h (fun σ8 h => ?_)
  refine kR.aload_n dX11_ahead_145 0 rfl ?_
  refine zR.iconst (v := 3) dX11_ahead_146 (by decide) ?_
  refine kR.putI dX11_ahead_147 fpX11_20 zcf11 zp56 rfl h (fun σ9 h => ?_)
  refine kR.aload_n dX11_ahead_150 0 rfl ?_
  refine kR.iload_n dX11_ahead_151 1 rfl ?_
  refine zR.iconst (v := 1) dX11_ahead_152 (by decide) ?_
  refine zR.iadd dX11_ahead_153 ?_
  refine kR.putI dX11_ahead_154 fpX11_26 zcf11 zp56 rfl h (fun σ10 h => ?_)
  refine kR.iload_n dX11_ahead_157 2 rfl ?_
  refine kR.if_ne (tgt := 176) dX11_ahead_158 (by decide) h (fun h => ?_) (fun h => ?_)
  · exact kX11_ahead_176 _ _ _ _ _ h
  · refine kR.iload_n dX11_ahead_161 3 rfl ?_
    refine kR.if_ne (tgt := 176) dX11_ahead_162 (by decide) h (fun h => ?_) (fun h => ?_)
    · exact kX11_ahead_176 _ _ _ _ _ h
    · refine kR.aload_n dX11_ahead_165 0 rfl ?_
      refine kR.aload_n dX11_ahead_166 0 rfl ?_
      refine kR.getR (v := 57) dX11_ahead_167 flX11_7 zcf11 zp56 (Or.inr ⟨_, rfl⟩) rfl ?_
      refine kR.iload_n dX11_ahead_170 1 rfl ?_
      refine kR.iald dX11_ahead_171 zp57 rfl h (fun v20 h => ?_)
      refine kR.putI dX11_ahead_172 fpX11_29 zcf11 zp56 rfl h (fun σ21 h => ?_)
      exact kR.vret dX11_ahead_175 h
def fX11_ahead_130 (x1 : Int32) (x2 : Int32) (x3 : Int32) (σ : zS) : Option zS := bnd (iS σ 56 12 x1) fun σ23 => fX11_ahead_135 x1 x2 x3 σ23
theorem kX11_ahead_130 {sc : Nat × (Nat → Int32)} (x1 : Int32) (x2 : Int32) (x3 : Int32) (σ : zS) (w : zS) (h : fX11_ahead_130 x1 x2 x3 σ = some w) : zR (zY0 sc) 2 0 0 mX11_ahead 130 [(0, .ref 56), (1, .int x1), (2, .int x2), (3, .int x3)] [] (zE σ) (none, zE w) := by
  unfold fX11_ahead_130 at h
  refine kR.aload_n dX11_ahead_130 0 rfl ?_
  refine kR.iload_n dX11_ahead_131 1 rfl ?_
  refine kR.putI dX11_ahead_132 fpX11_48 zcf11 zp56 rfl h (fun σ23 h => ?_)
  exact kX11_ahead_135 _ _ _ _ _ h
def fX11_ahead_98 (x1 : Int32) (x2 : Int32) (x3 : Int32) (σ : zS) : Option zS := if x1 ≤ 0 then fX11_ahead_135 x1 x2 x3 σ else aI σ 57 1800 (x1 - 1) fun v22 => if (fX11_isLetter v22) = 0 then aI σ 57 1800 (x1 - 1) fun v24 => if (fX11_isDigit v24) = 0 then fX11_ahead_135 x1 x2 x3 σ else fX11_ahead_130 x1 x2 x3 σ else fX11_ahead_130 x1 x2 x3 σ
theorem kX11_ahead_98 {sc : Nat × (Nat → Int32)} (x1 : Int32) (x2 : Int32) (x3 : Int32) (σ : zS) (w : zS) (h : fX11_ahead_98 x1 x2 x3 σ = some w) : zR (zY0 sc) 2 0 0 mX11_ahead 98 [(0, .ref 56), (1, .int x1), (2, .int x2), (3, .int x3)] [] (zE σ) (none, zE w) := by
  unfold fX11_ahead_98 at h
  refine kR.iload_n dX11_ahead_98 1 rfl ?_
  refine kR.if_le (tgt := 135) dX11_ahead_99 (by decide) h (fun h => ?_) (fun h => ?_)
  · exact kX11_ahead_135 _ _ _ _ _ h
  · refine kR.aload_n dX11_ahead_102 0 rfl ?_
    refine kR.getR (v := 57) dX11_ahead_103 flX11_7 zcf11 zp56 (Or.inr ⟨_, rfl⟩) rfl ?_
    refine kR.iload_n dX11_ahead_106 1 rfl ?_
    refine zR.iconst (v := 1) dX11_ahead_107 (by decide) ?_
    refine zR.isub dX11_ahead_108 ?_
    refine kR.iald dX11_ahead_109 zp57 rfl h (fun v22 h => ?_)
    refine kR.cSi [.int v22] dX11_ahead_110 rfl (by decide) (Or.inl mwX11_264) rfl (Nat.le_of_ble_eq_true rfl) (lX11_isLetter v22) ?_
    refine kR.if_ne (tgt := 130) dX11_ahead_113 (by decide) h (fun h => ?_) (fun h => ?_)
    · exact kX11_ahead_130 _ _ _ _ _ h
    · refine kR.aload_n dX11_ahead_116 0 rfl ?_
      refine kR.getR (v := 57) dX11_ahead_117 flX11_7 zcf11 zp56 (Or.inr ⟨_, rfl⟩) rfl ?_
      refine kR.iload_n dX11_ahead_120 1 rfl ?_
      refine zR.iconst (v := 1) dX11_ahead_121 (by decide) ?_
      refine zR.isub dX11_ahead_122 ?_
      refine kR.iald dX11_ahead_123 zp57 rfl h (fun v24 h => ?_)
      refine kR.cSi [.int v24] dX11_ahead_124 rfl (by decide) (Or.inl mwX11_268) rfl (Nat.le_of_ble_eq_true rfl) (lX11_isDigit v24) ?_
      refine kR.if_eq (tgt := 135) dX11_ahead_127 (by decide) h (fun h => ?_) (fun h => ?_)
      · exact kX11_ahead_135 _ _ _ _ _ h
      · exact kX11_ahead_130 _ _ _ _ _ h
def fX11_ahead_41 (x1 : Int32) (σ : zS) : Option zS := bnd (iS σ 56 4 x1) fun σ1 => bnd (iS σ1 56 5 x1) fun σ2 => bnd (iS σ2 56 3 0) fun σ3 => bnd (iS σ3 56 12 ((-1))) fun σ4 => if x1 < (iG σ4 56 2) then aI σ4 57 1800 x1 fun v5 => aI σ4 57 1800 x1 fun v6 => if (fX11_isLetter v5) = 0 then if (fX11_isDigit v6) = 0 then fX11_ahead_135 x1 (fX11_isLetter v5) (fX11_isDigit v6) σ4 else fX11_ahead_98 x1 (fX11_isLetter v5) (fX11_isDigit v6) σ4 else fX11_ahead_98 x1 (fX11_isLetter v5) (fX11_isDigit v6) σ4 else some σ4
theorem kX11_ahead_41 {sc : Nat × (Nat → Int32)} (x1 : Int32) (σ : zS) (w : zS) (h : fX11_ahead_41 x1 σ = some w) : zR (zY0 sc) 2 0 0 mX11_ahead 41 [(0, .ref 56), (1, .int x1)] [] (zE σ) (none, zE w) := by
  unfold fX11_ahead_41 at h
  refine kR.aload_n dX11_ahead_41 0 rfl ?_
  refine kR.iload_n dX11_ahead_42 1 rfl ?_
  refine kR.putI dX11_ahead_43 fpX11_23 zcf11 zp56 rfl h (fun σ1 h => ?_)
  refine kR.aload_n dX11_ahead_46 0 rfl ?_
  refine kR.iload_n dX11_ahead_47 1 rfl ?_
  refine kR.putI dX11_ahead_48 fpX11_26 zcf11 zp56 rfl h (fun σ2 h => ?_)
  refine kR.aload_n dX11_ahead_51 0 rfl ?_
  refine zR.iconst (v := 0) dX11_ahead_52 (by decide) ?_
  refine kR.putI dX11_ahead_53 fpX11_20 zcf11 zp56 rfl h (fun σ3 h => ?_)
  refine kR.aload_n dX11_ahead_56 0 rfl ?_
  refine zR.iconst (v := (-1)) dX11_ahead_57 (by decide) ?_
  refine kR.putI dX11_ahead_58 fpX11_48 zcf11 zp56 rfl h (fun σ4 h => ?_)
  refine kR.iload_n dX11_ahead_61 1 rfl ?_
  refine kR.aload_n dX11_ahead_62 0 rfl ?_
  refine kR.getI dX11_ahead_63 flX11_17 zcf11 zp56 (Or.inl rfl) ?_
  refine kR.icmp_lt (tgt := 70) dX11_ahead_66 (by decide) h (fun h => ?_) (fun h => ?_)
  · refine kR.aload_n dX11_ahead_70 0 rfl ?_
    refine kR.getR (v := 57) dX11_ahead_71 flX11_7 zcf11 zp56 (Or.inr ⟨_, rfl⟩) rfl ?_
    refine kR.iload_n dX11_ahead_74 1 rfl ?_
    refine kR.iald dX11_ahead_75 zp57 rfl h (fun v5 h => ?_)
    refine kR.cSi [.int v5] dX11_ahead_76 rfl (by decide) (Or.inl mwX11_264) rfl (Nat.le_of_ble_eq_true rfl) (lX11_isLetter v5) ?_
    refine zR.istore_n (i := 2) (ls' := [(2, .int (fX11_isLetter v5)), (0, .ref 56), (1, .int x1)]) dX11_ahead_79 rfl (by decide) rfl ?_
    refine kR.aload_n dX11_ahead_80 1 rfl ?_
    refine kR.getR (v := 57) dX11_ahead_81 flX11_7 zcf11 zp56 (Or.inr ⟨_, rfl⟩) rfl ?_
    refine kR.iload_n dX11_ahead_84 2 rfl ?_
    refine kR.iald dX11_ahead_85 zp57 rfl h (fun v6 h => ?_)
    refine kR.cSi [.int v6] dX11_ahead_86 rfl (by decide) (Or.inl mwX11_268) rfl (Nat.le_of_ble_eq_true rfl) (lX11_isDigit v6) ?_
    refine zR.istore_n (i := 3) (ls' := [(3, .int (fX11_isDigit v6)), (2, .int (fX11_isLetter v5)), (0, .ref 56), (1, .int x1)]) dX11_ahead_89 rfl (by decide) rfl ?_
    refine kR.iload_n dX11_ahead_90 1 rfl ?_
    refine kR.if_ne (tgt := 98) dX11_ahead_91 (by decide) h (fun h => ?_) (fun h => ?_)
    · refine zR.sub [2, 3, 1, 0] rfl ?_
      exact kX11_ahead_98 _ _ _ _ _ h
    · refine kR.iload_n dX11_ahead_94 0 rfl ?_
      refine kR.if_eq (tgt := 135) dX11_ahead_95 (by decide) h (fun h => ?_) (fun h => ?_)
      · refine zR.sub [2, 3, 1, 0] rfl ?_
        exact kX11_ahead_135 _ _ _ _ _ h
      · refine zR.sub [2, 3, 1, 0] rfl ?_
        exact kX11_ahead_98 _ _ _ _ _ h
  · exact kR.vret dX11_ahead_69 h
def fX11_ahead_35 (r5 : Int32 → zS → Option zS) (x1 : Int32) (σ : zS) : Option zS := r5 (x1 + 1) σ
theorem kX11_ahead_35 {sc : Nat × (Nat → Int32)} (r5 : Int32 → zS → Option zS) (hr5 : ∀ (x1 : Int32) (σ : zS) (w : zS), r5 x1 σ = some w → zR (zY0 sc) 2 0 0 mX11_ahead 5 [(0, .ref 56), (1, .int x1)] [] (zE σ) (none, zE w)) (x1 : Int32) (σ : zS) (w : zS) (h : fX11_ahead_35 r5 x1 σ = some w) : zR (zY0 sc) 2 0 0 mX11_ahead 35 [(0, .ref 56), (1, .int x1)] [] (zE σ) (none, zE w) := by
  unfold fX11_ahead_35 at h
  refine zR.iinc 1 (v := x1 + 1) (ls' := [(1, .int (x1 + 1)), (0, .ref 56)]) dX11_ahead_35 rfl rfl (by decide) rfl ?_
  refine zR.goto (tgt := 5) dX11_ahead_38 (by decide) ?_
  refine zR.sub [1, 0] rfl ?_
  exact hr5 _ _ _ h
def fX11_ahead_5 : Nat → Int32 → zS → Option zS
  | 0, _, _ => none
  | f + 1, x1, σ => if (iG σ 56 2) ≤ x1 then fX11_ahead_41 x1 σ else aI σ 57 1800 x1 fun v25 => if v25 = 32 then fX11_ahead_35 (fX11_ahead_5 f) x1 σ else aI σ 57 1800 x1 fun v26 => if v26 = 10 then fX11_ahead_35 (fX11_ahead_5 f) x1 σ else fX11_ahead_41 x1 σ
theorem kX11_ahead_5 {sc : Nat × (Nat → Int32)} : ∀ (fuel : Nat) (x1 : Int32) (σ : zS) (w : zS) (h : fX11_ahead_5 fuel x1 σ = some w), zR (zY0 sc) 2 0 0 mX11_ahead 5 [(0, .ref 56), (1, .int x1)] [] (zE σ) (none, zE w) := by
  intro fuel
  induction fuel with
  | zero => intro x1 σ w h; exact nomatch h
  | succ f ih =>
    intro x1 σ w h
    rw [fX11_ahead_5] at h
    refine kR.iload_n dX11_ahead_5 1 rfl ?_
    refine kR.aload_n dX11_ahead_6 0 rfl ?_
    refine kR.getI dX11_ahead_7 flX11_17 zcf11 zp56 (Or.inl rfl) ?_
    refine kR.icmp_ge (tgt := 41) dX11_ahead_10 (by decide) h (fun h => ?_) (fun h => ?_)
    · exact kX11_ahead_41 _ _ _ h
    · refine kR.aload_n dX11_ahead_13 0 rfl ?_
      refine kR.getR (v := 57) dX11_ahead_14 flX11_7 zcf11 zp56 (Or.inr ⟨_, rfl⟩) rfl ?_
      refine kR.iload_n dX11_ahead_17 1 rfl ?_
      refine kR.iald dX11_ahead_18 zp57 rfl h (fun v25 h => ?_)
      refine zR.bipush (v := 32) dX11_ahead_19 (by decide) ?_
      refine kR.icmp_eq (tgt := 35) dX11_ahead_21 (by decide) h (fun h => ?_) (fun h => ?_)
      · exact kX11_ahead_35 (fX11_ahead_5 f) ih _ _ _ h
      · refine kR.aload_n dX11_ahead_24 0 rfl ?_
        refine kR.getR (v := 57) dX11_ahead_25 flX11_7 zcf11 zp56 (Or.inr ⟨_, rfl⟩) rfl ?_
        refine kR.iload_n dX11_ahead_28 1 rfl ?_
        refine kR.iald dX11_ahead_29 zp57 rfl h (fun v26 h => ?_)
        refine zR.bipush (v := 10) dX11_ahead_30 (by decide) ?_
        refine kR.icmp_ne (tgt := 41) dX11_ahead_32 (by decide) h (fun h => ?_) (fun h => ?_)
        · exact kX11_ahead_41 _ _ _ h
        · exact kX11_ahead_35 (fX11_ahead_5 f) ih _ _ _ h
def fX11_ahead (σ : zS) : Option zS := fX11_ahead_5 zF (iG σ 56 5) σ
theorem eX11_ahead {sc : Nat × (Nat → Int32)} (σ : zS) (w : zS) (h : fX11_ahead σ = some w) : zR (zY0 sc) 2 0 0 mX11_ahead 0 [(0, .ref 56)] [] (zE σ) (none, zE w) := by
  unfold fX11_ahead at h
  refine kR.aload_n dX11_ahead_0 0 rfl ?_
  refine kR.getI dX11_ahead_1 flX11_26 zcf11 zp56 (Or.inl rfl) ?_
  refine zR.istore_n (i := 1) (ls' := [(1, .int (iG σ 56 5)), (0, .ref 56)]) dX11_ahead_4 rfl (by decide) rfl ?_
  refine zR.sub [1, 0] rfl ?_
  exact kX11_ahead_5 zF _ _ _ h
theorem lX11_ahead {sc : Nat × (Nat → Int32)} (σ : zS) (w : zS) (h : fX11_ahead σ = some w) : zC (zY0 sc) 2 0 0 mX11_ahead [.ref 56] (zE σ) (none, zE w) := zC.of (by decide +kernel) (Nat.le_of_ble_eq_true rfl) rfl (eX11_ahead σ w h)
theorem dX11_isSign_0 : decode cX11_isSign 0 = .ok (.aload_n 0, 1) := by decide +kernel
theorem dX11_isSign_1 : decode cX11_isSign 1 = .ok (.getfield 20, 3) := by decide +kernel
theorem dX11_isSign_4 : decode cX11_isSign 4 = .ok (.iconst 3, 1) := by decide +kernel
theorem dX11_isSign_5 : decode cX11_isSign 5 = .ok (.if_icmp .ne 15, 3) := by decide +kernel
theorem dX11_isSign_8 : decode cX11_isSign 8 = .ok (.aload_n 0, 1) := by decide +kernel
theorem dX11_isSign_9 : decode cX11_isSign 9 = .ok (.getfield 29, 3) := by decide +kernel
theorem dX11_isSign_12 : decode cX11_isSign 12 = .ok (.iload_n 1, 1) := by decide +kernel
theorem dX11_isSign_13 : decode cX11_isSign 13 = .ok (.if_icmp .ne 7, 3) := by decide +kernel
theorem dX11_isSign_16 : decode cX11_isSign 16 = .ok (.iconst 1, 1) := by decide +kernel
theorem dX11_isSign_17 : decode cX11_isSign 17 = .ok (.goto 4, 3) := by decide +kernel
theorem dX11_isSign_20 : decode cX11_isSign 20 = .ok (.iconst 0, 1) := by decide +kernel
theorem dX11_isSign_21 : decode cX11_isSign 21 = .ok (.ireturn, 1) := by decide +kernel
def fX11_isSign (σ : zS) (p1 : Int32) : Int32 := if (iG σ 56 3) = 3 then if (iG σ 56 6) = p1 then 1 else 0 else 0
theorem eX11_isSign {sc : Nat × (Nat → Int32)} (σ : zS) (p1 : Int32) (w : Int32) (h : fX11_isSign σ p1 = w) : zR (zY0 sc) 1 0 0 mX11_isSign 0 [(0, .ref 56), (1, .int p1)] [] (zE σ) (some (.int w), zE σ) := by
  unfold fX11_isSign at h
  refine kR.aload_n dX11_isSign_0 0 rfl ?_
  refine kR.getI dX11_isSign_1 flX11_20 zcf11 zp56 (Or.inl rfl) ?_
  refine zR.iconst (v := 3) dX11_isSign_4 (by decide) ?_
  refine kR.icmp_ne (tgt := 20) dX11_isSign_5 (by decide) h (fun h => ?_) (fun h => ?_)
  · refine zR.iconst (v := 0) dX11_isSign_20 (by decide) ?_
    exact kR.iret dX11_isSign_21 (nzZ rfl (Or.inl rfl)) h
  · refine kR.aload_n dX11_isSign_8 0 rfl ?_
    refine kR.getI dX11_isSign_9 flX11_29 zcf11 zp56 (Or.inl rfl) ?_
    refine kR.iload_n dX11_isSign_12 1 rfl ?_
    refine kR.icmp_ne (tgt := 20) dX11_isSign_13 (by decide) h (fun h => ?_) (fun h => ?_)
    · refine zR.iconst (v := 0) dX11_isSign_20 (by decide) ?_
      exact kR.iret dX11_isSign_21 (nzZ rfl (Or.inl rfl)) h
    · refine zR.iconst (v := 1) dX11_isSign_16 (by decide) ?_
      refine zR.goto (tgt := 21) dX11_isSign_17 (by decide) ?_
      exact kR.iret dX11_isSign_21 (nzZ rfl (Or.inr rfl)) h
theorem lX11_isSign {sc : Nat × (Nat → Int32)} (σ : zS) (p1 : Int32) : zC (zY0 sc) 1 0 0 mX11_isSign [.ref 56, .int p1] (zE σ) (some (.int (fX11_isSign σ p1)), zE σ) := zC.of (by decide +kernel) (Nat.le_of_ble_eq_true rfl) ⟨_, rfl⟩ (eX11_isSign σ p1 _ rfl)
theorem dX11_isWord_0 : decode cX11_isWord 0 = .ok (.aload_n 0, 1) := by decide +kernel
theorem dX11_isWord_1 : decode cX11_isWord 1 = .ok (.getfield 20, 3) := by decide +kernel
theorem dX11_isWord_4 : decode cX11_isWord 4 = .ok (.iconst 1, 1) := by decide +kernel
theorem dX11_isWord_5 : decode cX11_isWord 5 = .ok (.if_icmp .ne 16, 3) := by decide +kernel
theorem dX11_isWord_8 : decode cX11_isWord 8 = .ok (.aload_n 0, 1) := by decide +kernel
theorem dX11_isWord_9 : decode cX11_isWord 9 = .ok (.getfield 32, 3) := by decide +kernel
theorem dX11_isWord_12 : decode cX11_isWord 12 = .ok (.lload_n 1, 1) := by decide +kernel
theorem dX11_isWord_13 : decode cX11_isWord 13 = .ok (.lcmp, 1) := by decide +kernel
theorem dX11_isWord_14 : decode cX11_isWord 14 = .ok (.ifCond .ne 7, 3) := by decide +kernel
theorem dX11_isWord_17 : decode cX11_isWord 17 = .ok (.iconst 1, 1) := by decide +kernel
theorem dX11_isWord_18 : decode cX11_isWord 18 = .ok (.goto 4, 3) := by decide +kernel
theorem dX11_isWord_21 : decode cX11_isWord 21 = .ok (.iconst 0, 1) := by decide +kernel
theorem dX11_isWord_22 : decode cX11_isWord 22 = .ok (.ireturn, 1) := by decide +kernel
def fX11_isWord (σ : zS) (p1 : Int64) : Int32 := if (iG σ 56 3) = 1 then if (lG σ 56 7) = p1 then 1 else 0 else 0
theorem eX11_isWord {sc : Nat × (Nat → Int32)} (σ : zS) (p1 : Int64) (w : Int32) (h : fX11_isWord σ p1 = w) : zR (zY0 sc) 1 0 0 mX11_isWord 0 [(0, .ref 56), (1, .long p1)] [] (zE σ) (some (.int w), zE σ) := by
  unfold fX11_isWord at h
  refine kR.aload_n dX11_isWord_0 0 rfl ?_
  refine kR.getI dX11_isWord_1 flX11_20 zcf11 zp56 (Or.inl rfl) ?_
  refine zR.iconst (v := 1) dX11_isWord_4 (by decide) ?_
  refine kR.icmp_ne (tgt := 21) dX11_isWord_5 (by decide) h (fun h => ?_) (fun h => ?_)
  · refine zR.iconst (v := 0) dX11_isWord_21 (by decide) ?_
    exact kR.iret dX11_isWord_22 (nzZ rfl (Or.inl rfl)) h
  · refine kR.aload_n dX11_isWord_8 0 rfl ?_
    refine kR.getL dX11_isWord_9 flX11_32 zcf11 zp56 rfl ?_
    refine kR.lload_n dX11_isWord_12 1 rfl ?_
    refine kR.lcmp_ne (tgt := 21) dX11_isWord_13 dX11_isWord_14 (by decide) h (fun h => ?_) (fun h => ?_)
    · refine zR.iconst (v := 0) dX11_isWord_21 (by decide) ?_
      exact kR.iret dX11_isWord_22 (nzZ rfl (Or.inl rfl)) h
    · refine zR.iconst (v := 1) dX11_isWord_17 (by decide) ?_
      refine zR.goto (tgt := 22) dX11_isWord_18 (by decide) ?_
      exact kR.iret dX11_isWord_22 (nzZ rfl (Or.inr rfl)) h
theorem lX11_isWord {sc : Nat × (Nat → Int32)} (σ : zS) (p1 : Int64) : zC (zY0 sc) 1 0 0 mX11_isWord [.ref 56, .long p1] (zE σ) (some (.int (fX11_isWord σ p1)), zE σ) := zC.of (by decide +kernel) (Nat.le_of_ble_eq_true rfl) ⟨_, rfl⟩ (eX11_isWord σ p1 _ rfl)
theorem dX11_must_0 : decode cX11_must 0 = .ok (.aload_n 0, 1) := by decide +kernel
theorem dX11_must_1 : decode cX11_must 1 = .ok (.invokevirtual 271, 3) := by decide +kernel
theorem dX11_must_4 : decode cX11_must 4 = .ok (.aload_n 0, 1) := by decide +kernel
theorem dX11_must_5 : decode cX11_must 5 = .ok (.iload_n 1, 1) := by decide +kernel
theorem dX11_must_6 : decode cX11_must 6 = .ok (.invokevirtual 274, 3) := by decide +kernel
theorem dX11_must_9 : decode cX11_must 9 = .ok (.ifCond .ne 12, 3) := by decide +kernel
theorem dX11_must_12 : decode cX11_must 12 = .ok (.aload_n 0, 1) := by decide +kernel
theorem dX11_must_13 : decode cX11_must 13 = .ok (.iconst 1, 1) := by decide +kernel
theorem dX11_must_14 : decode cX11_must 14 = .ok (.aload_n 0, 1) := by decide +kernel
theorem dX11_must_15 : decode cX11_must 15 = .ok (.getfield 23, 3) := by decide +kernel
theorem dX11_must_18 : decode cX11_must 18 = .ok (.invokevirtual 260, 3) := by decide +kernel
theorem dX11_must_21 : decode cX11_must 21 = .ok (.aload_n 0, 1) := by decide +kernel
theorem dX11_must_22 : decode cX11_must 22 = .ok (.getfield 36, 3) := by decide +kernel
theorem dX11_must_25 : decode cX11_must 25 = .ok (.ifCond .ne 7, 3) := by decide +kernel
theorem dX11_must_28 : decode cX11_must 28 = .ok (.aload_n 0, 1) := by decide +kernel
theorem dX11_must_29 : decode cX11_must 29 = .ok (.invokevirtual 277, 3) := by decide +kernel
theorem dX11_must_32 : decode cX11_must 32 = .ok (.return_, 1) := by decide +kernel
def fX11_must_21 (σ : zS) : Option zS := if (iG σ 56 8) = 0 then bnr (fX11_ahead σ) fun σ3 => some σ3 else some σ
theorem kX11_must_21 {sc : Nat × (Nat → Int32)} (σ : zS) (w : zS) (h : fX11_must_21 σ = some w) : zR (zY0 sc) 3 0 0 mX11_must 21 [(0, .ref 56)] [] (zE σ) (none, zE w) := by
  unfold fX11_must_21 at h
  refine kR.aload_n dX11_must_21 0 rfl ?_
  refine kR.getI dX11_must_22 flX11_36 zcf11 zp56 (Or.inl rfl) ?_
  refine kR.if_ne (tgt := 32) dX11_must_25 (by decide) h (fun h => ?_) (fun h => ?_)
  · exact kR.vret dX11_must_32 h
  · refine kR.aload_n dX11_must_28 0 rfl ?_
    obtain ⟨σ3, e4, h⟩ := bnr_some h
    refine kR.cVv [] dX11_must_29 rfl (by decide) mwX11_277 zp56 (by decide) rfl rfl (Nat.le_of_ble_eq_true rfl) (lX11_ahead σ _ e4) ?_
    exact kR.vret dX11_must_32 h
def fX11_must (p1 : Int32) (σ : zS) : Option zS := bnr (fX11_lex σ) fun σ1 => if (fX11_isSign σ1 p1) = 0 then bnr (fX11_blame 1 (iG σ1 56 4) σ1) fun σ5 => fX11_must_21 σ5 else fX11_must_21 σ1
theorem eX11_must {sc : Nat × (Nat → Int32)} (p1 : Int32) (σ : zS) (w : zS) (h : fX11_must p1 σ = some w) : zR (zY0 sc) 3 0 0 mX11_must 0 [(0, .ref 56), (1, .int p1)] [] (zE σ) (none, zE w) := by
  unfold fX11_must at h
  refine kR.aload_n dX11_must_0 0 rfl ?_
  obtain ⟨σ1, e2, h⟩ := bnr_some h
  refine kR.cVv [] dX11_must_1 rfl (by decide) mwX11_271 zp56 (by decide) rfl rfl (Nat.le_of_ble_eq_true rfl) (lX11_lex σ _ e2) ?_
  refine kR.aload_n dX11_must_4 0 rfl ?_
  refine kR.iload_n dX11_must_5 1 rfl ?_
  refine kR.cVi [.int p1] dX11_must_6 rfl (by decide) mwX11_274 zp56 (by decide) rfl rfl (Nat.le_of_ble_eq_true rfl) (lX11_isSign σ1 p1) ?_
  refine kR.if_ne (tgt := 21) dX11_must_9 (by decide) h (fun h => ?_) (fun h => ?_)
  · refine zR.sub [0] rfl ?_
    exact kX11_must_21 _ _ h
  · refine kR.aload_n dX11_must_12 0 rfl ?_
    refine zR.iconst (v := 1) dX11_must_13 (by decide) ?_
    refine kR.aload_n dX11_must_14 0 rfl ?_
    refine kR.getI dX11_must_15 flX11_23 zcf11 zp56 (Or.inl rfl) ?_
    obtain ⟨σ5, e6, h⟩ := bnr_some h
    refine kR.cVv [.int 1, .int (iG σ1 56 4)] dX11_must_18 rfl (by decide) mwX11_260 zp56 (by decide) rfl rfl (Nat.le_of_ble_eq_true rfl) (lX11_blame 1 (iG σ1 56 4) σ1 _ e6) ?_
    refine zR.sub [0] rfl ?_
    exact kX11_must_21 _ _ h
theorem lX11_must {sc : Nat × (Nat → Int32)} (p1 : Int32) (σ : zS) (w : zS) (h : fX11_must p1 σ = some w) : zC (zY0 sc) 3 0 0 mX11_must [.ref 56, .int p1] (zE σ) (none, zE w) := zC.of (by decide +kernel) (Nat.le_of_ble_eq_true rfl) rfl (eX11_must p1 σ w h)
theorem dX11_isOwn_0 : decode cX11_isOwn 0 = .ok (.lload_n 1, 1) := by decide +kernel
theorem dX11_isOwn_1 : decode cX11_isOwn 1 = .ok (.ldc2_w 280, 3) := by decide +kernel
theorem dX11_isOwn_4 : decode cX11_isOwn 4 = .ok (.lcmp, 1) := by decide +kernel
theorem dX11_isOwn_5 : decode cX11_isOwn 5 = .ok (.ifCond .eq 35, 3) := by decide +kernel
theorem dX11_isOwn_8 : decode cX11_isOwn 8 = .ok (.lload_n 1, 1) := by decide +kernel
theorem dX11_isOwn_9 : decode cX11_isOwn 9 = .ok (.ldc2_w 282, 3) := by decide +kernel
theorem dX11_isOwn_12 : decode cX11_isOwn 12 = .ok (.lcmp, 1) := by decide +kernel
theorem dX11_isOwn_13 : decode cX11_isOwn 13 = .ok (.ifCond .eq 27, 3) := by decide +kernel
theorem dX11_isOwn_16 : decode cX11_isOwn 16 = .ok (.lload_n 1, 1) := by decide +kernel
theorem dX11_isOwn_17 : decode cX11_isOwn 17 = .ok (.ldc2_w 284, 3) := by decide +kernel
theorem dX11_isOwn_20 : decode cX11_isOwn 20 = .ok (.lcmp, 1) := by decide +kernel
theorem dX11_isOwn_21 : decode cX11_isOwn 21 = .ok (.ifCond .eq 19, 3) := by decide +kernel
theorem dX11_isOwn_24 : decode cX11_isOwn 24 = .ok (.lload_n 1, 1) := by decide +kernel
theorem dX11_isOwn_25 : decode cX11_isOwn 25 = .ok (.ldc2_w 286, 3) := by decide +kernel
theorem dX11_isOwn_28 : decode cX11_isOwn 28 = .ok (.lcmp, 1) := by decide +kernel
theorem dX11_isOwn_29 : decode cX11_isOwn 29 = .ok (.ifCond .eq 11, 3) := by decide +kernel
theorem dX11_isOwn_32 : decode cX11_isOwn 32 = .ok (.lload_n 1, 1) := by decide +kernel
theorem dX11_isOwn_33 : decode cX11_isOwn 33 = .ok (.ldc2_w 288, 3) := by decide +kernel
theorem dX11_isOwn_36 : decode cX11_isOwn 36 = .ok (.lcmp, 1) := by decide +kernel
theorem dX11_isOwn_37 : decode cX11_isOwn 37 = .ok (.ifCond .ne 5, 3) := by decide +kernel
theorem dX11_isOwn_40 : decode cX11_isOwn 40 = .ok (.iconst 1, 1) := by decide +kernel
theorem dX11_isOwn_41 : decode cX11_isOwn 41 = .ok (.ireturn, 1) := by decide +kernel
theorem dX11_isOwn_42 : decode cX11_isOwn 42 = .ok (.lload_n 1, 1) := by decide +kernel
theorem dX11_isOwn_43 : decode cX11_isOwn 43 = .ok (.ldc2_w 290, 3) := by decide +kernel
theorem dX11_isOwn_46 : decode cX11_isOwn 46 = .ok (.lcmp, 1) := by decide +kernel
theorem dX11_isOwn_47 : decode cX11_isOwn 47 = .ok (.ifCond .eq 35, 3) := by decide +kernel
theorem dX11_isOwn_50 : decode cX11_isOwn 50 = .ok (.lload_n 1, 1) := by decide +kernel
theorem dX11_isOwn_51 : decode cX11_isOwn 51 = .ok (.ldc2_w 292, 3) := by decide +kernel
theorem dX11_isOwn_54 : decode cX11_isOwn 54 = .ok (.lcmp, 1) := by decide +kernel
theorem dX11_isOwn_55 : decode cX11_isOwn 55 = .ok (.ifCond .eq 27, 3) := by decide +kernel
theorem dX11_isOwn_58 : decode cX11_isOwn 58 = .ok (.lload_n 1, 1) := by decide +kernel
theorem dX11_isOwn_59 : decode cX11_isOwn 59 = .ok (.ldc2_w 294, 3) := by decide +kernel
theorem dX11_isOwn_62 : decode cX11_isOwn 62 = .ok (.lcmp, 1) := by decide +kernel
theorem dX11_isOwn_63 : decode cX11_isOwn 63 = .ok (.ifCond .eq 19, 3) := by decide +kernel
theorem dX11_isOwn_66 : decode cX11_isOwn 66 = .ok (.lload_n 1, 1) := by decide +kernel
theorem dX11_isOwn_67 : decode cX11_isOwn 67 = .ok (.ldc2_w 296, 3) := by decide +kernel
theorem dX11_isOwn_70 : decode cX11_isOwn 70 = .ok (.lcmp, 1) := by decide +kernel
theorem dX11_isOwn_71 : decode cX11_isOwn 71 = .ok (.ifCond .eq 11, 3) := by decide +kernel
theorem dX11_isOwn_74 : decode cX11_isOwn 74 = .ok (.lload_n 1, 1) := by decide +kernel
theorem dX11_isOwn_75 : decode cX11_isOwn 75 = .ok (.ldc2_w 298, 3) := by decide +kernel
theorem dX11_isOwn_78 : decode cX11_isOwn 78 = .ok (.lcmp, 1) := by decide +kernel
theorem dX11_isOwn_79 : decode cX11_isOwn 79 = .ok (.ifCond .ne 5, 3) := by decide +kernel
theorem dX11_isOwn_82 : decode cX11_isOwn 82 = .ok (.iconst 1, 1) := by decide +kernel
theorem dX11_isOwn_83 : decode cX11_isOwn 83 = .ok (.ireturn, 1) := by decide +kernel
theorem dX11_isOwn_84 : decode cX11_isOwn 84 = .ok (.lload_n 1, 1) := by decide +kernel
theorem dX11_isOwn_85 : decode cX11_isOwn 85 = .ok (.ldc2_w 300, 3) := by decide +kernel
theorem dX11_isOwn_88 : decode cX11_isOwn 88 = .ok (.lcmp, 1) := by decide +kernel
theorem dX11_isOwn_89 : decode cX11_isOwn 89 = .ok (.ifCond .eq 35, 3) := by decide +kernel
theorem dX11_isOwn_92 : decode cX11_isOwn 92 = .ok (.lload_n 1, 1) := by decide +kernel
theorem dX11_isOwn_93 : decode cX11_isOwn 93 = .ok (.ldc2_w 302, 3) := by decide +kernel
theorem dX11_isOwn_96 : decode cX11_isOwn 96 = .ok (.lcmp, 1) := by decide +kernel
theorem dX11_isOwn_97 : decode cX11_isOwn 97 = .ok (.ifCond .eq 27, 3) := by decide +kernel
theorem dX11_isOwn_100 : decode cX11_isOwn 100 = .ok (.lload_n 1, 1) := by decide +kernel
theorem dX11_isOwn_101 : decode cX11_isOwn 101 = .ok (.ldc2_w 304, 3) := by decide +kernel
theorem dX11_isOwn_104 : decode cX11_isOwn 104 = .ok (.lcmp, 1) := by decide +kernel
theorem dX11_isOwn_105 : decode cX11_isOwn 105 = .ok (.ifCond .eq 19, 3) := by decide +kernel
theorem dX11_isOwn_108 : decode cX11_isOwn 108 = .ok (.lload_n 1, 1) := by decide +kernel
theorem dX11_isOwn_109 : decode cX11_isOwn 109 = .ok (.ldc2_w 306, 3) := by decide +kernel
theorem dX11_isOwn_112 : decode cX11_isOwn 112 = .ok (.lcmp, 1) := by decide +kernel
theorem dX11_isOwn_113 : decode cX11_isOwn 113 = .ok (.ifCond .eq 11, 3) := by decide +kernel
theorem dX11_isOwn_116 : decode cX11_isOwn 116 = .ok (.lload_n 1, 1) := by decide +kernel
theorem dX11_isOwn_117 : decode cX11_isOwn 117 = .ok (.ldc2_w 308, 3) := by decide +kernel
theorem dX11_isOwn_120 : decode cX11_isOwn 120 = .ok (.lcmp, 1) := by decide +kernel
theorem dX11_isOwn_121 : decode cX11_isOwn 121 = .ok (.ifCond .ne 5, 3) := by decide +kernel
theorem dX11_isOwn_124 : decode cX11_isOwn 124 = .ok (.iconst 1, 1) := by decide +kernel
theorem dX11_isOwn_125 : decode cX11_isOwn 125 = .ok (.ireturn, 1) := by decide +kernel
theorem dX11_isOwn_126 : decode cX11_isOwn 126 = .ok (.lload_n 1, 1) := by decide +kernel
theorem dX11_isOwn_127 : decode cX11_isOwn 127 = .ok (.ldc2_w 310, 3) := by decide +kernel
theorem dX11_isOwn_130 : decode cX11_isOwn 130 = .ok (.lcmp, 1) := by decide +kernel
theorem dX11_isOwn_131 : decode cX11_isOwn 131 = .ok (.ifCond .eq 35, 3) := by decide +kernel
theorem dX11_isOwn_134 : decode cX11_isOwn 134 = .ok (.lload_n 1, 1) := by decide +kernel
theorem dX11_isOwn_135 : decode cX11_isOwn 135 = .ok (.ldc2_w 312, 3) := by decide +kernel
theorem dX11_isOwn_138 : decode cX11_isOwn 138 = .ok (.lcmp, 1) := by decide +kernel
theorem dX11_isOwn_139 : decode cX11_isOwn 139 = .ok (.ifCond .eq 27, 3) := by decide +kernel
theorem dX11_isOwn_142 : decode cX11_isOwn 142 = .ok (.lload_n 1, 1) := by decide +kernel
theorem dX11_isOwn_143 : decode cX11_isOwn 143 = .ok (.ldc2_w 314, 3) := by decide +kernel
theorem dX11_isOwn_146 : decode cX11_isOwn 146 = .ok (.lcmp, 1) := by decide +kernel
theorem dX11_isOwn_147 : decode cX11_isOwn 147 = .ok (.ifCond .eq 19, 3) := by decide +kernel
theorem dX11_isOwn_150 : decode cX11_isOwn 150 = .ok (.lload_n 1, 1) := by decide +kernel
theorem dX11_isOwn_151 : decode cX11_isOwn 151 = .ok (.ldc2_w 316, 3) := by decide +kernel
theorem dX11_isOwn_154 : decode cX11_isOwn 154 = .ok (.lcmp, 1) := by decide +kernel
theorem dX11_isOwn_155 : decode cX11_isOwn 155 = .ok (.ifCond .eq 11, 3) := by decide +kernel
theorem dX11_isOwn_158 : decode cX11_isOwn 158 = .ok (.lload_n 1, 1) := by decide +kernel
theorem dX11_isOwn_159 : decode cX11_isOwn 159 = .ok (.ldc2_w 318, 3) := by decide +kernel
theorem dX11_isOwn_162 : decode cX11_isOwn 162 = .ok (.lcmp, 1) := by decide +kernel
theorem dX11_isOwn_163 : decode cX11_isOwn 163 = .ok (.ifCond .ne 5, 3) := by decide +kernel
theorem dX11_isOwn_166 : decode cX11_isOwn 166 = .ok (.iconst 1, 1) := by decide +kernel
theorem dX11_isOwn_167 : decode cX11_isOwn 167 = .ok (.ireturn, 1) := by decide +kernel
theorem dX11_isOwn_168 : decode cX11_isOwn 168 = .ok (.lload_n 1, 1) := by decide +kernel
theorem dX11_isOwn_169 : decode cX11_isOwn 169 = .ok (.ldc2_w 320, 3) := by decide +kernel
theorem dX11_isOwn_172 : decode cX11_isOwn 172 = .ok (.lcmp, 1) := by decide +kernel
theorem dX11_isOwn_173 : decode cX11_isOwn 173 = .ok (.ifCond .eq 35, 3) := by decide +kernel
theorem dX11_isOwn_176 : decode cX11_isOwn 176 = .ok (.lload_n 1, 1) := by decide +kernel
theorem dX11_isOwn_177 : decode cX11_isOwn 177 = .ok (.ldc2_w 322, 3) := by decide +kernel
theorem dX11_isOwn_180 : decode cX11_isOwn 180 = .ok (.lcmp, 1) := by decide +kernel
theorem dX11_isOwn_181 : decode cX11_isOwn 181 = .ok (.ifCond .eq 27, 3) := by decide +kernel
theorem dX11_isOwn_184 : decode cX11_isOwn 184 = .ok (.lload_n 1, 1) := by decide +kernel
theorem dX11_isOwn_185 : decode cX11_isOwn 185 = .ok (.ldc2_w 324, 3) := by decide +kernel
theorem dX11_isOwn_188 : decode cX11_isOwn 188 = .ok (.lcmp, 1) := by decide +kernel
theorem dX11_isOwn_189 : decode cX11_isOwn 189 = .ok (.ifCond .eq 19, 3) := by decide +kernel
theorem dX11_isOwn_192 : decode cX11_isOwn 192 = .ok (.lload_n 1, 1) := by decide +kernel
theorem dX11_isOwn_193 : decode cX11_isOwn 193 = .ok (.ldc2_w 326, 3) := by decide +kernel
theorem dX11_isOwn_196 : decode cX11_isOwn 196 = .ok (.lcmp, 1) := by decide +kernel
theorem dX11_isOwn_197 : decode cX11_isOwn 197 = .ok (.ifCond .eq 11, 3) := by decide +kernel
theorem dX11_isOwn_200 : decode cX11_isOwn 200 = .ok (.lload_n 1, 1) := by decide +kernel
theorem dX11_isOwn_201 : decode cX11_isOwn 201 = .ok (.ldc2_w 328, 3) := by decide +kernel
theorem dX11_isOwn_204 : decode cX11_isOwn 204 = .ok (.lcmp, 1) := by decide +kernel
theorem dX11_isOwn_205 : decode cX11_isOwn 205 = .ok (.ifCond .ne 5, 3) := by decide +kernel
theorem dX11_isOwn_208 : decode cX11_isOwn 208 = .ok (.iconst 1, 1) := by decide +kernel
theorem dX11_isOwn_209 : decode cX11_isOwn 209 = .ok (.ireturn, 1) := by decide +kernel
theorem dX11_isOwn_210 : decode cX11_isOwn 210 = .ok (.iconst 0, 1) := by decide +kernel
theorem dX11_isOwn_211 : decode cX11_isOwn 211 = .ok (.ireturn, 1) := by decide +kernel
def fX11_isOwn (p1 : Int64) : Int32 := if p1 = 128047712724332 then 1 else if p1 = 6775152 then 1 else if p1 = 24948 then 1 else if p1 = 131277443786867 then 1 else if p1 = 114827769177458 then 1 else if p1 = 108243466679400 then 1 else if p1 = 119165837338739 then 1 else if p1 = 127991794264947 then 1 else if p1 = 444150998387 then 1 else if p1 = 512970880104 then 1 else if p1 = 499985311091 then 1 else if p1 = 1936024942 then 1 else if p1 = 1718185573 then 1 else if p1 = 1751477348 then 1 else if p1 = 1819242087 then 1 else if p1 = 1835099237 then 1 else if p1 = 1818325876 then 1 else if p1 = 108187566237038 then 1 else if p1 = 26982 then 1 else if p1 = 28530 then 1 else if p1 = 6385252 then 1 else if p1 = 7237492 then 1 else if p1 = 6384748 then 1 else if p1 = 7170414 then 1 else if p1 = 7168376 then 1 else 0
theorem eX11_isOwn {sc : Nat × (Nat → Int32)} {μ : zM} (p1 : Int64) (w : Int32) (h : fX11_isOwn p1 = w) : zR (zY0 sc) 1 0 0 mX11_isOwn 0 [(0, .ref 56), (1, .long p1)] [] μ (some (.int w), μ) := by
  unfold fX11_isOwn at h
  refine kR.lload_n dX11_isOwn_0 1 rfl ?_
  refine zR.ldc2 (v := 128047712724332) dX11_isOwn_1 clX11_280 ?_
  refine kR.lcmp_eq (tgt := 40) dX11_isOwn_4 dX11_isOwn_5 (by decide) h (fun h => ?_) (fun h => ?_)
  · refine zR.iconst (v := 1) dX11_isOwn_40 (by decide) ?_
    exact kR.iret dX11_isOwn_41 (nzZ rfl (Or.inr rfl)) h
  · refine kR.lload_n dX11_isOwn_8 1 rfl ?_
    refine zR.ldc2 (v := 6775152) dX11_isOwn_9 clX11_282 ?_
    refine kR.lcmp_eq (tgt := 40) dX11_isOwn_12 dX11_isOwn_13 (by decide) h (fun h => ?_) (fun h => ?_)
    · refine zR.iconst (v := 1) dX11_isOwn_40 (by decide) ?_
      exact kR.iret dX11_isOwn_41 (nzZ rfl (Or.inr rfl)) h
    · refine kR.lload_n dX11_isOwn_16 1 rfl ?_
      refine zR.ldc2 (v := 24948) dX11_isOwn_17 clX11_284 ?_
      refine kR.lcmp_eq (tgt := 40) dX11_isOwn_20 dX11_isOwn_21 (by decide) h (fun h => ?_) (fun h => ?_)
      · refine zR.iconst (v := 1) dX11_isOwn_40 (by decide) ?_
        exact kR.iret dX11_isOwn_41 (nzZ rfl (Or.inr rfl)) h
      · refine kR.lload_n dX11_isOwn_24 1 rfl ?_
        refine zR.ldc2 (v := 131277443786867) dX11_isOwn_25 clX11_286 ?_
        refine kR.lcmp_eq (tgt := 40) dX11_isOwn_28 dX11_isOwn_29 (by decide) h (fun h => ?_) (fun h => ?_)
        · refine zR.iconst (v := 1) dX11_isOwn_40 (by decide) ?_
          exact kR.iret dX11_isOwn_41 (nzZ rfl (Or.inr rfl)) h
        · refine kR.lload_n dX11_isOwn_32 1 rfl ?_
          refine zR.ldc2 (v := 114827769177458) dX11_isOwn_33 clX11_288 ?_
          refine kR.lcmp_ne (tgt := 42) dX11_isOwn_36 dX11_isOwn_37 (by decide) h (fun h => ?_) (fun h => ?_)
          · refine kR.lload_n dX11_isOwn_42 1 rfl ?_
            refine zR.ldc2 (v := 108243466679400) dX11_isOwn_43 clX11_290 ?_
            refine kR.lcmp_eq (tgt := 82) dX11_isOwn_46 dX11_isOwn_47 (by decide) h (fun h => ?_) (fun h => ?_)
            · refine zR.iconst (v := 1) dX11_isOwn_82 (by decide) ?_
              exact kR.iret dX11_isOwn_83 (nzZ rfl (Or.inr rfl)) h
            · refine kR.lload_n dX11_isOwn_50 1 rfl ?_
              refine zR.ldc2 (v := 119165837338739) dX11_isOwn_51 clX11_292 ?_
              refine kR.lcmp_eq (tgt := 82) dX11_isOwn_54 dX11_isOwn_55 (by decide) h (fun h => ?_) (fun h => ?_)
              · refine zR.iconst (v := 1) dX11_isOwn_82 (by decide) ?_
                exact kR.iret dX11_isOwn_83 (nzZ rfl (Or.inr rfl)) h
              · refine kR.lload_n dX11_isOwn_58 1 rfl ?_
                refine zR.ldc2 (v := 127991794264947) dX11_isOwn_59 clX11_294 ?_
                refine kR.lcmp_eq (tgt := 82) dX11_isOwn_62 dX11_isOwn_63 (by decide) h (fun h => ?_) (fun h => ?_)
                · refine zR.iconst (v := 1) dX11_isOwn_82 (by decide) ?_
                  exact kR.iret dX11_isOwn_83 (nzZ rfl (Or.inr rfl)) h
                · refine kR.lload_n dX11_isOwn_66 1 rfl ?_
                  refine zR.ldc2 (v := 444150998387) dX11_isOwn_67 clX11_296 ?_
                  refine kR.lcmp_eq (tgt := 82) dX11_isOwn_70 dX11_isOwn_71 (by decide) h (fun h => ?_) (fun h => ?_)
                  · refine zR.iconst (v := 1) dX11_isOwn_82 (by decide) ?_
                    exact kR.iret dX11_isOwn_83 (nzZ rfl (Or.inr rfl)) h
                  · refine kR.lload_n dX11_isOwn_74 1 rfl ?_
                    refine zR.ldc2 (v := 512970880104) dX11_isOwn_75 clX11_298 ?_
                    refine kR.lcmp_ne (tgt := 84) dX11_isOwn_78 dX11_isOwn_79 (by decide) h (fun h => ?_) (fun h => ?_)
                    · refine kR.lload_n dX11_isOwn_84 1 rfl ?_
                      refine zR.ldc2 (v := 499985311091) dX11_isOwn_85 clX11_300 ?_
                      refine kR.lcmp_eq (tgt := 124) dX11_isOwn_88 dX11_isOwn_89 (by decide) h (fun h => ?_) (fun h => ?_)
                      · refine zR.iconst (v := 1) dX11_isOwn_124 (by decide) ?_
                        exact kR.iret dX11_isOwn_125 (nzZ rfl (Or.inr rfl)) h
                      · refine kR.lload_n dX11_isOwn_92 1 rfl ?_
                        refine zR.ldc2 (v := 1936024942) dX11_isOwn_93 clX11_302 ?_
                        refine kR.lcmp_eq (tgt := 124) dX11_isOwn_96 dX11_isOwn_97 (by decide) h (fun h => ?_) (fun h => ?_)
                        · refine zR.iconst (v := 1) dX11_isOwn_124 (by decide) ?_
                          exact kR.iret dX11_isOwn_125 (nzZ rfl (Or.inr rfl)) h
                        · refine kR.lload_n dX11_isOwn_100 1 rfl ?_
                          refine zR.ldc2 (v := 1718185573) dX11_isOwn_101 clX11_304 ?_
                          refine kR.lcmp_eq (tgt := 124) dX11_isOwn_104 dX11_isOwn_105 (by decide) h (fun h => ?_) (fun h => ?_)
                          · refine zR.iconst (v := 1) dX11_isOwn_124 (by decide) ?_
                            exact kR.iret dX11_isOwn_125 (nzZ rfl (Or.inr rfl)) h
                          · refine kR.lload_n dX11_isOwn_108 1 rfl ?_
                            refine zR.ldc2 (v := 1751477348) dX11_isOwn_109 clX11_306 ?_
                            refine kR.lcmp_eq (tgt := 124) dX11_isOwn_112 dX11_isOwn_113 (by decide) h (fun h => ?_) (fun h => ?_)
                            · refine zR.iconst (v := 1) dX11_isOwn_124 (by decide) ?_
                              exact kR.iret dX11_isOwn_125 (nzZ rfl (Or.inr rfl)) h
                            · refine kR.lload_n dX11_isOwn_116 1 rfl ?_
                              refine zR.ldc2 (v := 1819242087) dX11_isOwn_117 clX11_308 ?_
                              refine kR.lcmp_ne (tgt := 126) dX11_isOwn_120 dX11_isOwn_121 (by decide) h (fun h => ?_) (fun h => ?_)
                              · refine kR.lload_n dX11_isOwn_126 1 rfl ?_
                                refine zR.ldc2 (v := 1835099237) dX11_isOwn_127 clX11_310 ?_
                                refine kR.lcmp_eq (tgt := 166) dX11_isOwn_130 dX11_isOwn_131 (by decide) h (fun h => ?_) (fun h => ?_)
                                · refine zR.iconst (v := 1) dX11_isOwn_166 (by decide) ?_
                                  exact kR.iret dX11_isOwn_167 (nzZ rfl (Or.inr rfl)) h
                                · refine kR.lload_n dX11_isOwn_134 1 rfl ?_
                                  refine zR.ldc2 (v := 1818325876) dX11_isOwn_135 clX11_312 ?_
                                  refine kR.lcmp_eq (tgt := 166) dX11_isOwn_138 dX11_isOwn_139 (by decide) h (fun h => ?_) (fun h => ?_)
                                  · refine zR.iconst (v := 1) dX11_isOwn_166 (by decide) ?_
                                    exact kR.iret dX11_isOwn_167 (nzZ rfl (Or.inr rfl)) h
                                  · refine kR.lload_n dX11_isOwn_142 1 rfl ?_
                                    refine zR.ldc2 (v := 108187566237038) dX11_isOwn_143 clX11_314 ?_
                                    refine kR.lcmp_eq (tgt := 166) dX11_isOwn_146 dX11_isOwn_147 (by decide) h (fun h => ?_) (fun h => ?_)
                                    · refine zR.iconst (v := 1) dX11_isOwn_166 (by decide) ?_
                                      exact kR.iret dX11_isOwn_167 (nzZ rfl (Or.inr rfl)) h
                                    · refine kR.lload_n dX11_isOwn_150 1 rfl ?_
                                      refine zR.ldc2 (v := 26982) dX11_isOwn_151 clX11_316 ?_
                                      refine kR.lcmp_eq (tgt := 166) dX11_isOwn_154 dX11_isOwn_155 (by decide) h (fun h => ?_) (fun h => ?_)
                                      · refine zR.iconst (v := 1) dX11_isOwn_166 (by decide) ?_
                                        exact kR.iret dX11_isOwn_167 (nzZ rfl (Or.inr rfl)) h
                                      · refine kR.lload_n dX11_isOwn_158 1 rfl ?_
                                        refine zR.ldc2 (v := 28530) dX11_isOwn_159 clX11_318 ?_
                                        refine kR.lcmp_ne (tgt := 168) dX11_isOwn_162 dX11_isOwn_163 (by decide) h (fun h => ?_) (fun h => ?_)
                                        · refine kR.lload_n dX11_isOwn_168 1 rfl ?_
                                          refine zR.ldc2 (v := 6385252) dX11_isOwn_169 clX11_320 ?_
                                          refine kR.lcmp_eq (tgt := 208) dX11_isOwn_172 dX11_isOwn_173 (by decide) h (fun h => ?_) (fun h => ?_)
                                          · refine zR.iconst (v := 1) dX11_isOwn_208 (by decide) ?_
                                            exact kR.iret dX11_isOwn_209 (nzZ rfl (Or.inr rfl)) h
                                          · refine kR.lload_n dX11_isOwn_176 1 rfl ?_
                                            refine zR.ldc2 (v := 7237492) dX11_isOwn_177 clX11_322 ?_
                                            refine kR.lcmp_eq (tgt := 208) dX11_isOwn_180 dX11_isOwn_181 (by decide) h (fun h => ?_) (fun h => ?_)
                                            · refine zR.iconst (v := 1) dX11_isOwn_208 (by decide) ?_
                                              exact kR.iret dX11_isOwn_209 (nzZ rfl (Or.inr rfl)) h
                                            · refine kR.lload_n dX11_isOwn_184 1 rfl ?_
                                              refine zR.ldc2 (v := 6384748) dX11_isOwn_185 clX11_324 ?_
                                              refine kR.lcmp_eq (tgt := 208) dX11_isOwn_188 dX11_isOwn_189 (by decide) h (fun h => ?_) (fun h => ?_)
                                              · refine zR.iconst (v := 1) dX11_isOwn_208 (by decide) ?_
                                                exact kR.iret dX11_isOwn_209 (nzZ rfl (Or.inr rfl)) h
                                              · refine kR.lload_n dX11_isOwn_192 1 rfl ?_
                                                refine zR.ldc2 (v := 7170414) dX11_isOwn_193 clX11_326 ?_
                                                refine kR.lcmp_eq (tgt := 208) dX11_isOwn_196 dX11_isOwn_197 (by decide) h (fun h => ?_) (fun h => ?_)
                                                · refine zR.iconst (v := 1) dX11_isOwn_208 (by decide) ?_
                                                  exact kR.iret dX11_isOwn_209 (nzZ rfl (Or.inr rfl)) h
                                                · refine kR.lload_n dX11_isOwn_200 1 rfl ?_
                                                  refine zR.ldc2 (v := 7168376) dX11_isOwn_201 clX11_328 ?_
                                                  refine kR.lcmp_ne (tgt := 210) dX11_isOwn_204 dX11_isOwn_205 (by decide) h (fun h => ?_) (fun h => ?_)
                                                  · refine zR.iconst (v := 0) dX11_isOwn_210 (by decide) ?_
                                                    exact kR.iret dX11_isOwn_211 (nzZ rfl (Or.inl rfl)) h
                                                  · refine zR.iconst (v := 1) dX11_isOwn_208 (by decide) ?_
                                                    exact kR.iret dX11_isOwn_209 (nzZ rfl (Or.inr rfl)) h
                                        · refine zR.iconst (v := 1) dX11_isOwn_166 (by decide) ?_
                                          exact kR.iret dX11_isOwn_167 (nzZ rfl (Or.inr rfl)) h
                              · refine zR.iconst (v := 1) dX11_isOwn_124 (by decide) ?_
                                exact kR.iret dX11_isOwn_125 (nzZ rfl (Or.inr rfl)) h
                    · refine zR.iconst (v := 1) dX11_isOwn_82 (by decide) ?_
                      exact kR.iret dX11_isOwn_83 (nzZ rfl (Or.inr rfl)) h
          · refine zR.iconst (v := 1) dX11_isOwn_40 (by decide) ?_
            exact kR.iret dX11_isOwn_41 (nzZ rfl (Or.inr rfl)) h
theorem lX11_isOwn {sc : Nat × (Nat → Int32)} {μ : zM} (p1 : Int64) : zC (zY0 sc) 1 0 0 mX11_isOwn [.ref 56, .long p1] μ (some (.int (fX11_isOwn p1)), μ) := zC.of (by decide +kernel) (Nat.le_of_ble_eq_true rfl) ⟨_, rfl⟩ (eX11_isOwn p1 _ rfl)
theorem dX11_manyOf_0 : decode cX11_manyOf 0 = .ok (.iload_n 2, 1) := by decide +kernel
theorem dX11_manyOf_1 : decode cX11_manyOf 1 = .ok (.ifCond .ne 12, 3) := by decide +kernel
theorem dX11_manyOf_4 : decode cX11_manyOf 4 = .ok (.aload_n 0, 1) := by decide +kernel
theorem dX11_manyOf_5 : decode cX11_manyOf 5 = .ok (.getfield 54, 3) := by decide +kernel
theorem dX11_manyOf_8 : decode cX11_manyOf 8 = .ok (.iload_n 1, 1) := by decide +kernel
theorem dX11_manyOf_9 : decode cX11_manyOf 9 = .ok (.iaload, 1) := by decide +kernel
theorem dX11_manyOf_10 : decode cX11_manyOf 10 = .ok (.goto 9, 3) := by decide +kernel
theorem dX11_manyOf_13 : decode cX11_manyOf 13 = .ok (.aload_n 0, 1) := by decide +kernel
theorem dX11_manyOf_14 : decode cX11_manyOf 14 = .ok (.getfield 69, 3) := by decide +kernel
theorem dX11_manyOf_17 : decode cX11_manyOf 17 = .ok (.iload_n 1, 1) := by decide +kernel
theorem dX11_manyOf_18 : decode cX11_manyOf 18 = .ok (.iaload, 1) := by decide +kernel
theorem dX11_manyOf_19 : decode cX11_manyOf 19 = .ok (.ireturn, 1) := by decide +kernel
def fX11_manyOf (σ : zS) (p1 : Int32) (p2 : Int32) : Option Int32 := if p2 = 0 then aI σ 58 2 p1 fun v2 => some v2 else aI σ 63 2 p1 fun v1 => some v1
theorem eX11_manyOf {sc : Nat × (Nat → Int32)} (σ : zS) (p1 : Int32) (p2 : Int32) (w : Int32) (h : fX11_manyOf σ p1 p2 = some w) : zR (zY0 sc) 1 0 0 mX11_manyOf 0 [(0, .ref 56), (1, .int p1), (2, .int p2)] [] (zE σ) (some (.int w), zE σ) := by
  unfold fX11_manyOf at h
  refine kR.iload_n dX11_manyOf_0 2 rfl ?_
  refine kR.if_ne (tgt := 13) dX11_manyOf_1 (by decide) h (fun h => ?_) (fun h => ?_)
  · refine kR.aload_n dX11_manyOf_13 0 rfl ?_
    refine kR.getR (v := 63) dX11_manyOf_14 flX11_69 zcf11 zp56 (Or.inr ⟨_, rfl⟩) rfl ?_
    refine kR.iload_n dX11_manyOf_17 1 rfl ?_
    refine kR.iald dX11_manyOf_18 zp63 rfl h (fun v1 h => ?_)
    exact kR.iretO dX11_manyOf_19 (nzI rfl _) h
  · refine kR.aload_n dX11_manyOf_4 0 rfl ?_
    refine kR.getR (v := 58) dX11_manyOf_5 flX11_54 zcf11 zp56 (Or.inr ⟨_, rfl⟩) rfl ?_
    refine kR.iload_n dX11_manyOf_8 1 rfl ?_
    refine kR.iald dX11_manyOf_9 zp58 rfl h (fun v2 h => ?_)
    refine zR.goto (tgt := 19) dX11_manyOf_10 (by decide) ?_
    exact kR.iretO dX11_manyOf_19 (nzI rfl _) h
theorem lX11_manyOf {sc : Nat × (Nat → Int32)} (σ : zS) (p1 : Int32) (p2 : Int32) (w : Int32) (h : fX11_manyOf σ p1 p2 = some w) : zC (zY0 sc) 1 0 0 mX11_manyOf [.ref 56, .int p1, .int p2] (zE σ) (some (.int w), zE σ) := zC.of (by decide +kernel) (Nat.le_of_ble_eq_true rfl) ⟨_, rfl⟩ (eX11_manyOf σ p1 p2 w h)
theorem dX11_nameOf_0 : decode cX11_nameOf 0 = .ok (.iload_n 2, 1) := by decide +kernel
theorem dX11_nameOf_1 : decode cX11_nameOf 1 = .ok (.ifCond .ne 17, 3) := by decide +kernel
theorem dX11_nameOf_4 : decode cX11_nameOf 4 = .ok (.aload_n 0, 1) := by decide +kernel
theorem dX11_nameOf_5 : decode cX11_nameOf 5 = .ok (.getfield 108, 3) := by decide +kernel
theorem dX11_nameOf_8 : decode cX11_nameOf 8 = .ok (.bipush 6, 2) := by decide +kernel
theorem dX11_nameOf_10 : decode cX11_nameOf 10 = .ok (.iload_n 1, 1) := by decide +kernel
theorem dX11_nameOf_11 : decode cX11_nameOf 11 = .ok (.imul, 1) := by decide +kernel
theorem dX11_nameOf_12 : decode cX11_nameOf 12 = .ok (.iload_n 3, 1) := by decide +kernel
theorem dX11_nameOf_13 : decode cX11_nameOf 13 = .ok (.iadd, 1) := by decide +kernel
theorem dX11_nameOf_14 : decode cX11_nameOf 14 = .ok (.laload, 1) := by decide +kernel
theorem dX11_nameOf_15 : decode cX11_nameOf 15 = .ok (.goto 14, 3) := by decide +kernel
theorem dX11_nameOf_18 : decode cX11_nameOf 18 = .ok (.aload_n 0, 1) := by decide +kernel
theorem dX11_nameOf_19 : decode cX11_nameOf 19 = .ok (.getfield 112, 3) := by decide +kernel
theorem dX11_nameOf_22 : decode cX11_nameOf 22 = .ok (.bipush 6, 2) := by decide +kernel
theorem dX11_nameOf_24 : decode cX11_nameOf 24 = .ok (.iload_n 1, 1) := by decide +kernel
theorem dX11_nameOf_25 : decode cX11_nameOf 25 = .ok (.imul, 1) := by decide +kernel
theorem dX11_nameOf_26 : decode cX11_nameOf 26 = .ok (.iload_n 3, 1) := by decide +kernel
theorem dX11_nameOf_27 : decode cX11_nameOf 27 = .ok (.iadd, 1) := by decide +kernel
theorem dX11_nameOf_28 : decode cX11_nameOf 28 = .ok (.laload, 1) := by decide +kernel
theorem dX11_nameOf_29 : decode cX11_nameOf 29 = .ok (.lreturn, 1) := by decide +kernel
def fX11_nameOf (σ : zS) (p1 : Int32) (p2 : Int32) (p3 : Int32) : Option Int64 := if p2 = 0 then aL σ 76 12 ((6 * p1) + p3) fun v2 => some v2 else aL σ 77 12 ((6 * p1) + p3) fun v1 => some v1
theorem eX11_nameOf {sc : Nat × (Nat → Int32)} (σ : zS) (p1 : Int32) (p2 : Int32) (p3 : Int32) (w : Int64) (h : fX11_nameOf σ p1 p2 p3 = some w) : zR (zY0 sc) 1 0 0 mX11_nameOf 0 [(0, .ref 56), (1, .int p1), (2, .int p2), (3, .int p3)] [] (zE σ) (some (.long w), zE σ) := by
  unfold fX11_nameOf at h
  refine kR.iload_n dX11_nameOf_0 2 rfl ?_
  refine kR.if_ne (tgt := 18) dX11_nameOf_1 (by decide) h (fun h => ?_) (fun h => ?_)
  · refine kR.aload_n dX11_nameOf_18 0 rfl ?_
    refine kR.getR (v := 77) dX11_nameOf_19 flX11_112 zcf11 zp56 (Or.inr ⟨_, rfl⟩) rfl ?_
    refine zR.bipush (v := 6) dX11_nameOf_22 (by decide) ?_
    refine kR.iload_n dX11_nameOf_24 1 rfl ?_
    refine zR.imul dX11_nameOf_25 ?_
    refine kR.iload_n dX11_nameOf_26 3 rfl ?_
    refine zR.iadd dX11_nameOf_27 ?_
    refine kR.lald dX11_nameOf_28 zp77 rfl h (fun v1 h => ?_)
    exact kR.lretO dX11_nameOf_29 h
  · refine kR.aload_n dX11_nameOf_4 0 rfl ?_
    refine kR.getR (v := 76) dX11_nameOf_5 flX11_108 zcf11 zp56 (Or.inr ⟨_, rfl⟩) rfl ?_
    refine zR.bipush (v := 6) dX11_nameOf_8 (by decide) ?_
    refine kR.iload_n dX11_nameOf_10 1 rfl ?_
    refine zR.imul dX11_nameOf_11 ?_
    refine kR.iload_n dX11_nameOf_12 3 rfl ?_
    refine zR.iadd dX11_nameOf_13 ?_
    refine kR.lald dX11_nameOf_14 zp76 rfl h (fun v2 h => ?_)
    refine zR.goto (tgt := 29) dX11_nameOf_15 (by decide) ?_
    exact kR.lretO dX11_nameOf_29 h
theorem lX11_nameOf {sc : Nat × (Nat → Int32)} (σ : zS) (p1 : Int32) (p2 : Int32) (p3 : Int32) (w : Int64) (h : fX11_nameOf σ p1 p2 p3 = some w) : zC (zY0 sc) 1 0 0 mX11_nameOf [.ref 56, .int p1, .int p2, .int p3] (zE σ) (some (.long w), zE σ) := zC.of (by decide +kernel) (Nat.le_of_ble_eq_true rfl) rfl (eX11_nameOf σ p1 p2 p3 w h)
theorem dX11_named_0 : decode cX11_named 0 = .ok (.iconst 0, 1) := by decide +kernel
theorem dX11_named_1 : decode cX11_named 1 = .ok (.istore 4, 2) := by decide +kernel
theorem dX11_named_3 : decode cX11_named 3 = .ok (.iload 4, 2) := by decide +kernel
theorem dX11_named_5 : decode cX11_named 5 = .ok (.aload_n 0, 1) := by decide +kernel
theorem dX11_named_6 : decode cX11_named 6 = .ok (.aload_n 0, 1) := by decide +kernel
theorem dX11_named_7 : decode cX11_named 7 = .ok (.getfield 118, 3) := by decide +kernel
theorem dX11_named_10 : decode cX11_named 10 = .ok (.iload_n 1, 1) := by decide +kernel
theorem dX11_named_11 : decode cX11_named 11 = .ok (.invokevirtual 330, 3) := by decide +kernel
theorem dX11_named_14 : decode cX11_named 14 = .ok (.if_icmp .ge 28, 3) := by decide +kernel
theorem dX11_named_17 : decode cX11_named 17 = .ok (.aload_n 0, 1) := by decide +kernel
theorem dX11_named_18 : decode cX11_named 18 = .ok (.aload_n 0, 1) := by decide +kernel
theorem dX11_named_19 : decode cX11_named 19 = .ok (.getfield 118, 3) := by decide +kernel
theorem dX11_named_22 : decode cX11_named 22 = .ok (.iload_n 1, 1) := by decide +kernel
theorem dX11_named_23 : decode cX11_named 23 = .ok (.iload 4, 2) := by decide +kernel
theorem dX11_named_25 : decode cX11_named 25 = .ok (.invokevirtual 334, 3) := by decide +kernel
theorem dX11_named_28 : decode cX11_named 28 = .ok (.lload_n 2, 1) := by decide +kernel
theorem dX11_named_29 : decode cX11_named 29 = .ok (.lcmp, 1) := by decide +kernel
theorem dX11_named_30 : decode cX11_named 30 = .ok (.ifCond .ne 6, 3) := by decide +kernel
theorem dX11_named_33 : decode cX11_named 33 = .ok (.iload 4, 2) := by decide +kernel
theorem dX11_named_35 : decode cX11_named 35 = .ok (.ireturn, 1) := by decide +kernel
theorem dX11_named_36 : decode cX11_named 36 = .ok (.iinc 4 1, 3) := by decide +kernel
theorem dX11_named_39 : decode cX11_named 39 = .ok (.goto (-36), 3) := by decide +kernel
theorem dX11_named_42 : decode cX11_named 42 = .ok (.iconst (-1), 1) := by decide +kernel
theorem dX11_named_43 : decode cX11_named 43 = .ok (.ireturn, 1) := by decide +kernel
def fX11_named_3 (σ : zS) : Nat → Int32 → Int64 → Int32 → Option Int32
  | 0, _, _, _ => none
  | f + 1, x1, x2, x4 => bnr (fX11_manyOf σ (iG σ 56 35) x1) fun v1 => if v1 ≤ x4 then some ((-1)) else bnr (fX11_nameOf σ (iG σ 56 35) x1 x4) fun v3 => if v3 = x2 then some x4 else fX11_named_3 σ f x1 x2 (x4 + 1)
theorem kX11_named_3 {sc : Nat × (Nat → Int32)} (σ : zS) : ∀ (fuel : Nat) (x1 : Int32) (x2 : Int64) (x4 : Int32) (w : Int32) (h : fX11_named_3 σ fuel x1 x2 x4 = some w), zR (zY0 sc) 2 0 0 mX11_named 3 [(0, .ref 56), (1, .int x1), (2, .long x2), (4, .int x4)] [] (zE σ) (some (.int w), zE σ) := by
  intro fuel
  induction fuel with
  | zero => intro x1 x2 x4 w h; exact nomatch h
  | succ f ih =>
    intro x1 x2 x4 w h
    rw [fX11_named_3] at h
    refine kR.iload dX11_named_3 3 rfl ?_
    refine kR.aload_n dX11_named_5 0 rfl ?_
    refine kR.aload_n dX11_named_6 0 rfl ?_
    refine kR.getI dX11_named_7 flX11_118 zcf11 zp56 (Or.inl rfl) ?_
    refine kR.iload_n dX11_named_10 1 rfl ?_
    obtain ⟨v1, e2, h⟩ := bnr_some h
    refine kR.cVi [.int (iG σ 56 35), .int x1] dX11_named_11 rfl (by decide) mwX11_330 zp56 (by decide) rfl rfl (Nat.le_of_ble_eq_true rfl) (lX11_manyOf σ (iG σ 56 35) x1 _ e2) ?_
    refine kR.icmp_ge (tgt := 42) dX11_named_14 (by decide) h (fun h => ?_) (fun h => ?_)
    · refine zR.iconst (v := (-1)) dX11_named_42 (by decide) ?_
      exact kR.iretO dX11_named_43 (nzI rfl _) h
    · refine kR.aload_n dX11_named_17 0 rfl ?_
      refine kR.aload_n dX11_named_18 0 rfl ?_
      refine kR.getI dX11_named_19 flX11_118 zcf11 zp56 (Or.inl rfl) ?_
      refine kR.iload_n dX11_named_22 1 rfl ?_
      refine kR.iload dX11_named_23 3 rfl ?_
      obtain ⟨v3, e4, h⟩ := bnr_some h
      refine kR.cVl [.int (iG σ 56 35), .int x1, .int x4] dX11_named_25 rfl (by decide) mwX11_334 zp56 (by decide) rfl rfl (Nat.le_of_ble_eq_true rfl) (lX11_nameOf σ (iG σ 56 35) x1 x4 _ e4) ?_
      refine kR.lload_n dX11_named_28 2 rfl ?_
      refine kR.lcmp_ne (tgt := 36) dX11_named_29 dX11_named_30 (by decide) h (fun h => ?_) (fun h => ?_)
      · refine zR.iinc 3 (v := x4 + 1) (ls' := [(4, .int (x4 + 1)), (0, .ref 56), (1, .int x1), (2, .long x2)]) dX11_named_36 rfl rfl (by decide) rfl ?_
        refine zR.goto (tgt := 3) dX11_named_39 (by decide) ?_
        refine zR.sub [1, 2, 3, 0] rfl ?_
        exact ih _ _ _ _ h
      · refine kR.iload dX11_named_33 3 rfl ?_
        exact kR.iretO dX11_named_35 (nzI rfl _) h
def fX11_named (σ : zS) (p1 : Int32) (p2 : Int64) : Option Int32 := fX11_named_3 σ zF p1 p2 0
theorem eX11_named {sc : Nat × (Nat → Int32)} (σ : zS) (p1 : Int32) (p2 : Int64) (w : Int32) (h : fX11_named σ p1 p2 = some w) : zR (zY0 sc) 2 0 0 mX11_named 0 [(0, .ref 56), (1, .int p1), (2, .long p2)] [] (zE σ) (some (.int w), zE σ) := by
  unfold fX11_named at h
  refine zR.iconst (v := 0) dX11_named_0 (by decide) ?_
  refine zR.istore (i := 4) (ls' := [(4, .int 0), (0, .ref 56), (1, .int p1), (2, .long p2)]) dX11_named_1 (by decide) rfl ?_
  refine zR.sub [1, 2, 3, 0] rfl ?_
  exact kX11_named_3 σ zF _ _ _ _ h
theorem lX11_named {sc : Nat × (Nat → Int32)} (σ : zS) (p1 : Int32) (p2 : Int64) (w : Int32) (h : fX11_named σ p1 p2 = some w) : zC (zY0 sc) 2 0 0 mX11_named [.ref 56, .int p1, .long p2] (zE σ) (some (.int w), zE σ) := zC.of (by decide +kernel) (Nat.le_of_ble_eq_true rfl) ⟨_, rfl⟩ (eX11_named σ p1 p2 w h)
theorem dX11_lookedAt_0 : decode cX11_lookedAt 0 = .ok (.aload_n 0, 1) := by decide +kernel
theorem dX11_lookedAt_1 : decode cX11_lookedAt 1 = .ok (.invokevirtual 271, 3) := by decide +kernel
theorem dX11_lookedAt_4 : decode cX11_lookedAt 4 = .ok (.aload_n 0, 1) := by decide +kernel
theorem dX11_lookedAt_5 : decode cX11_lookedAt 5 = .ok (.getfield 36, 3) := by decide +kernel
theorem dX11_lookedAt_8 : decode cX11_lookedAt 8 = .ok (.ifCond .le 5, 3) := by decide +kernel
theorem dX11_lookedAt_11 : decode cX11_lookedAt 11 = .ok (.iconst 0, 1) := by decide +kernel
theorem dX11_lookedAt_12 : decode cX11_lookedAt 12 = .ok (.ireturn, 1) := by decide +kernel
theorem dX11_lookedAt_13 : decode cX11_lookedAt 13 = .ok (.aload_n 0, 1) := by decide +kernel
theorem dX11_lookedAt_14 : decode cX11_lookedAt 14 = .ok (.getfield 20, 3) := by decide +kernel
theorem dX11_lookedAt_17 : decode cX11_lookedAt 17 = .ok (.iconst 2, 1) := by decide +kernel
theorem dX11_lookedAt_18 : decode cX11_lookedAt 18 = .ok (.if_icmp .eq 12, 3) := by decide +kernel
theorem dX11_lookedAt_21 : decode cX11_lookedAt 21 = .ok (.aload_n 0, 1) := by decide +kernel
theorem dX11_lookedAt_22 : decode cX11_lookedAt 22 = .ok (.iconst 1, 1) := by decide +kernel
theorem dX11_lookedAt_23 : decode cX11_lookedAt 23 = .ok (.aload_n 0, 1) := by decide +kernel
theorem dX11_lookedAt_24 : decode cX11_lookedAt 24 = .ok (.getfield 23, 3) := by decide +kernel
theorem dX11_lookedAt_27 : decode cX11_lookedAt 27 = .ok (.invokevirtual 260, 3) := by decide +kernel
theorem dX11_lookedAt_30 : decode cX11_lookedAt 30 = .ok (.aload_n 0, 1) := by decide +kernel
theorem dX11_lookedAt_31 : decode cX11_lookedAt 31 = .ok (.getfield 36, 3) := by decide +kernel
theorem dX11_lookedAt_34 : decode cX11_lookedAt 34 = .ok (.ifCond .ne 24, 3) := by decide +kernel
theorem dX11_lookedAt_37 : decode cX11_lookedAt 37 = .ok (.aload_n 0, 1) := by decide +kernel
theorem dX11_lookedAt_38 : decode cX11_lookedAt 38 = .ok (.getfield 29, 3) := by decide +kernel
theorem dX11_lookedAt_41 : decode cX11_lookedAt 41 = .ok (.iload_n 1, 1) := by decide +kernel
theorem dX11_lookedAt_42 : decode cX11_lookedAt 42 = .ok (.iload_n 2, 1) := by decide +kernel
theorem dX11_lookedAt_43 : decode cX11_lookedAt 43 = .ok (.invokestatic 338, 3) := by decide +kernel
theorem dX11_lookedAt_46 : decode cX11_lookedAt 46 = .ok (.ifCond .ne 12, 3) := by decide +kernel
theorem dX11_lookedAt_49 : decode cX11_lookedAt 49 = .ok (.aload_n 0, 1) := by decide +kernel
theorem dX11_lookedAt_50 : decode cX11_lookedAt 50 = .ok (.iconst 4, 1) := by decide +kernel
theorem dX11_lookedAt_51 : decode cX11_lookedAt 51 = .ok (.aload_n 0, 1) := by decide +kernel
theorem dX11_lookedAt_52 : decode cX11_lookedAt 52 = .ok (.getfield 23, 3) := by decide +kernel
theorem dX11_lookedAt_55 : decode cX11_lookedAt 55 = .ok (.invokevirtual 260, 3) := by decide +kernel
theorem dX11_lookedAt_58 : decode cX11_lookedAt 58 = .ok (.aload_n 0, 1) := by decide +kernel
theorem dX11_lookedAt_59 : decode cX11_lookedAt 59 = .ok (.getfield 36, 3) := by decide +kernel
theorem dX11_lookedAt_62 : decode cX11_lookedAt 62 = .ok (.ifCond .le 7, 3) := by decide +kernel
theorem dX11_lookedAt_65 : decode cX11_lookedAt 65 = .ok (.iconst 0, 1) := by decide +kernel
theorem dX11_lookedAt_66 : decode cX11_lookedAt 66 = .ok (.goto 7, 3) := by decide +kernel
theorem dX11_lookedAt_69 : decode cX11_lookedAt 69 = .ok (.aload_n 0, 1) := by decide +kernel
theorem dX11_lookedAt_70 : decode cX11_lookedAt 70 = .ok (.getfield 29, 3) := by decide +kernel
theorem dX11_lookedAt_73 : decode cX11_lookedAt 73 = .ok (.ireturn, 1) := by decide +kernel
def fX11_lookedAt_58 (σ : zS) : Option (Int32 × zS) := if (iG σ 56 8) ≤ 0 then some (iG σ 56 6, σ) else some (0, σ)
theorem kX11_lookedAt_58 {sc : Nat × (Nat → Int32)} (σ : zS) (w : Int32 × zS) (h : fX11_lookedAt_58 σ = some w) : zR (zY0 sc) 3 0 0 mX11_lookedAt 58 [(0, .ref 56)] [] (zE σ) (some (.int w.1), zE w.2) := by
  unfold fX11_lookedAt_58 at h
  refine kR.aload_n dX11_lookedAt_58 0 rfl ?_
  refine kR.getI dX11_lookedAt_59 flX11_36 zcf11 zp56 (Or.inl rfl) ?_
  refine kR.if_le (tgt := 69) dX11_lookedAt_62 (by decide) h (fun h => ?_) (fun h => ?_)
  · refine kR.aload_n dX11_lookedAt_69 0 rfl ?_
    refine kR.getI dX11_lookedAt_70 flX11_29 zcf11 zp56 (Or.inl rfl) ?_
    exact kR.iretW dX11_lookedAt_73 (nzI rfl _) h
  · refine zR.iconst (v := 0) dX11_lookedAt_65 (by decide) ?_
    refine zR.goto (tgt := 73) dX11_lookedAt_66 (by decide) ?_
    exact kR.iretW dX11_lookedAt_73 (nzI rfl _) h
def fX11_lookedAt_30 (x1 : Int32) (x2 : Int32) (σ : zS) : Option (Int32 × zS) := if (iG σ 56 8) = 0 then if (fX11_is (iG σ 56 6) x1 x2) = 0 then bnr (fX11_blame 4 (iG σ 56 4) σ) fun σ3 => fX11_lookedAt_58 σ3 else fX11_lookedAt_58 σ else fX11_lookedAt_58 σ
theorem kX11_lookedAt_30 {sc : Nat × (Nat → Int32)} (x1 : Int32) (x2 : Int32) (σ : zS) (w : Int32 × zS) (h : fX11_lookedAt_30 x1 x2 σ = some w) : zR (zY0 sc) 3 0 0 mX11_lookedAt 30 [(0, .ref 56), (1, .int x1), (2, .int x2)] [] (zE σ) (some (.int w.1), zE w.2) := by
  unfold fX11_lookedAt_30 at h
  refine kR.aload_n dX11_lookedAt_30 0 rfl ?_
  refine kR.getI dX11_lookedAt_31 flX11_36 zcf11 zp56 (Or.inl rfl) ?_
  refine kR.if_ne (tgt := 58) dX11_lookedAt_34 (by decide) h (fun h => ?_) (fun h => ?_)
  · refine zR.sub [0] rfl ?_
    exact kX11_lookedAt_58 _ _ h
  · refine kR.aload_n dX11_lookedAt_37 0 rfl ?_
    refine kR.getI dX11_lookedAt_38 flX11_29 zcf11 zp56 (Or.inl rfl) ?_
    refine kR.iload_n dX11_lookedAt_41 1 rfl ?_
    refine kR.iload_n dX11_lookedAt_42 2 rfl ?_
    refine kR.cSi [.int (iG σ 56 6), .int x1, .int x2] dX11_lookedAt_43 rfl (by decide) (Or.inl mwX11_338) rfl (Nat.le_of_ble_eq_true rfl) (lX11_is (iG σ 56 6) x1 x2) ?_
    refine kR.if_ne (tgt := 58) dX11_lookedAt_46 (by decide) h (fun h => ?_) (fun h => ?_)
    · refine zR.sub [0] rfl ?_
      exact kX11_lookedAt_58 _ _ h
    · refine kR.aload_n dX11_lookedAt_49 0 rfl ?_
      refine zR.iconst (v := 4) dX11_lookedAt_50 (by decide) ?_
      refine kR.aload_n dX11_lookedAt_51 0 rfl ?_
      refine kR.getI dX11_lookedAt_52 flX11_23 zcf11 zp56 (Or.inl rfl) ?_
      obtain ⟨σ3, e4, h⟩ := bnr_some h
      refine kR.cVv [.int 4, .int (iG σ 56 4)] dX11_lookedAt_55 rfl (by decide) mwX11_260 zp56 (by decide) rfl rfl (Nat.le_of_ble_eq_true rfl) (lX11_blame 4 (iG σ 56 4) σ _ e4) ?_
      refine zR.sub [0] rfl ?_
      exact kX11_lookedAt_58 _ _ h
def fX11_lookedAt (p1 : Int32) (p2 : Int32) (σ : zS) : Option (Int32 × zS) := bnr (fX11_lex σ) fun σ1 => if (iG σ1 56 8) ≤ 0 then if (iG σ1 56 3) = 2 then fX11_lookedAt_30 p1 p2 σ1 else bnr (fX11_blame 1 (iG σ1 56 4) σ1) fun σ5 => fX11_lookedAt_30 p1 p2 σ5 else some (0, σ1)
theorem eX11_lookedAt {sc : Nat × (Nat → Int32)} (p1 : Int32) (p2 : Int32) (σ : zS) (w : Int32 × zS) (h : fX11_lookedAt p1 p2 σ = some w) : zR (zY0 sc) 3 0 0 mX11_lookedAt 0 [(0, .ref 56), (1, .int p1), (2, .int p2)] [] (zE σ) (some (.int w.1), zE w.2) := by
  unfold fX11_lookedAt at h
  refine kR.aload_n dX11_lookedAt_0 0 rfl ?_
  obtain ⟨σ1, e2, h⟩ := bnr_some h
  refine kR.cVv [] dX11_lookedAt_1 rfl (by decide) mwX11_271 zp56 (by decide) rfl rfl (Nat.le_of_ble_eq_true rfl) (lX11_lex σ _ e2) ?_
  refine kR.aload_n dX11_lookedAt_4 0 rfl ?_
  refine kR.getI dX11_lookedAt_5 flX11_36 zcf11 zp56 (Or.inl rfl) ?_
  refine kR.if_le (tgt := 13) dX11_lookedAt_8 (by decide) h (fun h => ?_) (fun h => ?_)
  · refine kR.aload_n dX11_lookedAt_13 0 rfl ?_
    refine kR.getI dX11_lookedAt_14 flX11_20 zcf11 zp56 (Or.inl rfl) ?_
    refine zR.iconst (v := 2) dX11_lookedAt_17 (by decide) ?_
    refine kR.icmp_eq (tgt := 30) dX11_lookedAt_18 (by decide) h (fun h => ?_) (fun h => ?_)
    · exact kX11_lookedAt_30 _ _ _ _ h
    · refine kR.aload_n dX11_lookedAt_21 0 rfl ?_
      refine zR.iconst (v := 1) dX11_lookedAt_22 (by decide) ?_
      refine kR.aload_n dX11_lookedAt_23 0 rfl ?_
      refine kR.getI dX11_lookedAt_24 flX11_23 zcf11 zp56 (Or.inl rfl) ?_
      obtain ⟨σ5, e6, h⟩ := bnr_some h
      refine kR.cVv [.int 1, .int (iG σ1 56 4)] dX11_lookedAt_27 rfl (by decide) mwX11_260 zp56 (by decide) rfl rfl (Nat.le_of_ble_eq_true rfl) (lX11_blame 1 (iG σ1 56 4) σ1 _ e6) ?_
      exact kX11_lookedAt_30 _ _ _ _ h
  · refine zR.iconst (v := 0) dX11_lookedAt_11 (by decide) ?_
    exact kR.iretW dX11_lookedAt_12 (nzI rfl _) h
theorem lX11_lookedAt {sc : Nat × (Nat → Int32)} (p1 : Int32) (p2 : Int32) (σ : zS) (w : Int32 × zS) (h : fX11_lookedAt p1 p2 σ = some w) : zC (zY0 sc) 3 0 0 mX11_lookedAt [.ref 56, .int p1, .int p2] (zE σ) (some (.int w.1), zE w.2) := zC.of (by decide +kernel) (Nat.le_of_ble_eq_true rfl) ⟨_, rfl⟩ (eX11_lookedAt p1 p2 σ w h)
theorem dX11_number_0 : decode cX11_number 0 = .ok (.aload_n 0, 1) := by decide +kernel
theorem dX11_number_1 : decode cX11_number 1 = .ok (.iload_n 1, 1) := by decide +kernel
theorem dX11_number_2 : decode cX11_number 2 = .ok (.iload_n 2, 1) := by decide +kernel
theorem dX11_number_3 : decode cX11_number 3 = .ok (.invokevirtual 342, 3) := by decide +kernel
theorem dX11_number_6 : decode cX11_number 6 = .ok (.istore_n 3, 1) := by decide +kernel
theorem dX11_number_7 : decode cX11_number 7 = .ok (.aload_n 0, 1) := by decide +kernel
theorem dX11_number_8 : decode cX11_number 8 = .ok (.getfield 36, 3) := by decide +kernel
theorem dX11_number_11 : decode cX11_number 11 = .ok (.ifCond .ne 7, 3) := by decide +kernel
theorem dX11_number_14 : decode cX11_number 14 = .ok (.aload_n 0, 1) := by decide +kernel
theorem dX11_number_15 : decode cX11_number 15 = .ok (.invokevirtual 277, 3) := by decide +kernel
theorem dX11_number_18 : decode cX11_number 18 = .ok (.iload_n 3, 1) := by decide +kernel
theorem dX11_number_19 : decode cX11_number 19 = .ok (.ireturn, 1) := by decide +kernel
def fX11_number (p1 : Int32) (p2 : Int32) (σ : zS) : Option (Int32 × zS) := bnc (fX11_lookedAt p1 p2 σ) fun v3 σ1 => if (iG σ1 56 8) = 0 then bnr (fX11_ahead σ1) fun σ4 => some (v3, σ4) else some (v3, σ1)
theorem eX11_number {sc : Nat × (Nat → Int32)} (p1 : Int32) (p2 : Int32) (σ : zS) (w : Int32 × zS) (h : fX11_number p1 p2 σ = some w) : zR (zY0 sc) 4 0 0 mX11_number 0 [(0, .ref 56), (1, .int p1), (2, .int p2)] [] (zE σ) (some (.int w.1), zE w.2) := by
  unfold fX11_number at h
  refine kR.aload_n dX11_number_0 0 rfl ?_
  refine kR.iload_n dX11_number_1 1 rfl ?_
  refine kR.iload_n dX11_number_2 2 rfl ?_
  obtain ⟨v3, σ1, e2, h⟩ := bnc_some h
  refine kR.cVi [.int p1, .int p2] dX11_number_3 rfl (by decide) mwX11_342 zp56 (by decide) rfl rfl (Nat.le_of_ble_eq_true rfl) (lX11_lookedAt p1 p2 σ _ e2) ?_
  refine zR.istore_n (i := 3) (ls' := [(3, .int v3), (0, .ref 56), (1, .int p1), (2, .int p2)]) dX11_number_6 rfl (by decide) rfl ?_
  refine kR.aload_n dX11_number_7 1 rfl ?_
  refine kR.getI dX11_number_8 flX11_36 zcf11 zp56 (Or.inl rfl) ?_
  refine kR.if_ne (tgt := 18) dX11_number_11 (by decide) h (fun h => ?_) (fun h => ?_)
  · refine kR.iload_n dX11_number_18 0 rfl ?_
    exact kR.iretW dX11_number_19 (nzI rfl _) h
  · refine kR.aload_n dX11_number_14 1 rfl ?_
    obtain ⟨σ4, e5, h⟩ := bnr_some h
    refine kR.cVv [] dX11_number_15 rfl (by decide) mwX11_277 zp56 (by decide) rfl rfl (Nat.le_of_ble_eq_true rfl) (lX11_ahead σ1 _ e5) ?_
    refine kR.iload_n dX11_number_18 0 rfl ?_
    exact kR.iretW dX11_number_19 (nzI rfl _) h
theorem lX11_number {sc : Nat × (Nat → Int32)} (p1 : Int32) (p2 : Int32) (σ : zS) (w : Int32 × zS) (h : fX11_number p1 p2 σ = some w) : zC (zY0 sc) 4 0 0 mX11_number [.ref 56, .int p1, .int p2] (zE σ) (some (.int w.1), zE w.2) := zC.of (by decide +kernel) (Nat.le_of_ble_eq_true rfl) ⟨_, rfl⟩ (eX11_number p1 p2 σ w h)
theorem dX11_add_0 : decode cX11_add 0 = .ok (.aload_n 0, 1) := by decide +kernel
theorem dX11_add_1 : decode cX11_add 1 = .ok (.getfield 102, 3) := by decide +kernel
theorem dX11_add_4 : decode cX11_add 4 = .ok (.sipush 1600, 3) := by decide +kernel
theorem dX11_add_7 : decode cX11_add 7 = .ok (.aload_n 0, 1) := by decide +kernel
theorem dX11_add_8 : decode cX11_add 8 = .ok (.getfield 118, 3) := by decide +kernel
theorem dX11_add_11 : decode cX11_add 11 = .ok (.imul, 1) := by decide +kernel
theorem dX11_add_12 : decode cX11_add 12 = .ok (.aload_n 0, 1) := by decide +kernel
theorem dX11_add_13 : decode cX11_add 13 = .ok (.getfield 115, 3) := by decide +kernel
theorem dX11_add_16 : decode cX11_add 16 = .ok (.iadd, 1) := by decide +kernel
theorem dX11_add_17 : decode cX11_add 17 = .ok (.iload_n 1, 1) := by decide +kernel
theorem dX11_add_18 : decode cX11_add 18 = .ok (.iastore, 1) := by decide +kernel
theorem dX11_add_19 : decode cX11_add 19 = .ok (.aload_n 0, 1) := by decide +kernel
theorem dX11_add_20 : decode cX11_add 20 = .ok (.getfield 105, 3) := by decide +kernel
theorem dX11_add_23 : decode cX11_add 23 = .ok (.sipush 1600, 3) := by decide +kernel
theorem dX11_add_26 : decode cX11_add 26 = .ok (.aload_n 0, 1) := by decide +kernel
theorem dX11_add_27 : decode cX11_add 27 = .ok (.getfield 118, 3) := by decide +kernel
theorem dX11_add_30 : decode cX11_add 30 = .ok (.imul, 1) := by decide +kernel
theorem dX11_add_31 : decode cX11_add 31 = .ok (.aload_n 0, 1) := by decide +kernel
theorem dX11_add_32 : decode cX11_add 32 = .ok (.getfield 115, 3) := by decide +kernel
theorem dX11_add_35 : decode cX11_add 35 = .ok (.iadd, 1) := by decide +kernel
theorem dX11_add_36 : decode cX11_add 36 = .ok (.iload_n 2, 1) := by decide +kernel
theorem dX11_add_37 : decode cX11_add 37 = .ok (.iastore, 1) := by decide +kernel
theorem dX11_add_38 : decode cX11_add 38 = .ok (.aload_n 0, 1) := by decide +kernel
theorem dX11_add_39 : decode cX11_add 39 = .ok (.dup, 1) := by decide +kernel
theorem dX11_add_40 : decode cX11_add 40 = .ok (.getfield 115, 3) := by decide +kernel
theorem dX11_add_43 : decode cX11_add 43 = .ok (.iconst 1, 1) := by decide +kernel
theorem dX11_add_44 : decode cX11_add 44 = .ok (.iadd, 1) := by decide +kernel
theorem dX11_add_45 : decode cX11_add 45 = .ok (.putfield 115, 3) := by decide +kernel
theorem dX11_add_48 : decode cX11_add 48 = .ok (.return_, 1) := by decide +kernel
def fX11_add (p1 : Int32) (p2 : Int32) (σ : zS) : Option zS := wI σ 74 3200 ((1600 * (iG σ 56 35)) + (iG σ 56 34)) p1 fun σ1 => wI σ1 75 3200 ((1600 * (iG σ1 56 35)) + (iG σ1 56 34)) p2 fun σ2 => bnd (iS σ2 56 34 ((iG σ2 56 34) + 1)) fun σ3 => some σ3
theorem eX11_add {sc : Nat × (Nat → Int32)} (p1 : Int32) (p2 : Int32) (σ : zS) (w : zS) (h : fX11_add p1 p2 σ = some w) : zR (zY0 sc) 1 0 0 mX11_add 0 [(0, .ref 56), (1, .int p1), (2, .int p2)] [] (zE σ) (none, zE w) := by
  unfold fX11_add at h
  refine kR.aload_n dX11_add_0 0 rfl ?_
  refine kR.getR (v := 74) dX11_add_1 flX11_102 zcf11 zp56 (Or.inr ⟨_, rfl⟩) rfl ?_
  refine zR.sipush (v := 1600) dX11_add_4 (by decide) ?_
  refine kR.aload_n dX11_add_7 0 rfl ?_
  refine kR.getI dX11_add_8 flX11_118 zcf11 zp56 (Or.inl rfl) ?_
  refine zR.imul dX11_add_11 ?_
  refine kR.aload_n dX11_add_12 0 rfl ?_
  refine kR.getI dX11_add_13 flX11_115 zcf11 zp56 (Or.inl rfl) ?_
  refine zR.iadd dX11_add_16 ?_
  refine kR.iload_n dX11_add_17 1 rfl ?_
  refine kR.iast dX11_add_18 zp74 rfl h (fun σ1 h => ?_)
  refine kR.aload_n dX11_add_19 0 rfl ?_
  refine kR.getR (v := 75) dX11_add_20 flX11_105 zcf11 zp56 (Or.inr ⟨_, rfl⟩) rfl ?_
  refine zR.sipush (v := 1600) dX11_add_23 (by decide) ?_
  refine kR.aload_n dX11_add_26 0 rfl ?_
  refine kR.getI dX11_add_27 flX11_118 zcf11 zp56 (Or.inl rfl) ?_
  refine zR.imul dX11_add_30 ?_
  refine kR.aload_n dX11_add_31 0 rfl ?_
  refine kR.getI dX11_add_32 flX11_115 zcf11 zp56 (Or.inl rfl) ?_
  refine zR.iadd dX11_add_35 ?_
  refine kR.iload_n dX11_add_36 2 rfl ?_
  refine kR.iast dX11_add_37 zp75 rfl h (fun σ2 h => ?_)
  refine kR.aload_n dX11_add_38 0 rfl ?_
  refine zR.dup dX11_add_39 rfl ?_
  refine kR.getI dX11_add_40 flX11_115 zcf11 zp56 (Or.inl rfl) ?_
  refine zR.iconst (v := 1) dX11_add_43 (by decide) ?_
  refine zR.iadd dX11_add_44 ?_
  refine kR.putI dX11_add_45 fpX11_115 zcf11 zp56 rfl h (fun σ3 h => ?_)
  exact kR.vret dX11_add_48 h
theorem lX11_add {sc : Nat × (Nat → Int32)} (p1 : Int32) (p2 : Int32) (σ : zS) (w : zS) (h : fX11_add p1 p2 σ = some w) : zC (zY0 sc) 1 0 0 mX11_add [.ref 56, .int p1, .int p2] (zE σ) (none, zE w) := zC.of (by decide +kernel) (Nat.le_of_ble_eq_true rfl) rfl (eX11_add p1 p2 σ w h)
theorem dX11_rank_0 : decode cX11_rank 0 = .ok (.iload_n 0, 1) := by decide +kernel
theorem dX11_rank_1 : decode cX11_rank 1 = .ok (.bipush 21, 2) := by decide +kernel
theorem dX11_rank_3 : decode cX11_rank 3 = .ok (.if_icmp .ne 7, 3) := by decide +kernel
theorem dX11_rank_6 : decode cX11_rank 6 = .ok (.iconst 1, 1) := by decide +kernel
theorem dX11_rank_7 : decode cX11_rank 7 = .ok (.goto 63, 3) := by decide +kernel
theorem dX11_rank_10 : decode cX11_rank 10 = .ok (.iload_n 0, 1) := by decide +kernel
theorem dX11_rank_11 : decode cX11_rank 11 = .ok (.bipush 20, 2) := by decide +kernel
theorem dX11_rank_13 : decode cX11_rank 13 = .ok (.if_icmp .ne 7, 3) := by decide +kernel
theorem dX11_rank_16 : decode cX11_rank 16 = .ok (.iconst 2, 1) := by decide +kernel
theorem dX11_rank_17 : decode cX11_rank 17 = .ok (.goto 53, 3) := by decide +kernel
theorem dX11_rank_20 : decode cX11_rank 20 = .ok (.iload_n 0, 1) := by decide +kernel
theorem dX11_rank_21 : decode cX11_rank 21 = .ok (.bipush 22, 2) := by decide +kernel
theorem dX11_rank_23 : decode cX11_rank 23 = .ok (.if_icmp .ne 7, 3) := by decide +kernel
theorem dX11_rank_26 : decode cX11_rank 26 = .ok (.iconst 3, 1) := by decide +kernel
theorem dX11_rank_27 : decode cX11_rank 27 = .ok (.goto 43, 3) := by decide +kernel
theorem dX11_rank_30 : decode cX11_rank 30 = .ok (.iload_n 0, 1) := by decide +kernel
theorem dX11_rank_31 : decode cX11_rank 31 = .ok (.bipush 17, 2) := by decide +kernel
theorem dX11_rank_33 : decode cX11_rank 33 = .ok (.if_icmp .eq 15, 3) := by decide +kernel
theorem dX11_rank_36 : decode cX11_rank 36 = .ok (.iload_n 0, 1) := by decide +kernel
theorem dX11_rank_37 : decode cX11_rank 37 = .ok (.bipush 18, 2) := by decide +kernel
theorem dX11_rank_39 : decode cX11_rank 39 = .ok (.if_icmp .eq 9, 3) := by decide +kernel
theorem dX11_rank_42 : decode cX11_rank 42 = .ok (.iload_n 0, 1) := by decide +kernel
theorem dX11_rank_43 : decode cX11_rank 43 = .ok (.bipush 19, 2) := by decide +kernel
theorem dX11_rank_45 : decode cX11_rank 45 = .ok (.if_icmp .ne 7, 3) := by decide +kernel
theorem dX11_rank_48 : decode cX11_rank 48 = .ok (.iconst 4, 1) := by decide +kernel
theorem dX11_rank_49 : decode cX11_rank 49 = .ok (.goto 21, 3) := by decide +kernel
theorem dX11_rank_52 : decode cX11_rank 52 = .ok (.iload_n 0, 1) := by decide +kernel
theorem dX11_rank_53 : decode cX11_rank 53 = .ok (.bipush 10, 2) := by decide +kernel
theorem dX11_rank_55 : decode cX11_rank 55 = .ok (.if_icmp .eq 9, 3) := by decide +kernel
theorem dX11_rank_58 : decode cX11_rank 58 = .ok (.iload_n 0, 1) := by decide +kernel
theorem dX11_rank_59 : decode cX11_rank 59 = .ok (.bipush 11, 2) := by decide +kernel
theorem dX11_rank_61 : decode cX11_rank 61 = .ok (.if_icmp .ne 7, 3) := by decide +kernel
theorem dX11_rank_64 : decode cX11_rank 64 = .ok (.iconst 5, 1) := by decide +kernel
theorem dX11_rank_65 : decode cX11_rank 65 = .ok (.goto 5, 3) := by decide +kernel
theorem dX11_rank_68 : decode cX11_rank 68 = .ok (.bipush 6, 2) := by decide +kernel
theorem dX11_rank_70 : decode cX11_rank 70 = .ok (.ireturn, 1) := by decide +kernel
def fX11_rank_48 : Int32 := 4
theorem kX11_rank_48 {sc : Nat × (Nat → Int32)} {μ : zM} (w : Int32) (h : fX11_rank_48 = w) : zR (zY0 sc) 1 0 0 mX11_rank 48 [] [] μ (some (.int w), μ) := by
  unfold fX11_rank_48 at h
  refine zR.iconst (v := 4) dX11_rank_48 (by decide) ?_
  refine zR.goto (tgt := 70) dX11_rank_49 (by decide) ?_
  exact kR.iret dX11_rank_70 (nzI rfl _) h
def fX11_rank_64 : Int32 := 5
theorem kX11_rank_64 {sc : Nat × (Nat → Int32)} {μ : zM} (w : Int32) (h : fX11_rank_64 = w) : zR (zY0 sc) 1 0 0 mX11_rank 64 [] [] μ (some (.int w), μ) := by
  unfold fX11_rank_64 at h
  refine zR.iconst (v := 5) dX11_rank_64 (by decide) ?_
  refine zR.goto (tgt := 70) dX11_rank_65 (by decide) ?_
  exact kR.iret dX11_rank_70 (nzI rfl _) h
def fX11_rank (p0 : Int32) : Int32 := if p0 = 21 then 1 else if p0 = 20 then 2 else if p0 = 22 then 3 else if p0 = 17 then fX11_rank_48 else if p0 = 18 then fX11_rank_48 else if p0 = 19 then fX11_rank_48 else if p0 = 10 then fX11_rank_64 else if p0 = 11 then fX11_rank_64 else 6
theorem eX11_rank {sc : Nat × (Nat → Int32)} {μ : zM} (p0 : Int32) (w : Int32) (h : fX11_rank p0 = w) : zR (zY0 sc) 1 0 0 mX11_rank 0 [(0, .int p0)] [] μ (some (.int w), μ) := by
  unfold fX11_rank at h
  refine kR.iload_n dX11_rank_0 0 rfl ?_
  refine zR.bipush (v := 21) dX11_rank_1 (by decide) ?_
  refine kR.icmp_ne (tgt := 10) dX11_rank_3 (by decide) h (fun h => ?_) (fun h => ?_)
  · refine kR.iload_n dX11_rank_10 0 rfl ?_
    refine zR.bipush (v := 20) dX11_rank_11 (by decide) ?_
    refine kR.icmp_ne (tgt := 20) dX11_rank_13 (by decide) h (fun h => ?_) (fun h => ?_)
    · refine kR.iload_n dX11_rank_20 0 rfl ?_
      refine zR.bipush (v := 22) dX11_rank_21 (by decide) ?_
      refine kR.icmp_ne (tgt := 30) dX11_rank_23 (by decide) h (fun h => ?_) (fun h => ?_)
      · refine kR.iload_n dX11_rank_30 0 rfl ?_
        refine zR.bipush (v := 17) dX11_rank_31 (by decide) ?_
        refine kR.icmp_eq (tgt := 48) dX11_rank_33 (by decide) h (fun h => ?_) (fun h => ?_)
        · refine zR.sub [] rfl ?_
          exact kX11_rank_48 _ h
        · refine kR.iload_n dX11_rank_36 0 rfl ?_
          refine zR.bipush (v := 18) dX11_rank_37 (by decide) ?_
          refine kR.icmp_eq (tgt := 48) dX11_rank_39 (by decide) h (fun h => ?_) (fun h => ?_)
          · refine zR.sub [] rfl ?_
            exact kX11_rank_48 _ h
          · refine kR.iload_n dX11_rank_42 0 rfl ?_
            refine zR.bipush (v := 19) dX11_rank_43 (by decide) ?_
            refine kR.icmp_ne (tgt := 52) dX11_rank_45 (by decide) h (fun h => ?_) (fun h => ?_)
            · refine kR.iload_n dX11_rank_52 0 rfl ?_
              refine zR.bipush (v := 10) dX11_rank_53 (by decide) ?_
              refine kR.icmp_eq (tgt := 64) dX11_rank_55 (by decide) h (fun h => ?_) (fun h => ?_)
              · refine zR.sub [] rfl ?_
                exact kX11_rank_64 _ h
              · refine kR.iload_n dX11_rank_58 0 rfl ?_
                refine zR.bipush (v := 11) dX11_rank_59 (by decide) ?_
                refine kR.icmp_ne (tgt := 68) dX11_rank_61 (by decide) h (fun h => ?_) (fun h => ?_)
                · refine zR.bipush (v := 6) dX11_rank_68 (by decide) ?_
                  exact kR.iret dX11_rank_70 (nzI rfl _) h
                · refine zR.sub [] rfl ?_
                  exact kX11_rank_64 _ h
            · refine zR.sub [] rfl ?_
              exact kX11_rank_48 _ h
      · refine zR.iconst (v := 3) dX11_rank_26 (by decide) ?_
        refine zR.goto (tgt := 70) dX11_rank_27 (by decide) ?_
        exact kR.iret dX11_rank_70 (nzI rfl _) h
    · refine zR.iconst (v := 2) dX11_rank_16 (by decide) ?_
      refine zR.goto (tgt := 70) dX11_rank_17 (by decide) ?_
      exact kR.iret dX11_rank_70 (nzI rfl _) h
  · refine zR.iconst (v := 1) dX11_rank_6 (by decide) ?_
    refine zR.goto (tgt := 70) dX11_rank_7 (by decide) ?_
    exact kR.iret dX11_rank_70 (nzI rfl _) h
theorem lX11_rank {sc : Nat × (Nat → Int32)} {μ : zM} (p0 : Int32) : zC (zY0 sc) 1 0 0 mX11_rank [.int p0] μ (some (.int (fX11_rank p0)), μ) := zC.of (by decide +kernel) (Nat.le_of_ble_eq_true rfl) ⟨_, rfl⟩ (eX11_rank p0 _ rfl)
theorem dX11_joins_0 : decode cX11_joins 0 = .ok (.aload_n 0, 1) := by decide +kernel
theorem dX11_joins_1 : decode cX11_joins 1 = .ok (.getfield 146, 3) := by decide +kernel
theorem dX11_joins_4 : decode cX11_joins 4 = .ok (.aload_n 0, 1) := by decide +kernel
theorem dX11_joins_5 : decode cX11_joins 5 = .ok (.getfield 134, 3) := by decide +kernel
theorem dX11_joins_8 : decode cX11_joins 8 = .ok (.aload_n 0, 1) := by decide +kernel
theorem dX11_joins_9 : decode cX11_joins 9 = .ok (.getfield 137, 3) := by decide +kernel
theorem dX11_joins_12 : decode cX11_joins 12 = .ok (.iconst 1, 1) := by decide +kernel
theorem dX11_joins_13 : decode cX11_joins 13 = .ok (.isub, 1) := by decide +kernel
theorem dX11_joins_14 : decode cX11_joins 14 = .ok (.iaload, 1) := by decide +kernel
theorem dX11_joins_15 : decode cX11_joins 15 = .ok (.if_icmp .le 72, 3) := by decide +kernel
theorem dX11_joins_18 : decode cX11_joins 18 = .ok (.aload_n 0, 1) := by decide +kernel
theorem dX11_joins_19 : decode cX11_joins 19 = .ok (.getfield 143, 3) := by decide +kernel
theorem dX11_joins_22 : decode cX11_joins 22 = .ok (.aload_n 0, 1) := by decide +kernel
theorem dX11_joins_23 : decode cX11_joins 23 = .ok (.getfield 146, 3) := by decide +kernel
theorem dX11_joins_26 : decode cX11_joins 26 = .ok (.iconst 1, 1) := by decide +kernel
theorem dX11_joins_27 : decode cX11_joins 27 = .ok (.isub, 1) := by decide +kernel
theorem dX11_joins_28 : decode cX11_joins 28 = .ok (.iaload, 1) := by decide +kernel
theorem dX11_joins_29 : decode cX11_joins 29 = .ok (.invokestatic 345, 3) := by decide +kernel
theorem dX11_joins_32 : decode cX11_joins 32 = .ok (.iload_n 1, 1) := by decide +kernel
theorem dX11_joins_33 : decode cX11_joins 33 = .ok (.if_icmp .lt 54, 3) := by decide +kernel
theorem dX11_joins_36 : decode cX11_joins 36 = .ok (.aload_n 0, 1) := by decide +kernel
theorem dX11_joins_37 : decode cX11_joins 37 = .ok (.dup, 1) := by decide +kernel
theorem dX11_joins_38 : decode cX11_joins 38 = .ok (.getfield 146, 3) := by decide +kernel
theorem dX11_joins_41 : decode cX11_joins 41 = .ok (.iconst 1, 1) := by decide +kernel
theorem dX11_joins_42 : decode cX11_joins 42 = .ok (.isub, 1) := by decide +kernel
theorem dX11_joins_43 : decode cX11_joins 43 = .ok (.putfield 146, 3) := by decide +kernel
theorem dX11_joins_46 : decode cX11_joins 46 = .ok (.aload_n 0, 1) := by decide +kernel
theorem dX11_joins_47 : decode cX11_joins 47 = .ok (.aload_n 0, 1) := by decide +kernel
theorem dX11_joins_48 : decode cX11_joins 48 = .ok (.getfield 143, 3) := by decide +kernel
theorem dX11_joins_51 : decode cX11_joins 51 = .ok (.aload_n 0, 1) := by decide +kernel
theorem dX11_joins_52 : decode cX11_joins 52 = .ok (.getfield 146, 3) := by decide +kernel
theorem dX11_joins_55 : decode cX11_joins 55 = .ok (.iaload, 1) := by decide +kernel
theorem dX11_joins_56 : decode cX11_joins 56 = .ok (.iconst 0, 1) := by decide +kernel
theorem dX11_joins_57 : decode cX11_joins 57 = .ok (.invokevirtual 348, 3) := by decide +kernel
theorem dX11_joins_60 : decode cX11_joins 60 = .ok (.aload_n 0, 1) := by decide +kernel
theorem dX11_joins_61 : decode cX11_joins 61 = .ok (.getfield 143, 3) := by decide +kernel
theorem dX11_joins_64 : decode cX11_joins 64 = .ok (.aload_n 0, 1) := by decide +kernel
theorem dX11_joins_65 : decode cX11_joins 65 = .ok (.getfield 146, 3) := by decide +kernel
theorem dX11_joins_68 : decode cX11_joins 68 = .ok (.iaload, 1) := by decide +kernel
theorem dX11_joins_69 : decode cX11_joins 69 = .ok (.bipush 22, 2) := by decide +kernel
theorem dX11_joins_71 : decode cX11_joins 71 = .ok (.if_icmp .ne (-71), 3) := by decide +kernel
theorem dX11_joins_74 : decode cX11_joins 74 = .ok (.aload_n 0, 1) := by decide +kernel
theorem dX11_joins_75 : decode cX11_joins 75 = .ok (.dup, 1) := by decide +kernel
theorem dX11_joins_76 : decode cX11_joins 76 = .ok (.getfield 140, 3) := by decide +kernel
theorem dX11_joins_79 : decode cX11_joins 79 = .ok (.iconst 1, 1) := by decide +kernel
theorem dX11_joins_80 : decode cX11_joins 80 = .ok (.isub, 1) := by decide +kernel
theorem dX11_joins_81 : decode cX11_joins 81 = .ok (.putfield 140, 3) := by decide +kernel
theorem dX11_joins_84 : decode cX11_joins 84 = .ok (.goto (-84), 3) := by decide +kernel
theorem dX11_joins_87 : decode cX11_joins 87 = .ok (.return_, 1) := by decide +kernel
def fX11_joins_0 : Nat → Int32 → zS → Option zS
  | 0, _, _ => none
  | f + 1, x1, σ => aI σ 82 20 ((iG σ 56 41) - 1) fun v1 => if (iG σ 56 44) ≤ v1 then some σ else aI σ 83 500 ((iG σ 56 44) - 1) fun v2 => if (fX11_rank v2) < x1 then some σ else bnd (iS σ 56 44 ((iG σ 56 44) - 1)) fun σ3 => aI σ3 83 500 (iG σ3 56 44) fun v4 => bnr (fX11_add v4 0 σ3) fun σ5 => aI σ5 83 500 (iG σ5 56 44) fun v7 => if v7 = 22 then bnd (iS σ5 56 42 ((iG σ5 56 42) - 1)) fun σ8 => fX11_joins_0 f x1 σ8 else fX11_joins_0 f x1 σ5
theorem kX11_joins_0 {sc : Nat × (Nat → Int32)} : ∀ (fuel : Nat) (x1 : Int32) (σ : zS) (w : zS) (h : fX11_joins_0 fuel x1 σ = some w), zR (zY0 sc) 2 0 0 mX11_joins 0 [(0, .ref 56), (1, .int x1)] [] (zE σ) (none, zE w) := by
  intro fuel
  induction fuel with
  | zero => intro x1 σ w h; exact nomatch h
  | succ f ih =>
    intro x1 σ w h
    rw [fX11_joins_0] at h
    refine kR.aload_n dX11_joins_0 0 rfl ?_
    refine kR.getI dX11_joins_1 flX11_146 zcf11 zp56 (Or.inl rfl) ?_
    refine kR.aload_n dX11_joins_4 0 rfl ?_
    refine kR.getR (v := 82) dX11_joins_5 flX11_134 zcf11 zp56 (Or.inr ⟨_, rfl⟩) rfl ?_
    refine kR.aload_n dX11_joins_8 0 rfl ?_
    refine kR.getI dX11_joins_9 flX11_137 zcf11 zp56 (Or.inl rfl) ?_
    refine zR.iconst (v := 1) dX11_joins_12 (by decide) ?_
    refine zR.isub dX11_joins_13 ?_
    refine kR.iald dX11_joins_14 zp82 rfl h (fun v1 h => ?_)
    refine kR.icmp_le (tgt := 87) dX11_joins_15 (by decide) h (fun h => ?_) (fun h => ?_)
    · exact kR.vret dX11_joins_87 h
    · refine kR.aload_n dX11_joins_18 0 rfl ?_
      refine kR.getR (v := 83) dX11_joins_19 flX11_143 zcf11 zp56 (Or.inr ⟨_, rfl⟩) rfl ?_
      refine kR.aload_n dX11_joins_22 0 rfl ?_
      refine kR.getI dX11_joins_23 flX11_146 zcf11 zp56 (Or.inl rfl) ?_
      refine zR.iconst (v := 1) dX11_joins_26 (by decide) ?_
      refine zR.isub dX11_joins_27 ?_
      refine kR.iald dX11_joins_28 zp83 rfl h (fun v2 h => ?_)
      refine kR.cSi [.int v2] dX11_joins_29 rfl (by decide) (Or.inl mwX11_345) rfl (Nat.le_of_ble_eq_true rfl) (lX11_rank v2) ?_
      refine kR.iload_n dX11_joins_32 1 rfl ?_
      refine kR.icmp_lt (tgt := 87) dX11_joins_33 (by decide) h (fun h => ?_) (fun h => ?_)
      · exact kR.vret dX11_joins_87 h
      · refine kR.aload_n dX11_joins_36 0 rfl ?_
        refine zR.dup dX11_joins_37 rfl ?_
        refine kR.getI dX11_joins_38 flX11_146 zcf11 zp56 (Or.inl rfl) ?_
        refine zR.iconst (v := 1) dX11_joins_41 (by decide) ?_
        refine zR.isub dX11_joins_42 ?_
        refine kR.putI dX11_joins_43 fpX11_146 zcf11 zp56 rfl h (fun σ3 h => ?_)
        refine kR.aload_n dX11_joins_46 0 rfl ?_
        refine kR.aload_n dX11_joins_47 0 rfl ?_
        refine kR.getR (v := 83) dX11_joins_48 flX11_143 zcf11 zp56 (Or.inr ⟨_, rfl⟩) rfl ?_
        refine kR.aload_n dX11_joins_51 0 rfl ?_
        refine kR.getI dX11_joins_52 flX11_146 zcf11 zp56 (Or.inl rfl) ?_
        refine kR.iald dX11_joins_55 zp83 rfl h (fun v4 h => ?_)
        refine zR.iconst (v := 0) dX11_joins_56 (by decide) ?_
        obtain ⟨σ5, e6, h⟩ := bnr_some h
        refine kR.cVv [.int v4, .int 0] dX11_joins_57 rfl (by decide) mwX11_348 zp56 (by decide) rfl rfl (Nat.le_of_ble_eq_true rfl) (lX11_add v4 0 σ3 _ e6) ?_
        refine kR.aload_n dX11_joins_60 0 rfl ?_
        refine kR.getR (v := 83) dX11_joins_61 flX11_143 zcf11 zp56 (Or.inr ⟨_, rfl⟩) rfl ?_
        refine kR.aload_n dX11_joins_64 0 rfl ?_
        refine kR.getI dX11_joins_65 flX11_146 zcf11 zp56 (Or.inl rfl) ?_
        refine kR.iald dX11_joins_68 zp83 rfl h (fun v7 h => ?_)
        refine zR.bipush (v := 22) dX11_joins_69 (by decide) ?_
        refine kR.icmp_ne (tgt := 0) dX11_joins_71 (by decide) h (fun h => ?_) (fun h => ?_)
        · exact ih _ _ _ h
        · refine kR.aload_n dX11_joins_74 0 rfl ?_
          refine zR.dup dX11_joins_75 rfl ?_
          refine kR.getI dX11_joins_76 flX11_140 zcf11 zp56 (Or.inl rfl) ?_
          refine zR.iconst (v := 1) dX11_joins_79 (by decide) ?_
          refine zR.isub dX11_joins_80 ?_
          refine kR.putI dX11_joins_81 fpX11_140 zcf11 zp56 rfl h (fun σ8 h => ?_)
          refine zR.goto (tgt := 0) dX11_joins_84 (by decide) ?_
          exact ih _ _ _ h
def fX11_joins (p1 : Int32) (σ : zS) : Option zS := fX11_joins_0 zF p1 σ
theorem eX11_joins {sc : Nat × (Nat → Int32)} (p1 : Int32) (σ : zS) (w : zS) (h : fX11_joins p1 σ = some w) : zR (zY0 sc) 2 0 0 mX11_joins 0 [(0, .ref 56), (1, .int p1)] [] (zE σ) (none, zE w) := by
  unfold fX11_joins at h
  exact kX11_joins_0 zF _ _ _ h
theorem lX11_joins {sc : Nat × (Nat → Int32)} (p1 : Int32) (σ : zS) (w : zS) (h : fX11_joins p1 σ = some w) : zC (zY0 sc) 2 0 0 mX11_joins [.ref 56, .int p1] (zE σ) (none, zE w) := zC.of (by decide +kernel) (Nat.le_of_ble_eq_true rfl) rfl (eX11_joins p1 σ w h)
theorem dX11_holdsBack_0 : decode cX11_holdsBack 0 = .ok (.aload_n 0, 1) := by decide +kernel
theorem dX11_holdsBack_1 : decode cX11_holdsBack 1 = .ok (.getfield 143, 3) := by decide +kernel
theorem dX11_holdsBack_4 : decode cX11_holdsBack 4 = .ok (.aload_n 0, 1) := by decide +kernel
theorem dX11_holdsBack_5 : decode cX11_holdsBack 5 = .ok (.getfield 146, 3) := by decide +kernel
theorem dX11_holdsBack_8 : decode cX11_holdsBack 8 = .ok (.iload_n 1, 1) := by decide +kernel
theorem dX11_holdsBack_9 : decode cX11_holdsBack 9 = .ok (.iastore, 1) := by decide +kernel
theorem dX11_holdsBack_10 : decode cX11_holdsBack 10 = .ok (.aload_n 0, 1) := by decide +kernel
theorem dX11_holdsBack_11 : decode cX11_holdsBack 11 = .ok (.dup, 1) := by decide +kernel
theorem dX11_holdsBack_12 : decode cX11_holdsBack 12 = .ok (.getfield 146, 3) := by decide +kernel
theorem dX11_holdsBack_15 : decode cX11_holdsBack 15 = .ok (.iconst 1, 1) := by decide +kernel
theorem dX11_holdsBack_16 : decode cX11_holdsBack 16 = .ok (.iadd, 1) := by decide +kernel
theorem dX11_holdsBack_17 : decode cX11_holdsBack 17 = .ok (.putfield 146, 3) := by decide +kernel
theorem dX11_holdsBack_20 : decode cX11_holdsBack 20 = .ok (.return_, 1) := by decide +kernel
def fX11_holdsBack (p1 : Int32) (σ : zS) : Option zS := wI σ 83 500 (iG σ 56 44) p1 fun σ1 => bnd (iS σ1 56 44 ((iG σ1 56 44) + 1)) fun σ2 => some σ2
theorem eX11_holdsBack {sc : Nat × (Nat → Int32)} (p1 : Int32) (σ : zS) (w : zS) (h : fX11_holdsBack p1 σ = some w) : zR (zY0 sc) 1 0 0 mX11_holdsBack 0 [(0, .ref 56), (1, .int p1)] [] (zE σ) (none, zE w) := by
  unfold fX11_holdsBack at h
  refine kR.aload_n dX11_holdsBack_0 0 rfl ?_
  refine kR.getR (v := 83) dX11_holdsBack_1 flX11_143 zcf11 zp56 (Or.inr ⟨_, rfl⟩) rfl ?_
  refine kR.aload_n dX11_holdsBack_4 0 rfl ?_
  refine kR.getI dX11_holdsBack_5 flX11_146 zcf11 zp56 (Or.inl rfl) ?_
  refine kR.iload_n dX11_holdsBack_8 1 rfl ?_
  refine kR.iast dX11_holdsBack_9 zp83 rfl h (fun σ1 h => ?_)
  refine kR.aload_n dX11_holdsBack_10 0 rfl ?_
  refine zR.dup dX11_holdsBack_11 rfl ?_
  refine kR.getI dX11_holdsBack_12 flX11_146 zcf11 zp56 (Or.inl rfl) ?_
  refine zR.iconst (v := 1) dX11_holdsBack_15 (by decide) ?_
  refine zR.iadd dX11_holdsBack_16 ?_
  refine kR.putI dX11_holdsBack_17 fpX11_146 zcf11 zp56 rfl h (fun σ2 h => ?_)
  exact kR.vret dX11_holdsBack_20 h
theorem lX11_holdsBack {sc : Nat × (Nat → Int32)} (p1 : Int32) (σ : zS) (w : zS) (h : fX11_holdsBack p1 σ = some w) : zC (zY0 sc) 1 0 0 mX11_holdsBack [.ref 56, .int p1] (zE σ) (none, zE w) := zC.of (by decide +kernel) (Nat.le_of_ble_eq_true rfl) rfl (eX11_holdsBack p1 σ w h)
theorem dX11_pushes_0 : decode cX11_pushes 0 = .ok (.aload_n 0, 1) := by decide +kernel
theorem dX11_pushes_1 : decode cX11_pushes 1 = .ok (.getfield 121, 3) := by decide +kernel
theorem dX11_pushes_4 : decode cX11_pushes 4 = .ok (.aload_n 0, 1) := by decide +kernel
theorem dX11_pushes_5 : decode cX11_pushes 5 = .ok (.getfield 137, 3) := by decide +kernel
theorem dX11_pushes_8 : decode cX11_pushes 8 = .ok (.iload_n 1, 1) := by decide +kernel
theorem dX11_pushes_9 : decode cX11_pushes 9 = .ok (.iastore, 1) := by decide +kernel
theorem dX11_pushes_10 : decode cX11_pushes 10 = .ok (.aload_n 0, 1) := by decide +kernel
theorem dX11_pushes_11 : decode cX11_pushes 11 = .ok (.getfield 124, 3) := by decide +kernel
theorem dX11_pushes_14 : decode cX11_pushes 14 = .ok (.aload_n 0, 1) := by decide +kernel
theorem dX11_pushes_15 : decode cX11_pushes 15 = .ok (.getfield 137, 3) := by decide +kernel
theorem dX11_pushes_18 : decode cX11_pushes 18 = .ok (.iconst 0, 1) := by decide +kernel
theorem dX11_pushes_19 : decode cX11_pushes 19 = .ok (.iastore, 1) := by decide +kernel
theorem dX11_pushes_20 : decode cX11_pushes 20 = .ok (.aload_n 0, 1) := by decide +kernel
theorem dX11_pushes_21 : decode cX11_pushes 21 = .ok (.getfield 127, 3) := by decide +kernel
theorem dX11_pushes_24 : decode cX11_pushes 24 = .ok (.aload_n 0, 1) := by decide +kernel
theorem dX11_pushes_25 : decode cX11_pushes 25 = .ok (.getfield 137, 3) := by decide +kernel
theorem dX11_pushes_28 : decode cX11_pushes 28 = .ok (.iconst 1, 1) := by decide +kernel
theorem dX11_pushes_29 : decode cX11_pushes 29 = .ok (.bastore, 1) := by decide +kernel
theorem dX11_pushes_30 : decode cX11_pushes 30 = .ok (.aload_n 0, 1) := by decide +kernel
theorem dX11_pushes_31 : decode cX11_pushes 31 = .ok (.getfield 134, 3) := by decide +kernel
theorem dX11_pushes_34 : decode cX11_pushes 34 = .ok (.aload_n 0, 1) := by decide +kernel
theorem dX11_pushes_35 : decode cX11_pushes 35 = .ok (.getfield 137, 3) := by decide +kernel
theorem dX11_pushes_38 : decode cX11_pushes 38 = .ok (.aload_n 0, 1) := by decide +kernel
theorem dX11_pushes_39 : decode cX11_pushes 39 = .ok (.getfield 146, 3) := by decide +kernel
theorem dX11_pushes_42 : decode cX11_pushes 42 = .ok (.iastore, 1) := by decide +kernel
theorem dX11_pushes_43 : decode cX11_pushes 43 = .ok (.aload_n 0, 1) := by decide +kernel
theorem dX11_pushes_44 : decode cX11_pushes 44 = .ok (.dup, 1) := by decide +kernel
theorem dX11_pushes_45 : decode cX11_pushes 45 = .ok (.getfield 137, 3) := by decide +kernel
theorem dX11_pushes_48 : decode cX11_pushes 48 = .ok (.iconst 1, 1) := by decide +kernel
theorem dX11_pushes_49 : decode cX11_pushes 49 = .ok (.iadd, 1) := by decide +kernel
theorem dX11_pushes_50 : decode cX11_pushes 50 = .ok (.putfield 137, 3) := by decide +kernel
theorem dX11_pushes_53 : decode cX11_pushes 53 = .ok (.return_, 1) := by decide +kernel
def fX11_pushes (p1 : Int32) (σ : zS) : Option zS := wI σ 78 20 (iG σ 56 41) p1 fun σ1 => wI σ1 79 20 (iG σ1 56 41) 0 fun σ2 => wI σ2 80 20 (iG σ2 56 41) (vp_nar .boolean 1) fun σ3 => wI σ3 82 20 (iG σ3 56 41) (iG σ3 56 44) fun σ4 => bnd (iS σ4 56 41 ((iG σ4 56 41) + 1)) fun σ5 => some σ5
theorem eX11_pushes {sc : Nat × (Nat → Int32)} (p1 : Int32) (σ : zS) (w : zS) (h : fX11_pushes p1 σ = some w) : zR (zY0 sc) 1 0 0 mX11_pushes 0 [(0, .ref 56), (1, .int p1)] [] (zE σ) (none, zE w) := by
  unfold fX11_pushes at h
  refine kR.aload_n dX11_pushes_0 0 rfl ?_
  refine kR.getR (v := 78) dX11_pushes_1 flX11_121 zcf11 zp56 (Or.inr ⟨_, rfl⟩) rfl ?_
  refine kR.aload_n dX11_pushes_4 0 rfl ?_
  refine kR.getI dX11_pushes_5 flX11_137 zcf11 zp56 (Or.inl rfl) ?_
  refine kR.iload_n dX11_pushes_8 1 rfl ?_
  refine kR.iast dX11_pushes_9 zp78 rfl h (fun σ1 h => ?_)
  refine kR.aload_n dX11_pushes_10 0 rfl ?_
  refine kR.getR (v := 79) dX11_pushes_11 flX11_124 zcf11 zp56 (Or.inr ⟨_, rfl⟩) rfl ?_
  refine kR.aload_n dX11_pushes_14 0 rfl ?_
  refine kR.getI dX11_pushes_15 flX11_137 zcf11 zp56 (Or.inl rfl) ?_
  refine zR.iconst (v := 0) dX11_pushes_18 (by decide) ?_
  refine kR.iast dX11_pushes_19 zp79 rfl h (fun σ2 h => ?_)
  refine kR.aload_n dX11_pushes_20 0 rfl ?_
  refine kR.getR (v := 80) dX11_pushes_21 flX11_127 zcf11 zp56 (Or.inr ⟨_, rfl⟩) rfl ?_
  refine kR.aload_n dX11_pushes_24 0 rfl ?_
  refine kR.getI dX11_pushes_25 flX11_137 zcf11 zp56 (Or.inl rfl) ?_
  refine zR.iconst (v := 1) dX11_pushes_28 (by decide) ?_
  refine kR.zast dX11_pushes_29 zp80 rfl h (fun σ3 h => ?_)
  refine kR.aload_n dX11_pushes_30 0 rfl ?_
  refine kR.getR (v := 82) dX11_pushes_31 flX11_134 zcf11 zp56 (Or.inr ⟨_, rfl⟩) rfl ?_
  refine kR.aload_n dX11_pushes_34 0 rfl ?_
  refine kR.getI dX11_pushes_35 flX11_137 zcf11 zp56 (Or.inl rfl) ?_
  refine kR.aload_n dX11_pushes_38 0 rfl ?_
  refine kR.getI dX11_pushes_39 flX11_146 zcf11 zp56 (Or.inl rfl) ?_
  refine kR.iast dX11_pushes_42 zp82 rfl h (fun σ4 h => ?_)
  refine kR.aload_n dX11_pushes_43 0 rfl ?_
  refine zR.dup dX11_pushes_44 rfl ?_
  refine kR.getI dX11_pushes_45 flX11_137 zcf11 zp56 (Or.inl rfl) ?_
  refine zR.iconst (v := 1) dX11_pushes_48 (by decide) ?_
  refine zR.iadd dX11_pushes_49 ?_
  refine kR.putI dX11_pushes_50 fpX11_137 zcf11 zp56 rfl h (fun σ5 h => ?_)
  exact kR.vret dX11_pushes_53 h
theorem lX11_pushes {sc : Nat × (Nat → Int32)} (p1 : Int32) (σ : zS) (w : zS) (h : fX11_pushes p1 σ = some w) : zC (zY0 sc) 1 0 0 mX11_pushes [.ref 56, .int p1] (zE σ) (none, zE w) := zC.of (by decide +kernel) (Nat.le_of_ble_eq_true rfl) rfl (eX11_pushes p1 σ w h)
