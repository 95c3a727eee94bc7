/-! M_damage -/
theorem d_M_damage_0 : decode b_M_damage 0 = .ok (.iload_n 1, 1) := by decide +kernel
theorem d_M_damage_1 : decode b_M_damage 1 = .ok (.ifCond .ge 7, 3) := by decide +kernel
theorem d_M_damage_4 : decode b_M_damage 4 = .ok (.iconst 0, 1) := by decide +kernel
theorem d_M_damage_5 : decode b_M_damage 5 = .ok (.goto 4, 3) := by decide +kernel
theorem d_M_damage_8 : decode b_M_damage 8 = .ok (.iload_n 1, 1) := by decide +kernel
theorem d_M_damage_9 : decode b_M_damage 9 = .ok (.istore 5, 2) := by decide +kernel
theorem d_M_damage_11 : decode b_M_damage 11 = .ok (.iload_n 2, 1) := by decide +kernel
theorem d_M_damage_12 : decode b_M_damage 12 = .ok (.ifCond .ge 7, 3) := by decide +kernel
theorem d_M_damage_15 : decode b_M_damage 15 = .ok (.iconst 0, 1) := by decide +kernel
theorem d_M_damage_16 : decode b_M_damage 16 = .ok (.goto 4, 3) := by decide +kernel
theorem d_M_damage_19 : decode b_M_damage 19 = .ok (.iload_n 2, 1) := by decide +kernel
theorem d_M_damage_20 : decode b_M_damage 20 = .ok (.istore 6, 2) := by decide +kernel
theorem d_M_damage_22 : decode b_M_damage 22 = .ok (.iload_n 3, 1) := by decide +kernel
theorem d_M_damage_23 : decode b_M_damage 23 = .ok (.bipush 23, 2) := by decide +kernel
theorem d_M_damage_25 : decode b_M_damage 25 = .ok (.if_icmp .le 8, 3) := by decide +kernel
theorem d_M_damage_28 : decode b_M_damage 28 = .ok (.bipush 23, 2) := by decide +kernel
theorem d_M_damage_30 : decode b_M_damage 30 = .ok (.goto 4, 3) := by decide +kernel
theorem d_M_damage_33 : decode b_M_damage 33 = .ok (.iload_n 3, 1) := by decide +kernel
theorem d_M_damage_34 : decode b_M_damage 34 = .ok (.istore 7, 2) := by decide +kernel
theorem d_M_damage_36 : decode b_M_damage 36 = .ok (.iload 4, 2) := by decide +kernel
theorem d_M_damage_38 : decode b_M_damage 38 = .ok (.bipush 15, 2) := by decide +kernel
theorem d_M_damage_40 : decode b_M_damage 40 = .ok (.if_icmp .le 8, 3) := by decide +kernel
theorem d_M_damage_43 : decode b_M_damage 43 = .ok (.bipush 15, 2) := by decide +kernel
theorem d_M_damage_45 : decode b_M_damage 45 = .ok (.goto 5, 3) := by decide +kernel
theorem d_M_damage_48 : decode b_M_damage 48 = .ok (.iload 4, 2) := by decide +kernel
theorem d_M_damage_50 : decode b_M_damage 50 = .ok (.istore 8, 2) := by decide +kernel
theorem d_M_damage_52 : decode b_M_damage 52 = .ok (.iload 5, 2) := by decide +kernel
theorem d_M_damage_54 : decode b_M_damage 54 = .ok (.iload 7, 2) := by decide +kernel
theorem d_M_damage_56 : decode b_M_damage 56 = .ok (.if_icmp .gt 10, 3) := by decide +kernel
theorem d_M_damage_59 : decode b_M_damage 59 = .ok (.iload 6, 2) := by decide +kernel
theorem d_M_damage_61 : decode b_M_damage 61 = .ok (.iload 8, 2) := by decide +kernel
theorem d_M_damage_63 : decode b_M_damage 63 = .ok (.if_icmp .le 4, 3) := by decide +kernel
theorem d_M_damage_66 : decode b_M_damage 66 = .ok (.return_, 1) := by decide +kernel
theorem d_M_damage_67 : decode b_M_damage 67 = .ok (.aload_n 0, 1) := by decide +kernel
theorem d_M_damage_68 : decode b_M_damage 68 = .ok (.getfield 51, 3) := by decide +kernel
theorem d_M_damage_71 : decode b_M_damage 71 = .ok (.aload_n 0, 1) := by decide +kernel
theorem d_M_damage_72 : decode b_M_damage 72 = .ok (.getfield 78, 3) := by decide +kernel
theorem d_M_damage_75 : decode b_M_damage 75 = .ok (.iload 5, 2) := by decide +kernel
theorem d_M_damage_77 : decode b_M_damage 77 = .ok (.iastore, 1) := by decide +kernel
theorem d_M_damage_78 : decode b_M_damage 78 = .ok (.aload_n 0, 1) := by decide +kernel
theorem d_M_damage_79 : decode b_M_damage 79 = .ok (.getfield 54, 3) := by decide +kernel
theorem d_M_damage_82 : decode b_M_damage 82 = .ok (.aload_n 0, 1) := by decide +kernel
theorem d_M_damage_83 : decode b_M_damage 83 = .ok (.getfield 78, 3) := by decide +kernel
theorem d_M_damage_86 : decode b_M_damage 86 = .ok (.iload 6, 2) := by decide +kernel
theorem d_M_damage_88 : decode b_M_damage 88 = .ok (.iastore, 1) := by decide +kernel
theorem d_M_damage_89 : decode b_M_damage 89 = .ok (.aload_n 0, 1) := by decide +kernel
theorem d_M_damage_90 : decode b_M_damage 90 = .ok (.getfield 57, 3) := by decide +kernel
theorem d_M_damage_93 : decode b_M_damage 93 = .ok (.aload_n 0, 1) := by decide +kernel
theorem d_M_damage_94 : decode b_M_damage 94 = .ok (.getfield 78, 3) := by decide +kernel
theorem d_M_damage_97 : decode b_M_damage 97 = .ok (.iload 7, 2) := by decide +kernel
theorem d_M_damage_99 : decode b_M_damage 99 = .ok (.iastore, 1) := by decide +kernel
theorem d_M_damage_100 : decode b_M_damage 100 = .ok (.aload_n 0, 1) := by decide +kernel
theorem d_M_damage_101 : decode b_M_damage 101 = .ok (.getfield 60, 3) := by decide +kernel
theorem d_M_damage_104 : decode b_M_damage 104 = .ok (.aload_n 0, 1) := by decide +kernel
theorem d_M_damage_105 : decode b_M_damage 105 = .ok (.getfield 78, 3) := by decide +kernel
theorem d_M_damage_108 : decode b_M_damage 108 = .ok (.iload 8, 2) := by decide +kernel
theorem d_M_damage_110 : decode b_M_damage 110 = .ok (.iastore, 1) := by decide +kernel
theorem d_M_damage_111 : decode b_M_damage 111 = .ok (.aload_n 0, 1) := by decide +kernel
theorem d_M_damage_112 : decode b_M_damage 112 = .ok (.dup, 1) := by decide +kernel
theorem d_M_damage_113 : decode b_M_damage 113 = .ok (.getfield 78, 3) := by decide +kernel
theorem d_M_damage_116 : decode b_M_damage 116 = .ok (.iconst 1, 1) := by decide +kernel
theorem d_M_damage_117 : decode b_M_damage 117 = .ok (.iadd, 1) := by decide +kernel
theorem d_M_damage_118 : decode b_M_damage 118 = .ok (.putfield 78, 3) := by decide +kernel
theorem d_M_damage_121 : decode b_M_damage 121 = .ok (.aload_n 0, 1) := by decide +kernel
theorem d_M_damage_122 : decode b_M_damage 122 = .ok (.getfield 78, 3) := by decide +kernel
theorem d_M_damage_125 : decode b_M_damage 125 = .ok (.bipush 7, 2) := by decide +kernel
theorem d_M_damage_127 : decode b_M_damage 127 = .ok (.if_icmp .ne 176, 3) := by decide +kernel
theorem d_M_damage_130 : decode b_M_damage 130 = .ok (.iconst 1, 1) := by decide +kernel
theorem d_M_damage_131 : decode b_M_damage 131 = .ok (.istore 9, 2) := by decide +kernel
theorem d_M_damage_133 : decode b_M_damage 133 = .ok (.iload 9, 2) := by decide +kernel
theorem d_M_damage_135 : decode b_M_damage 135 = .ok (.bipush 7, 2) := by decide +kernel
theorem d_M_damage_137 : decode b_M_damage 137 = .ok (.if_icmp .ge 161, 3) := by decide +kernel
theorem d_M_damage_140 : decode b_M_damage 140 = .ok (.aload_n 0, 1) := by decide +kernel
theorem d_M_damage_141 : decode b_M_damage 141 = .ok (.getfield 51, 3) := by decide +kernel
theorem d_M_damage_144 : decode b_M_damage 144 = .ok (.iconst 0, 1) := by decide +kernel
theorem d_M_damage_145 : decode b_M_damage 145 = .ok (.aload_n 0, 1) := by decide +kernel
theorem d_M_damage_146 : decode b_M_damage 146 = .ok (.getfield 51, 3) := by decide +kernel
theorem d_M_damage_149 : decode b_M_damage 149 = .ok (.iload 9, 2) := by decide +kernel
theorem d_M_damage_151 : decode b_M_damage 151 = .ok (.iaload, 1) := by decide +kernel
theorem d_M_damage_152 : decode b_M_damage 152 = .ok (.aload_n 0, 1) := by decide +kernel
theorem d_M_damage_153 : decode b_M_damage 153 = .ok (.getfield 51, 3) := by decide +kernel
theorem d_M_damage_156 : decode b_M_damage 156 = .ok (.iconst 0, 1) := by decide +kernel
theorem d_M_damage_157 : decode b_M_damage 157 = .ok (.iaload, 1) := by decide +kernel
theorem d_M_damage_158 : decode b_M_damage 158 = .ok (.if_icmp .ge 13, 3) := by decide +kernel
theorem d_M_damage_161 : decode b_M_damage 161 = .ok (.aload_n 0, 1) := by decide +kernel
theorem d_M_damage_162 : decode b_M_damage 162 = .ok (.getfield 51, 3) := by decide +kernel
theorem d_M_damage_165 : decode b_M_damage 165 = .ok (.iload 9, 2) := by decide +kernel
theorem d_M_damage_167 : decode b_M_damage 167 = .ok (.iaload, 1) := by decide +kernel
theorem d_M_damage_168 : decode b_M_damage 168 = .ok (.goto 9, 3) := by decide +kernel
theorem d_M_damage_171 : decode b_M_damage 171 = .ok (.aload_n 0, 1) := by decide +kernel
theorem d_M_damage_172 : decode b_M_damage 172 = .ok (.getfield 51, 3) := by decide +kernel
theorem d_M_damage_175 : decode b_M_damage 175 = .ok (.iconst 0, 1) := by decide +kernel
theorem d_M_damage_176 : decode b_M_damage 176 = .ok (.iaload, 1) := by decide +kernel
theorem d_M_damage_177 : decode b_M_damage 177 = .ok (.iastore, 1) := by decide +kernel
theorem d_M_damage_178 : decode b_M_damage 178 = .ok (.aload_n 0, 1) := by decide +kernel
theorem d_M_damage_179 : decode b_M_damage 179 = .ok (.getfield 54, 3) := by decide +kernel
theorem d_M_damage_182 : decode b_M_damage 182 = .ok (.iconst 0, 1) := by decide +kernel
theorem d_M_damage_183 : decode b_M_damage 183 = .ok (.aload_n 0, 1) := by decide +kernel
theorem d_M_damage_184 : decode b_M_damage 184 = .ok (.getfield 54, 3) := by decide +kernel
theorem d_M_damage_187 : decode b_M_damage 187 = .ok (.iload 9, 2) := by decide +kernel
theorem d_M_damage_189 : decode b_M_damage 189 = .ok (.iaload, 1) := by decide +kernel
theorem d_M_damage_190 : decode b_M_damage 190 = .ok (.aload_n 0, 1) := by decide +kernel
theorem d_M_damage_191 : decode b_M_damage 191 = .ok (.getfield 54, 3) := by decide +kernel
theorem d_M_damage_194 : decode b_M_damage 194 = .ok (.iconst 0, 1) := by decide +kernel
theorem d_M_damage_195 : decode b_M_damage 195 = .ok (.iaload, 1) := by decide +kernel
theorem d_M_damage_196 : decode b_M_damage 196 = .ok (.if_icmp .ge 13, 3) := by decide +kernel
theorem d_M_damage_199 : decode b_M_damage 199 = .ok (.aload_n 0, 1) := by decide +kernel
theorem d_M_damage_200 : decode b_M_damage 200 = .ok (.getfield 54, 3) := by decide +kernel
theorem d_M_damage_203 : decode b_M_damage 203 = .ok (.iload 9, 2) := by decide +kernel
theorem d_M_damage_205 : decode b_M_damage 205 = .ok (.iaload, 1) := by decide +kernel
theorem d_M_damage_206 : decode b_M_damage 206 = .ok (.goto 9, 3) := by decide +kernel
theorem d_M_damage_209 : decode b_M_damage 209 = .ok (.aload_n 0, 1) := by decide +kernel
theorem d_M_damage_210 : decode b_M_damage 210 = .ok (.getfield 54, 3) := by decide +kernel
theorem d_M_damage_213 : decode b_M_damage 213 = .ok (.iconst 0, 1) := by decide +kernel
theorem d_M_damage_214 : decode b_M_damage 214 = .ok (.iaload, 1) := by decide +kernel
theorem d_M_damage_215 : decode b_M_damage 215 = .ok (.iastore, 1) := by decide +kernel
theorem d_M_damage_216 : decode b_M_damage 216 = .ok (.aload_n 0, 1) := by decide +kernel
theorem d_M_damage_217 : decode b_M_damage 217 = .ok (.getfield 57, 3) := by decide +kernel
theorem d_M_damage_220 : decode b_M_damage 220 = .ok (.iconst 0, 1) := by decide +kernel
theorem d_M_damage_221 : decode b_M_damage 221 = .ok (.aload_n 0, 1) := by decide +kernel
theorem d_M_damage_222 : decode b_M_damage 222 = .ok (.getfield 57, 3) := by decide +kernel
theorem d_M_damage_225 : decode b_M_damage 225 = .ok (.iload 9, 2) := by decide +kernel
theorem d_M_damage_227 : decode b_M_damage 227 = .ok (.iaload, 1) := by decide +kernel
theorem d_M_damage_228 : decode b_M_damage 228 = .ok (.aload_n 0, 1) := by decide +kernel
theorem d_M_damage_229 : decode b_M_damage 229 = .ok (.getfield 57, 3) := by decide +kernel
theorem d_M_damage_232 : decode b_M_damage 232 = .ok (.iconst 0, 1) := by decide +kernel
theorem d_M_damage_233 : decode b_M_damage 233 = .ok (.iaload, 1) := by decide +kernel
theorem d_M_damage_234 : decode b_M_damage 234 = .ok (.if_icmp .le 13, 3) := by decide +kernel
theorem d_M_damage_237 : decode b_M_damage 237 = .ok (.aload_n 0, 1) := by decide +kernel
theorem d_M_damage_238 : decode b_M_damage 238 = .ok (.getfield 57, 3) := by decide +kernel
theorem d_M_damage_241 : decode b_M_damage 241 = .ok (.iload 9, 2) := by decide +kernel
theorem d_M_damage_243 : decode b_M_damage 243 = .ok (.iaload, 1) := by decide +kernel
theorem d_M_damage_244 : decode b_M_damage 244 = .ok (.goto 9, 3) := by decide +kernel
theorem d_M_damage_247 : decode b_M_damage 247 = .ok (.aload_n 0, 1) := by decide +kernel
theorem d_M_damage_248 : decode b_M_damage 248 = .ok (.getfield 57, 3) := by decide +kernel
theorem d_M_damage_251 : decode b_M_damage 251 = .ok (.iconst 0, 1) := by decide +kernel
theorem d_M_damage_252 : decode b_M_damage 252 = .ok (.iaload, 1) := by decide +kernel
theorem d_M_damage_253 : decode b_M_damage 253 = .ok (.iastore, 1) := by decide +kernel
theorem d_M_damage_254 : decode b_M_damage 254 = .ok (.aload_n 0, 1) := by decide +kernel
theorem d_M_damage_255 : decode b_M_damage 255 = .ok (.getfield 60, 3) := by decide +kernel
theorem d_M_damage_258 : decode b_M_damage 258 = .ok (.iconst 0, 1) := by decide +kernel
theorem d_M_damage_259 : decode b_M_damage 259 = .ok (.aload_n 0, 1) := by decide +kernel
theorem d_M_damage_260 : decode b_M_damage 260 = .ok (.getfield 60, 3) := by decide +kernel
theorem d_M_damage_263 : decode b_M_damage 263 = .ok (.iload 9, 2) := by decide +kernel
theorem d_M_damage_265 : decode b_M_damage 265 = .ok (.iaload, 1) := by decide +kernel
theorem d_M_damage_266 : decode b_M_damage 266 = .ok (.aload_n 0, 1) := by decide +kernel
theorem d_M_damage_267 : decode b_M_damage 267 = .ok (.getfield 60, 3) := by decide +kernel
theorem d_M_damage_270 : decode b_M_damage 270 = .ok (.iconst 0, 1) := by decide +kernel
theorem d_M_damage_271 : decode b_M_damage 271 = .ok (.iaload, 1) := by decide +kernel
theorem d_M_damage_272 : decode b_M_damage 272 = .ok (.if_icmp .le 13, 3) := by decide +kernel
theorem d_M_damage_275 : decode b_M_damage 275 = .ok (.aload_n 0, 1) := by decide +kernel
theorem d_M_damage_276 : decode b_M_damage 276 = .ok (.getfield 60, 3) := by decide +kernel
theorem d_M_damage_279 : decode b_M_damage 279 = .ok (.iload 9, 2) := by decide +kernel
theorem d_M_damage_281 : decode b_M_damage 281 = .ok (.iaload, 1) := by decide +kernel
theorem d_M_damage_282 : decode b_M_damage 282 = .ok (.goto 9, 3) := by decide +kernel
theorem d_M_damage_285 : decode b_M_damage 285 = .ok (.aload_n 0, 1) := by decide +kernel
theorem d_M_damage_286 : decode b_M_damage 286 = .ok (.getfield 60, 3) := by decide +kernel
theorem d_M_damage_289 : decode b_M_damage 289 = .ok (.iconst 0, 1) := by decide +kernel
theorem d_M_damage_290 : decode b_M_damage 290 = .ok (.iaload, 1) := by decide +kernel
theorem d_M_damage_291 : decode b_M_damage 291 = .ok (.iastore, 1) := by decide +kernel
theorem d_M_damage_292 : decode b_M_damage 292 = .ok (.iinc 9 1, 3) := by decide +kernel
theorem d_M_damage_295 : decode b_M_damage 295 = .ok (.goto (-162), 3) := by decide +kernel
theorem d_M_damage_298 : decode b_M_damage 298 = .ok (.aload_n 0, 1) := by decide +kernel
theorem d_M_damage_299 : decode b_M_damage 299 = .ok (.iconst 1, 1) := by decide +kernel
theorem d_M_damage_300 : decode b_M_damage 300 = .ok (.putfield 78, 3) := by decide +kernel
theorem d_M_damage_303 : decode b_M_damage 303 = .ok (.return_, 1) := by decide +kernel
abbrev r_M_damage : Room := ⟨0, 0, 0, 0⟩
def f_M_damage_66 (σ : Mem) : Option Mem :=
  some σ
set_option maxRecDepth 100000 in
theorem m_M_damage_66 {κ : GC} {Γ : GA} (hX : Gx κ Γ 10 b_M_damage "PaneScreenModel" r_M_damage none) (σ : Mem) : GG κ Γ 10 (gQ gqv κ Γ r_M_damage) 0 0 σ [none, none, none, none, none, none, none, none, none, none] 66 [] (f_M_damage_66 σ) := by
  unfold f_M_damage_66
  exact g_vret hX d_M_damage_66 (by decide) (by decide)
def f_M_damage_303 (σ : Mem) : Option Mem :=
  some σ
set_option maxRecDepth 100000 in
theorem m_M_damage_303 {κ : GC} {Γ : GA} (hX : Gx κ Γ 10 b_M_damage "PaneScreenModel" r_M_damage none) (σ : Mem) : GG κ Γ 10 (gQ gqv κ Γ r_M_damage) 0 0 σ [none, none, none, none, none, none, none, none, none, none] 303 [] (f_M_damage_303 σ) := by
  unfold f_M_damage_303
  exact g_vret hX d_M_damage_303 (by decide) (by decide)
def f_M_damage_291 (K133 : Mem → Int32 → Option Mem) (σ : Mem) (x9 : Int32) (s0 : Int32) : Option Mem :=
  if gin 0 7 = true then
    gbm (m2 σ 35 (0 : Int32).toNatClampNeg s0) fun u1 =>
    K133 u1 (x9 + 1)
  else none
set_option maxRecDepth 100000 in
theorem m_M_damage_291 {κ : GC} {Γ : GA} (hX : Gx κ Γ 10 b_M_damage "PaneScreenModel" r_M_damage none) (K133 : Mem → Int32 → Option Mem) (hK133 : ∀ (σ : Mem) (x9 : Int32), GG κ Γ 10 (gQ gqv κ Γ r_M_damage) 0 0 σ [some (.ref (Γ.2.1 19)), none, none, none, none, none, none, none, none, some (.int x9)] 133 [] (K133 σ x9)) (σ : Mem) (x9 : Int32) (s0 : Int32) : GG κ Γ 10 (gQ gqv κ Γ r_M_damage) 0 0 σ [some (.ref (Γ.2.1 19)), none, none, none, none, none, none, none, none, some (.int x9)] 291 [.int s0, .int 0, .ref (Γ.2.1 35)] (f_M_damage_291 K133 σ x9 s0) := by
  unfold f_M_damage_291
  refine g_iast hX d_M_damage_291 (n := 292) rfl sh_35 ?_
  refine g_mem (fun u1 => ?_)
  refine g_iinc hX 1 _ [_, _, _, _, _, _, _, _, _, _] d_M_damage_292 (n := 295) rfl rfl k_iconst_1 rfl (by decide) rfl ?_
  refine g_goto hX 133 d_M_damage_295 rfl ?_
  exact (hK133 u1 (x9 + 1))
def f_M_damage_253 (K133 : Mem → Int32 → Option Mem) (σ : Mem) (x9 : Int32) (s0 : Int32) : Option Mem :=
  if gin 0 7 = true then
    gbm (m2 σ 34 (0 : Int32).toNatClampNeg s0) fun u1 =>
    if gin x9 7 = true then
      if gin 0 7 = true then
        if (u1 35 x9.toNatClampNeg) ≤ (u1 35 (0 : Int32).toNatClampNeg) then
          if gin 0 7 = true then
            f_M_damage_291 K133 u1 x9 (u1 35 (0 : Int32).toNatClampNeg)
          else none
        else
          if gin x9 7 = true then
            f_M_damage_291 K133 u1 x9 (u1 35 x9.toNatClampNeg)
          else none
      else none
    else none
  else none
set_option maxRecDepth 100000 in
theorem m_M_damage_253 {κ : GC} {Γ : GA} (hX : Gx κ Γ 10 b_M_damage "PaneScreenModel" r_M_damage none) (K133 : Mem → Int32 → Option Mem) (hK133 : ∀ (σ : Mem) (x9 : Int32), GG κ Γ 10 (gQ gqv κ Γ r_M_damage) 0 0 σ [some (.ref (Γ.2.1 19)), none, none, none, none, none, none, none, none, some (.int x9)] 133 [] (K133 σ x9)) (σ : Mem) (x9 : Int32) (s0 : Int32) : GG κ Γ 10 (gQ gqv κ Γ r_M_damage) 0 0 σ [some (.ref (Γ.2.1 19)), none, none, none, none, none, none, none, none, some (.int x9)] 253 [.int s0, .int 0, .ref (Γ.2.1 34)] (f_M_damage_253 K133 σ x9 s0) := by
  unfold f_M_damage_253
  refine g_iast hX d_M_damage_253 (n := 254) rfl sh_34 ?_
  refine g_mem (fun u1 => ?_)
  refine g_aload_n hX 0 d_M_damage_254 (n := 255) rfl rfl rfl ?_
  refine g_geta hX 35 gf_M_60 d_M_damage_255 (n := 258) rfl sh_19 rfl ?_
  refine g_iconst hX 0 d_M_damage_258 (n := 259) rfl k_iconst_0 ?_
  refine g_aload_n hX 0 d_M_damage_259 (n := 260) rfl rfl rfl ?_
  refine g_geta hX 35 gf_M_60 d_M_damage_260 (n := 263) rfl sh_19 rfl ?_
  refine g_iload hX d_M_damage_263 (n := 265) rfl rfl ?_
  refine g_iald hX d_M_damage_265 (n := 266) rfl sh_35 ?_
  refine g_aload_n hX 0 d_M_damage_266 (n := 267) rfl rfl rfl ?_
  refine g_geta hX 35 gf_M_60 d_M_damage_267 (n := 270) rfl sh_19 rfl ?_
  refine g_iconst hX 0 d_M_damage_270 (n := 271) rfl k_iconst_0 ?_
  refine g_iald hX d_M_damage_271 (n := 272) rfl sh_35 ?_
  refine g_icmp_le hX 285 d_M_damage_272 (n := 275) rfl rfl ?_ ?_
  · refine g_aload_n hX 0 d_M_damage_285 (n := 286) rfl rfl rfl ?_
    refine g_geta hX 35 gf_M_60 d_M_damage_286 (n := 289) rfl sh_19 rfl ?_
    refine g_iconst hX 0 d_M_damage_289 (n := 290) rfl k_iconst_0 ?_
    refine g_iald hX d_M_damage_290 (n := 291) rfl sh_35 ?_
    exact (m_M_damage_291 hX K133 hK133 u1 x9 (u1 35 (0 : Int32).toNatClampNeg))
  · refine g_aload_n hX 0 d_M_damage_275 (n := 276) rfl rfl rfl ?_
    refine g_geta hX 35 gf_M_60 d_M_damage_276 (n := 279) rfl sh_19 rfl ?_
    refine g_iload hX d_M_damage_279 (n := 281) rfl rfl ?_
    refine g_iald hX d_M_damage_281 (n := 282) rfl sh_35 ?_
    refine g_goto hX 291 d_M_damage_282 rfl ?_
    exact (m_M_damage_291 hX K133 hK133 u1 x9 (u1 35 x9.toNatClampNeg))
def f_M_damage_215 (K133 : Mem → Int32 → Option Mem) (σ : Mem) (x9 : Int32) (s0 : Int32) : Option Mem :=
  if gin 0 7 = true then
    gbm (m2 σ 33 (0 : Int32).toNatClampNeg s0) fun u1 =>
    if gin x9 7 = true then
      if gin 0 7 = true then
        if (u1 34 x9.toNatClampNeg) ≤ (u1 34 (0 : Int32).toNatClampNeg) then
          if gin 0 7 = true then
            f_M_damage_253 K133 u1 x9 (u1 34 (0 : Int32).toNatClampNeg)
          else none
        else
          if gin x9 7 = true then
            f_M_damage_253 K133 u1 x9 (u1 34 x9.toNatClampNeg)
          else none
      else none
    else none
  else none
set_option maxRecDepth 100000 in
theorem m_M_damage_215 {κ : GC} {Γ : GA} (hX : Gx κ Γ 10 b_M_damage "PaneScreenModel" r_M_damage none) (K133 : Mem → Int32 → Option Mem) (hK133 : ∀ (σ : Mem) (x9 : Int32), GG κ Γ 10 (gQ gqv κ Γ r_M_damage) 0 0 σ [some (.ref (Γ.2.1 19)), none, none, none, none, none, none, none, none, some (.int x9)] 133 [] (K133 σ x9)) (σ : Mem) (x9 : Int32) (s0 : Int32) : GG κ Γ 10 (gQ gqv κ Γ r_M_damage) 0 0 σ [some (.ref (Γ.2.1 19)), none, none, none, none, none, none, none, none, some (.int x9)] 215 [.int s0, .int 0, .ref (Γ.2.1 33)] (f_M_damage_215 K133 σ x9 s0) := by
  unfold f_M_damage_215
  refine g_iast hX d_M_damage_215 (n := 216) rfl sh_33 ?_
  refine g_mem (fun u1 => ?_)
  refine g_aload_n hX 0 d_M_damage_216 (n := 217) rfl rfl rfl ?_
  refine g_geta hX 34 gf_M_57 d_M_damage_217 (n := 220) rfl sh_19 rfl ?_
  refine g_iconst hX 0 d_M_damage_220 (n := 221) rfl k_iconst_0 ?_
  refine g_aload_n hX 0 d_M_damage_221 (n := 222) rfl rfl rfl ?_
  refine g_geta hX 34 gf_M_57 d_M_damage_222 (n := 225) rfl sh_19 rfl ?_
  refine g_iload hX d_M_damage_225 (n := 227) rfl rfl ?_
  refine g_iald hX d_M_damage_227 (n := 228) rfl sh_34 ?_
  refine g_aload_n hX 0 d_M_damage_228 (n := 229) rfl rfl rfl ?_
  refine g_geta hX 34 gf_M_57 d_M_damage_229 (n := 232) rfl sh_19 rfl ?_
  refine g_iconst hX 0 d_M_damage_232 (n := 233) rfl k_iconst_0 ?_
  refine g_iald hX d_M_damage_233 (n := 234) rfl sh_34 ?_
  refine g_icmp_le hX 247 d_M_damage_234 (n := 237) rfl rfl ?_ ?_
  · refine g_aload_n hX 0 d_M_damage_247 (n := 248) rfl rfl rfl ?_
    refine g_geta hX 34 gf_M_57 d_M_damage_248 (n := 251) rfl sh_19 rfl ?_
    refine g_iconst hX 0 d_M_damage_251 (n := 252) rfl k_iconst_0 ?_
    refine g_iald hX d_M_damage_252 (n := 253) rfl sh_34 ?_
    exact (m_M_damage_253 hX K133 hK133 u1 x9 (u1 34 (0 : Int32).toNatClampNeg))
  · refine g_aload_n hX 0 d_M_damage_237 (n := 238) rfl rfl rfl ?_
    refine g_geta hX 34 gf_M_57 d_M_damage_238 (n := 241) rfl sh_19 rfl ?_
    refine g_iload hX d_M_damage_241 (n := 243) rfl rfl ?_
    refine g_iald hX d_M_damage_243 (n := 244) rfl sh_34 ?_
    refine g_goto hX 253 d_M_damage_244 rfl ?_
    exact (m_M_damage_253 hX K133 hK133 u1 x9 (u1 34 x9.toNatClampNeg))
def f_M_damage_177 (K133 : Mem → Int32 → Option Mem) (σ : Mem) (x9 : Int32) (s0 : Int32) : Option Mem :=
  if gin 0 7 = true then
    gbm (m2 σ 32 (0 : Int32).toNatClampNeg s0) fun u1 =>
    if gin x9 7 = true then
      if gin 0 7 = true then
        if (u1 33 (0 : Int32).toNatClampNeg) ≤ (u1 33 x9.toNatClampNeg) then
          if gin 0 7 = true then
            f_M_damage_215 K133 u1 x9 (u1 33 (0 : Int32).toNatClampNeg)
          else none
        else
          if gin x9 7 = true then
            f_M_damage_215 K133 u1 x9 (u1 33 x9.toNatClampNeg)
          else none
      else none
    else none
  else none
set_option maxRecDepth 100000 in
theorem m_M_damage_177 {κ : GC} {Γ : GA} (hX : Gx κ Γ 10 b_M_damage "PaneScreenModel" r_M_damage none) (K133 : Mem → Int32 → Option Mem) (hK133 : ∀ (σ : Mem) (x9 : Int32), GG κ Γ 10 (gQ gqv κ Γ r_M_damage) 0 0 σ [some (.ref (Γ.2.1 19)), none, none, none, none, none, none, none, none, some (.int x9)] 133 [] (K133 σ x9)) (σ : Mem) (x9 : Int32) (s0 : Int32) : GG κ Γ 10 (gQ gqv κ Γ r_M_damage) 0 0 σ [some (.ref (Γ.2.1 19)), none, none, none, none, none, none, none, none, some (.int x9)] 177 [.int s0, .int 0, .ref (Γ.2.1 32)] (f_M_damage_177 K133 σ x9 s0) := by
  unfold f_M_damage_177
  refine g_iast hX d_M_damage_177 (n := 178) rfl sh_32 ?_
  refine g_mem (fun u1 => ?_)
  refine g_aload_n hX 0 d_M_damage_178 (n := 179) rfl rfl rfl ?_
  refine g_geta hX 33 gf_M_54 d_M_damage_179 (n := 182) rfl sh_19 rfl ?_
  refine g_iconst hX 0 d_M_damage_182 (n := 183) rfl k_iconst_0 ?_
  refine g_aload_n hX 0 d_M_damage_183 (n := 184) rfl rfl rfl ?_
  refine g_geta hX 33 gf_M_54 d_M_damage_184 (n := 187) rfl sh_19 rfl ?_
  refine g_iload hX d_M_damage_187 (n := 189) rfl rfl ?_
  refine g_iald hX d_M_damage_189 (n := 190) rfl sh_33 ?_
  refine g_aload_n hX 0 d_M_damage_190 (n := 191) rfl rfl rfl ?_
  refine g_geta hX 33 gf_M_54 d_M_damage_191 (n := 194) rfl sh_19 rfl ?_
  refine g_iconst hX 0 d_M_damage_194 (n := 195) rfl k_iconst_0 ?_
  refine g_iald hX d_M_damage_195 (n := 196) rfl sh_33 ?_
  refine g_icmp_ge hX 209 d_M_damage_196 (n := 199) rfl rfl ?_ ?_
  · refine g_aload_n hX 0 d_M_damage_209 (n := 210) rfl rfl rfl ?_
    refine g_geta hX 33 gf_M_54 d_M_damage_210 (n := 213) rfl sh_19 rfl ?_
    refine g_iconst hX 0 d_M_damage_213 (n := 214) rfl k_iconst_0 ?_
    refine g_iald hX d_M_damage_214 (n := 215) rfl sh_33 ?_
    exact (m_M_damage_215 hX K133 hK133 u1 x9 (u1 33 (0 : Int32).toNatClampNeg))
  · refine g_aload_n hX 0 d_M_damage_199 (n := 200) rfl rfl rfl ?_
    refine g_geta hX 33 gf_M_54 d_M_damage_200 (n := 203) rfl sh_19 rfl ?_
    refine g_iload hX d_M_damage_203 (n := 205) rfl rfl ?_
    refine g_iald hX d_M_damage_205 (n := 206) rfl sh_33 ?_
    refine g_goto hX 215 d_M_damage_206 rfl ?_
    exact (m_M_damage_215 hX K133 hK133 u1 x9 (u1 33 x9.toNatClampNeg))
def f_M_damage_133B (K133 : Mem → Int32 → Option Mem) (σ : Mem) (x9 : Int32) : Option Mem :=
  if 7 ≤ x9 then
    gbm (m2 σ 19 16 1) fun u1 =>
    f_M_damage_303 u1
  else
    if gin x9 7 = true then
      if gin 0 7 = true then
        if (σ 32 (0 : Int32).toNatClampNeg) ≤ (σ 32 x9.toNatClampNeg) then
          if gin 0 7 = true then
            f_M_damage_177 K133 σ x9 (σ 32 (0 : Int32).toNatClampNeg)
          else none
        else
          if gin x9 7 = true then
            f_M_damage_177 K133 σ x9 (σ 32 x9.toNatClampNeg)
          else none
      else none
    else none
set_option maxRecDepth 100000 in
theorem m_M_damage_133B {κ : GC} {Γ : GA} (hX : Gx κ Γ 10 b_M_damage "PaneScreenModel" r_M_damage none) (K133 : Mem → Int32 → Option Mem) (hK133 : ∀ (σ : Mem) (x9 : Int32), GG κ Γ 10 (gQ gqv κ Γ r_M_damage) 0 0 σ [some (.ref (Γ.2.1 19)), none, none, none, none, none, none, none, none, some (.int x9)] 133 [] (K133 σ x9)) (σ : Mem) (x9 : Int32) : GG κ Γ 10 (gQ gqv κ Γ r_M_damage) 0 0 σ [some (.ref (Γ.2.1 19)), none, none, none, none, none, none, none, none, some (.int x9)] 133 [] (f_M_damage_133B K133 σ x9) := by
  unfold f_M_damage_133B
  refine g_iload hX d_M_damage_133 (n := 135) rfl rfl ?_
  refine g_bipush hX 7 d_M_damage_135 (n := 137) rfl k_bipush_7 ?_
  refine g_icmp_ge hX 298 d_M_damage_137 (n := 140) rfl rfl ?_ ?_
  · refine g_aload_n hX 0 d_M_damage_298 (n := 299) rfl rfl rfl ?_
    refine g_iconst hX 1 d_M_damage_299 (n := 300) rfl k_iconst_1 ?_
    refine g_puti hX gp_M_78 d_M_damage_300 (n := 303) rfl sh_19 rfl ?_
    refine g_mem (fun u1 => ?_)
    exact (g_sub (lw := [none, none, none, none, none, none, none, none, none, none]) (True.intro) (m_M_damage_303 hX u1))
  · refine g_aload_n hX 0 d_M_damage_140 (n := 141) rfl rfl rfl ?_
    refine g_geta hX 32 gf_M_51 d_M_damage_141 (n := 144) rfl sh_19 rfl ?_
    refine g_iconst hX 0 d_M_damage_144 (n := 145) rfl k_iconst_0 ?_
    refine g_aload_n hX 0 d_M_damage_145 (n := 146) rfl rfl rfl ?_
    refine g_geta hX 32 gf_M_51 d_M_damage_146 (n := 149) rfl sh_19 rfl ?_
    refine g_iload hX d_M_damage_149 (n := 151) rfl rfl ?_
    refine g_iald hX d_M_damage_151 (n := 152) rfl sh_32 ?_
    refine g_aload_n hX 0 d_M_damage_152 (n := 153) rfl rfl rfl ?_
    refine g_geta hX 32 gf_M_51 d_M_damage_153 (n := 156) rfl sh_19 rfl ?_
    refine g_iconst hX 0 d_M_damage_156 (n := 157) rfl k_iconst_0 ?_
    refine g_iald hX d_M_damage_157 (n := 158) rfl sh_32 ?_
    refine g_icmp_ge hX 171 d_M_damage_158 (n := 161) rfl rfl ?_ ?_
    · refine g_aload_n hX 0 d_M_damage_171 (n := 172) rfl rfl rfl ?_
      refine g_geta hX 32 gf_M_51 d_M_damage_172 (n := 175) rfl sh_19 rfl ?_
      refine g_iconst hX 0 d_M_damage_175 (n := 176) rfl k_iconst_0 ?_
      refine g_iald hX d_M_damage_176 (n := 177) rfl sh_32 ?_
      exact (m_M_damage_177 hX K133 hK133 σ x9 (σ 32 (0 : Int32).toNatClampNeg))
    · refine g_aload_n hX 0 d_M_damage_161 (n := 162) rfl rfl rfl ?_
      refine g_geta hX 32 gf_M_51 d_M_damage_162 (n := 165) rfl sh_19 rfl ?_
      refine g_iload hX d_M_damage_165 (n := 167) rfl rfl ?_
      refine g_iald hX d_M_damage_167 (n := 168) rfl sh_32 ?_
      refine g_goto hX 177 d_M_damage_168 rfl ?_
      exact (m_M_damage_177 hX K133 hK133 σ x9 (σ 32 x9.toNatClampNeg))
def f_M_damage_133 (n : Nat) : Mem → Int32 → Option Mem := gfix (fun _ _ => none) (fun K133 => f_M_damage_133B K133) n
theorem m_M_damage_133 {κ : GC} {Γ : GA} (hX : Gx κ Γ 10 b_M_damage "PaneScreenModel" r_M_damage none) (n : Nat) : ∀ (σ : Mem) (x9 : Int32), GG κ Γ 10 (gQ gqv κ Γ r_M_damage) 0 0 σ [some (.ref (Γ.2.1 19)), none, none, none, none, none, none, none, none, some (.int x9)] 133 [] (f_M_damage_133 n σ x9) := by
  induction n with
  | zero => intros; exact g_none
  | succ n ih => intro σ x9; exact m_M_damage_133B hX (f_M_damage_133 n) ih σ x9
def f_M_damage_50 (σ : Mem) (x5 : Int32) (x6 : Int32) (x7 : Int32) (s0 : Int32) : Option Mem :=
  if x7 < x5 then
    f_M_damage_66 σ
  else
    if x6 ≤ s0 then
      if gin (σ 19 16) 7 = true then
        gbm (m2 σ 32 (σ 19 16).toNatClampNeg x5) fun u1 =>
        if gin (u1 19 16) 7 = true then
          gbm (m2 u1 33 (u1 19 16).toNatClampNeg x6) fun u2 =>
          if gin (u2 19 16) 7 = true then
            gbm (m2 u2 34 (u2 19 16).toNatClampNeg x7) fun u3 =>
            if gin (u3 19 16) 7 = true then
              gbm (m2 u3 35 (u3 19 16).toNatClampNeg s0) fun u4 =>
              gbm (m2 u4 19 16 ((u4 19 16) + 1)) fun u5 =>
              if (u5 19 16) = 7 then
                f_M_damage_133 gN u5 1
              else
                f_M_damage_303 u5
            else none
          else none
        else none
      else none
    else
      f_M_damage_66 σ
set_option maxRecDepth 100000 in
theorem m_M_damage_50 {κ : GC} {Γ : GA} (hX : Gx κ Γ 10 b_M_damage "PaneScreenModel" r_M_damage none) (σ : Mem) (x5 : Int32) (x6 : Int32) (x7 : Int32) (s0 : Int32) : GG κ Γ 10 (gQ gqv κ Γ r_M_damage) 0 0 σ [some (.ref (Γ.2.1 19)), none, none, none, none, some (.int x5), some (.int x6), some (.int x7), none, none] 50 [.int s0] (f_M_damage_50 σ x5 x6 x7 s0) := by
  unfold f_M_damage_50
  refine g_istore hX [_, _, _, _, _, _, _, _, _, _] d_M_damage_50 (n := 52) rfl (by decide) rfl ?_
  refine g_iload hX d_M_damage_52 (n := 54) rfl rfl ?_
  refine g_iload hX d_M_damage_54 (n := 56) rfl rfl ?_
  refine g_icmp_gt hX 66 d_M_damage_56 (n := 59) rfl rfl ?_ ?_
  · exact (g_sub (lw := [none, none, none, none, none, none, none, none, none, none]) (True.intro) (m_M_damage_66 hX σ))
  · refine g_iload hX d_M_damage_59 (n := 61) rfl rfl ?_
    refine g_iload hX d_M_damage_61 (n := 63) rfl rfl ?_
    refine g_icmp_le hX 67 d_M_damage_63 (n := 66) rfl rfl ?_ ?_
    · refine g_aload_n hX 0 d_M_damage_67 (n := 68) rfl rfl rfl ?_
      refine g_geta hX 32 gf_M_51 d_M_damage_68 (n := 71) rfl sh_19 rfl ?_
      refine g_aload_n hX 0 d_M_damage_71 (n := 72) rfl rfl rfl ?_
      refine g_geti hX gf_M_78 d_M_damage_72 (n := 75) rfl sh_19 rfl ?_
      refine g_iload hX d_M_damage_75 (n := 77) rfl rfl ?_
      refine g_iast hX d_M_damage_77 (n := 78) rfl sh_32 ?_
      refine g_mem (fun u1 => ?_)
      refine g_aload_n hX 0 d_M_damage_78 (n := 79) rfl rfl rfl ?_
      refine g_geta hX 33 gf_M_54 d_M_damage_79 (n := 82) rfl sh_19 rfl ?_
      refine g_aload_n hX 0 d_M_damage_82 (n := 83) rfl rfl rfl ?_
      refine g_geti hX gf_M_78 d_M_damage_83 (n := 86) rfl sh_19 rfl ?_
      refine g_iload hX d_M_damage_86 (n := 88) rfl rfl ?_
      refine g_iast hX d_M_damage_88 (n := 89) rfl sh_33 ?_
      refine g_mem (fun u2 => ?_)
      refine g_aload_n hX 0 d_M_damage_89 (n := 90) rfl rfl rfl ?_
      refine g_geta hX 34 gf_M_57 d_M_damage_90 (n := 93) rfl sh_19 rfl ?_
      refine g_aload_n hX 0 d_M_damage_93 (n := 94) rfl rfl rfl ?_
      refine g_geti hX gf_M_78 d_M_damage_94 (n := 97) rfl sh_19 rfl ?_
      refine g_iload hX d_M_damage_97 (n := 99) rfl rfl ?_
      refine g_iast hX d_M_damage_99 (n := 100) rfl sh_34 ?_
      refine g_mem (fun u3 => ?_)
      refine g_aload_n hX 0 d_M_damage_100 (n := 101) rfl rfl rfl ?_
      refine g_geta hX 35 gf_M_60 d_M_damage_101 (n := 104) rfl sh_19 rfl ?_
      refine g_aload_n hX 0 d_M_damage_104 (n := 105) rfl rfl rfl ?_
      refine g_geti hX gf_M_78 d_M_damage_105 (n := 108) rfl sh_19 rfl ?_
      refine g_iload hX d_M_damage_108 (n := 110) rfl rfl ?_
      refine g_iast hX d_M_damage_110 (n := 111) rfl sh_35 ?_
      refine g_mem (fun u4 => ?_)
      refine g_aload_n hX 0 d_M_damage_111 (n := 112) rfl rfl rfl ?_
      refine g_dup hX d_M_damage_112 (n := 113) rfl rfl ?_
      refine g_geti hX gf_M_78 d_M_damage_113 (n := 116) rfl sh_19 rfl ?_
      refine g_iconst hX 1 d_M_damage_116 (n := 117) rfl k_iconst_1 ?_
      refine g_iadd hX d_M_damage_117 (n := 118) rfl ?_
      refine g_puti hX gp_M_78 d_M_damage_118 (n := 121) rfl sh_19 rfl ?_
      refine g_mem (fun u5 => ?_)
      refine g_aload_n hX 0 d_M_damage_121 (n := 122) rfl rfl rfl ?_
      refine g_geti hX gf_M_78 d_M_damage_122 (n := 125) rfl sh_19 rfl ?_
      refine g_bipush hX 7 d_M_damage_125 (n := 127) rfl k_bipush_7 ?_
      refine g_icmp_ne hX 303 d_M_damage_127 (n := 130) rfl rfl ?_ ?_
      · exact (g_sub (lw := [none, none, none, none, none, none, none, none, none, none]) (True.intro) (m_M_damage_303 hX u5))
      · refine g_iconst hX 1 d_M_damage_130 (n := 131) rfl k_iconst_1 ?_
        refine g_istore hX [_, _, _, _, _, _, _, _, _, _] d_M_damage_131 (n := 133) rfl (by decide) rfl ?_
        exact (g_sub (lw := [some (.ref (Γ.2.1 19)), none, none, none, none, none, none, none, none, some (.int 1)]) (And.intro rfl (And.intro rfl (True.intro))) (m_M_damage_133 hX gN u5 1))
    · exact (g_sub (lw := [none, none, none, none, none, none, none, none, none, none]) (True.intro) (m_M_damage_66 hX σ))
def f_M_damage_34 (σ : Mem) (x4 : Int32) (x5 : Int32) (x6 : Int32) (s0 : Int32) : Option Mem :=
  if x4 ≤ 15 then
    f_M_damage_50 σ x5 x6 s0 x4
  else
    f_M_damage_50 σ x5 x6 s0 15
set_option maxRecDepth 100000 in
theorem m_M_damage_34 {κ : GC} {Γ : GA} (hX : Gx κ Γ 10 b_M_damage "PaneScreenModel" r_M_damage none) (σ : Mem) (x4 : Int32) (x5 : Int32) (x6 : Int32) (s0 : Int32) : GG κ Γ 10 (gQ gqv κ Γ r_M_damage) 0 0 σ [some (.ref (Γ.2.1 19)), none, none, none, some (.int x4), some (.int x5), some (.int x6), none, none, none] 34 [.int s0] (f_M_damage_34 σ x4 x5 x6 s0) := by
  unfold f_M_damage_34
  refine g_istore hX [_, _, _, _, _, _, _, _, _, _] d_M_damage_34 (n := 36) rfl (by decide) rfl ?_
  refine g_iload hX d_M_damage_36 (n := 38) rfl rfl ?_
  refine g_bipush hX 15 d_M_damage_38 (n := 40) rfl k_bipush_15 ?_
  refine g_icmp_le hX 48 d_M_damage_40 (n := 43) rfl rfl ?_ ?_
  · refine g_iload hX d_M_damage_48 (n := 50) rfl rfl ?_
    exact (g_sub (lw := [some (.ref (Γ.2.1 19)), none, none, none, none, some (.int x5), some (.int x6), some (.int s0), none, none]) (And.intro rfl (And.intro rfl (And.intro rfl (And.intro rfl (True.intro))))) (m_M_damage_50 hX σ x5 x6 s0 x4))
  · refine g_bipush hX 15 d_M_damage_43 (n := 45) rfl k_bipush_15 ?_
    refine g_goto hX 50 d_M_damage_45 rfl ?_
    exact (g_sub (lw := [some (.ref (Γ.2.1 19)), none, none, none, none, some (.int x5), some (.int x6), some (.int s0), none, none]) (And.intro rfl (And.intro rfl (And.intro rfl (And.intro rfl (True.intro))))) (m_M_damage_50 hX σ x5 x6 s0 15))
def f_M_damage_20 (σ : Mem) (x3 : Int32) (x4 : Int32) (x5 : Int32) (s0 : Int32) : Option Mem :=
  if x3 ≤ 23 then
    f_M_damage_34 σ x4 x5 s0 x3
  else
    f_M_damage_34 σ x4 x5 s0 23
set_option maxRecDepth 100000 in
theorem m_M_damage_20 {κ : GC} {Γ : GA} (hX : Gx κ Γ 10 b_M_damage "PaneScreenModel" r_M_damage none) (σ : Mem) (x3 : Int32) (x4 : Int32) (x5 : Int32) (s0 : Int32) : GG κ Γ 10 (gQ gqv κ Γ r_M_damage) 0 0 σ [some (.ref (Γ.2.1 19)), none, none, some (.int x3), some (.int x4), some (.int x5), none, none, none, none] 20 [.int s0] (f_M_damage_20 σ x3 x4 x5 s0) := by
  unfold f_M_damage_20
  refine g_istore hX [_, _, _, _, _, _, _, _, _, _] d_M_damage_20 (n := 22) rfl (by decide) rfl ?_
  refine g_iload_n hX 3 d_M_damage_22 (n := 23) rfl rfl rfl ?_
  refine g_bipush hX 23 d_M_damage_23 (n := 25) rfl k_bipush_23 ?_
  refine g_icmp_le hX 33 d_M_damage_25 (n := 28) rfl rfl ?_ ?_
  · refine g_iload_n hX 3 d_M_damage_33 (n := 34) rfl rfl rfl ?_
    exact (g_sub (lw := [some (.ref (Γ.2.1 19)), none, none, none, some (.int x4), some (.int x5), some (.int s0), none, none, none]) (And.intro rfl (And.intro rfl (And.intro rfl (And.intro rfl (True.intro))))) (m_M_damage_34 hX σ x4 x5 s0 x3))
  · refine g_bipush hX 23 d_M_damage_28 (n := 30) rfl k_bipush_23 ?_
    refine g_goto hX 34 d_M_damage_30 rfl ?_
    exact (g_sub (lw := [some (.ref (Γ.2.1 19)), none, none, none, some (.int x4), some (.int x5), some (.int s0), none, none, none]) (And.intro rfl (And.intro rfl (And.intro rfl (And.intro rfl (True.intro))))) (m_M_damage_34 hX σ x4 x5 s0 23))
def f_M_damage_9 (σ : Mem) (x2 : Int32) (x3 : Int32) (x4 : Int32) (s0 : Int32) : Option Mem :=
  if 0 ≤ x2 then
    f_M_damage_20 σ x3 x4 s0 x2
  else
    f_M_damage_20 σ x3 x4 s0 0
set_option maxRecDepth 100000 in
theorem m_M_damage_9 {κ : GC} {Γ : GA} (hX : Gx κ Γ 10 b_M_damage "PaneScreenModel" r_M_damage none) (σ : Mem) (x2 : Int32) (x3 : Int32) (x4 : Int32) (s0 : Int32) : GG κ Γ 10 (gQ gqv κ Γ r_M_damage) 0 0 σ [some (.ref (Γ.2.1 19)), none, some (.int x2), some (.int x3), some (.int x4), none, none, none, none, none] 9 [.int s0] (f_M_damage_9 σ x2 x3 x4 s0) := by
  unfold f_M_damage_9
  refine g_istore hX [_, _, _, _, _, _, _, _, _, _] d_M_damage_9 (n := 11) rfl (by decide) rfl ?_
  refine g_iload_n hX 2 d_M_damage_11 (n := 12) rfl rfl rfl ?_
  refine g_if_ge hX 19 d_M_damage_12 (n := 15) rfl rfl ?_ ?_
  · refine g_iload_n hX 2 d_M_damage_19 (n := 20) rfl rfl rfl ?_
    exact (g_sub (lw := [some (.ref (Γ.2.1 19)), none, none, some (.int x3), some (.int x4), some (.int s0), none, none, none, none]) (And.intro rfl (And.intro rfl (And.intro rfl (And.intro rfl (True.intro))))) (m_M_damage_20 hX σ x3 x4 s0 x2))
  · refine g_iconst hX 0 d_M_damage_15 (n := 16) rfl k_iconst_0 ?_
    refine g_goto hX 20 d_M_damage_16 rfl ?_
    exact (g_sub (lw := [some (.ref (Γ.2.1 19)), none, none, some (.int x3), some (.int x4), some (.int s0), none, none, none, none]) (And.intro rfl (And.intro rfl (And.intro rfl (And.intro rfl (True.intro))))) (m_M_damage_20 hX σ x3 x4 s0 0))
def f_M_damage_0 (σ : Mem) (x1 : Int32) (x2 : Int32) (x3 : Int32) (x4 : Int32) : Option Mem :=
  if 0 ≤ x1 then
    f_M_damage_9 σ x2 x3 x4 x1
  else
    f_M_damage_9 σ x2 x3 x4 0
set_option maxRecDepth 100000 in
theorem m_M_damage_0 {κ : GC} {Γ : GA} (hX : Gx κ Γ 10 b_M_damage "PaneScreenModel" r_M_damage none) (σ : Mem) (x1 : Int32) (x2 : Int32) (x3 : Int32) (x4 : Int32) : GG κ Γ 10 (gQ gqv κ Γ r_M_damage) 0 0 σ [some (.ref (Γ.2.1 19)), some (.int x1), some (.int x2), some (.int x3), some (.int x4), none, none, none, none, none] 0 [] (f_M_damage_0 σ x1 x2 x3 x4) := by
  unfold f_M_damage_0
  refine g_iload_n hX 1 d_M_damage_0 (n := 1) rfl rfl rfl ?_
  refine g_if_ge hX 8 d_M_damage_1 (n := 4) rfl rfl ?_ ?_
  · refine g_iload_n hX 1 d_M_damage_8 (n := 9) rfl rfl rfl ?_
    exact (g_sub (lw := [some (.ref (Γ.2.1 19)), none, some (.int x2), some (.int x3), some (.int x4), none, none, none, none, none]) (And.intro rfl (And.intro rfl (And.intro rfl (And.intro rfl (True.intro))))) (m_M_damage_9 hX σ x2 x3 x4 x1))
  · refine g_iconst hX 0 d_M_damage_4 (n := 5) rfl k_iconst_0 ?_
    refine g_goto hX 9 d_M_damage_5 rfl ?_
    exact (g_sub (lw := [some (.ref (Γ.2.1 19)), none, some (.int x2), some (.int x3), some (.int x4), none, none, none, none, none]) (And.intro rfl (And.intro rfl (And.intro rfl (And.intro rfl (True.intro))))) (m_M_damage_9 hX σ x2 x3 x4 0))
def f_M_damage (x1 : Int32) (x2 : Int32) (x3 : Int32) (x4 : Int32) (σ : Mem) : Option Mem := f_M_damage_0 σ x1 x2 x3 x4
theorem c_M_damage (l : Launch) (Γ : GA) (x1 : Int32) (x2 : Int32) (x3 : Int32) (x4 : Int32) (σ : Mem) : gM gqv l y_M_damage b_M_damage 10 none r_M_damage [.ref (Γ.2.1 19), .int x1, .int x2, .int x3, .int x4] Γ σ (f_M_damage x1 x2 x3 x4 σ) :=
  gM.of [some (.ref (Γ.2.1 19)), some (.int x1), some (.int x2), some (.int x3), some (.int x4), none, none, none, none, none] (by decide) (Nat.le_of_ble_eq_true rfl) rfl rfl (fun κ hX _ => m_M_damage_0 hX σ x1 x2 x3 x4)
/-! M_damageFrame -/
theorem d_M_damageFrame_0 : decode b_M_damageFrame 0 = .ok (.aload_n 0, 1) := by decide +kernel
theorem d_M_damageFrame_1 : decode b_M_damageFrame 1 = .ok (.aload_n 0, 1) := by decide +kernel
theorem d_M_damageFrame_2 : decode b_M_damageFrame 2 = .ok (.getfield 17, 3) := by decide +kernel
theorem d_M_damageFrame_5 : decode b_M_damageFrame 5 = .ok (.iload_n 1, 1) := by decide +kernel
theorem d_M_damageFrame_6 : decode b_M_damageFrame 6 = .ok (.iaload, 1) := by decide +kernel
theorem d_M_damageFrame_7 : decode b_M_damageFrame 7 = .ok (.aload_n 0, 1) := by decide +kernel
theorem d_M_damageFrame_8 : decode b_M_damageFrame 8 = .ok (.getfield 20, 3) := by decide +kernel
theorem d_M_damageFrame_11 : decode b_M_damageFrame 11 = .ok (.iload_n 1, 1) := by decide +kernel
theorem d_M_damageFrame_12 : decode b_M_damageFrame 12 = .ok (.iaload, 1) := by decide +kernel
theorem d_M_damageFrame_13 : decode b_M_damageFrame 13 = .ok (.aload_n 0, 1) := by decide +kernel
theorem d_M_damageFrame_14 : decode b_M_damageFrame 14 = .ok (.getfield 17, 3) := by decide +kernel
theorem d_M_damageFrame_17 : decode b_M_damageFrame 17 = .ok (.iload_n 1, 1) := by decide +kernel
theorem d_M_damageFrame_18 : decode b_M_damageFrame 18 = .ok (.iaload, 1) := by decide +kernel
theorem d_M_damageFrame_19 : decode b_M_damageFrame 19 = .ok (.aload_n 0, 1) := by decide +kernel
theorem d_M_damageFrame_20 : decode b_M_damageFrame 20 = .ok (.getfield 23, 3) := by decide +kernel
theorem d_M_damageFrame_23 : decode b_M_damageFrame 23 = .ok (.iload_n 1, 1) := by decide +kernel
theorem d_M_damageFrame_24 : decode b_M_damageFrame 24 = .ok (.iaload, 1) := by decide +kernel
theorem d_M_damageFrame_25 : decode b_M_damageFrame 25 = .ok (.iadd, 1) := by decide +kernel
theorem d_M_damageFrame_26 : decode b_M_damageFrame 26 = .ok (.iconst 1, 1) := by decide +kernel
theorem d_M_damageFrame_27 : decode b_M_damageFrame 27 = .ok (.isub, 1) := by decide +kernel
theorem d_M_damageFrame_28 : decode b_M_damageFrame 28 = .ok (.aload_n 0, 1) := by decide +kernel
theorem d_M_damageFrame_29 : decode b_M_damageFrame 29 = .ok (.getfield 20, 3) := by decide +kernel
theorem d_M_damageFrame_32 : decode b_M_damageFrame 32 = .ok (.iload_n 1, 1) := by decide +kernel
theorem d_M_damageFrame_33 : decode b_M_damageFrame 33 = .ok (.iaload, 1) := by decide +kernel
theorem d_M_damageFrame_34 : decode b_M_damageFrame 34 = .ok (.aload_n 0, 1) := by decide +kernel
theorem d_M_damageFrame_35 : decode b_M_damageFrame 35 = .ok (.getfield 26, 3) := by decide +kernel
theorem d_M_damageFrame_38 : decode b_M_damageFrame 38 = .ok (.iload_n 1, 1) := by decide +kernel
theorem d_M_damageFrame_39 : decode b_M_damageFrame 39 = .ok (.iaload, 1) := by decide +kernel
theorem d_M_damageFrame_40 : decode b_M_damageFrame 40 = .ok (.iadd, 1) := by decide +kernel
theorem d_M_damageFrame_41 : decode b_M_damageFrame 41 = .ok (.iconst 1, 1) := by decide +kernel
theorem d_M_damageFrame_42 : decode b_M_damageFrame 42 = .ok (.isub, 1) := by decide +kernel
theorem d_M_damageFrame_43 : decode b_M_damageFrame 43 = .ok (.invokevirtual 81, 3) := by decide +kernel
theorem d_M_damageFrame_46 : decode b_M_damageFrame 46 = .ok (.return_, 1) := by decide +kernel
abbrev r_M_damageFrame : Room := ⟨1, 0, 0, 29⟩
def f_M_damageFrame_0 (σ : Mem) (x1 : Int32) : Option Mem :=
  if gin x1 8 = true then
    if gin x1 8 = true then
      if gin x1 8 = true then
        if gin x1 8 = true then
          if gin x1 8 = true then
            if gin x1 8 = true then
              gbv (f_M_damage (σ 22 x1.toNatClampNeg) (σ 23 x1.toNatClampNeg) (((σ 22 x1.toNatClampNeg) + (σ 24 x1.toNatClampNeg)) - 1) (((σ 23 x1.toNatClampNeg) + (σ 25 x1.toNatClampNeg)) - 1) σ) fun u1 =>
              some u1
            else none
          else none
        else none
      else none
    else none
  else none
set_option maxRecDepth 100000 in
theorem m_M_damageFrame_0 {κ : GC} {Γ : GA} (hX : Gx κ Γ 2 b_M_damageFrame "PaneScreenModel" r_M_damageFrame none) (σ : Mem) (x1 : Int32) : GG κ Γ 2 (gQ gqv κ Γ r_M_damageFrame) 0 0 σ [some (.ref (Γ.2.1 19)), some (.int x1)] 0 [] (f_M_damageFrame_0 σ x1) := by
  unfold f_M_damageFrame_0
  refine g_aload_n hX 0 d_M_damageFrame_0 (n := 1) rfl rfl rfl ?_
  refine g_aload_n hX 0 d_M_damageFrame_1 (n := 2) rfl rfl rfl ?_
  refine g_geta hX 22 gf_M_17 d_M_damageFrame_2 (n := 5) rfl sh_19 rfl ?_
  refine g_iload_n hX 1 d_M_damageFrame_5 (n := 6) rfl rfl rfl ?_
  refine g_iald hX d_M_damageFrame_6 (n := 7) rfl sh_22 ?_
  refine g_aload_n hX 0 d_M_damageFrame_7 (n := 8) rfl rfl rfl ?_
  refine g_geta hX 23 gf_M_20 d_M_damageFrame_8 (n := 11) rfl sh_19 rfl ?_
  refine g_iload_n hX 1 d_M_damageFrame_11 (n := 12) rfl rfl rfl ?_
  refine g_iald hX d_M_damageFrame_12 (n := 13) rfl sh_23 ?_
  refine g_aload_n hX 0 d_M_damageFrame_13 (n := 14) rfl rfl rfl ?_
  refine g_geta hX 22 gf_M_17 d_M_damageFrame_14 (n := 17) rfl sh_19 rfl ?_
  refine g_iload_n hX 1 d_M_damageFrame_17 (n := 18) rfl rfl rfl ?_
  refine g_iald hX d_M_damageFrame_18 (n := 19) rfl sh_22 ?_
  refine g_aload_n hX 0 d_M_damageFrame_19 (n := 20) rfl rfl rfl ?_
  refine g_geta hX 24 gf_M_23 d_M_damageFrame_20 (n := 23) rfl sh_19 rfl ?_
  refine g_iload_n hX 1 d_M_damageFrame_23 (n := 24) rfl rfl rfl ?_
  refine g_iald hX d_M_damageFrame_24 (n := 25) rfl sh_24 ?_
  refine g_iadd hX d_M_damageFrame_25 (n := 26) rfl ?_
  refine g_iconst hX 1 d_M_damageFrame_26 (n := 27) rfl k_iconst_1 ?_
  refine g_isub hX d_M_damageFrame_27 (n := 28) rfl ?_
  refine g_aload_n hX 0 d_M_damageFrame_28 (n := 29) rfl rfl rfl ?_
  refine g_geta hX 23 gf_M_20 d_M_damageFrame_29 (n := 32) rfl sh_19 rfl ?_
  refine g_iload_n hX 1 d_M_damageFrame_32 (n := 33) rfl rfl rfl ?_
  refine g_iald hX d_M_damageFrame_33 (n := 34) rfl sh_23 ?_
  refine g_aload_n hX 0 d_M_damageFrame_34 (n := 35) rfl rfl rfl ?_
  refine g_geta hX 25 gf_M_26 d_M_damageFrame_35 (n := 38) rfl sh_19 rfl ?_
  refine g_iload_n hX 1 d_M_damageFrame_38 (n := 39) rfl rfl rfl ?_
  refine g_iald hX d_M_damageFrame_39 (n := 40) rfl sh_25 ?_
  refine g_iadd hX d_M_damageFrame_40 (n := 41) rfl ?_
  refine g_iconst hX 1 d_M_damageFrame_41 (n := 42) rfl k_iconst_1 ?_
  refine g_isub hX d_M_damageFrame_42 (n := 43) rfl ?_
  refine g_cVv hX [_, _, _, _] rfl 0 0 (c_M_damage _ Γ (σ 22 x1.toNatClampNeg) (σ 23 x1.toNatClampNeg) (((σ 22 x1.toNatClampNeg) + (σ 24 x1.toNatClampNeg)) - 1) (((σ 23 x1.toNatClampNeg) + (σ 25 x1.toNatClampNeg)) - 1) σ) gw_M_81 rfl sh_19 rfl d_M_damageFrame_43 (n := 46) rfl ⟨by decide, by decide⟩ ⟨by decide, by decide⟩ (Nat.le_of_ble_eq_true rfl) rfl rfl (fun u1 => ?_)
  exact g_vret hX d_M_damageFrame_46 (by decide) (by decide)
def f_M_damageFrame (x1 : Int32) (σ : Mem) : Option Mem := f_M_damageFrame_0 σ x1
theorem c_M_damageFrame (l : Launch) (Γ : GA) (x1 : Int32) (σ : Mem) : gM gqv l y_M_damageFrame b_M_damageFrame 2 none r_M_damageFrame [.ref (Γ.2.1 19), .int x1] Γ σ (f_M_damageFrame x1 σ) :=
  gM.of [some (.ref (Γ.2.1 19)), some (.int x1)] (by decide) (Nat.le_of_ble_eq_true rfl) rfl rfl (fun κ hX _ => m_M_damageFrame_0 hX σ x1)
/-! M_isDamaged -/
theorem d_M_isDamaged_0 : decode b_M_isDamaged 0 = .ok (.iconst 0, 1) := by decide +kernel
theorem d_M_isDamaged_1 : decode b_M_isDamaged 1 = .ok (.istore_n 3, 1) := by decide +kernel
theorem d_M_isDamaged_2 : decode b_M_isDamaged 2 = .ok (.iconst 0, 1) := by decide +kernel
theorem d_M_isDamaged_3 : decode b_M_isDamaged 3 = .ok (.istore 4, 2) := by decide +kernel
theorem d_M_isDamaged_5 : decode b_M_isDamaged 5 = .ok (.iload 4, 2) := by decide +kernel
theorem d_M_isDamaged_7 : decode b_M_isDamaged 7 = .ok (.aload_n 0, 1) := by decide +kernel
theorem d_M_isDamaged_8 : decode b_M_isDamaged 8 = .ok (.getfield 78, 3) := by decide +kernel
theorem d_M_isDamaged_11 : decode b_M_isDamaged 11 = .ok (.if_icmp .ge 63, 3) := by decide +kernel
theorem d_M_isDamaged_14 : decode b_M_isDamaged 14 = .ok (.iload_n 3, 1) := by decide +kernel
theorem d_M_isDamaged_15 : decode b_M_isDamaged 15 = .ok (.ifCond .ne 47, 3) := by decide +kernel
theorem d_M_isDamaged_18 : decode b_M_isDamaged 18 = .ok (.iload_n 1, 1) := by decide +kernel
theorem d_M_isDamaged_19 : decode b_M_isDamaged 19 = .ok (.aload_n 0, 1) := by decide +kernel
theorem d_M_isDamaged_20 : decode b_M_isDamaged 20 = .ok (.getfield 51, 3) := by decide +kernel
theorem d_M_isDamaged_23 : decode b_M_isDamaged 23 = .ok (.iload 4, 2) := by decide +kernel
theorem d_M_isDamaged_25 : decode b_M_isDamaged 25 = .ok (.iaload, 1) := by decide +kernel
theorem d_M_isDamaged_26 : decode b_M_isDamaged 26 = .ok (.if_icmp .lt 40, 3) := by decide +kernel
theorem d_M_isDamaged_29 : decode b_M_isDamaged 29 = .ok (.iload_n 1, 1) := by decide +kernel
theorem d_M_isDamaged_30 : decode b_M_isDamaged 30 = .ok (.aload_n 0, 1) := by decide +kernel
theorem d_M_isDamaged_31 : decode b_M_isDamaged 31 = .ok (.getfield 57, 3) := by decide +kernel
theorem d_M_isDamaged_34 : decode b_M_isDamaged 34 = .ok (.iload 4, 2) := by decide +kernel
theorem d_M_isDamaged_36 : decode b_M_isDamaged 36 = .ok (.iaload, 1) := by decide +kernel
theorem d_M_isDamaged_37 : decode b_M_isDamaged 37 = .ok (.if_icmp .gt 29, 3) := by decide +kernel
theorem d_M_isDamaged_40 : decode b_M_isDamaged 40 = .ok (.iload_n 2, 1) := by decide +kernel
theorem d_M_isDamaged_41 : decode b_M_isDamaged 41 = .ok (.aload_n 0, 1) := by decide +kernel
theorem d_M_isDamaged_42 : decode b_M_isDamaged 42 = .ok (.getfield 54, 3) := by decide +kernel
theorem d_M_isDamaged_45 : decode b_M_isDamaged 45 = .ok (.iload 4, 2) := by decide +kernel
theorem d_M_isDamaged_47 : decode b_M_isDamaged 47 = .ok (.iaload, 1) := by decide +kernel
theorem d_M_isDamaged_48 : decode b_M_isDamaged 48 = .ok (.if_icmp .lt 18, 3) := by decide +kernel
theorem d_M_isDamaged_51 : decode b_M_isDamaged 51 = .ok (.iload_n 2, 1) := by decide +kernel
theorem d_M_isDamaged_52 : decode b_M_isDamaged 52 = .ok (.aload_n 0, 1) := by decide +kernel
theorem d_M_isDamaged_53 : decode b_M_isDamaged 53 = .ok (.getfield 60, 3) := by decide +kernel
theorem d_M_isDamaged_56 : decode b_M_isDamaged 56 = .ok (.iload 4, 2) := by decide +kernel
theorem d_M_isDamaged_58 : decode b_M_isDamaged 58 = .ok (.iaload, 1) := by decide +kernel
theorem d_M_isDamaged_59 : decode b_M_isDamaged 59 = .ok (.if_icmp .gt 7, 3) := by decide +kernel
theorem d_M_isDamaged_62 : decode b_M_isDamaged 62 = .ok (.iconst 1, 1) := by decide +kernel
theorem d_M_isDamaged_63 : decode b_M_isDamaged 63 = .ok (.goto 4, 3) := by decide +kernel
theorem d_M_isDamaged_66 : decode b_M_isDamaged 66 = .ok (.iconst 0, 1) := by decide +kernel
theorem d_M_isDamaged_67 : decode b_M_isDamaged 67 = .ok (.istore_n 3, 1) := by decide +kernel
theorem d_M_isDamaged_68 : decode b_M_isDamaged 68 = .ok (.iinc 4 1, 3) := by decide +kernel
theorem d_M_isDamaged_71 : decode b_M_isDamaged 71 = .ok (.goto (-66), 3) := by decide +kernel
theorem d_M_isDamaged_74 : decode b_M_isDamaged 74 = .ok (.iload_n 3, 1) := by decide +kernel
theorem d_M_isDamaged_75 : decode b_M_isDamaged 75 = .ok (.ireturn, 1) := by decide +kernel
abbrev r_M_isDamaged : Room := ⟨0, 0, 0, 0⟩
def f_M_isDamaged_67 (K5 : Mem → Int32 → Int32 → Int32 → Int32 → Option (Int32 × Mem)) (σ : Mem) (x1 : Int32) (x2 : Int32) (x4 : Int32) (s0 : Int32) : Option (Int32 × Mem) :=
  K5 σ x1 x2 s0 (x4 + 1)
set_option maxRecDepth 100000 in
theorem m_M_isDamaged_67 {κ : GC} {Γ : GA} (hX : Gx κ Γ 5 b_M_isDamaged "PaneScreenModel" r_M_isDamaged (some .boolean)) (K5 : Mem → Int32 → Int32 → Int32 → Int32 → Option (Int32 × Mem)) (hK5 : ∀ (σ : Mem) (x1 : Int32) (x2 : Int32) (x3 : Int32) (x4 : Int32), GG κ Γ 5 (gQ gqi κ Γ r_M_isDamaged) 0 0 σ [some (.ref (Γ.2.1 19)), some (.int x1), some (.int x2), some (.int x3), some (.int x4)] 5 [] (K5 σ x1 x2 x3 x4)) (σ : Mem) (x1 : Int32) (x2 : Int32) (x4 : Int32) (s0 : Int32) : GG κ Γ 5 (gQ gqi κ Γ r_M_isDamaged) 0 0 σ [some (.ref (Γ.2.1 19)), some (.int x1), some (.int x2), none, some (.int x4)] 67 [.int s0] (f_M_isDamaged_67 K5 σ x1 x2 x4 s0) := by
  unfold f_M_isDamaged_67
  refine g_istore_n hX 3 [_, _, _, _, _] d_M_isDamaged_67 (n := 68) rfl rfl (by decide) rfl ?_
  refine g_iinc hX 1 _ [_, _, _, _, _] d_M_isDamaged_68 (n := 71) rfl rfl k_iconst_1 rfl (by decide) rfl ?_
  refine g_goto hX 5 d_M_isDamaged_71 rfl ?_
  exact (hK5 σ x1 x2 s0 (x4 + 1))
def f_M_isDamaged_62 (K5 : Mem → Int32 → Int32 → Int32 → Int32 → Option (Int32 × Mem)) (σ : Mem) (x1 : Int32) (x2 : Int32) (x4 : Int32) : Option (Int32 × Mem) :=
  f_M_isDamaged_67 K5 σ x1 x2 x4 1
set_option maxRecDepth 100000 in
theorem m_M_isDamaged_62 {κ : GC} {Γ : GA} (hX : Gx κ Γ 5 b_M_isDamaged "PaneScreenModel" r_M_isDamaged (some .boolean)) (K5 : Mem → Int32 → Int32 → Int32 → Int32 → Option (Int32 × Mem)) (hK5 : ∀ (σ : Mem) (x1 : Int32) (x2 : Int32) (x3 : Int32) (x4 : Int32), GG κ Γ 5 (gQ gqi κ Γ r_M_isDamaged) 0 0 σ [some (.ref (Γ.2.1 19)), some (.int x1), some (.int x2), some (.int x3), some (.int x4)] 5 [] (K5 σ x1 x2 x3 x4)) (σ : Mem) (x1 : Int32) (x2 : Int32) (x4 : Int32) : GG κ Γ 5 (gQ gqi κ Γ r_M_isDamaged) 0 0 σ [some (.ref (Γ.2.1 19)), some (.int x1), some (.int x2), none, some (.int x4)] 62 [] (f_M_isDamaged_62 K5 σ x1 x2 x4) := by
  unfold f_M_isDamaged_62
  refine g_iconst hX 1 d_M_isDamaged_62 (n := 63) rfl k_iconst_1 ?_
  refine g_goto hX 67 d_M_isDamaged_63 rfl ?_
  exact (m_M_isDamaged_67 hX K5 hK5 σ x1 x2 x4 1)
def f_M_isDamaged_66 (K5 : Mem → Int32 → Int32 → Int32 → Int32 → Option (Int32 × Mem)) (σ : Mem) (x1 : Int32) (x2 : Int32) (x4 : Int32) : Option (Int32 × Mem) :=
  f_M_isDamaged_67 K5 σ x1 x2 x4 0
set_option maxRecDepth 100000 in
theorem m_M_isDamaged_66 {κ : GC} {Γ : GA} (hX : Gx κ Γ 5 b_M_isDamaged "PaneScreenModel" r_M_isDamaged (some .boolean)) (K5 : Mem → Int32 → Int32 → Int32 → Int32 → Option (Int32 × Mem)) (hK5 : ∀ (σ : Mem) (x1 : Int32) (x2 : Int32) (x3 : Int32) (x4 : Int32), GG κ Γ 5 (gQ gqi κ Γ r_M_isDamaged) 0 0 σ [some (.ref (Γ.2.1 19)), some (.int x1), some (.int x2), some (.int x3), some (.int x4)] 5 [] (K5 σ x1 x2 x3 x4)) (σ : Mem) (x1 : Int32) (x2 : Int32) (x4 : Int32) : GG κ Γ 5 (gQ gqi κ Γ r_M_isDamaged) 0 0 σ [some (.ref (Γ.2.1 19)), some (.int x1), some (.int x2), none, some (.int x4)] 66 [] (f_M_isDamaged_66 K5 σ x1 x2 x4) := by
  unfold f_M_isDamaged_66
  refine g_iconst hX 0 d_M_isDamaged_66 (n := 67) rfl k_iconst_0 ?_
  exact (m_M_isDamaged_67 hX K5 hK5 σ x1 x2 x4 0)
def f_M_isDamaged_5B (K5 : Mem → Int32 → Int32 → Int32 → Int32 → Option (Int32 × Mem)) (σ : Mem) (x1 : Int32) (x2 : Int32) (x3 : Int32) (x4 : Int32) : Option (Int32 × Mem) :=
  if (σ 19 16) ≤ x4 then
    if x3 &&& 1 = x3 then some (x3, σ) else none
  else
    if x3 = 0 then
      if gin x4 7 = true then
        if x1 < (σ 32 x4.toNatClampNeg) then
          f_M_isDamaged_66 K5 σ x1 x2 x4
        else
          if gin x4 7 = true then
            if (σ 34 x4.toNatClampNeg) < x1 then
              f_M_isDamaged_66 K5 σ x1 x2 x4
            else
              if gin x4 7 = true then
                if x2 < (σ 33 x4.toNatClampNeg) then
                  f_M_isDamaged_66 K5 σ x1 x2 x4
                else
                  if gin x4 7 = true then
                    if (σ 35 x4.toNatClampNeg) < x2 then
                      f_M_isDamaged_66 K5 σ x1 x2 x4
                    else
                      f_M_isDamaged_62 K5 σ x1 x2 x4
                  else none
              else none
          else none
      else none
    else
      f_M_isDamaged_62 K5 σ x1 x2 x4
set_option maxRecDepth 100000 in
theorem m_M_isDamaged_5B {κ : GC} {Γ : GA} (hX : Gx κ Γ 5 b_M_isDamaged "PaneScreenModel" r_M_isDamaged (some .boolean)) (K5 : Mem → Int32 → Int32 → Int32 → Int32 → Option (Int32 × Mem)) (hK5 : ∀ (σ : Mem) (x1 : Int32) (x2 : Int32) (x3 : Int32) (x4 : Int32), GG κ Γ 5 (gQ gqi κ Γ r_M_isDamaged) 0 0 σ [some (.ref (Γ.2.1 19)), some (.int x1), some (.int x2), some (.int x3), some (.int x4)] 5 [] (K5 σ x1 x2 x3 x4)) (σ : Mem) (x1 : Int32) (x2 : Int32) (x3 : Int32) (x4 : Int32) : GG κ Γ 5 (gQ gqi κ Γ r_M_isDamaged) 0 0 σ [some (.ref (Γ.2.1 19)), some (.int x1), some (.int x2), some (.int x3), some (.int x4)] 5 [] (f_M_isDamaged_5B K5 σ x1 x2 x3 x4) := by
  unfold f_M_isDamaged_5B
  refine g_iload hX d_M_isDamaged_5 (n := 7) rfl rfl ?_
  refine g_aload_n hX 0 d_M_isDamaged_7 (n := 8) rfl rfl rfl ?_
  refine g_geti hX gf_M_78 d_M_isDamaged_8 (n := 11) rfl sh_19 rfl ?_
  refine g_icmp_ge hX 74 d_M_isDamaged_11 (n := 14) rfl rfl ?_ ?_
  · refine g_iload_n hX 3 d_M_isDamaged_74 (n := 75) rfl rfl rfl ?_
    exact g_iretZ hX d_M_isDamaged_75 (by decide) (by decide)
  · refine g_iload_n hX 3 d_M_isDamaged_14 (n := 15) rfl rfl rfl ?_
    refine g_if_ne hX 62 d_M_isDamaged_15 (n := 18) rfl rfl ?_ ?_
    · exact (g_sub (lw := [some (.ref (Γ.2.1 19)), some (.int x1), some (.int x2), none, some (.int x4)]) (And.intro rfl (And.intro rfl (And.intro rfl (And.intro rfl (True.intro))))) (m_M_isDamaged_62 hX K5 hK5 σ x1 x2 x4))
    · refine g_iload_n hX 1 d_M_isDamaged_18 (n := 19) rfl rfl rfl ?_
      refine g_aload_n hX 0 d_M_isDamaged_19 (n := 20) rfl rfl rfl ?_
      refine g_geta hX 32 gf_M_51 d_M_isDamaged_20 (n := 23) rfl sh_19 rfl ?_
      refine g_iload hX d_M_isDamaged_23 (n := 25) rfl rfl ?_
      refine g_iald hX d_M_isDamaged_25 (n := 26) rfl sh_32 ?_
      refine g_icmp_lt hX 66 d_M_isDamaged_26 (n := 29) rfl rfl ?_ ?_
      · exact (g_sub (lw := [some (.ref (Γ.2.1 19)), some (.int x1), some (.int x2), none, some (.int x4)]) (And.intro rfl (And.intro rfl (And.intro rfl (And.intro rfl (True.intro))))) (m_M_isDamaged_66 hX K5 hK5 σ x1 x2 x4))
      · refine g_iload_n hX 1 d_M_isDamaged_29 (n := 30) rfl rfl rfl ?_
        refine g_aload_n hX 0 d_M_isDamaged_30 (n := 31) rfl rfl rfl ?_
        refine g_geta hX 34 gf_M_57 d_M_isDamaged_31 (n := 34) rfl sh_19 rfl ?_
        refine g_iload hX d_M_isDamaged_34 (n := 36) rfl rfl ?_
        refine g_iald hX d_M_isDamaged_36 (n := 37) rfl sh_34 ?_
        refine g_icmp_gt hX 66 d_M_isDamaged_37 (n := 40) rfl rfl ?_ ?_
        · exact (g_sub (lw := [some (.ref (Γ.2.1 19)), some (.int x1), some (.int x2), none, some (.int x4)]) (And.intro rfl (And.intro rfl (And.intro rfl (And.intro rfl (True.intro))))) (m_M_isDamaged_66 hX K5 hK5 σ x1 x2 x4))
        · refine g_iload_n hX 2 d_M_isDamaged_40 (n := 41) rfl rfl rfl ?_
          refine g_aload_n hX 0 d_M_isDamaged_41 (n := 42) rfl rfl rfl ?_
          refine g_geta hX 33 gf_M_54 d_M_isDamaged_42 (n := 45) rfl sh_19 rfl ?_
          refine g_iload hX d_M_isDamaged_45 (n := 47) rfl rfl ?_
          refine g_iald hX d_M_isDamaged_47 (n := 48) rfl sh_33 ?_
          refine g_icmp_lt hX 66 d_M_isDamaged_48 (n := 51) rfl rfl ?_ ?_
          · exact (g_sub (lw := [some (.ref (Γ.2.1 19)), some (.int x1), some (.int x2), none, some (.int x4)]) (And.intro rfl (And.intro rfl (And.intro rfl (And.intro rfl (True.intro))))) (m_M_isDamaged_66 hX K5 hK5 σ x1 x2 x4))
          · refine g_iload_n hX 2 d_M_isDamaged_51 (n := 52) rfl rfl rfl ?_
            refine g_aload_n hX 0 d_M_isDamaged_52 (n := 53) rfl rfl rfl ?_
            refine g_geta hX 35 gf_M_60 d_M_isDamaged_53 (n := 56) rfl sh_19 rfl ?_
            refine g_iload hX d_M_isDamaged_56 (n := 58) rfl rfl ?_
            refine g_iald hX d_M_isDamaged_58 (n := 59) rfl sh_35 ?_
            refine g_icmp_gt hX 66 d_M_isDamaged_59 (n := 62) rfl rfl ?_ ?_
            · exact (g_sub (lw := [some (.ref (Γ.2.1 19)), some (.int x1), some (.int x2), none, some (.int x4)]) (And.intro rfl (And.intro rfl (And.intro rfl (And.intro rfl (True.intro))))) (m_M_isDamaged_66 hX K5 hK5 σ x1 x2 x4))
            · exact (g_sub (lw := [some (.ref (Γ.2.1 19)), some (.int x1), some (.int x2), none, some (.int x4)]) (And.intro rfl (And.intro rfl (And.intro rfl (And.intro rfl (True.intro))))) (m_M_isDamaged_62 hX K5 hK5 σ x1 x2 x4))
def f_M_isDamaged_5 (n : Nat) : Mem → Int32 → Int32 → Int32 → Int32 → Option (Int32 × Mem) := gfix (fun _ _ _ _ _ => none) (fun K5 => f_M_isDamaged_5B K5) n
theorem m_M_isDamaged_5 {κ : GC} {Γ : GA} (hX : Gx κ Γ 5 b_M_isDamaged "PaneScreenModel" r_M_isDamaged (some .boolean)) (n : Nat) : ∀ (σ : Mem) (x1 : Int32) (x2 : Int32) (x3 : Int32) (x4 : Int32), GG κ Γ 5 (gQ gqi κ Γ r_M_isDamaged) 0 0 σ [some (.ref (Γ.2.1 19)), some (.int x1), some (.int x2), some (.int x3), some (.int x4)] 5 [] (f_M_isDamaged_5 n σ x1 x2 x3 x4) := by
  induction n with
  | zero => intros; exact g_none
  | succ n ih => intro σ x1 x2 x3 x4; exact m_M_isDamaged_5B hX (f_M_isDamaged_5 n) ih σ x1 x2 x3 x4
def f_M_isDamaged_0 (σ : Mem) (x1 : Int32) (x2 : Int32) : Option (Int32 × Mem) :=
  f_M_isDamaged_5 gN σ x1 x2 0 0
set_option maxRecDepth 100000 in
theorem m_M_isDamaged_0 {κ : GC} {Γ : GA} (hX : Gx κ Γ 5 b_M_isDamaged "PaneScreenModel" r_M_isDamaged (some .boolean)) (σ : Mem) (x1 : Int32) (x2 : Int32) : GG κ Γ 5 (gQ gqi κ Γ r_M_isDamaged) 0 0 σ [some (.ref (Γ.2.1 19)), some (.int x1), some (.int x2), none, none] 0 [] (f_M_isDamaged_0 σ x1 x2) := by
  unfold f_M_isDamaged_0
  refine g_iconst hX 0 d_M_isDamaged_0 (n := 1) rfl k_iconst_0 ?_
  refine g_istore_n hX 3 [_, _, _, _, _] d_M_isDamaged_1 (n := 2) rfl rfl (by decide) rfl ?_
  refine g_iconst hX 0 d_M_isDamaged_2 (n := 3) rfl k_iconst_0 ?_
  refine g_istore hX [_, _, _, _, _] d_M_isDamaged_3 (n := 5) rfl (by decide) rfl ?_
  exact (m_M_isDamaged_5 hX gN σ x1 x2 0 0)
def f_M_isDamaged (x1 : Int32) (x2 : Int32) (σ : Mem) : Option (Int32 × Mem) := f_M_isDamaged_0 σ x1 x2
theorem c_M_isDamaged (l : Launch) (Γ : GA) (x1 : Int32) (x2 : Int32) (σ : Mem) : gM gqi l y_M_isDamaged b_M_isDamaged 5 (some .boolean) r_M_isDamaged [.ref (Γ.2.1 19), .int x1, .int x2] Γ σ (f_M_isDamaged x1 x2 σ) :=
  gM.of [some (.ref (Γ.2.1 19)), some (.int x1), some (.int x2), none, none] (by decide) (Nat.le_of_ble_eq_true rfl) rfl rfl (fun κ hX _ => m_M_isDamaged_0 hX σ x1 x2)
/-! M_paint -/
theorem d_M_paint_0 : decode b_M_paint 0 = .ok (.aload_n 0, 1) := by decide +kernel
theorem d_M_paint_1 : decode b_M_paint 1 = .ok (.iload_n 1, 1) := by decide +kernel
theorem d_M_paint_2 : decode b_M_paint 2 = .ok (.iload_n 2, 1) := by decide +kernel
theorem d_M_paint_3 : decode b_M_paint 3 = .ok (.iload_n 3, 1) := by decide +kernel
theorem d_M_paint_4 : decode b_M_paint 4 = .ok (.invokevirtual 85, 3) := by decide +kernel
theorem d_M_paint_7 : decode b_M_paint 7 = .ok (.ifCond .ne 5, 3) := by decide +kernel
theorem d_M_paint_10 : decode b_M_paint 10 = .ok (.iconst 0, 1) := by decide +kernel
theorem d_M_paint_11 : decode b_M_paint 11 = .ok (.ireturn, 1) := by decide +kernel
theorem d_M_paint_12 : decode b_M_paint 12 = .ok (.aload_n 0, 1) := by decide +kernel
theorem d_M_paint_13 : decode b_M_paint 13 = .ok (.getfield 41, 3) := by decide +kernel
theorem d_M_paint_16 : decode b_M_paint 16 = .ok (.sipush 384, 3) := by decide +kernel
theorem d_M_paint_19 : decode b_M_paint 19 = .ok (.iload_n 1, 1) := by decide +kernel
theorem d_M_paint_20 : decode b_M_paint 20 = .ok (.imul, 1) := by decide +kernel
theorem d_M_paint_21 : decode b_M_paint 21 = .ok (.bipush 24, 2) := by decide +kernel
theorem d_M_paint_23 : decode b_M_paint 23 = .ok (.iload_n 3, 1) := by decide +kernel
theorem d_M_paint_24 : decode b_M_paint 24 = .ok (.imul, 1) := by decide +kernel
theorem d_M_paint_25 : decode b_M_paint 25 = .ok (.iadd, 1) := by decide +kernel
theorem d_M_paint_26 : decode b_M_paint 26 = .ok (.iload_n 2, 1) := by decide +kernel
theorem d_M_paint_27 : decode b_M_paint 27 = .ok (.iadd, 1) := by decide +kernel
theorem d_M_paint_28 : decode b_M_paint 28 = .ok (.iload 4, 2) := by decide +kernel
theorem d_M_paint_30 : decode b_M_paint 30 = .ok (.iastore, 1) := by decide +kernel
theorem d_M_paint_31 : decode b_M_paint 31 = .ok (.aload_n 0, 1) := by decide +kernel
theorem d_M_paint_32 : decode b_M_paint 32 = .ok (.aload_n 0, 1) := by decide +kernel
theorem d_M_paint_33 : decode b_M_paint 33 = .ok (.getfield 89, 3) := by decide +kernel
theorem d_M_paint_36 : decode b_M_paint 36 = .ok (.ifCond .eq 11, 3) := by decide +kernel
theorem d_M_paint_39 : decode b_M_paint 39 = .ok (.iload_n 2, 1) := by decide +kernel
theorem d_M_paint_40 : decode b_M_paint 40 = .ok (.aload_n 0, 1) := by decide +kernel
theorem d_M_paint_41 : decode b_M_paint 41 = .ok (.getfield 93, 3) := by decide +kernel
theorem d_M_paint_44 : decode b_M_paint 44 = .ok (.if_icmp .ge 7, 3) := by decide +kernel
theorem d_M_paint_47 : decode b_M_paint 47 = .ok (.iload_n 2, 1) := by decide +kernel
theorem d_M_paint_48 : decode b_M_paint 48 = .ok (.goto 7, 3) := by decide +kernel
theorem d_M_paint_51 : decode b_M_paint 51 = .ok (.aload_n 0, 1) := by decide +kernel
theorem d_M_paint_52 : decode b_M_paint 52 = .ok (.getfield 93, 3) := by decide +kernel
theorem d_M_paint_55 : decode b_M_paint 55 = .ok (.putfield 93, 3) := by decide +kernel
theorem d_M_paint_58 : decode b_M_paint 58 = .ok (.aload_n 0, 1) := by decide +kernel
theorem d_M_paint_59 : decode b_M_paint 59 = .ok (.aload_n 0, 1) := by decide +kernel
theorem d_M_paint_60 : decode b_M_paint 60 = .ok (.getfield 89, 3) := by decide +kernel
theorem d_M_paint_63 : decode b_M_paint 63 = .ok (.ifCond .eq 11, 3) := by decide +kernel
theorem d_M_paint_66 : decode b_M_paint 66 = .ok (.iload_n 3, 1) := by decide +kernel
theorem d_M_paint_67 : decode b_M_paint 67 = .ok (.aload_n 0, 1) := by decide +kernel
theorem d_M_paint_68 : decode b_M_paint 68 = .ok (.getfield 96, 3) := by decide +kernel
theorem d_M_paint_71 : decode b_M_paint 71 = .ok (.if_icmp .ge 7, 3) := by decide +kernel
theorem d_M_paint_74 : decode b_M_paint 74 = .ok (.iload_n 3, 1) := by decide +kernel
theorem d_M_paint_75 : decode b_M_paint 75 = .ok (.goto 7, 3) := by decide +kernel
theorem d_M_paint_78 : decode b_M_paint 78 = .ok (.aload_n 0, 1) := by decide +kernel
theorem d_M_paint_79 : decode b_M_paint 79 = .ok (.getfield 96, 3) := by decide +kernel
theorem d_M_paint_82 : decode b_M_paint 82 = .ok (.putfield 96, 3) := by decide +kernel
theorem d_M_paint_85 : decode b_M_paint 85 = .ok (.aload_n 0, 1) := by decide +kernel
theorem d_M_paint_86 : decode b_M_paint 86 = .ok (.aload_n 0, 1) := by decide +kernel
theorem d_M_paint_87 : decode b_M_paint 87 = .ok (.getfield 89, 3) := by decide +kernel
theorem d_M_paint_90 : decode b_M_paint 90 = .ok (.ifCond .eq 11, 3) := by decide +kernel
theorem d_M_paint_93 : decode b_M_paint 93 = .ok (.iload_n 2, 1) := by decide +kernel
theorem d_M_paint_94 : decode b_M_paint 94 = .ok (.aload_n 0, 1) := by decide +kernel
theorem d_M_paint_95 : decode b_M_paint 95 = .ok (.getfield 99, 3) := by decide +kernel
theorem d_M_paint_98 : decode b_M_paint 98 = .ok (.if_icmp .le 7, 3) := by decide +kernel
theorem d_M_paint_101 : decode b_M_paint 101 = .ok (.iload_n 2, 1) := by decide +kernel
theorem d_M_paint_102 : decode b_M_paint 102 = .ok (.goto 7, 3) := by decide +kernel
theorem d_M_paint_105 : decode b_M_paint 105 = .ok (.aload_n 0, 1) := by decide +kernel
theorem d_M_paint_106 : decode b_M_paint 106 = .ok (.getfield 99, 3) := by decide +kernel
theorem d_M_paint_109 : decode b_M_paint 109 = .ok (.putfield 99, 3) := by decide +kernel
theorem d_M_paint_112 : decode b_M_paint 112 = .ok (.aload_n 0, 1) := by decide +kernel
theorem d_M_paint_113 : decode b_M_paint 113 = .ok (.aload_n 0, 1) := by decide +kernel
theorem d_M_paint_114 : decode b_M_paint 114 = .ok (.getfield 89, 3) := by decide +kernel
theorem d_M_paint_117 : decode b_M_paint 117 = .ok (.ifCond .eq 11, 3) := by decide +kernel
theorem d_M_paint_120 : decode b_M_paint 120 = .ok (.iload_n 3, 1) := by decide +kernel
theorem d_M_paint_121 : decode b_M_paint 121 = .ok (.aload_n 0, 1) := by decide +kernel
theorem d_M_paint_122 : decode b_M_paint 122 = .ok (.getfield 102, 3) := by decide +kernel
theorem d_M_paint_125 : decode b_M_paint 125 = .ok (.if_icmp .le 7, 3) := by decide +kernel
theorem d_M_paint_128 : decode b_M_paint 128 = .ok (.iload_n 3, 1) := by decide +kernel
theorem d_M_paint_129 : decode b_M_paint 129 = .ok (.goto 7, 3) := by decide +kernel
theorem d_M_paint_132 : decode b_M_paint 132 = .ok (.aload_n 0, 1) := by decide +kernel
theorem d_M_paint_133 : decode b_M_paint 133 = .ok (.getfield 102, 3) := by decide +kernel
theorem d_M_paint_136 : decode b_M_paint 136 = .ok (.putfield 102, 3) := by decide +kernel
theorem d_M_paint_139 : decode b_M_paint 139 = .ok (.aload_n 0, 1) := by decide +kernel
theorem d_M_paint_140 : decode b_M_paint 140 = .ok (.iconst 1, 1) := by decide +kernel
theorem d_M_paint_141 : decode b_M_paint 141 = .ok (.putfield 89, 3) := by decide +kernel
theorem d_M_paint_144 : decode b_M_paint 144 = .ok (.iconst 1, 1) := by decide +kernel
theorem d_M_paint_145 : decode b_M_paint 145 = .ok (.ireturn, 1) := by decide +kernel
abbrev r_M_paint : Room := ⟨1, 0, 0, 23⟩
def f_M_paint_136 (σ : Mem) (s0 : Int32) : Option (Int32 × Mem) :=
  gbm (m2 σ 19 25 s0) fun u1 =>
  gbm (m2 u1 19 21 1) fun u2 =>
  some (1, u2)
set_option maxRecDepth 100000 in
theorem m_M_paint_136 {κ : GC} {Γ : GA} (hX : Gx κ Γ 5 b_M_paint "PaneScreenModel" r_M_paint (some .boolean)) (σ : Mem) (s0 : Int32) : GG κ Γ 5 (gQ gqi κ Γ r_M_paint) 0 0 σ [some (.ref (Γ.2.1 19)), none, none, none, none] 136 [.int s0, .ref (Γ.2.1 19)] (f_M_paint_136 σ s0) := by
  unfold f_M_paint_136
  refine g_puti hX gp_M_102 d_M_paint_136 (n := 139) rfl sh_19 rfl ?_
  refine g_mem (fun u1 => ?_)
  refine g_aload_n hX 0 d_M_paint_139 (n := 140) rfl rfl rfl ?_
  refine g_iconst hX 1 d_M_paint_140 (n := 141) rfl k_iconst_1 ?_
  refine g_putz hX gp_M_89 d_M_paint_141 (n := 144) rfl sh_19 rfl rfl rfl ?_
  refine g_mem (fun u2 => ?_)
  refine g_iconst hX 1 d_M_paint_144 (n := 145) rfl k_iconst_1 ?_
  exact g_iretz hX rfl d_M_paint_145 (by decide) (by decide)
def f_M_paint_128 (σ : Mem) (x3 : Int32) : Option (Int32 × Mem) :=
  f_M_paint_136 σ x3
set_option maxRecDepth 100000 in
theorem m_M_paint_128 {κ : GC} {Γ : GA} (hX : Gx κ Γ 5 b_M_paint "PaneScreenModel" r_M_paint (some .boolean)) (σ : Mem) (x3 : Int32) : GG κ Γ 5 (gQ gqi κ Γ r_M_paint) 0 0 σ [some (.ref (Γ.2.1 19)), none, none, some (.int x3), none] 128 [.ref (Γ.2.1 19)] (f_M_paint_128 σ x3) := by
  unfold f_M_paint_128
  refine g_iload_n hX 3 d_M_paint_128 (n := 129) rfl rfl rfl ?_
  refine g_goto hX 136 d_M_paint_129 rfl ?_
  exact (g_sub (lw := [some (.ref (Γ.2.1 19)), none, none, none, none]) (And.intro rfl (True.intro)) (m_M_paint_136 hX σ x3))
def f_M_paint_109 (σ : Mem) (x3 : Int32) (s0 : Int32) : Option (Int32 × Mem) :=
  gbm (m2 σ 19 24 s0) fun u1 =>
  if (u1 19 21) = 0 then
    f_M_paint_128 u1 x3
  else
    if x3 ≤ (u1 19 25) then
      f_M_paint_136 u1 (u1 19 25)
    else
      f_M_paint_128 u1 x3
set_option maxRecDepth 100000 in
theorem m_M_paint_109 {κ : GC} {Γ : GA} (hX : Gx κ Γ 5 b_M_paint "PaneScreenModel" r_M_paint (some .boolean)) (σ : Mem) (x3 : Int32) (s0 : Int32) : GG κ Γ 5 (gQ gqi κ Γ r_M_paint) 0 0 σ [some (.ref (Γ.2.1 19)), none, none, some (.int x3), none] 109 [.int s0, .ref (Γ.2.1 19)] (f_M_paint_109 σ x3 s0) := by
  unfold f_M_paint_109
  refine g_puti hX gp_M_99 d_M_paint_109 (n := 112) rfl sh_19 rfl ?_
  refine g_mem (fun u1 => ?_)
  refine g_aload_n hX 0 d_M_paint_112 (n := 113) rfl rfl rfl ?_
  refine g_aload_n hX 0 d_M_paint_113 (n := 114) rfl rfl rfl ?_
  refine g_geti hX gf_M_89 d_M_paint_114 (n := 117) rfl sh_19 rfl ?_
  refine g_if_eq hX 128 d_M_paint_117 (n := 120) rfl rfl ?_ ?_
  · exact (m_M_paint_128 hX u1 x3)
  · refine g_iload_n hX 3 d_M_paint_120 (n := 121) rfl rfl rfl ?_
    refine g_aload_n hX 0 d_M_paint_121 (n := 122) rfl rfl rfl ?_
    refine g_geti hX gf_M_102 d_M_paint_122 (n := 125) rfl sh_19 rfl ?_
    refine g_icmp_le hX 132 d_M_paint_125 (n := 128) rfl rfl ?_ ?_
    · refine g_aload_n hX 0 d_M_paint_132 (n := 133) rfl rfl rfl ?_
      refine g_geti hX gf_M_102 d_M_paint_133 (n := 136) rfl sh_19 rfl ?_
      exact (g_sub (lw := [some (.ref (Γ.2.1 19)), none, none, none, none]) (And.intro rfl (True.intro)) (m_M_paint_136 hX u1 (u1 19 25)))
    · exact (m_M_paint_128 hX u1 x3)
def f_M_paint_101 (σ : Mem) (x2 : Int32) (x3 : Int32) : Option (Int32 × Mem) :=
  f_M_paint_109 σ x3 x2
set_option maxRecDepth 100000 in
theorem m_M_paint_101 {κ : GC} {Γ : GA} (hX : Gx κ Γ 5 b_M_paint "PaneScreenModel" r_M_paint (some .boolean)) (σ : Mem) (x2 : Int32) (x3 : Int32) : GG κ Γ 5 (gQ gqi κ Γ r_M_paint) 0 0 σ [some (.ref (Γ.2.1 19)), none, some (.int x2), some (.int x3), none] 101 [.ref (Γ.2.1 19)] (f_M_paint_101 σ x2 x3) := by
  unfold f_M_paint_101
  refine g_iload_n hX 2 d_M_paint_101 (n := 102) rfl rfl rfl ?_
  refine g_goto hX 109 d_M_paint_102 rfl ?_
  exact (g_sub (lw := [some (.ref (Γ.2.1 19)), none, none, some (.int x3), none]) (And.intro rfl (And.intro rfl (True.intro))) (m_M_paint_109 hX σ x3 x2))
def f_M_paint_82 (σ : Mem) (x2 : Int32) (x3 : Int32) (s0 : Int32) : Option (Int32 × Mem) :=
  gbm (m2 σ 19 23 s0) fun u1 =>
  if (u1 19 21) = 0 then
    f_M_paint_101 u1 x2 x3
  else
    if x2 ≤ (u1 19 24) then
      f_M_paint_109 u1 x3 (u1 19 24)
    else
      f_M_paint_101 u1 x2 x3
set_option maxRecDepth 100000 in
theorem m_M_paint_82 {κ : GC} {Γ : GA} (hX : Gx κ Γ 5 b_M_paint "PaneScreenModel" r_M_paint (some .boolean)) (σ : Mem) (x2 : Int32) (x3 : Int32) (s0 : Int32) : GG κ Γ 5 (gQ gqi κ Γ r_M_paint) 0 0 σ [some (.ref (Γ.2.1 19)), none, some (.int x2), some (.int x3), none] 82 [.int s0, .ref (Γ.2.1 19)] (f_M_paint_82 σ x2 x3 s0) := by
  unfold f_M_paint_82
  refine g_puti hX gp_M_96 d_M_paint_82 (n := 85) rfl sh_19 rfl ?_
  refine g_mem (fun u1 => ?_)
  refine g_aload_n hX 0 d_M_paint_85 (n := 86) rfl rfl rfl ?_
  refine g_aload_n hX 0 d_M_paint_86 (n := 87) rfl rfl rfl ?_
  refine g_geti hX gf_M_89 d_M_paint_87 (n := 90) rfl sh_19 rfl ?_
  refine g_if_eq hX 101 d_M_paint_90 (n := 93) rfl rfl ?_ ?_
  · exact (m_M_paint_101 hX u1 x2 x3)
  · refine g_iload_n hX 2 d_M_paint_93 (n := 94) rfl rfl rfl ?_
    refine g_aload_n hX 0 d_M_paint_94 (n := 95) rfl rfl rfl ?_
    refine g_geti hX gf_M_99 d_M_paint_95 (n := 98) rfl sh_19 rfl ?_
    refine g_icmp_le hX 105 d_M_paint_98 (n := 101) rfl rfl ?_ ?_
    · refine g_aload_n hX 0 d_M_paint_105 (n := 106) rfl rfl rfl ?_
      refine g_geti hX gf_M_99 d_M_paint_106 (n := 109) rfl sh_19 rfl ?_
      exact (g_sub (lw := [some (.ref (Γ.2.1 19)), none, none, some (.int x3), none]) (And.intro rfl (And.intro rfl (True.intro))) (m_M_paint_109 hX u1 x3 (u1 19 24)))
    · exact (m_M_paint_101 hX u1 x2 x3)
def f_M_paint_74 (σ : Mem) (x2 : Int32) (x3 : Int32) : Option (Int32 × Mem) :=
  f_M_paint_82 σ x2 x3 x3
set_option maxRecDepth 100000 in
theorem m_M_paint_74 {κ : GC} {Γ : GA} (hX : Gx κ Γ 5 b_M_paint "PaneScreenModel" r_M_paint (some .boolean)) (σ : Mem) (x2 : Int32) (x3 : Int32) : GG κ Γ 5 (gQ gqi κ Γ r_M_paint) 0 0 σ [some (.ref (Γ.2.1 19)), none, some (.int x2), some (.int x3), none] 74 [.ref (Γ.2.1 19)] (f_M_paint_74 σ x2 x3) := by
  unfold f_M_paint_74
  refine g_iload_n hX 3 d_M_paint_74 (n := 75) rfl rfl rfl ?_
  refine g_goto hX 82 d_M_paint_75 rfl ?_
  exact (m_M_paint_82 hX σ x2 x3 x3)
def f_M_paint_55 (σ : Mem) (x2 : Int32) (x3 : Int32) (s0 : Int32) : Option (Int32 × Mem) :=
  gbm (m2 σ 19 22 s0) fun u1 =>
  if (u1 19 21) = 0 then
    f_M_paint_74 u1 x2 x3
  else
    if (u1 19 23) ≤ x3 then
      f_M_paint_82 u1 x2 x3 (u1 19 23)
    else
      f_M_paint_74 u1 x2 x3
set_option maxRecDepth 100000 in
theorem m_M_paint_55 {κ : GC} {Γ : GA} (hX : Gx κ Γ 5 b_M_paint "PaneScreenModel" r_M_paint (some .boolean)) (σ : Mem) (x2 : Int32) (x3 : Int32) (s0 : Int32) : GG κ Γ 5 (gQ gqi κ Γ r_M_paint) 0 0 σ [some (.ref (Γ.2.1 19)), none, some (.int x2), some (.int x3), none] 55 [.int s0, .ref (Γ.2.1 19)] (f_M_paint_55 σ x2 x3 s0) := by
  unfold f_M_paint_55
  refine g_puti hX gp_M_93 d_M_paint_55 (n := 58) rfl sh_19 rfl ?_
  refine g_mem (fun u1 => ?_)
  refine g_aload_n hX 0 d_M_paint_58 (n := 59) rfl rfl rfl ?_
  refine g_aload_n hX 0 d_M_paint_59 (n := 60) rfl rfl rfl ?_
  refine g_geti hX gf_M_89 d_M_paint_60 (n := 63) rfl sh_19 rfl ?_
  refine g_if_eq hX 74 d_M_paint_63 (n := 66) rfl rfl ?_ ?_
  · exact (m_M_paint_74 hX u1 x2 x3)
  · refine g_iload_n hX 3 d_M_paint_66 (n := 67) rfl rfl rfl ?_
    refine g_aload_n hX 0 d_M_paint_67 (n := 68) rfl rfl rfl ?_
    refine g_geti hX gf_M_96 d_M_paint_68 (n := 71) rfl sh_19 rfl ?_
    refine g_icmp_ge hX 78 d_M_paint_71 (n := 74) rfl rfl ?_ ?_
    · refine g_aload_n hX 0 d_M_paint_78 (n := 79) rfl rfl rfl ?_
      refine g_geti hX gf_M_96 d_M_paint_79 (n := 82) rfl sh_19 rfl ?_
      exact (m_M_paint_82 hX u1 x2 x3 (u1 19 23))
    · exact (m_M_paint_74 hX u1 x2 x3)
def f_M_paint_47 (σ : Mem) (x2 : Int32) (x3 : Int32) : Option (Int32 × Mem) :=
  f_M_paint_55 σ x2 x3 x2
set_option maxRecDepth 100000 in
theorem m_M_paint_47 {κ : GC} {Γ : GA} (hX : Gx κ Γ 5 b_M_paint "PaneScreenModel" r_M_paint (some .boolean)) (σ : Mem) (x2 : Int32) (x3 : Int32) : GG κ Γ 5 (gQ gqi κ Γ r_M_paint) 0 0 σ [some (.ref (Γ.2.1 19)), none, some (.int x2), some (.int x3), none] 47 [.ref (Γ.2.1 19)] (f_M_paint_47 σ x2 x3) := by
  unfold f_M_paint_47
  refine g_iload_n hX 2 d_M_paint_47 (n := 48) rfl rfl rfl ?_
  refine g_goto hX 55 d_M_paint_48 rfl ?_
  exact (m_M_paint_55 hX σ x2 x3 x2)
def f_M_paint_0 (σ : Mem) (x1 : Int32) (x2 : Int32) (x3 : Int32) (x4 : Int32) : Option (Int32 × Mem) :=
  gb (f_M_inPicture x1 x2 x3 σ) fun r2 u1 =>
  if r2 = 0 then
    some (0, u1)
  else
    if gin (((384 * x1) + (24 * x3)) + x2) 3072 = true then
      gbm (m2 u1 30 (((384 * x1) + (24 * x3)) + x2).toNatClampNeg x4) fun u3 =>
      if (u3 19 21) = 0 then
        f_M_paint_47 u3 x2 x3
      else
        if (u3 19 22) ≤ x2 then
          f_M_paint_55 u3 x2 x3 (u3 19 22)
        else
          f_M_paint_47 u3 x2 x3
    else none
set_option maxRecDepth 100000 in
theorem m_M_paint_0 {κ : GC} {Γ : GA} (hX : Gx κ Γ 5 b_M_paint "PaneScreenModel" r_M_paint (some .boolean)) (σ : Mem) (x1 : Int32) (x2 : Int32) (x3 : Int32) (x4 : Int32) : GG κ Γ 5 (gQ gqi κ Γ r_M_paint) 0 0 σ [some (.ref (Γ.2.1 19)), some (.int x1), some (.int x2), some (.int x3), some (.int x4)] 0 [] (f_M_paint_0 σ x1 x2 x3 x4) := by
  unfold f_M_paint_0
  refine g_aload_n hX 0 d_M_paint_0 (n := 1) rfl rfl rfl ?_
  refine g_iload_n hX 1 d_M_paint_1 (n := 2) rfl rfl rfl ?_
  refine g_iload_n hX 2 d_M_paint_2 (n := 3) rfl rfl rfl ?_
  refine g_iload_n hX 3 d_M_paint_3 (n := 4) rfl rfl rfl ?_
  refine g_cVi hX [_, _, _] rfl 0 0 (c_M_inPicture _ Γ x1 x2 x3 σ) gw_M_85 rfl sh_19 rfl d_M_paint_4 (n := 7) rfl ⟨by decide, by decide⟩ ⟨by decide, by decide⟩ (Nat.le_of_ble_eq_true rfl) rfl rfl (fun r2 u1 => ?_)
  refine g_if_ne hX 12 d_M_paint_7 (n := 10) rfl rfl ?_ ?_
  · refine g_aload_n hX 0 d_M_paint_12 (n := 13) rfl rfl rfl ?_
    refine g_geta hX 30 gf_M_41 d_M_paint_13 (n := 16) rfl sh_19 rfl ?_
    refine g_sipush hX 384 d_M_paint_16 (n := 19) rfl k_sipush_384 ?_
    refine g_iload_n hX 1 d_M_paint_19 (n := 20) rfl rfl rfl ?_
    refine g_imul hX d_M_paint_20 (n := 21) rfl ?_
    refine g_bipush hX 24 d_M_paint_21 (n := 23) rfl k_bipush_24 ?_
    refine g_iload_n hX 3 d_M_paint_23 (n := 24) rfl rfl rfl ?_
    refine g_imul hX d_M_paint_24 (n := 25) rfl ?_
    refine g_iadd hX d_M_paint_25 (n := 26) rfl ?_
    refine g_iload_n hX 2 d_M_paint_26 (n := 27) rfl rfl rfl ?_
    refine g_iadd hX d_M_paint_27 (n := 28) rfl ?_
    refine g_iload hX d_M_paint_28 (n := 30) rfl rfl ?_
    refine g_iast hX d_M_paint_30 (n := 31) rfl sh_30 ?_
    refine g_mem (fun u3 => ?_)
    refine g_aload_n hX 0 d_M_paint_31 (n := 32) rfl rfl rfl ?_
    refine g_aload_n hX 0 d_M_paint_32 (n := 33) rfl rfl rfl ?_
    refine g_geti hX gf_M_89 d_M_paint_33 (n := 36) rfl sh_19 rfl ?_
    refine g_if_eq hX 47 d_M_paint_36 (n := 39) rfl rfl ?_ ?_
    · exact (g_sub (lw := [some (.ref (Γ.2.1 19)), none, some (.int x2), some (.int x3), none]) (And.intro rfl (And.intro rfl (And.intro rfl (True.intro)))) (m_M_paint_47 hX u3 x2 x3))
    · refine g_iload_n hX 2 d_M_paint_39 (n := 40) rfl rfl rfl ?_
      refine g_aload_n hX 0 d_M_paint_40 (n := 41) rfl rfl rfl ?_
      refine g_geti hX gf_M_93 d_M_paint_41 (n := 44) rfl sh_19 rfl ?_
      refine g_icmp_ge hX 51 d_M_paint_44 (n := 47) rfl rfl ?_ ?_
      · refine g_aload_n hX 0 d_M_paint_51 (n := 52) rfl rfl rfl ?_
        refine g_geti hX gf_M_93 d_M_paint_52 (n := 55) rfl sh_19 rfl ?_
        exact (g_sub (lw := [some (.ref (Γ.2.1 19)), none, some (.int x2), some (.int x3), none]) (And.intro rfl (And.intro rfl (And.intro rfl (True.intro)))) (m_M_paint_55 hX u3 x2 x3 (u3 19 22)))
      · exact (g_sub (lw := [some (.ref (Γ.2.1 19)), none, some (.int x2), some (.int x3), none]) (And.intro rfl (And.intro rfl (And.intro rfl (True.intro)))) (m_M_paint_47 hX u3 x2 x3))
  · refine g_iconst hX 0 d_M_paint_10 (n := 11) rfl k_iconst_0 ?_
    exact g_iretz hX rfl d_M_paint_11 (by decide) (by decide)
def f_M_paint (x1 : Int32) (x2 : Int32) (x3 : Int32) (x4 : Int32) (σ : Mem) : Option (Int32 × Mem) := f_M_paint_0 σ x1 x2 x3 x4
theorem c_M_paint (l : Launch) (Γ : GA) (x1 : Int32) (x2 : Int32) (x3 : Int32) (x4 : Int32) (σ : Mem) : gM gqi l y_M_paint b_M_paint 5 (some .boolean) r_M_paint [.ref (Γ.2.1 19), .int x1, .int x2, .int x3, .int x4] Γ σ (f_M_paint x1 x2 x3 x4 σ) :=
  gM.of [some (.ref (Γ.2.1 19)), some (.int x1), some (.int x2), some (.int x3), some (.int x4)] (by decide) (Nat.le_of_ble_eq_true rfl) rfl rfl (fun κ hX _ => m_M_paint_0 hX σ x1 x2 x3 x4)
