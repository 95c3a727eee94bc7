def f_L_law_1360 (xs : Nat → Int32) (L : Nat) (K23 : Mem → Int32 → Option Unit) (σ : Mem) (x4 : Int32) : Option Unit :=
  K23 σ (x4 + 6)
set_option maxRecDepth 100000 in
set_option maxHeartbeats 4000000 in
theorem m_L_law_1360 {κ : GC} {Γ : GA} {b L : Nat} {xs : Nat → Int32} (hX : Gx κ Γ 7 code "PaneScreenLaw" room_1 ret) (hB : gScr κ Γ b L xs) (hT : κ.2.1.stackTraces = false) (c0 z0 : Nat) (hc0 : c0 + 4 ≤ 601024) (hs0 : z0 + 24 ≤ 7293034) (K23 : Mem → Int32 → Option Unit) (hK23 : ∀ (σ : Mem) (x4 : Int32), GG κ Γ 7 (gQL κ b) (c0 + 4) (z0 + 24) σ [some (.ref b), some (.ref (Γ.2.1 0)), some (.ref (Γ.2.1 19)), some (.ref (Γ.2.1 40)), some (.int x4), none, none] 23 [] (K23 σ x4)) (σ : Mem) (x4 : Int32) : GG κ Γ 7 (gQL κ b) (c0 + 4) (z0 + 24) σ [some (.ref b), some (.ref (Γ.2.1 0)), some (.ref (Γ.2.1 19)), some (.ref (Γ.2.1 40)), some (.int x4), none, none] 1360 [] (f_L_law_1360 xs L K23 σ x4) := by
  unfold f_L_law_1360
  refine g_iinc hX 6 _ [_, _, _, _, _, _, _] d_L_law_1360 (n := 1363) rfl rfl k_iconst_6 rfl (by decide) rfl ?_
  refine g_goto hX 23 d_L_law_1363 rfl ?_
  exact (hK23 σ (x4 + 6))
def f_L_law_221 (xs : Nat → Int32) (L : Nat) (K23 : Mem → Int32 → Option Unit) (σ : Mem) (x4 : Int32) : Option Unit :=
  f_L_law_1360 xs L K23 σ x4
set_option maxRecDepth 100000 in
set_option maxHeartbeats 4000000 in
theorem m_L_law_221 {κ : GC} {Γ : GA} {b L : Nat} {xs : Nat → Int32} (hX : Gx κ Γ 7 code "PaneScreenLaw" room_1 ret) (hB : gScr κ Γ b L xs) (hT : κ.2.1.stackTraces = false) (c0 z0 : Nat) (hc0 : c0 + 4 ≤ 601024) (hs0 : z0 + 24 ≤ 7293034) (K23 : Mem → Int32 → Option Unit) (hK23 : ∀ (σ : Mem) (x4 : Int32), GG κ Γ 7 (gQL κ b) (c0 + 4) (z0 + 24) σ [some (.ref b), some (.ref (Γ.2.1 0)), some (.ref (Γ.2.1 19)), some (.ref (Γ.2.1 40)), some (.int x4), none, none] 23 [] (K23 σ x4)) (σ : Mem) (x4 : Int32) : GG κ Γ 7 (gQL κ b) (c0 + 3) (z0 + 18) σ [some (.ref b), some (.ref (Γ.2.1 0)), some (.ref (Γ.2.1 19)), some (.ref (Γ.2.1 40)), some (.int x4), none, none] 221 [] (f_L_law_221 xs L K23 σ x4) := by
  unfold f_L_law_221
  refine g_goto hX 1360 d_L_law_221 rfl ?_
  exact (g_widen (c1 := c0 + 4) (s1 := z0 + 24) (by omega) (by omega) (m_L_law_1360 hX hB hT c0 z0 hc0 hs0 K23 hK23 σ x4))
def f_L_law_132 (xs : Nat → Int32) (L : Nat) (K23 : Mem → Int32 → Option Unit) (σ : Mem) (x4 : Int32) : Option Unit :=
  if gin (x4 + 1) L = true then
    if gin (x4 + 2) L = true then
      if gin (x4 + 3) L = true then
        if gin (x4 + 4) L = true then
          gb (f_L_open (xs (x4 + 1).toNatClampNeg) (xs (x4 + 2).toNatClampNeg) (xs (x4 + 3).toNatClampNeg) (xs (x4 + 4).toNatClampNeg) σ) fun r1 u2 =>
          if gin (x4 + 1) L = true then
            if gin (x4 + 2) L = true then
              if gin (x4 + 3) L = true then
                if gin (x4 + 4) L = true then
                  gb (f_M_open (xs (x4 + 1).toNatClampNeg) (xs (x4 + 2).toNatClampNeg) (xs (x4 + 3).toNatClampNeg) (xs (x4 + 4).toNatClampNeg) u2) fun r4 u3 =>
                  gb (f_M_thrown u3) fun r6 u5 =>
                  if r6 = r1 then
                    if r1 = 0 then
                      if (lg_cmp ((u5 40 (0 : Int32).toNatClampNeg) : Int32).toInt64 (r4 : Int32).toInt64) = 0 then
                        f_L_law_221 xs L K23 u5 x4
                      else
                        none
                    else
                      f_L_law_221 xs L K23 u5 x4
                  else
                    none
                else none
              else none
            else none
          else none
        else none
      else none
    else none
  else none
set_option maxRecDepth 100000 in
set_option maxHeartbeats 4000000 in
theorem m_L_law_132 {κ : GC} {Γ : GA} {b L : Nat} {xs : Nat → Int32} (hX : Gx κ Γ 7 code "PaneScreenLaw" room_1 ret) (hB : gScr κ Γ b L xs) (hT : κ.2.1.stackTraces = false) (c0 z0 : Nat) (hc0 : c0 + 4 ≤ 601024) (hs0 : z0 + 24 ≤ 7293034) (K23 : Mem → Int32 → Option Unit) (hK23 : ∀ (σ : Mem) (x4 : Int32), GG κ Γ 7 (gQL κ b) (c0 + 4) (z0 + 24) σ [some (.ref b), some (.ref (Γ.2.1 0)), some (.ref (Γ.2.1 19)), some (.ref (Γ.2.1 40)), some (.int x4), none, none] 23 [] (K23 σ x4)) (σ : Mem) (x4 : Int32) : GG κ Γ 7 (gQL κ b) (c0 + 0) (z0 + 0) σ [some (.ref b), some (.ref (Γ.2.1 0)), some (.ref (Γ.2.1 19)), some (.ref (Γ.2.1 40)), some (.int x4), none, none] 132 [] (f_L_law_132 xs L K23 σ x4) := by
  unfold f_L_law_132
  refine g_aload_n hX 1 d_L_law_132 (n := 133) rfl rfl rfl ?_
  refine g_aload_n hX 0 d_L_law_133 (n := 134) rfl rfl rfl ?_
  refine g_iload hX d_L_law_134 (n := 136) rfl rfl ?_
  refine g_iconst hX 1 d_L_law_136 (n := 137) rfl k_iconst_1 ?_
  refine g_iadd hX d_L_law_137 (n := 138) rfl ?_
  refine g_sld hX hB d_L_law_138 (n := 139) rfl ?_
  refine g_aload_n hX 0 d_L_law_139 (n := 140) rfl rfl rfl ?_
  refine g_iload hX d_L_law_140 (n := 142) rfl rfl ?_
  refine g_iconst hX 2 d_L_law_142 (n := 143) rfl k_iconst_2 ?_
  refine g_iadd hX d_L_law_143 (n := 144) rfl ?_
  refine g_sld hX hB d_L_law_144 (n := 145) rfl ?_
  refine g_aload_n hX 0 d_L_law_145 (n := 146) rfl rfl rfl ?_
  refine g_iload hX d_L_law_146 (n := 148) rfl rfl ?_
  refine g_iconst hX 3 d_L_law_148 (n := 149) rfl k_iconst_3 ?_
  refine g_iadd hX d_L_law_149 (n := 150) rfl ?_
  refine g_sld hX hB d_L_law_150 (n := 151) rfl ?_
  refine g_aload_n hX 0 d_L_law_151 (n := 152) rfl rfl rfl ?_
  refine g_iload hX d_L_law_152 (n := 154) rfl rfl ?_
  refine g_iconst hX 4 d_L_law_154 (n := 155) rfl k_iconst_4 ?_
  refine g_iadd hX d_L_law_155 (n := 156) rfl ?_
  refine g_sld hX hB d_L_law_156 (n := 157) rfl ?_
  refine g_aload_n hX 3 d_L_law_157 (n := 158) rfl rfl rfl ?_
  refine g_cH hX [_, _, _, _, _, _] rfl (c0 + 3) (z0 + 18) (c_L_open _ hT Γ (xs (x4 + 1).toNatClampNeg) (xs (x4 + 2).toNatClampNeg) (xs (x4 + 3).toNatClampNeg) (xs (x4 + 4).toNatClampNeg) σ) gwh_82 rfl d_L_law_158 (n := 161) rfl ⟨by decide, by decide⟩ ⟨(by show c0 + 0 + 3 ≤ 601024; omega), (by show z0 + 0 + 18 ≤ 7293034; omega)⟩ (Nat.le_of_ble_eq_true rfl) rfl rfl (fun r1 u2 => ?_)
  refine g_istore hX [_, _, _, _, _, _, _] d_L_law_161 (n := 163) rfl (by decide) rfl ?_
  refine g_aload_n hX 2 d_L_law_163 (n := 164) rfl rfl rfl ?_
  refine g_aload_n hX 0 d_L_law_164 (n := 165) rfl rfl rfl ?_
  refine g_iload hX d_L_law_165 (n := 167) rfl rfl ?_
  refine g_iconst hX 1 d_L_law_167 (n := 168) rfl k_iconst_1 ?_
  refine g_iadd hX d_L_law_168 (n := 169) rfl ?_
  refine g_sld hX hB d_L_law_169 (n := 170) rfl ?_
  refine g_aload_n hX 0 d_L_law_170 (n := 171) rfl rfl rfl ?_
  refine g_iload hX d_L_law_171 (n := 173) rfl rfl ?_
  refine g_iconst hX 2 d_L_law_173 (n := 174) rfl k_iconst_2 ?_
  refine g_iadd hX d_L_law_174 (n := 175) rfl ?_
  refine g_sld hX hB d_L_law_175 (n := 176) rfl ?_
  refine g_aload_n hX 0 d_L_law_176 (n := 177) rfl rfl rfl ?_
  refine g_iload hX d_L_law_177 (n := 179) rfl rfl ?_
  refine g_iconst hX 3 d_L_law_179 (n := 180) rfl k_iconst_3 ?_
  refine g_iadd hX d_L_law_180 (n := 181) rfl ?_
  refine g_sld hX hB d_L_law_181 (n := 182) rfl ?_
  refine g_aload_n hX 0 d_L_law_182 (n := 183) rfl rfl rfl ?_
  refine g_iload hX d_L_law_183 (n := 185) rfl rfl ?_
  refine g_iconst hX 4 d_L_law_185 (n := 186) rfl k_iconst_4 ?_
  refine g_iadd hX d_L_law_186 (n := 187) rfl ?_
  refine g_sld hX hB d_L_law_187 (n := 188) rfl ?_
  refine g_cVi hX [_, _, _, _] rfl (c0 + 3) (z0 + 18) (c_M_open _ Γ (xs (x4 + 1).toNatClampNeg) (xs (x4 + 2).toNatClampNeg) (xs (x4 + 3).toNatClampNeg) (xs (x4 + 4).toNatClampNeg) u2) gw_L_87 rfl sh_19 rfl d_L_law_188 (n := 191) rfl ⟨by decide, by decide⟩ ⟨(by show c0 + 3 + 0 ≤ 601024; omega), (by show z0 + 18 + 0 ≤ 7293034; omega)⟩ (Nat.le_of_ble_eq_true rfl) rfl rfl (fun r4 u3 => ?_)
  refine g_istore hX [_, _, _, _, _, _, _] d_L_law_191 (n := 193) rfl (by decide) rfl ?_
  refine g_aload_n hX 2 d_L_law_193 (n := 194) rfl rfl rfl ?_
  refine g_cVi hX [] rfl (c0 + 3) (z0 + 18) (c_M_thrown _ Γ u3) gw_L_88 rfl sh_19 rfl d_L_law_194 (n := 197) rfl ⟨by decide, by decide⟩ ⟨(by show c0 + 3 + 0 ≤ 601024; omega), (by show z0 + 18 + 0 ≤ 7293034; omega)⟩ (Nat.le_of_ble_eq_true rfl) rfl rfl (fun r6 u5 => ?_)
  refine g_iload hX d_L_law_197 (n := 199) rfl rfl ?_
  refine g_icmp_eq hX 204 d_L_law_199 (n := 202) rfl rfl ?_ ?_
  · refine g_iload hX d_L_law_204 (n := 206) rfl rfl ?_
    refine g_if_ne hX 221 d_L_law_206 (n := 209) rfl rfl ?_ ?_
    · exact (g_sub (lw := [some (.ref b), some (.ref (Γ.2.1 0)), some (.ref (Γ.2.1 19)), some (.ref (Γ.2.1 40)), some (.int x4), none, none]) (And.intro rfl (And.intro rfl (And.intro rfl (And.intro rfl (And.intro rfl (True.intro)))))) (m_L_law_221 hX hB hT c0 z0 hc0 hs0 K23 hK23 u5 x4))
    · refine g_aload_n hX 3 d_L_law_209 (n := 210) rfl rfl rfl ?_
      refine g_iconst hX 0 d_L_law_210 (n := 211) rfl k_iconst_0 ?_
      refine g_laldK hX (by decide) d_L_law_211 (n := 212) rfl sh_40 ?_
      refine g_iload hX d_L_law_212 (n := 214) rfl rfl ?_
      refine g_i2l hX d_L_law_214 (n := 215) rfl ?_
      refine g_lcmp hX d_L_law_215 (n := 216) rfl ?_
      refine g_if_eq hX 221 d_L_law_216 (n := 219) rfl rfl ?_ ?_
      · exact (g_sub (lw := [some (.ref b), some (.ref (Γ.2.1 0)), some (.ref (Γ.2.1 19)), some (.ref (Γ.2.1 40)), some (.int x4), none, none]) (And.intro rfl (And.intro rfl (And.intro rfl (And.intro rfl (And.intro rfl (True.intro)))))) (m_L_law_221 hX hB hT c0 z0 hc0 hs0 K23 hK23 u5 x4))
      · exact g_none
  · exact g_none
def f_L_law_224 (xs : Nat → Int32) (L : Nat) (K23 : Mem → Int32 → Option Unit) (σ : Mem) (x4 : Int32) : Option Unit :=
  if gin (x4 + 1) L = true then
    gb (f_L_close (xs (x4 + 1).toNatClampNeg) σ) fun r1 u2 =>
    if gin (x4 + 1) L = true then
      gbv (f_M_close (xs (x4 + 1).toNatClampNeg) u2) fun u3 =>
      gb (f_M_thrown u3) fun r5 u4 =>
      if r5 = r1 then
        f_L_law_1360 xs L K23 u4 x4
      else
        none
    else none
  else none
set_option maxRecDepth 100000 in
set_option maxHeartbeats 4000000 in
theorem m_L_law_224 {κ : GC} {Γ : GA} {b L : Nat} {xs : Nat → Int32} (hX : Gx κ Γ 7 code "PaneScreenLaw" room_1 ret) (hB : gScr κ Γ b L xs) (hT : κ.2.1.stackTraces = false) (c0 z0 : Nat) (hc0 : c0 + 4 ≤ 601024) (hs0 : z0 + 24 ≤ 7293034) (K23 : Mem → Int32 → Option Unit) (hK23 : ∀ (σ : Mem) (x4 : Int32), GG κ Γ 7 (gQL κ b) (c0 + 4) (z0 + 24) σ [some (.ref b), some (.ref (Γ.2.1 0)), some (.ref (Γ.2.1 19)), some (.ref (Γ.2.1 40)), some (.int x4), none, none] 23 [] (K23 σ x4)) (σ : Mem) (x4 : Int32) : GG κ Γ 7 (gQL κ b) (c0 + 0) (z0 + 0) σ [some (.ref b), some (.ref (Γ.2.1 0)), some (.ref (Γ.2.1 19)), some (.ref (Γ.2.1 40)), some (.int x4), none, none] 224 [] (f_L_law_224 xs L K23 σ x4) := by
  unfold f_L_law_224
  refine g_aload_n hX 1 d_L_law_224 (n := 225) rfl rfl rfl ?_
  refine g_aload_n hX 0 d_L_law_225 (n := 226) rfl rfl rfl ?_
  refine g_iload hX d_L_law_226 (n := 228) rfl rfl ?_
  refine g_iconst hX 1 d_L_law_228 (n := 229) rfl k_iconst_1 ?_
  refine g_iadd hX d_L_law_229 (n := 230) rfl ?_
  refine g_sld hX hB d_L_law_230 (n := 231) rfl ?_
  refine g_cH hX [_, _] rfl (c0 + 1) (z0 + 6) (c_L_close _ hT Γ (xs (x4 + 1).toNatClampNeg) σ) gwh_91 rfl d_L_law_231 (n := 234) rfl ⟨by decide, by decide⟩ ⟨(by show c0 + 0 + 1 ≤ 601024; omega), (by show z0 + 0 + 6 ≤ 7293034; omega)⟩ (Nat.le_of_ble_eq_true rfl) rfl rfl (fun r1 u2 => ?_)
  refine g_istore hX [_, _, _, _, _, _, _] d_L_law_234 (n := 236) rfl (by decide) rfl ?_
  refine g_aload_n hX 2 d_L_law_236 (n := 237) rfl rfl rfl ?_
  refine g_aload_n hX 0 d_L_law_237 (n := 238) rfl rfl rfl ?_
  refine g_iload hX d_L_law_238 (n := 240) rfl rfl ?_
  refine g_iconst hX 1 d_L_law_240 (n := 241) rfl k_iconst_1 ?_
  refine g_iadd hX d_L_law_241 (n := 242) rfl ?_
  refine g_sld hX hB d_L_law_242 (n := 243) rfl ?_
  refine g_cVv hX [_] rfl (c0 + 1) (z0 + 6) (c_M_close _ Γ (xs (x4 + 1).toNatClampNeg) u2) gw_L_94 rfl sh_19 rfl d_L_law_243 (n := 246) rfl ⟨by decide, by decide⟩ ⟨(by show c0 + 1 + 0 ≤ 601024; omega), (by show z0 + 6 + 0 ≤ 7293034; omega)⟩ (Nat.le_of_ble_eq_true rfl) rfl rfl (fun u3 => ?_)
  refine g_aload_n hX 2 d_L_law_246 (n := 247) rfl rfl rfl ?_
  refine g_cVi hX [] rfl (c0 + 1) (z0 + 6) (c_M_thrown _ Γ u3) gw_L_88 rfl sh_19 rfl d_L_law_247 (n := 250) rfl ⟨by decide, by decide⟩ ⟨(by show c0 + 1 + 0 ≤ 601024; omega), (by show z0 + 6 + 0 ≤ 7293034; omega)⟩ (Nat.le_of_ble_eq_true rfl) rfl rfl (fun r5 u4 => ?_)
  refine g_iload hX d_L_law_250 (n := 252) rfl rfl ?_
  refine g_icmp_eq hX 257 d_L_law_252 (n := 255) rfl rfl ?_ ?_
  · refine g_goto hX 1360 d_L_law_257 rfl ?_
    exact (g_widen (c1 := c0 + 4) (s1 := z0 + 24) (by omega) (by omega) (g_sub (lw := [some (.ref b), some (.ref (Γ.2.1 0)), some (.ref (Γ.2.1 19)), some (.ref (Γ.2.1 40)), some (.int x4), none, none]) (And.intro rfl (And.intro rfl (And.intro rfl (And.intro rfl (And.intro rfl (True.intro)))))) (m_L_law_1360 hX hB hT c0 z0 hc0 hs0 K23 hK23 u4 x4)))
  · exact g_none
def f_L_law_260 (xs : Nat → Int32) (L : Nat) (K23 : Mem → Int32 → Option Unit) (σ : Mem) (x4 : Int32) : Option Unit :=
  if gin (x4 + 1) L = true then
    if gin (x4 + 2) L = true then
      if gin (x4 + 3) L = true then
        gb (f_L_move (xs (x4 + 1).toNatClampNeg) (xs (x4 + 2).toNatClampNeg) (xs (x4 + 3).toNatClampNeg) σ) fun r1 u2 =>
        if gin (x4 + 1) L = true then
          if gin (x4 + 2) L = true then
            if gin (x4 + 3) L = true then
              gbv (f_M_move (xs (x4 + 1).toNatClampNeg) (xs (x4 + 2).toNatClampNeg) (xs (x4 + 3).toNatClampNeg) u2) fun u3 =>
              gb (f_M_thrown u3) fun r5 u4 =>
              if r5 = r1 then
                f_L_law_1360 xs L K23 u4 x4
              else
                none
            else none
          else none
        else none
      else none
    else none
  else none
set_option maxRecDepth 100000 in
set_option maxHeartbeats 4000000 in
theorem m_L_law_260 {κ : GC} {Γ : GA} {b L : Nat} {xs : Nat → Int32} (hX : Gx κ Γ 7 code "PaneScreenLaw" room_1 ret) (hB : gScr κ Γ b L xs) (hT : κ.2.1.stackTraces = false) (c0 z0 : Nat) (hc0 : c0 + 4 ≤ 601024) (hs0 : z0 + 24 ≤ 7293034) (K23 : Mem → Int32 → Option Unit) (hK23 : ∀ (σ : Mem) (x4 : Int32), GG κ Γ 7 (gQL κ b) (c0 + 4) (z0 + 24) σ [some (.ref b), some (.ref (Γ.2.1 0)), some (.ref (Γ.2.1 19)), some (.ref (Γ.2.1 40)), some (.int x4), none, none] 23 [] (K23 σ x4)) (σ : Mem) (x4 : Int32) : GG κ Γ 7 (gQL κ b) (c0 + 0) (z0 + 0) σ [some (.ref b), some (.ref (Γ.2.1 0)), some (.ref (Γ.2.1 19)), some (.ref (Γ.2.1 40)), some (.int x4), none, none] 260 [] (f_L_law_260 xs L K23 σ x4) := by
  unfold f_L_law_260
  refine g_aload_n hX 1 d_L_law_260 (n := 261) rfl rfl rfl ?_
  refine g_aload_n hX 0 d_L_law_261 (n := 262) rfl rfl rfl ?_
  refine g_iload hX d_L_law_262 (n := 264) rfl rfl ?_
  refine g_iconst hX 1 d_L_law_264 (n := 265) rfl k_iconst_1 ?_
  refine g_iadd hX d_L_law_265 (n := 266) rfl ?_
  refine g_sld hX hB d_L_law_266 (n := 267) rfl ?_
  refine g_aload_n hX 0 d_L_law_267 (n := 268) rfl rfl rfl ?_
  refine g_iload hX d_L_law_268 (n := 270) rfl rfl ?_
  refine g_iconst hX 2 d_L_law_270 (n := 271) rfl k_iconst_2 ?_
  refine g_iadd hX d_L_law_271 (n := 272) rfl ?_
  refine g_sld hX hB d_L_law_272 (n := 273) rfl ?_
  refine g_aload_n hX 0 d_L_law_273 (n := 274) rfl rfl rfl ?_
  refine g_iload hX d_L_law_274 (n := 276) rfl rfl ?_
  refine g_iconst hX 3 d_L_law_276 (n := 277) rfl k_iconst_3 ?_
  refine g_iadd hX d_L_law_277 (n := 278) rfl ?_
  refine g_sld hX hB d_L_law_278 (n := 279) rfl ?_
  refine g_cH hX [_, _, _, _] rfl (c0 + 2) (z0 + 12) (c_L_move _ hT Γ (xs (x4 + 1).toNatClampNeg) (xs (x4 + 2).toNatClampNeg) (xs (x4 + 3).toNatClampNeg) σ) gwh_95 rfl d_L_law_279 (n := 282) rfl ⟨by decide, by decide⟩ ⟨(by show c0 + 0 + 2 ≤ 601024; omega), (by show z0 + 0 + 12 ≤ 7293034; omega)⟩ (Nat.le_of_ble_eq_true rfl) rfl rfl (fun r1 u2 => ?_)
  refine g_istore hX [_, _, _, _, _, _, _] d_L_law_282 (n := 284) rfl (by decide) rfl ?_
  refine g_aload_n hX 2 d_L_law_284 (n := 285) rfl rfl rfl ?_
  refine g_aload_n hX 0 d_L_law_285 (n := 286) rfl rfl rfl ?_
  refine g_iload hX d_L_law_286 (n := 288) rfl rfl ?_
  refine g_iconst hX 1 d_L_law_288 (n := 289) rfl k_iconst_1 ?_
  refine g_iadd hX d_L_law_289 (n := 290) rfl ?_
  refine g_sld hX hB d_L_law_290 (n := 291) rfl ?_
  refine g_aload_n hX 0 d_L_law_291 (n := 292) rfl rfl rfl ?_
  refine g_iload hX d_L_law_292 (n := 294) rfl rfl ?_
  refine g_iconst hX 2 d_L_law_294 (n := 295) rfl k_iconst_2 ?_
  refine g_iadd hX d_L_law_295 (n := 296) rfl ?_
  refine g_sld hX hB d_L_law_296 (n := 297) rfl ?_
  refine g_aload_n hX 0 d_L_law_297 (n := 298) rfl rfl rfl ?_
  refine g_iload hX d_L_law_298 (n := 300) rfl rfl ?_
  refine g_iconst hX 3 d_L_law_300 (n := 301) rfl k_iconst_3 ?_
  refine g_iadd hX d_L_law_301 (n := 302) rfl ?_
  refine g_sld hX hB d_L_law_302 (n := 303) rfl ?_
  refine g_cVv hX [_, _, _] rfl (c0 + 2) (z0 + 12) (c_M_move _ Γ (xs (x4 + 1).toNatClampNeg) (xs (x4 + 2).toNatClampNeg) (xs (x4 + 3).toNatClampNeg) u2) gw_L_98 rfl sh_19 rfl d_L_law_303 (n := 306) rfl ⟨by decide, by decide⟩ ⟨(by show c0 + 2 + 0 ≤ 601024; omega), (by show z0 + 12 + 0 ≤ 7293034; omega)⟩ (Nat.le_of_ble_eq_true rfl) rfl rfl (fun u3 => ?_)
  refine g_aload_n hX 2 d_L_law_306 (n := 307) rfl rfl rfl ?_
  refine g_cVi hX [] rfl (c0 + 2) (z0 + 12) (c_M_thrown _ Γ u3) gw_L_88 rfl sh_19 rfl d_L_law_307 (n := 310) rfl ⟨by decide, by decide⟩ ⟨(by show c0 + 2 + 0 ≤ 601024; omega), (by show z0 + 12 + 0 ≤ 7293034; omega)⟩ (Nat.le_of_ble_eq_true rfl) rfl rfl (fun r5 u4 => ?_)
  refine g_iload hX d_L_law_310 (n := 312) rfl rfl ?_
  refine g_icmp_eq hX 317 d_L_law_312 (n := 315) rfl rfl ?_ ?_
  · refine g_goto hX 1360 d_L_law_317 rfl ?_
    exact (g_widen (c1 := c0 + 4) (s1 := z0 + 24) (by omega) (by omega) (g_sub (lw := [some (.ref b), some (.ref (Γ.2.1 0)), some (.ref (Γ.2.1 19)), some (.ref (Γ.2.1 40)), some (.int x4), none, none]) (And.intro rfl (And.intro rfl (And.intro rfl (And.intro rfl (And.intro rfl (True.intro)))))) (m_L_law_1360 hX hB hT c0 z0 hc0 hs0 K23 hK23 u4 x4)))
  · exact g_none
def f_L_law_408 (xs : Nat → Int32) (L : Nat) (K23 : Mem → Int32 → Option Unit) (σ : Mem) (x4 : Int32) : Option Unit :=
  f_L_law_1360 xs L K23 σ x4
set_option maxRecDepth 100000 in
set_option maxHeartbeats 4000000 in
theorem m_L_law_408 {κ : GC} {Γ : GA} {b L : Nat} {xs : Nat → Int32} (hX : Gx κ Γ 7 code "PaneScreenLaw" room_1 ret) (hB : gScr κ Γ b L xs) (hT : κ.2.1.stackTraces = false) (c0 z0 : Nat) (hc0 : c0 + 4 ≤ 601024) (hs0 : z0 + 24 ≤ 7293034) (K23 : Mem → Int32 → Option Unit) (hK23 : ∀ (σ : Mem) (x4 : Int32), GG κ Γ 7 (gQL κ b) (c0 + 4) (z0 + 24) σ [some (.ref b), some (.ref (Γ.2.1 0)), some (.ref (Γ.2.1 19)), some (.ref (Γ.2.1 40)), some (.int x4), none, none] 23 [] (K23 σ x4)) (σ : Mem) (x4 : Int32) : GG κ Γ 7 (gQL κ b) (c0 + 1) (z0 + 6) σ [some (.ref b), some (.ref (Γ.2.1 0)), some (.ref (Γ.2.1 19)), some (.ref (Γ.2.1 40)), some (.int x4), none, none] 408 [] (f_L_law_408 xs L K23 σ x4) := by
  unfold f_L_law_408
  refine g_goto hX 1360 d_L_law_408 rfl ?_
  exact (g_widen (c1 := c0 + 4) (s1 := z0 + 24) (by omega) (by omega) (m_L_law_1360 hX hB hT c0 z0 hc0 hs0 K23 hK23 σ x4))
def f_L_law_402 (xs : Nat → Int32) (L : Nat) (K23 : Mem → Int32 → Option Unit) (σ : Mem) (x4 : Int32) (s0 : Int32) (s1 : Int32) : Option Unit :=
  if (lg_cmp (s1 : Int32).toInt64 (s0 : Int32).toInt64) = 0 then
    f_L_law_408 xs L K23 σ x4
  else
    none
set_option maxRecDepth 100000 in
set_option maxHeartbeats 4000000 in
theorem m_L_law_402 {κ : GC} {Γ : GA} {b L : Nat} {xs : Nat → Int32} (hX : Gx κ Γ 7 code "PaneScreenLaw" room_1 ret) (hB : gScr κ Γ b L xs) (hT : κ.2.1.stackTraces = false) (c0 z0 : Nat) (hc0 : c0 + 4 ≤ 601024) (hs0 : z0 + 24 ≤ 7293034) (K23 : Mem → Int32 → Option Unit) (hK23 : ∀ (σ : Mem) (x4 : Int32), GG κ Γ 7 (gQL κ b) (c0 + 4) (z0 + 24) σ [some (.ref b), some (.ref (Γ.2.1 0)), some (.ref (Γ.2.1 19)), some (.ref (Γ.2.1 40)), some (.int x4), none, none] 23 [] (K23 σ x4)) (σ : Mem) (x4 : Int32) (s0 : Int32) (s1 : Int32) : GG κ Γ 7 (gQL κ b) (c0 + 1) (z0 + 6) σ [some (.ref b), some (.ref (Γ.2.1 0)), some (.ref (Γ.2.1 19)), some (.ref (Γ.2.1 40)), some (.int x4), none, none] 402 [.long (s0 : Int32).toInt64, .long (s1 : Int32).toInt64] (f_L_law_402 xs L K23 σ x4 s0 s1) := by
  unfold f_L_law_402
  refine g_lcmp hX d_L_law_402 (n := 403) rfl ?_
  refine g_if_eq hX 408 d_L_law_403 (n := 406) rfl rfl ?_ ?_
  · exact (m_L_law_408 hX hB hT c0 z0 hc0 hs0 K23 hK23 σ x4)
  · exact g_none
def f_L_law_368 (xs : Nat → Int32) (L : Nat) (K23 : Mem → Int32 → Option Unit) (σ : Mem) (x4 : Int32) (x5 : Int32) (s0 : Int32) (s1 : Int32) : Option Unit :=
  gb (f_M_raise s1 s0 σ) fun r2 u1 =>
  gb (f_M_thrown u1) fun r4 u3 =>
  if r4 = x5 then
    if x5 = 0 then
      if r2 = 0 then
        f_L_law_402 xs L K23 u3 x4 (0 : Int32) (u3 40 (0 : Int32).toNatClampNeg)
      else
        f_L_law_402 xs L K23 u3 x4 (1 : Int32) (u3 40 (0 : Int32).toNatClampNeg)
    else
      f_L_law_408 xs L K23 u3 x4
  else
    none
set_option maxRecDepth 100000 in
set_option maxHeartbeats 4000000 in
theorem m_L_law_368 {κ : GC} {Γ : GA} {b L : Nat} {xs : Nat → Int32} (hX : Gx κ Γ 7 code "PaneScreenLaw" room_1 ret) (hB : gScr κ Γ b L xs) (hT : κ.2.1.stackTraces = false) (c0 z0 : Nat) (hc0 : c0 + 4 ≤ 601024) (hs0 : z0 + 24 ≤ 7293034) (K23 : Mem → Int32 → Option Unit) (hK23 : ∀ (σ : Mem) (x4 : Int32), GG κ Γ 7 (gQL κ b) (c0 + 4) (z0 + 24) σ [some (.ref b), some (.ref (Γ.2.1 0)), some (.ref (Γ.2.1 19)), some (.ref (Γ.2.1 40)), some (.int x4), none, none] 23 [] (K23 σ x4)) (σ : Mem) (x4 : Int32) (x5 : Int32) (s0 : Int32) (s1 : Int32) : GG κ Γ 7 (gQL κ b) (c0 + 1) (z0 + 6) σ [some (.ref b), some (.ref (Γ.2.1 0)), some (.ref (Γ.2.1 19)), some (.ref (Γ.2.1 40)), some (.int x4), some (.int x5), none] 368 [.int s0, .int s1, .ref (Γ.2.1 19)] (f_L_law_368 xs L K23 σ x4 x5 s0 s1) := by
  unfold f_L_law_368
  refine g_cVi hX [_, _] rfl (c0 + 1) (z0 + 6) (c_M_raise _ Γ s1 s0 σ) gw_L_102 rfl sh_19 rfl d_L_law_368 (n := 371) rfl ⟨by decide, by decide⟩ ⟨(by show c0 + 1 + 0 ≤ 601024; omega), (by show z0 + 6 + 0 ≤ 7293034; omega)⟩ (Nat.le_of_ble_eq_true rfl) rfl rfl (fun r2 u1 => ?_)
  refine g_istore hX [_, _, _, _, _, _, _] d_L_law_371 (n := 373) rfl (by decide) rfl ?_
  refine g_aload_n hX 2 d_L_law_373 (n := 374) rfl rfl rfl ?_
  refine g_cVi hX [] rfl (c0 + 1) (z0 + 6) (c_M_thrown _ Γ u1) gw_L_88 rfl sh_19 rfl d_L_law_374 (n := 377) rfl ⟨by decide, by decide⟩ ⟨(by show c0 + 1 + 0 ≤ 601024; omega), (by show z0 + 6 + 0 ≤ 7293034; omega)⟩ (Nat.le_of_ble_eq_true rfl) rfl rfl (fun r4 u3 => ?_)
  refine g_iload hX d_L_law_377 (n := 379) rfl rfl ?_
  refine g_icmp_eq hX 384 d_L_law_379 (n := 382) rfl rfl ?_ ?_
  · refine g_iload hX d_L_law_384 (n := 386) rfl rfl ?_
    refine g_if_ne hX 408 d_L_law_386 (n := 389) rfl rfl ?_ ?_
    · exact (g_sub (lw := [some (.ref b), some (.ref (Γ.2.1 0)), some (.ref (Γ.2.1 19)), some (.ref (Γ.2.1 40)), some (.int x4), none, none]) (And.intro rfl (And.intro rfl (And.intro rfl (And.intro rfl (And.intro rfl (True.intro)))))) (m_L_law_408 hX hB hT c0 z0 hc0 hs0 K23 hK23 u3 x4))
    · refine g_aload_n hX 3 d_L_law_389 (n := 390) rfl rfl rfl ?_
      refine g_iconst hX 0 d_L_law_390 (n := 391) rfl k_iconst_0 ?_
      refine g_laldK hX (by decide) d_L_law_391 (n := 392) rfl sh_40 ?_
      refine g_iload hX d_L_law_392 (n := 394) rfl rfl ?_
      refine g_if_eq hX 401 d_L_law_394 (n := 397) rfl rfl ?_ ?_
      · refine g_lconst hX (0 : Int32).toInt64 d_L_law_401 (n := 402) rfl (by decide) ?_
        exact (g_sub (lw := [some (.ref b), some (.ref (Γ.2.1 0)), some (.ref (Γ.2.1 19)), some (.ref (Γ.2.1 40)), some (.int x4), none, none]) (And.intro rfl (And.intro rfl (And.intro rfl (And.intro rfl (And.intro rfl (True.intro)))))) (m_L_law_402 hX hB hT c0 z0 hc0 hs0 K23 hK23 u3 x4 (0 : Int32) (u3 40 (0 : Int32).toNatClampNeg)))
      · refine g_lconst hX (1 : Int32).toInt64 d_L_law_397 (n := 398) rfl (by decide) ?_
        refine g_goto hX 402 d_L_law_398 rfl ?_
        exact (g_sub (lw := [some (.ref b), some (.ref (Γ.2.1 0)), some (.ref (Γ.2.1 19)), some (.ref (Γ.2.1 40)), some (.int x4), none, none]) (And.intro rfl (And.intro rfl (And.intro rfl (And.intro rfl (And.intro rfl (True.intro)))))) (m_L_law_402 hX hB hT c0 z0 hc0 hs0 K23 hK23 u3 x4 (1 : Int32) (u3 40 (0 : Int32).toNatClampNeg)))
  · exact g_none
def f_L_law_341 (xs : Nat → Int32) (L : Nat) (K23 : Mem → Int32 → Option Unit) (σ : Mem) (x4 : Int32) (s0 : Int32) (s1 : Int32) : Option Unit :=
  gb (f_L_raise s1 s0 σ) fun r1 u2 =>
  if gin (x4 + 1) L = true then
    if gin (x4 + 2) L = true then
      if (xs (x4 + 2).toNatClampNeg) = 0 then
        f_L_law_368 xs L K23 u2 x4 r1 0 (xs (x4 + 1).toNatClampNeg)
      else
        f_L_law_368 xs L K23 u2 x4 r1 1 (xs (x4 + 1).toNatClampNeg)
    else none
  else none
set_option maxRecDepth 100000 in
set_option maxHeartbeats 4000000 in
theorem m_L_law_341 {κ : GC} {Γ : GA} {b L : Nat} {xs : Nat → Int32} (hX : Gx κ Γ 7 code "PaneScreenLaw" room_1 ret) (hB : gScr κ Γ b L xs) (hT : κ.2.1.stackTraces = false) (c0 z0 : Nat) (hc0 : c0 + 4 ≤ 601024) (hs0 : z0 + 24 ≤ 7293034) (K23 : Mem → Int32 → Option Unit) (hK23 : ∀ (σ : Mem) (x4 : Int32), GG κ Γ 7 (gQL κ b) (c0 + 4) (z0 + 24) σ [some (.ref b), some (.ref (Γ.2.1 0)), some (.ref (Γ.2.1 19)), some (.ref (Γ.2.1 40)), some (.int x4), none, none] 23 [] (K23 σ x4)) (σ : Mem) (x4 : Int32) (s0 : Int32) (s1 : Int32) : GG κ Γ 7 (gQL κ b) (c0 + 0) (z0 + 0) σ [some (.ref b), some (.ref (Γ.2.1 0)), some (.ref (Γ.2.1 19)), some (.ref (Γ.2.1 40)), some (.int x4), none, none] 341 [.int s0, .int s1, .ref (Γ.2.1 0)] (f_L_law_341 xs L K23 σ x4 s0 s1) := by
  unfold f_L_law_341
  refine g_aload_n hX 3 d_L_law_341 (n := 342) rfl rfl rfl ?_
  refine g_cH hX [_, _, _, _] rfl (c0 + 1) (z0 + 6) (c_L_raise _ hT Γ s1 s0 σ) gwh_99 rfl d_L_law_342 (n := 345) rfl ⟨by decide, by decide⟩ ⟨(by show c0 + 0 + 1 ≤ 601024; omega), (by show z0 + 0 + 6 ≤ 7293034; omega)⟩ (Nat.le_of_ble_eq_true rfl) rfl rfl (fun r1 u2 => ?_)
  refine g_istore hX [_, _, _, _, _, _, _] d_L_law_345 (n := 347) rfl (by decide) rfl ?_
  refine g_aload_n hX 2 d_L_law_347 (n := 348) rfl rfl rfl ?_
  refine g_aload_n hX 0 d_L_law_348 (n := 349) rfl rfl rfl ?_
  refine g_iload hX d_L_law_349 (n := 351) rfl rfl ?_
  refine g_iconst hX 1 d_L_law_351 (n := 352) rfl k_iconst_1 ?_
  refine g_iadd hX d_L_law_352 (n := 353) rfl ?_
  refine g_sld hX hB d_L_law_353 (n := 354) rfl ?_
  refine g_aload_n hX 0 d_L_law_354 (n := 355) rfl rfl rfl ?_
  refine g_iload hX d_L_law_355 (n := 357) rfl rfl ?_
  refine g_iconst hX 2 d_L_law_357 (n := 358) rfl k_iconst_2 ?_
  refine g_iadd hX d_L_law_358 (n := 359) rfl ?_
  refine g_sld hX hB d_L_law_359 (n := 360) rfl ?_
  refine g_if_eq hX 367 d_L_law_360 (n := 363) rfl rfl ?_ ?_
  · refine g_iconst hX 0 d_L_law_367 (n := 368) rfl k_iconst_0 ?_
    exact (m_L_law_368 hX hB hT c0 z0 hc0 hs0 K23 hK23 u2 x4 r1 0 (xs (x4 + 1).toNatClampNeg))
  · refine g_iconst hX 1 d_L_law_363 (n := 364) rfl k_iconst_1 ?_
    refine g_goto hX 368 d_L_law_364 rfl ?_
    exact (m_L_law_368 hX hB hT c0 z0 hc0 hs0 K23 hK23 u2 x4 r1 1 (xs (x4 + 1).toNatClampNeg))
def f_L_law_320 (xs : Nat → Int32) (L : Nat) (K23 : Mem → Int32 → Option Unit) (σ : Mem) (x4 : Int32) : Option Unit :=
  if gin (x4 + 1) L = true then
    if gin (x4 + 2) L = true then
      if (xs (x4 + 2).toNatClampNeg) = 0 then
        f_L_law_341 xs L K23 σ x4 0 (xs (x4 + 1).toNatClampNeg)
      else
        f_L_law_341 xs L K23 σ x4 1 (xs (x4 + 1).toNatClampNeg)
    else none
  else none
set_option maxRecDepth 100000 in
set_option maxHeartbeats 4000000 in
theorem m_L_law_320 {κ : GC} {Γ : GA} {b L : Nat} {xs : Nat → Int32} (hX : Gx κ Γ 7 code "PaneScreenLaw" room_1 ret) (hB : gScr κ Γ b L xs) (hT : κ.2.1.stackTraces = false) (c0 z0 : Nat) (hc0 : c0 + 4 ≤ 601024) (hs0 : z0 + 24 ≤ 7293034) (K23 : Mem → Int32 → Option Unit) (hK23 : ∀ (σ : Mem) (x4 : Int32), GG κ Γ 7 (gQL κ b) (c0 + 4) (z0 + 24) σ [some (.ref b), some (.ref (Γ.2.1 0)), some (.ref (Γ.2.1 19)), some (.ref (Γ.2.1 40)), some (.int x4), none, none] 23 [] (K23 σ x4)) (σ : Mem) (x4 : Int32) : GG κ Γ 7 (gQL κ b) (c0 + 0) (z0 + 0) σ [some (.ref b), some (.ref (Γ.2.1 0)), some (.ref (Γ.2.1 19)), some (.ref (Γ.2.1 40)), some (.int x4), none, none] 320 [] (f_L_law_320 xs L K23 σ x4) := by
  unfold f_L_law_320
  refine g_aload_n hX 1 d_L_law_320 (n := 321) rfl rfl rfl ?_
  refine g_aload_n hX 0 d_L_law_321 (n := 322) rfl rfl rfl ?_
  refine g_iload hX d_L_law_322 (n := 324) rfl rfl ?_
  refine g_iconst hX 1 d_L_law_324 (n := 325) rfl k_iconst_1 ?_
  refine g_iadd hX d_L_law_325 (n := 326) rfl ?_
  refine g_sld hX hB d_L_law_326 (n := 327) rfl ?_
  refine g_aload_n hX 0 d_L_law_327 (n := 328) rfl rfl rfl ?_
  refine g_iload hX d_L_law_328 (n := 330) rfl rfl ?_
  refine g_iconst hX 2 d_L_law_330 (n := 331) rfl k_iconst_2 ?_
  refine g_iadd hX d_L_law_331 (n := 332) rfl ?_
  refine g_sld hX hB d_L_law_332 (n := 333) rfl ?_
  refine g_if_eq hX 340 d_L_law_333 (n := 336) rfl rfl ?_ ?_
  · refine g_iconst hX 0 d_L_law_340 (n := 341) rfl k_iconst_0 ?_
    exact (m_L_law_341 hX hB hT c0 z0 hc0 hs0 K23 hK23 σ x4 0 (xs (x4 + 1).toNatClampNeg))
  · refine g_iconst hX 1 d_L_law_336 (n := 337) rfl k_iconst_1 ?_
    refine g_goto hX 341 d_L_law_337 rfl ?_
    exact (m_L_law_341 hX hB hT c0 z0 hc0 hs0 K23 hK23 σ x4 1 (xs (x4 + 1).toNatClampNeg))
def f_L_law_507 (xs : Nat → Int32) (L : Nat) (K23 : Mem → Int32 → Option Unit) (σ : Mem) (x4 : Int32) : Option Unit :=
  f_L_law_1360 xs L K23 σ x4
set_option maxRecDepth 100000 in
set_option maxHeartbeats 4000000 in
theorem m_L_law_507 {κ : GC} {Γ : GA} {b L : Nat} {xs : Nat → Int32} (hX : Gx κ Γ 7 code "PaneScreenLaw" room_1 ret) (hB : gScr κ Γ b L xs) (hT : κ.2.1.stackTraces = false) (c0 z0 : Nat) (hc0 : c0 + 4 ≤ 601024) (hs0 : z0 + 24 ≤ 7293034) (K23 : Mem → Int32 → Option Unit) (hK23 : ∀ (σ : Mem) (x4 : Int32), GG κ Γ 7 (gQL κ b) (c0 + 4) (z0 + 24) σ [some (.ref b), some (.ref (Γ.2.1 0)), some (.ref (Γ.2.1 19)), some (.ref (Γ.2.1 40)), some (.int x4), none, none] 23 [] (K23 σ x4)) (σ : Mem) (x4 : Int32) : GG κ Γ 7 (gQL κ b) (c0 + 2) (z0 + 12) σ [some (.ref b), some (.ref (Γ.2.1 0)), some (.ref (Γ.2.1 19)), some (.ref (Γ.2.1 40)), some (.int x4), none, none] 507 [] (f_L_law_507 xs L K23 σ x4) := by
  unfold f_L_law_507
  refine g_goto hX 1360 d_L_law_507 rfl ?_
  exact (g_widen (c1 := c0 + 4) (s1 := z0 + 24) (by omega) (by omega) (m_L_law_1360 hX hB hT c0 z0 hc0 hs0 K23 hK23 σ x4))
def f_L_law_501 (xs : Nat → Int32) (L : Nat) (K23 : Mem → Int32 → Option Unit) (σ : Mem) (x4 : Int32) (s0 : Int32) (s1 : Int32) : Option Unit :=
  if (lg_cmp (s1 : Int32).toInt64 (s0 : Int32).toInt64) = 0 then
    f_L_law_507 xs L K23 σ x4
  else
    none
set_option maxRecDepth 100000 in
set_option maxHeartbeats 4000000 in
theorem m_L_law_501 {κ : GC} {Γ : GA} {b L : Nat} {xs : Nat → Int32} (hX : Gx κ Γ 7 code "PaneScreenLaw" room_1 ret) (hB : gScr κ Γ b L xs) (hT : κ.2.1.stackTraces = false) (c0 z0 : Nat) (hc0 : c0 + 4 ≤ 601024) (hs0 : z0 + 24 ≤ 7293034) (K23 : Mem → Int32 → Option Unit) (hK23 : ∀ (σ : Mem) (x4 : Int32), GG κ Γ 7 (gQL κ b) (c0 + 4) (z0 + 24) σ [some (.ref b), some (.ref (Γ.2.1 0)), some (.ref (Γ.2.1 19)), some (.ref (Γ.2.1 40)), some (.int x4), none, none] 23 [] (K23 σ x4)) (σ : Mem) (x4 : Int32) (s0 : Int32) (s1 : Int32) : GG κ Γ 7 (gQL κ b) (c0 + 2) (z0 + 12) σ [some (.ref b), some (.ref (Γ.2.1 0)), some (.ref (Γ.2.1 19)), some (.ref (Γ.2.1 40)), some (.int x4), none, none] 501 [.long (s0 : Int32).toInt64, .long (s1 : Int32).toInt64] (f_L_law_501 xs L K23 σ x4 s0 s1) := by
  unfold f_L_law_501
  refine g_lcmp hX d_L_law_501 (n := 502) rfl ?_
  refine g_if_eq hX 507 d_L_law_502 (n := 505) rfl rfl ?_ ?_
  · exact (m_L_law_507 hX hB hT c0 z0 hc0 hs0 K23 hK23 σ x4)
  · exact g_none
def f_L_law_411 (xs : Nat → Int32) (L : Nat) (K23 : Mem → Int32 → Option Unit) (σ : Mem) (x4 : Int32) : Option Unit :=
  if gin (x4 + 1) L = true then
    if gin (x4 + 2) L = true then
      if gin (x4 + 3) L = true then
        if gin (x4 + 4) L = true then
          gb (f_L_plot (xs (x4 + 1).toNatClampNeg) (xs (x4 + 2).toNatClampNeg) (xs (x4 + 3).toNatClampNeg) (xs (x4 + 4).toNatClampNeg) σ) fun r1 u2 =>
          if gin (x4 + 1) L = true then
            if gin (x4 + 2) L = true then
              if gin (x4 + 3) L = true then
                if gin (x4 + 4) L = true then
                  gb (f_M_plot (xs (x4 + 1).toNatClampNeg) (xs (x4 + 2).toNatClampNeg) (xs (x4 + 3).toNatClampNeg) (xs (x4 + 4).toNatClampNeg) u2) fun r4 u3 =>
                  gb (f_M_thrown u3) fun r6 u5 =>
                  if r6 = r1 then
                    if r1 = 0 then
                      if r4 = 0 then
                        f_L_law_501 xs L K23 u5 x4 (0 : Int32) (u5 40 (0 : Int32).toNatClampNeg)
                      else
                        f_L_law_501 xs L K23 u5 x4 (1 : Int32) (u5 40 (0 : Int32).toNatClampNeg)
                    else
                      f_L_law_507 xs L K23 u5 x4
                  else
                    none
                else none
              else none
            else none
          else none
        else none
      else none
    else none
  else none
set_option maxRecDepth 100000 in
set_option maxHeartbeats 4000000 in
theorem m_L_law_411 {κ : GC} {Γ : GA} {b L : Nat} {xs : Nat → Int32} (hX : Gx κ Γ 7 code "PaneScreenLaw" room_1 ret) (hB : gScr κ Γ b L xs) (hT : κ.2.1.stackTraces = false) (c0 z0 : Nat) (hc0 : c0 + 4 ≤ 601024) (hs0 : z0 + 24 ≤ 7293034) (K23 : Mem → Int32 → Option Unit) (hK23 : ∀ (σ : Mem) (x4 : Int32), GG κ Γ 7 (gQL κ b) (c0 + 4) (z0 + 24) σ [some (.ref b), some (.ref (Γ.2.1 0)), some (.ref (Γ.2.1 19)), some (.ref (Γ.2.1 40)), some (.int x4), none, none] 23 [] (K23 σ x4)) (σ : Mem) (x4 : Int32) : GG κ Γ 7 (gQL κ b) (c0 + 0) (z0 + 0) σ [some (.ref b), some (.ref (Γ.2.1 0)), some (.ref (Γ.2.1 19)), some (.ref (Γ.2.1 40)), some (.int x4), none, none] 411 [] (f_L_law_411 xs L K23 σ x4) := by
  unfold f_L_law_411
  refine g_aload_n hX 1 d_L_law_411 (n := 412) rfl rfl rfl ?_
  refine g_aload_n hX 0 d_L_law_412 (n := 413) rfl rfl rfl ?_
  refine g_iload hX d_L_law_413 (n := 415) rfl rfl ?_
  refine g_iconst hX 1 d_L_law_415 (n := 416) rfl k_iconst_1 ?_
  refine g_iadd hX d_L_law_416 (n := 417) rfl ?_
  refine g_sld hX hB d_L_law_417 (n := 418) rfl ?_
  refine g_aload_n hX 0 d_L_law_418 (n := 419) rfl rfl rfl ?_
  refine g_iload hX d_L_law_419 (n := 421) rfl rfl ?_
  refine g_iconst hX 2 d_L_law_421 (n := 422) rfl k_iconst_2 ?_
  refine g_iadd hX d_L_law_422 (n := 423) rfl ?_
  refine g_sld hX hB d_L_law_423 (n := 424) rfl ?_
  refine g_aload_n hX 0 d_L_law_424 (n := 425) rfl rfl rfl ?_
  refine g_iload hX d_L_law_425 (n := 427) rfl rfl ?_
  refine g_iconst hX 3 d_L_law_427 (n := 428) rfl k_iconst_3 ?_
  refine g_iadd hX d_L_law_428 (n := 429) rfl ?_
  refine g_sld hX hB d_L_law_429 (n := 430) rfl ?_
  refine g_aload_n hX 0 d_L_law_430 (n := 431) rfl rfl rfl ?_
  refine g_iload hX d_L_law_431 (n := 433) rfl rfl ?_
  refine g_iconst hX 4 d_L_law_433 (n := 434) rfl k_iconst_4 ?_
  refine g_iadd hX d_L_law_434 (n := 435) rfl ?_
  refine g_sld hX hB d_L_law_435 (n := 436) rfl ?_
  refine g_aload_n hX 3 d_L_law_436 (n := 437) rfl rfl rfl ?_
  refine g_cH hX [_, _, _, _, _, _] rfl (c0 + 2) (z0 + 12) (c_L_plot _ hT Γ (xs (x4 + 1).toNatClampNeg) (xs (x4 + 2).toNatClampNeg) (xs (x4 + 3).toNatClampNeg) (xs (x4 + 4).toNatClampNeg) σ) gwh_103 rfl d_L_law_437 (n := 440) rfl ⟨by decide, by decide⟩ ⟨(by show c0 + 0 + 2 ≤ 601024; omega), (by show z0 + 0 + 12 ≤ 7293034; omega)⟩ (Nat.le_of_ble_eq_true rfl) rfl rfl (fun r1 u2 => ?_)
  refine g_istore hX [_, _, _, _, _, _, _] d_L_law_440 (n := 442) rfl (by decide) rfl ?_
  refine g_aload_n hX 2 d_L_law_442 (n := 443) rfl rfl rfl ?_
  refine g_aload_n hX 0 d_L_law_443 (n := 444) rfl rfl rfl ?_
  refine g_iload hX d_L_law_444 (n := 446) rfl rfl ?_
  refine g_iconst hX 1 d_L_law_446 (n := 447) rfl k_iconst_1 ?_
  refine g_iadd hX d_L_law_447 (n := 448) rfl ?_
  refine g_sld hX hB d_L_law_448 (n := 449) rfl ?_
  refine g_aload_n hX 0 d_L_law_449 (n := 450) rfl rfl rfl ?_
  refine g_iload hX d_L_law_450 (n := 452) rfl rfl ?_
  refine g_iconst hX 2 d_L_law_452 (n := 453) rfl k_iconst_2 ?_
  refine g_iadd hX d_L_law_453 (n := 454) rfl ?_
  refine g_sld hX hB d_L_law_454 (n := 455) rfl ?_
  refine g_aload_n hX 0 d_L_law_455 (n := 456) rfl rfl rfl ?_
  refine g_iload hX d_L_law_456 (n := 458) rfl rfl ?_
  refine g_iconst hX 3 d_L_law_458 (n := 459) rfl k_iconst_3 ?_
  refine g_iadd hX d_L_law_459 (n := 460) rfl ?_
  refine g_sld hX hB d_L_law_460 (n := 461) rfl ?_
  refine g_aload_n hX 0 d_L_law_461 (n := 462) rfl rfl rfl ?_
  refine g_iload hX d_L_law_462 (n := 464) rfl rfl ?_
  refine g_iconst hX 4 d_L_law_464 (n := 465) rfl k_iconst_4 ?_
  refine g_iadd hX d_L_law_465 (n := 466) rfl ?_
  refine g_sld hX hB d_L_law_466 (n := 467) rfl ?_
  refine g_cVi hX [_, _, _, _] rfl (c0 + 2) (z0 + 12) (c_M_plot _ Γ (xs (x4 + 1).toNatClampNeg) (xs (x4 + 2).toNatClampNeg) (xs (x4 + 3).toNatClampNeg) (xs (x4 + 4).toNatClampNeg) u2) gw_L_105 rfl sh_19 rfl d_L_law_467 (n := 470) rfl ⟨by decide, by decide⟩ ⟨(by show c0 + 2 + 0 ≤ 601024; omega), (by show z0 + 12 + 0 ≤ 7293034; omega)⟩ (Nat.le_of_ble_eq_true rfl) rfl rfl (fun r4 u3 => ?_)
  refine g_istore hX [_, _, _, _, _, _, _] d_L_law_470 (n := 472) rfl (by decide) rfl ?_
  refine g_aload_n hX 2 d_L_law_472 (n := 473) rfl rfl rfl ?_
  refine g_cVi hX [] rfl (c0 + 2) (z0 + 12) (c_M_thrown _ Γ u3) gw_L_88 rfl sh_19 rfl d_L_law_473 (n := 476) rfl ⟨by decide, by decide⟩ ⟨(by show c0 + 2 + 0 ≤ 601024; omega), (by show z0 + 12 + 0 ≤ 7293034; omega)⟩ (Nat.le_of_ble_eq_true rfl) rfl rfl (fun r6 u5 => ?_)
  refine g_iload hX d_L_law_476 (n := 478) rfl rfl ?_
  refine g_icmp_eq hX 483 d_L_law_478 (n := 481) rfl rfl ?_ ?_
  · refine g_iload hX d_L_law_483 (n := 485) rfl rfl ?_
    refine g_if_ne hX 507 d_L_law_485 (n := 488) rfl rfl ?_ ?_
    · exact (g_sub (lw := [some (.ref b), some (.ref (Γ.2.1 0)), some (.ref (Γ.2.1 19)), some (.ref (Γ.2.1 40)), some (.int x4), none, none]) (And.intro rfl (And.intro rfl (And.intro rfl (And.intro rfl (And.intro rfl (True.intro)))))) (m_L_law_507 hX hB hT c0 z0 hc0 hs0 K23 hK23 u5 x4))
    · refine g_aload_n hX 3 d_L_law_488 (n := 489) rfl rfl rfl ?_
      refine g_iconst hX 0 d_L_law_489 (n := 490) rfl k_iconst_0 ?_
      refine g_laldK hX (by decide) d_L_law_490 (n := 491) rfl sh_40 ?_
      refine g_iload hX d_L_law_491 (n := 493) rfl rfl ?_
      refine g_if_eq hX 500 d_L_law_493 (n := 496) rfl rfl ?_ ?_
      · refine g_lconst hX (0 : Int32).toInt64 d_L_law_500 (n := 501) rfl (by decide) ?_
        exact (g_sub (lw := [some (.ref b), some (.ref (Γ.2.1 0)), some (.ref (Γ.2.1 19)), some (.ref (Γ.2.1 40)), some (.int x4), none, none]) (And.intro rfl (And.intro rfl (And.intro rfl (And.intro rfl (And.intro rfl (True.intro)))))) (m_L_law_501 hX hB hT c0 z0 hc0 hs0 K23 hK23 u5 x4 (0 : Int32) (u5 40 (0 : Int32).toNatClampNeg)))
      · refine g_lconst hX (1 : Int32).toInt64 d_L_law_496 (n := 497) rfl (by decide) ?_
        refine g_goto hX 501 d_L_law_497 rfl ?_
        exact (g_sub (lw := [some (.ref b), some (.ref (Γ.2.1 0)), some (.ref (Γ.2.1 19)), some (.ref (Γ.2.1 40)), some (.int x4), none, none]) (And.intro rfl (And.intro rfl (And.intro rfl (And.intro rfl (And.intro rfl (True.intro)))))) (m_L_law_501 hX hB hT c0 z0 hc0 hs0 K23 hK23 u5 x4 (1 : Int32) (u5 40 (0 : Int32).toNatClampNeg)))
  · exact g_none
def f_L_law_611 (xs : Nat → Int32) (L : Nat) (K23 : Mem → Int32 → Option Unit) (σ : Mem) (x4 : Int32) : Option Unit :=
  f_L_law_1360 xs L K23 σ x4
set_option maxRecDepth 100000 in
set_option maxHeartbeats 4000000 in
theorem m_L_law_611 {κ : GC} {Γ : GA} {b L : Nat} {xs : Nat → Int32} (hX : Gx κ Γ 7 code "PaneScreenLaw" room_1 ret) (hB : gScr κ Γ b L xs) (hT : κ.2.1.stackTraces = false) (c0 z0 : Nat) (hc0 : c0 + 4 ≤ 601024) (hs0 : z0 + 24 ≤ 7293034) (K23 : Mem → Int32 → Option Unit) (hK23 : ∀ (σ : Mem) (x4 : Int32), GG κ Γ 7 (gQL κ b) (c0 + 4) (z0 + 24) σ [some (.ref b), some (.ref (Γ.2.1 0)), some (.ref (Γ.2.1 19)), some (.ref (Γ.2.1 40)), some (.int x4), none, none] 23 [] (K23 σ x4)) (σ : Mem) (x4 : Int32) : GG κ Γ 7 (gQL κ b) (c0 + 4) (z0 + 24) σ [some (.ref b), some (.ref (Γ.2.1 0)), some (.ref (Γ.2.1 19)), some (.ref (Γ.2.1 40)), some (.int x4), none, none] 611 [] (f_L_law_611 xs L K23 σ x4) := by
  unfold f_L_law_611
  refine g_goto hX 1360 d_L_law_611 rfl ?_
  exact (m_L_law_1360 hX hB hT c0 z0 hc0 hs0 K23 hK23 σ x4)
def f_L_law_510 (xs : Nat → Int32) (L : Nat) (K23 : Mem → Int32 → Option Unit) (σ : Mem) (x4 : Int32) : Option Unit :=
  if gin (x4 + 1) L = true then
    if gin (x4 + 2) L = true then
      if gin (x4 + 3) L = true then
        if gin (x4 + 4) L = true then
          if gin (x4 + 5) L = true then
            gb (f_L_fill (xs (x4 + 1).toNatClampNeg) (xs (x4 + 2).toNatClampNeg) (xs (x4 + 3).toNatClampNeg) (xs (x4 + 4).toNatClampNeg) (xs (x4 + 5).toNatClampNeg) σ) fun r1 u2 =>
            if gin (x4 + 1) L = true then
              if gin (x4 + 2) L = true then
                if gin (x4 + 3) L = true then
                  if gin (x4 + 4) L = true then
                    if gin (x4 + 5) L = true then
                      gb (f_M_fill (xs (x4 + 1).toNatClampNeg) (xs (x4 + 2).toNatClampNeg) (xs (x4 + 3).toNatClampNeg) (xs (x4 + 4).toNatClampNeg) (xs (x4 + 5).toNatClampNeg) u2) fun r4 u3 =>
                      gb (f_M_thrown u3) fun r6 u5 =>
                      if r6 = r1 then
                        if r1 = 0 then
                          if (lg_cmp ((u5 40 (0 : Int32).toNatClampNeg) : Int32).toInt64 (r4 : Int32).toInt64) = 0 then
                            f_L_law_611 xs L K23 u5 x4
                          else
                            none
                        else
                          f_L_law_611 xs L K23 u5 x4
                      else
                        none
                    else none
                  else none
                else none
              else none
            else none
          else none
        else none
      else none
    else none
  else none
set_option maxRecDepth 100000 in
set_option maxHeartbeats 4000000 in
theorem m_L_law_510 {κ : GC} {Γ : GA} {b L : Nat} {xs : Nat → Int32} (hX : Gx κ Γ 7 code "PaneScreenLaw" room_1 ret) (hB : gScr κ Γ b L xs) (hT : κ.2.1.stackTraces = false) (c0 z0 : Nat) (hc0 : c0 + 4 ≤ 601024) (hs0 : z0 + 24 ≤ 7293034) (K23 : Mem → Int32 → Option Unit) (hK23 : ∀ (σ : Mem) (x4 : Int32), GG κ Γ 7 (gQL κ b) (c0 + 4) (z0 + 24) σ [some (.ref b), some (.ref (Γ.2.1 0)), some (.ref (Γ.2.1 19)), some (.ref (Γ.2.1 40)), some (.int x4), none, none] 23 [] (K23 σ x4)) (σ : Mem) (x4 : Int32) : GG κ Γ 7 (gQL κ b) (c0 + 0) (z0 + 0) σ [some (.ref b), some (.ref (Γ.2.1 0)), some (.ref (Γ.2.1 19)), some (.ref (Γ.2.1 40)), some (.int x4), none, none] 510 [] (f_L_law_510 xs L K23 σ x4) := by
  unfold f_L_law_510
  refine g_aload_n hX 1 d_L_law_510 (n := 511) rfl rfl rfl ?_
  refine g_aload_n hX 0 d_L_law_511 (n := 512) rfl rfl rfl ?_
  refine g_iload hX d_L_law_512 (n := 514) rfl rfl ?_
  refine g_iconst hX 1 d_L_law_514 (n := 515) rfl k_iconst_1 ?_
  refine g_iadd hX d_L_law_515 (n := 516) rfl ?_
  refine g_sld hX hB d_L_law_516 (n := 517) rfl ?_
  refine g_aload_n hX 0 d_L_law_517 (n := 518) rfl rfl rfl ?_
  refine g_iload hX d_L_law_518 (n := 520) rfl rfl ?_
  refine g_iconst hX 2 d_L_law_520 (n := 521) rfl k_iconst_2 ?_
  refine g_iadd hX d_L_law_521 (n := 522) rfl ?_
  refine g_sld hX hB d_L_law_522 (n := 523) rfl ?_
  refine g_aload_n hX 0 d_L_law_523 (n := 524) rfl rfl rfl ?_
  refine g_iload hX d_L_law_524 (n := 526) rfl rfl ?_
  refine g_iconst hX 3 d_L_law_526 (n := 527) rfl k_iconst_3 ?_
  refine g_iadd hX d_L_law_527 (n := 528) rfl ?_
  refine g_sld hX hB d_L_law_528 (n := 529) rfl ?_
  refine g_aload_n hX 0 d_L_law_529 (n := 530) rfl rfl rfl ?_
  refine g_iload hX d_L_law_530 (n := 532) rfl rfl ?_
  refine g_iconst hX 4 d_L_law_532 (n := 533) rfl k_iconst_4 ?_
  refine g_iadd hX d_L_law_533 (n := 534) rfl ?_
  refine g_sld hX hB d_L_law_534 (n := 535) rfl ?_
  refine g_aload_n hX 0 d_L_law_535 (n := 536) rfl rfl rfl ?_
  refine g_iload hX d_L_law_536 (n := 538) rfl rfl ?_
  refine g_iconst hX 5 d_L_law_538 (n := 539) rfl k_iconst_5 ?_
  refine g_iadd hX d_L_law_539 (n := 540) rfl ?_
  refine g_sld hX hB d_L_law_540 (n := 541) rfl ?_
  refine g_aload_n hX 3 d_L_law_541 (n := 542) rfl rfl rfl ?_
  refine g_cH hX [_, _, _, _, _, _, _] rfl (c0 + 4) (z0 + 24) (c_L_fill _ hT Γ (xs (x4 + 1).toNatClampNeg) (xs (x4 + 2).toNatClampNeg) (xs (x4 + 3).toNatClampNeg) (xs (x4 + 4).toNatClampNeg) (xs (x4 + 5).toNatClampNeg) σ) gwh_106 rfl d_L_law_542 (n := 545) rfl ⟨by decide, by decide⟩ ⟨(by show c0 + 0 + 4 ≤ 601024; omega), (by show z0 + 0 + 24 ≤ 7293034; omega)⟩ (Nat.le_of_ble_eq_true rfl) rfl rfl (fun r1 u2 => ?_)
  refine g_istore hX [_, _, _, _, _, _, _] d_L_law_545 (n := 547) rfl (by decide) rfl ?_
  refine g_aload_n hX 2 d_L_law_547 (n := 548) rfl rfl rfl ?_
  refine g_aload_n hX 0 d_L_law_548 (n := 549) rfl rfl rfl ?_
  refine g_iload hX d_L_law_549 (n := 551) rfl rfl ?_
  refine g_iconst hX 1 d_L_law_551 (n := 552) rfl k_iconst_1 ?_
  refine g_iadd hX d_L_law_552 (n := 553) rfl ?_
  refine g_sld hX hB d_L_law_553 (n := 554) rfl ?_
  refine g_aload_n hX 0 d_L_law_554 (n := 555) rfl rfl rfl ?_
  refine g_iload hX d_L_law_555 (n := 557) rfl rfl ?_
  refine g_iconst hX 2 d_L_law_557 (n := 558) rfl k_iconst_2 ?_
  refine g_iadd hX d_L_law_558 (n := 559) rfl ?_
  refine g_sld hX hB d_L_law_559 (n := 560) rfl ?_
  refine g_aload_n hX 0 d_L_law_560 (n := 561) rfl rfl rfl ?_
  refine g_iload hX d_L_law_561 (n := 563) rfl rfl ?_
  refine g_iconst hX 3 d_L_law_563 (n := 564) rfl k_iconst_3 ?_
  refine g_iadd hX d_L_law_564 (n := 565) rfl ?_
  refine g_sld hX hB d_L_law_565 (n := 566) rfl ?_
  refine g_aload_n hX 0 d_L_law_566 (n := 567) rfl rfl rfl ?_
  refine g_iload hX d_L_law_567 (n := 569) rfl rfl ?_
  refine g_iconst hX 4 d_L_law_569 (n := 570) rfl k_iconst_4 ?_
  refine g_iadd hX d_L_law_570 (n := 571) rfl ?_
  refine g_sld hX hB d_L_law_571 (n := 572) rfl ?_
  refine g_aload_n hX 0 d_L_law_572 (n := 573) rfl rfl rfl ?_
  refine g_iload hX d_L_law_573 (n := 575) rfl rfl ?_
  refine g_iconst hX 5 d_L_law_575 (n := 576) rfl k_iconst_5 ?_
  refine g_iadd hX d_L_law_576 (n := 577) rfl ?_
  refine g_sld hX hB d_L_law_577 (n := 578) rfl ?_
  refine g_cVi hX [_, _, _, _, _] rfl (c0 + 4) (z0 + 24) (c_M_fill _ Γ (xs (x4 + 1).toNatClampNeg) (xs (x4 + 2).toNatClampNeg) (xs (x4 + 3).toNatClampNeg) (xs (x4 + 4).toNatClampNeg) (xs (x4 + 5).toNatClampNeg) u2) gw_L_109 rfl sh_19 rfl d_L_law_578 (n := 581) rfl ⟨by decide, by decide⟩ ⟨(by show c0 + 4 + 0 ≤ 601024; omega), (by show z0 + 24 + 0 ≤ 7293034; omega)⟩ (Nat.le_of_ble_eq_true rfl) rfl rfl (fun r4 u3 => ?_)
  refine g_istore hX [_, _, _, _, _, _, _] d_L_law_581 (n := 583) rfl (by decide) rfl ?_
  refine g_aload_n hX 2 d_L_law_583 (n := 584) rfl rfl rfl ?_
  refine g_cVi hX [] rfl (c0 + 4) (z0 + 24) (c_M_thrown _ Γ u3) gw_L_88 rfl sh_19 rfl d_L_law_584 (n := 587) rfl ⟨by decide, by decide⟩ ⟨(by show c0 + 4 + 0 ≤ 601024; omega), (by show z0 + 24 + 0 ≤ 7293034; omega)⟩ (Nat.le_of_ble_eq_true rfl) rfl rfl (fun r6 u5 => ?_)
  refine g_iload hX d_L_law_587 (n := 589) rfl rfl ?_
  refine g_icmp_eq hX 594 d_L_law_589 (n := 592) rfl rfl ?_ ?_
  · refine g_iload hX d_L_law_594 (n := 596) rfl rfl ?_
    refine g_if_ne hX 611 d_L_law_596 (n := 599) rfl rfl ?_ ?_
    · exact (g_sub (lw := [some (.ref b), some (.ref (Γ.2.1 0)), some (.ref (Γ.2.1 19)), some (.ref (Γ.2.1 40)), some (.int x4), none, none]) (And.intro rfl (And.intro rfl (And.intro rfl (And.intro rfl (And.intro rfl (True.intro)))))) (m_L_law_611 hX hB hT c0 z0 hc0 hs0 K23 hK23 u5 x4))
    · refine g_aload_n hX 3 d_L_law_599 (n := 600) rfl rfl rfl ?_
      refine g_iconst hX 0 d_L_law_600 (n := 601) rfl k_iconst_0 ?_
      refine g_laldK hX (by decide) d_L_law_601 (n := 602) rfl sh_40 ?_
      refine g_iload hX d_L_law_602 (n := 604) rfl rfl ?_
      refine g_i2l hX d_L_law_604 (n := 605) rfl ?_
      refine g_lcmp hX d_L_law_605 (n := 606) rfl ?_
      refine g_if_eq hX 611 d_L_law_606 (n := 609) rfl rfl ?_ ?_
      · exact (g_sub (lw := [some (.ref b), some (.ref (Γ.2.1 0)), some (.ref (Γ.2.1 19)), some (.ref (Γ.2.1 40)), some (.int x4), none, none]) (And.intro rfl (And.intro rfl (And.intro rfl (And.intro rfl (And.intro rfl (True.intro)))))) (m_L_law_611 hX hB hT c0 z0 hc0 hs0 K23 hK23 u5 x4))
      · exact g_none
  · exact g_none
def f_L_law_614 (xs : Nat → Int32) (L : Nat) (K23 : Mem → Int32 → Option Unit) (σ : Mem) (x4 : Int32) : Option Unit :=
  if gin (x4 + 1) L = true then
    if gin (x4 + 2) L = true then
      if gin (x4 + 3) L = true then
        gb (f_L_pen (xs (x4 + 1).toNatClampNeg) (xs (x4 + 2).toNatClampNeg) (xs (x4 + 3).toNatClampNeg) σ) fun r1 u2 =>
        if gin (x4 + 1) L = true then
          if gin (x4 + 2) L = true then
            if gin (x4 + 3) L = true then
              gbv (f_M_pen (xs (x4 + 1).toNatClampNeg) (xs (x4 + 2).toNatClampNeg) (xs (x4 + 3).toNatClampNeg) u2) fun u3 =>
              gb (f_M_thrown u3) fun r5 u4 =>
              if r5 = r1 then
                f_L_law_1360 xs L K23 u4 x4
              else
                none
            else none
          else none
        else none
      else none
    else none
  else none
set_option maxRecDepth 100000 in
set_option maxHeartbeats 4000000 in
theorem m_L_law_614 {κ : GC} {Γ : GA} {b L : Nat} {xs : Nat → Int32} (hX : Gx κ Γ 7 code "PaneScreenLaw" room_1 ret) (hB : gScr κ Γ b L xs) (hT : κ.2.1.stackTraces = false) (c0 z0 : Nat) (hc0 : c0 + 4 ≤ 601024) (hs0 : z0 + 24 ≤ 7293034) (K23 : Mem → Int32 → Option Unit) (hK23 : ∀ (σ : Mem) (x4 : Int32), GG κ Γ 7 (gQL κ b) (c0 + 4) (z0 + 24) σ [some (.ref b), some (.ref (Γ.2.1 0)), some (.ref (Γ.2.1 19)), some (.ref (Γ.2.1 40)), some (.int x4), none, none] 23 [] (K23 σ x4)) (σ : Mem) (x4 : Int32) : GG κ Γ 7 (gQL κ b) (c0 + 0) (z0 + 0) σ [some (.ref b), some (.ref (Γ.2.1 0)), some (.ref (Γ.2.1 19)), some (.ref (Γ.2.1 40)), some (.int x4), none, none] 614 [] (f_L_law_614 xs L K23 σ x4) := by
  unfold f_L_law_614
  refine g_aload_n hX 1 d_L_law_614 (n := 615) rfl rfl rfl ?_
  refine g_aload_n hX 0 d_L_law_615 (n := 616) rfl rfl rfl ?_
  refine g_iload hX d_L_law_616 (n := 618) rfl rfl ?_
  refine g_iconst hX 1 d_L_law_618 (n := 619) rfl k_iconst_1 ?_
  refine g_iadd hX d_L_law_619 (n := 620) rfl ?_
  refine g_sld hX hB d_L_law_620 (n := 621) rfl ?_
  refine g_aload_n hX 0 d_L_law_621 (n := 622) rfl rfl rfl ?_
  refine g_iload hX d_L_law_622 (n := 624) rfl rfl ?_
  refine g_iconst hX 2 d_L_law_624 (n := 625) rfl k_iconst_2 ?_
  refine g_iadd hX d_L_law_625 (n := 626) rfl ?_
  refine g_sld hX hB d_L_law_626 (n := 627) rfl ?_
  refine g_aload_n hX 0 d_L_law_627 (n := 628) rfl rfl rfl ?_
  refine g_iload hX d_L_law_628 (n := 630) rfl rfl ?_
  refine g_iconst hX 3 d_L_law_630 (n := 631) rfl k_iconst_3 ?_
  refine g_iadd hX d_L_law_631 (n := 632) rfl ?_
  refine g_sld hX hB d_L_law_632 (n := 633) rfl ?_
  refine g_cH hX [_, _, _, _] rfl (c0 + 2) (z0 + 12) (c_L_pen _ hT Γ (xs (x4 + 1).toNatClampNeg) (xs (x4 + 2).toNatClampNeg) (xs (x4 + 3).toNatClampNeg) σ) gwh_110 rfl d_L_law_633 (n := 636) rfl ⟨by decide, by decide⟩ ⟨(by show c0 + 0 + 2 ≤ 601024; omega), (by show z0 + 0 + 12 ≤ 7293034; omega)⟩ (Nat.le_of_ble_eq_true rfl) rfl rfl (fun r1 u2 => ?_)
  refine g_istore hX [_, _, _, _, _, _, _] d_L_law_636 (n := 638) rfl (by decide) rfl ?_
  refine g_aload_n hX 2 d_L_law_638 (n := 639) rfl rfl rfl ?_
  refine g_aload_n hX 0 d_L_law_639 (n := 640) rfl rfl rfl ?_
  refine g_iload hX d_L_law_640 (n := 642) rfl rfl ?_
  refine g_iconst hX 1 d_L_law_642 (n := 643) rfl k_iconst_1 ?_
  refine g_iadd hX d_L_law_643 (n := 644) rfl ?_
  refine g_sld hX hB d_L_law_644 (n := 645) rfl ?_
  refine g_aload_n hX 0 d_L_law_645 (n := 646) rfl rfl rfl ?_
  refine g_iload hX d_L_law_646 (n := 648) rfl rfl ?_
  refine g_iconst hX 2 d_L_law_648 (n := 649) rfl k_iconst_2 ?_
  refine g_iadd hX d_L_law_649 (n := 650) rfl ?_
  refine g_sld hX hB d_L_law_650 (n := 651) rfl ?_
  refine g_aload_n hX 0 d_L_law_651 (n := 652) rfl rfl rfl ?_
  refine g_iload hX d_L_law_652 (n := 654) rfl rfl ?_
  refine g_iconst hX 3 d_L_law_654 (n := 655) rfl k_iconst_3 ?_
  refine g_iadd hX d_L_law_655 (n := 656) rfl ?_
  refine g_sld hX hB d_L_law_656 (n := 657) rfl ?_
  refine g_cVv hX [_, _, _] rfl (c0 + 2) (z0 + 12) (c_M_pen _ Γ (xs (x4 + 1).toNatClampNeg) (xs (x4 + 2).toNatClampNeg) (xs (x4 + 3).toNatClampNeg) u2) gw_L_112 rfl sh_19 rfl d_L_law_657 (n := 660) rfl ⟨by decide, by decide⟩ ⟨(by show c0 + 2 + 0 ≤ 601024; omega), (by show z0 + 12 + 0 ≤ 7293034; omega)⟩ (Nat.le_of_ble_eq_true rfl) rfl rfl (fun u3 => ?_)
  refine g_aload_n hX 2 d_L_law_660 (n := 661) rfl rfl rfl ?_
  refine g_cVi hX [] rfl (c0 + 2) (z0 + 12) (c_M_thrown _ Γ u3) gw_L_88 rfl sh_19 rfl d_L_law_661 (n := 664) rfl ⟨by decide, by decide⟩ ⟨(by show c0 + 2 + 0 ≤ 601024; omega), (by show z0 + 12 + 0 ≤ 7293034; omega)⟩ (Nat.le_of_ble_eq_true rfl) rfl rfl (fun r5 u4 => ?_)
  refine g_iload hX d_L_law_664 (n := 666) rfl rfl ?_
  refine g_icmp_eq hX 671 d_L_law_666 (n := 669) rfl rfl ?_ ?_
  · refine g_goto hX 1360 d_L_law_671 rfl ?_
    exact (g_widen (c1 := c0 + 4) (s1 := z0 + 24) (by omega) (by omega) (g_sub (lw := [some (.ref b), some (.ref (Γ.2.1 0)), some (.ref (Γ.2.1 19)), some (.ref (Γ.2.1 40)), some (.int x4), none, none]) (And.intro rfl (And.intro rfl (And.intro rfl (And.intro rfl (And.intro rfl (True.intro)))))) (m_L_law_1360 hX hB hT c0 z0 hc0 hs0 K23 hK23 u4 x4)))
  · exact g_none
def f_L_law_763 (xs : Nat → Int32) (L : Nat) (K23 : Mem → Int32 → Option Unit) (σ : Mem) (x4 : Int32) : Option Unit :=
  f_L_law_1360 xs L K23 σ x4
set_option maxRecDepth 100000 in
set_option maxHeartbeats 4000000 in
theorem m_L_law_763 {κ : GC} {Γ : GA} {b L : Nat} {xs : Nat → Int32} (hX : Gx κ Γ 7 code "PaneScreenLaw" room_1 ret) (hB : gScr κ Γ b L xs) (hT : κ.2.1.stackTraces = false) (c0 z0 : Nat) (hc0 : c0 + 4 ≤ 601024) (hs0 : z0 + 24 ≤ 7293034) (K23 : Mem → Int32 → Option Unit) (hK23 : ∀ (σ : Mem) (x4 : Int32), GG κ Γ 7 (gQL κ b) (c0 + 4) (z0 + 24) σ [some (.ref b), some (.ref (Γ.2.1 0)), some (.ref (Γ.2.1 19)), some (.ref (Γ.2.1 40)), some (.int x4), none, none] 23 [] (K23 σ x4)) (σ : Mem) (x4 : Int32) : GG κ Γ 7 (gQL κ b) (c0 + 3) (z0 + 18) σ [some (.ref b), some (.ref (Γ.2.1 0)), some (.ref (Γ.2.1 19)), some (.ref (Γ.2.1 40)), some (.int x4), none, none] 763 [] (f_L_law_763 xs L K23 σ x4) := by
  unfold f_L_law_763
  refine g_goto hX 1360 d_L_law_763 rfl ?_
  exact (g_widen (c1 := c0 + 4) (s1 := z0 + 24) (by omega) (by omega) (m_L_law_1360 hX hB hT c0 z0 hc0 hs0 K23 hK23 σ x4))
def f_L_law_674 (xs : Nat → Int32) (L : Nat) (K23 : Mem → Int32 → Option Unit) (σ : Mem) (x4 : Int32) : Option Unit :=
  if gin (x4 + 1) L = true then
    if gin (x4 + 2) L = true then
      if gin (x4 + 3) L = true then
        if gin (x4 + 4) L = true then
          gb (f_L_line (xs (x4 + 1).toNatClampNeg) (xs (x4 + 2).toNatClampNeg) (xs (x4 + 3).toNatClampNeg) (xs (x4 + 4).toNatClampNeg) σ) fun r1 u2 =>
          if gin (x4 + 1) L = true then
            if gin (x4 + 2) L = true then
              if gin (x4 + 3) L = true then
                if gin (x4 + 4) L = true then
                  gb (f_M_line (xs (x4 + 1).toNatClampNeg) (xs (x4 + 2).toNatClampNeg) (xs (x4 + 3).toNatClampNeg) (xs (x4 + 4).toNatClampNeg) u2) fun r4 u3 =>
                  gb (f_M_thrown u3) fun r6 u5 =>
                  if r6 = r1 then
                    if r1 = 0 then
                      if (lg_cmp ((u5 40 (0 : Int32).toNatClampNeg) : Int32).toInt64 (r4 : Int32).toInt64) = 0 then
                        f_L_law_763 xs L K23 u5 x4
                      else
                        none
                    else
                      f_L_law_763 xs L K23 u5 x4
                  else
                    none
                else none
              else none
            else none
          else none
        else none
      else none
    else none
  else none
set_option maxRecDepth 100000 in
set_option maxHeartbeats 4000000 in
theorem m_L_law_674 {κ : GC} {Γ : GA} {b L : Nat} {xs : Nat → Int32} (hX : Gx κ Γ 7 code "PaneScreenLaw" room_1 ret) (hB : gScr κ Γ b L xs) (hT : κ.2.1.stackTraces = false) (c0 z0 : Nat) (hc0 : c0 + 4 ≤ 601024) (hs0 : z0 + 24 ≤ 7293034) (K23 : Mem → Int32 → Option Unit) (hK23 : ∀ (σ : Mem) (x4 : Int32), GG κ Γ 7 (gQL κ b) (c0 + 4) (z0 + 24) σ [some (.ref b), some (.ref (Γ.2.1 0)), some (.ref (Γ.2.1 19)), some (.ref (Γ.2.1 40)), some (.int x4), none, none] 23 [] (K23 σ x4)) (σ : Mem) (x4 : Int32) : GG κ Γ 7 (gQL κ b) (c0 + 0) (z0 + 0) σ [some (.ref b), some (.ref (Γ.2.1 0)), some (.ref (Γ.2.1 19)), some (.ref (Γ.2.1 40)), some (.int x4), none, none] 674 [] (f_L_law_674 xs L K23 σ x4) := by
  unfold f_L_law_674
  refine g_aload_n hX 1 d_L_law_674 (n := 675) rfl rfl rfl ?_
  refine g_aload_n hX 0 d_L_law_675 (n := 676) rfl rfl rfl ?_
  refine g_iload hX d_L_law_676 (n := 678) rfl rfl ?_
  refine g_iconst hX 1 d_L_law_678 (n := 679) rfl k_iconst_1 ?_
  refine g_iadd hX d_L_law_679 (n := 680) rfl ?_
  refine g_sld hX hB d_L_law_680 (n := 681) rfl ?_
  refine g_aload_n hX 0 d_L_law_681 (n := 682) rfl rfl rfl ?_
  refine g_iload hX d_L_law_682 (n := 684) rfl rfl ?_
  refine g_iconst hX 2 d_L_law_684 (n := 685) rfl k_iconst_2 ?_
  refine g_iadd hX d_L_law_685 (n := 686) rfl ?_
  refine g_sld hX hB d_L_law_686 (n := 687) rfl ?_
  refine g_aload_n hX 0 d_L_law_687 (n := 688) rfl rfl rfl ?_
  refine g_iload hX d_L_law_688 (n := 690) rfl rfl ?_
  refine g_iconst hX 3 d_L_law_690 (n := 691) rfl k_iconst_3 ?_
  refine g_iadd hX d_L_law_691 (n := 692) rfl ?_
  refine g_sld hX hB d_L_law_692 (n := 693) rfl ?_
  refine g_aload_n hX 0 d_L_law_693 (n := 694) rfl rfl rfl ?_
  refine g_iload hX d_L_law_694 (n := 696) rfl rfl ?_
  refine g_iconst hX 4 d_L_law_696 (n := 697) rfl k_iconst_4 ?_
  refine g_iadd hX d_L_law_697 (n := 698) rfl ?_
  refine g_sld hX hB d_L_law_698 (n := 699) rfl ?_
  refine g_aload_n hX 3 d_L_law_699 (n := 700) rfl rfl rfl ?_
  refine g_cH hX [_, _, _, _, _, _] rfl (c0 + 3) (z0 + 18) (c_L_line _ hT Γ (xs (x4 + 1).toNatClampNeg) (xs (x4 + 2).toNatClampNeg) (xs (x4 + 3).toNatClampNeg) (xs (x4 + 4).toNatClampNeg) σ) gwh_113 rfl d_L_law_700 (n := 703) rfl ⟨by decide, by decide⟩ ⟨(by show c0 + 0 + 3 ≤ 601024; omega), (by show z0 + 0 + 18 ≤ 7293034; omega)⟩ (Nat.le_of_ble_eq_true rfl) rfl rfl (fun r1 u2 => ?_)
  refine g_istore hX [_, _, _, _, _, _, _] d_L_law_703 (n := 705) rfl (by decide) rfl ?_
  refine g_aload_n hX 2 d_L_law_705 (n := 706) rfl rfl rfl ?_
  refine g_aload_n hX 0 d_L_law_706 (n := 707) rfl rfl rfl ?_
  refine g_iload hX d_L_law_707 (n := 709) rfl rfl ?_
  refine g_iconst hX 1 d_L_law_709 (n := 710) rfl k_iconst_1 ?_
  refine g_iadd hX d_L_law_710 (n := 711) rfl ?_
  refine g_sld hX hB d_L_law_711 (n := 712) rfl ?_
  refine g_aload_n hX 0 d_L_law_712 (n := 713) rfl rfl rfl ?_
  refine g_iload hX d_L_law_713 (n := 715) rfl rfl ?_
  refine g_iconst hX 2 d_L_law_715 (n := 716) rfl k_iconst_2 ?_
  refine g_iadd hX d_L_law_716 (n := 717) rfl ?_
  refine g_sld hX hB d_L_law_717 (n := 718) rfl ?_
  refine g_aload_n hX 0 d_L_law_718 (n := 719) rfl rfl rfl ?_
  refine g_iload hX d_L_law_719 (n := 721) rfl rfl ?_
  refine g_iconst hX 3 d_L_law_721 (n := 722) rfl k_iconst_3 ?_
  refine g_iadd hX d_L_law_722 (n := 723) rfl ?_
  refine g_sld hX hB d_L_law_723 (n := 724) rfl ?_
  refine g_aload_n hX 0 d_L_law_724 (n := 725) rfl rfl rfl ?_
  refine g_iload hX d_L_law_725 (n := 727) rfl rfl ?_
  refine g_iconst hX 4 d_L_law_727 (n := 728) rfl k_iconst_4 ?_
  refine g_iadd hX d_L_law_728 (n := 729) rfl ?_
  refine g_sld hX hB d_L_law_729 (n := 730) rfl ?_
  refine g_cVi hX [_, _, _, _] rfl (c0 + 3) (z0 + 18) (c_M_line _ Γ (xs (x4 + 1).toNatClampNeg) (xs (x4 + 2).toNatClampNeg) (xs (x4 + 3).toNatClampNeg) (xs (x4 + 4).toNatClampNeg) u2) gw_L_115 rfl sh_19 rfl d_L_law_730 (n := 733) rfl ⟨by decide, by decide⟩ ⟨(by show c0 + 3 + 0 ≤ 601024; omega), (by show z0 + 18 + 0 ≤ 7293034; omega)⟩ (Nat.le_of_ble_eq_true rfl) rfl rfl (fun r4 u3 => ?_)
  refine g_istore hX [_, _, _, _, _, _, _] d_L_law_733 (n := 735) rfl (by decide) rfl ?_
  refine g_aload_n hX 2 d_L_law_735 (n := 736) rfl rfl rfl ?_
  refine g_cVi hX [] rfl (c0 + 3) (z0 + 18) (c_M_thrown _ Γ u3) gw_L_88 rfl sh_19 rfl d_L_law_736 (n := 739) rfl ⟨by decide, by decide⟩ ⟨(by show c0 + 3 + 0 ≤ 601024; omega), (by show z0 + 18 + 0 ≤ 7293034; omega)⟩ (Nat.le_of_ble_eq_true rfl) rfl rfl (fun r6 u5 => ?_)
  refine g_iload hX d_L_law_739 (n := 741) rfl rfl ?_
  refine g_icmp_eq hX 746 d_L_law_741 (n := 744) rfl rfl ?_ ?_
  · refine g_iload hX d_L_law_746 (n := 748) rfl rfl ?_
    refine g_if_ne hX 763 d_L_law_748 (n := 751) rfl rfl ?_ ?_
    · exact (g_sub (lw := [some (.ref b), some (.ref (Γ.2.1 0)), some (.ref (Γ.2.1 19)), some (.ref (Γ.2.1 40)), some (.int x4), none, none]) (And.intro rfl (And.intro rfl (And.intro rfl (And.intro rfl (And.intro rfl (True.intro)))))) (m_L_law_763 hX hB hT c0 z0 hc0 hs0 K23 hK23 u5 x4))
    · refine g_aload_n hX 3 d_L_law_751 (n := 752) rfl rfl rfl ?_
      refine g_iconst hX 0 d_L_law_752 (n := 753) rfl k_iconst_0 ?_
      refine g_laldK hX (by decide) d_L_law_753 (n := 754) rfl sh_40 ?_
      refine g_iload hX d_L_law_754 (n := 756) rfl rfl ?_
      refine g_i2l hX d_L_law_756 (n := 757) rfl ?_
      refine g_lcmp hX d_L_law_757 (n := 758) rfl ?_
      refine g_if_eq hX 763 d_L_law_758 (n := 761) rfl rfl ?_ ?_
      · exact (g_sub (lw := [some (.ref b), some (.ref (Γ.2.1 0)), some (.ref (Γ.2.1 19)), some (.ref (Γ.2.1 40)), some (.int x4), none, none]) (And.intro rfl (And.intro rfl (And.intro rfl (And.intro rfl (And.intro rfl (True.intro)))))) (m_L_law_763 hX hB hT c0 z0 hc0 hs0 K23 hK23 u5 x4))
      · exact g_none
  · exact g_none
def f_L_law_766 (xs : Nat → Int32) (L : Nat) (K23 : Mem → Int32 → Option Unit) (σ : Mem) (x4 : Int32) : Option Unit :=
  if gin (x4 + 1) L = true then
    if gin (x4 + 2) L = true then
      if gin (x4 + 3) L = true then
        gb (f_L_scroll (xs (x4 + 1).toNatClampNeg) (xs (x4 + 2).toNatClampNeg) (xs (x4 + 3).toNatClampNeg) σ) fun r1 u2 =>
        if gin (x4 + 1) L = true then
          if gin (x4 + 2) L = true then
            if gin (x4 + 3) L = true then
              gbv (f_M_scroll (xs (x4 + 1).toNatClampNeg) (xs (x4 + 2).toNatClampNeg) (xs (x4 + 3).toNatClampNeg) u2) fun u3 =>
              gb (f_M_thrown u3) fun r5 u4 =>
              if r5 = r1 then
                f_L_law_1360 xs L K23 u4 x4
              else
                none
            else none
          else none
        else none
      else none
    else none
  else none
set_option maxRecDepth 100000 in
set_option maxHeartbeats 4000000 in
theorem m_L_law_766 {κ : GC} {Γ : GA} {b L : Nat} {xs : Nat → Int32} (hX : Gx κ Γ 7 code "PaneScreenLaw" room_1 ret) (hB : gScr κ Γ b L xs) (hT : κ.2.1.stackTraces = false) (c0 z0 : Nat) (hc0 : c0 + 4 ≤ 601024) (hs0 : z0 + 24 ≤ 7293034) (K23 : Mem → Int32 → Option Unit) (hK23 : ∀ (σ : Mem) (x4 : Int32), GG κ Γ 7 (gQL κ b) (c0 + 4) (z0 + 24) σ [some (.ref b), some (.ref (Γ.2.1 0)), some (.ref (Γ.2.1 19)), some (.ref (Γ.2.1 40)), some (.int x4), none, none] 23 [] (K23 σ x4)) (σ : Mem) (x4 : Int32) : GG κ Γ 7 (gQL κ b) (c0 + 0) (z0 + 0) σ [some (.ref b), some (.ref (Γ.2.1 0)), some (.ref (Γ.2.1 19)), some (.ref (Γ.2.1 40)), some (.int x4), none, none] 766 [] (f_L_law_766 xs L K23 σ x4) := by
  unfold f_L_law_766
  refine g_aload_n hX 1 d_L_law_766 (n := 767) rfl rfl rfl ?_
  refine g_aload_n hX 0 d_L_law_767 (n := 768) rfl rfl rfl ?_
  refine g_iload hX d_L_law_768 (n := 770) rfl rfl ?_
  refine g_iconst hX 1 d_L_law_770 (n := 771) rfl k_iconst_1 ?_
  refine g_iadd hX d_L_law_771 (n := 772) rfl ?_
  refine g_sld hX hB d_L_law_772 (n := 773) rfl ?_
  refine g_aload_n hX 0 d_L_law_773 (n := 774) rfl rfl rfl ?_
  refine g_iload hX d_L_law_774 (n := 776) rfl rfl ?_
  refine g_iconst hX 2 d_L_law_776 (n := 777) rfl k_iconst_2 ?_
  refine g_iadd hX d_L_law_777 (n := 778) rfl ?_
  refine g_sld hX hB d_L_law_778 (n := 779) rfl ?_
  refine g_aload_n hX 0 d_L_law_779 (n := 780) rfl rfl rfl ?_
  refine g_iload hX d_L_law_780 (n := 782) rfl rfl ?_
  refine g_iconst hX 3 d_L_law_782 (n := 783) rfl k_iconst_3 ?_
  refine g_iadd hX d_L_law_783 (n := 784) rfl ?_
  refine g_sld hX hB d_L_law_784 (n := 785) rfl ?_
  refine g_cH hX [_, _, _, _] rfl (c0 + 2) (z0 + 12) (c_L_scroll _ hT Γ (xs (x4 + 1).toNatClampNeg) (xs (x4 + 2).toNatClampNeg) (xs (x4 + 3).toNatClampNeg) σ) gwh_116 rfl d_L_law_785 (n := 788) rfl ⟨by decide, by decide⟩ ⟨(by show c0 + 0 + 2 ≤ 601024; omega), (by show z0 + 0 + 12 ≤ 7293034; omega)⟩ (Nat.le_of_ble_eq_true rfl) rfl rfl (fun r1 u2 => ?_)
  refine g_istore hX [_, _, _, _, _, _, _] d_L_law_788 (n := 790) rfl (by decide) rfl ?_
  refine g_aload_n hX 2 d_L_law_790 (n := 791) rfl rfl rfl ?_
  refine g_aload_n hX 0 d_L_law_791 (n := 792) rfl rfl rfl ?_
  refine g_iload hX d_L_law_792 (n := 794) rfl rfl ?_
  refine g_iconst hX 1 d_L_law_794 (n := 795) rfl k_iconst_1 ?_
  refine g_iadd hX d_L_law_795 (n := 796) rfl ?_
  refine g_sld hX hB d_L_law_796 (n := 797) rfl ?_
  refine g_aload_n hX 0 d_L_law_797 (n := 798) rfl rfl rfl ?_
  refine g_iload hX d_L_law_798 (n := 800) rfl rfl ?_
  refine g_iconst hX 2 d_L_law_800 (n := 801) rfl k_iconst_2 ?_
  refine g_iadd hX d_L_law_801 (n := 802) rfl ?_
  refine g_sld hX hB d_L_law_802 (n := 803) rfl ?_
  refine g_aload_n hX 0 d_L_law_803 (n := 804) rfl rfl rfl ?_
  refine g_iload hX d_L_law_804 (n := 806) rfl rfl ?_
  refine g_iconst hX 3 d_L_law_806 (n := 807) rfl k_iconst_3 ?_
  refine g_iadd hX d_L_law_807 (n := 808) rfl ?_
  refine g_sld hX hB d_L_law_808 (n := 809) rfl ?_
  refine g_cVv hX [_, _, _] rfl (c0 + 2) (z0 + 12) (c_M_scroll _ Γ (xs (x4 + 1).toNatClampNeg) (xs (x4 + 2).toNatClampNeg) (xs (x4 + 3).toNatClampNeg) u2) gw_L_118 rfl sh_19 rfl d_L_law_809 (n := 812) rfl ⟨by decide, by decide⟩ ⟨(by show c0 + 2 + 0 ≤ 601024; omega), (by show z0 + 12 + 0 ≤ 7293034; omega)⟩ (Nat.le_of_ble_eq_true rfl) rfl rfl (fun u3 => ?_)
  refine g_aload_n hX 2 d_L_law_812 (n := 813) rfl rfl rfl ?_
  refine g_cVi hX [] rfl (c0 + 2) (z0 + 12) (c_M_thrown _ Γ u3) gw_L_88 rfl sh_19 rfl d_L_law_813 (n := 816) rfl ⟨by decide, by decide⟩ ⟨(by show c0 + 2 + 0 ≤ 601024; omega), (by show z0 + 12 + 0 ≤ 7293034; omega)⟩ (Nat.le_of_ble_eq_true rfl) rfl rfl (fun r5 u4 => ?_)
  refine g_iload hX d_L_law_816 (n := 818) rfl rfl ?_
  refine g_icmp_eq hX 823 d_L_law_818 (n := 821) rfl rfl ?_ ?_
  · refine g_goto hX 1360 d_L_law_823 rfl ?_
    exact (g_widen (c1 := c0 + 4) (s1 := z0 + 24) (by omega) (by omega) (g_sub (lw := [some (.ref b), some (.ref (Γ.2.1 0)), some (.ref (Γ.2.1 19)), some (.ref (Γ.2.1 40)), some (.int x4), none, none]) (And.intro rfl (And.intro rfl (And.intro rfl (And.intro rfl (And.intro rfl (True.intro)))))) (m_L_law_1360 hX hB hT c0 z0 hc0 hs0 K23 hK23 u4 x4)))
  · exact g_none
def f_L_law_826 (xs : Nat → Int32) (L : Nat) (K23 : Mem → Int32 → Option Unit) (σ : Mem) (x4 : Int32) : Option Unit :=
  gb (f_S_flush σ) fun r2 u1 =>
  gb (f_M_flush u1) fun r4 u3 =>
  if r2 = r4 then
    f_L_law_1360 xs L K23 u3 x4
  else
    none
set_option maxRecDepth 100000 in
set_option maxHeartbeats 4000000 in
theorem m_L_law_826 {κ : GC} {Γ : GA} {b L : Nat} {xs : Nat → Int32} (hX : Gx κ Γ 7 code "PaneScreenLaw" room_1 ret) (hB : gScr κ Γ b L xs) (hT : κ.2.1.stackTraces = false) (c0 z0 : Nat) (hc0 : c0 + 4 ≤ 601024) (hs0 : z0 + 24 ≤ 7293034) (K23 : Mem → Int32 → Option Unit) (hK23 : ∀ (σ : Mem) (x4 : Int32), GG κ Γ 7 (gQL κ b) (c0 + 4) (z0 + 24) σ [some (.ref b), some (.ref (Γ.2.1 0)), some (.ref (Γ.2.1 19)), some (.ref (Γ.2.1 40)), some (.int x4), none, none] 23 [] (K23 σ x4)) (σ : Mem) (x4 : Int32) : GG κ Γ 7 (gQL κ b) (c0 + 0) (z0 + 0) σ [some (.ref b), some (.ref (Γ.2.1 0)), some (.ref (Γ.2.1 19)), some (.ref (Γ.2.1 40)), some (.int x4), none, none] 826 [] (f_L_law_826 xs L K23 σ x4) := by
  unfold f_L_law_826
  refine g_aload_n hX 1 d_L_law_826 (n := 827) rfl rfl rfl ?_
  refine g_cVi hX [] rfl (c0 + 0) (z0 + 0) (c_S_flush _ Γ σ) gw_L_119 rfl sh_0 rfl d_L_law_827 (n := 830) rfl ⟨by decide, by decide⟩ ⟨(by show c0 + 0 + 0 ≤ 601024; omega), (by show z0 + 0 + 0 ≤ 7293034; omega)⟩ (Nat.le_of_ble_eq_true rfl) rfl rfl (fun r2 u1 => ?_)
  refine g_aload_n hX 2 d_L_law_830 (n := 831) rfl rfl rfl ?_
  refine g_cVi hX [] rfl (c0 + 0) (z0 + 0) (c_M_flush _ Γ u1) gw_L_122 rfl sh_19 rfl d_L_law_831 (n := 834) rfl ⟨by decide, by decide⟩ ⟨(by show c0 + 0 + 0 ≤ 601024; omega), (by show z0 + 0 + 0 ≤ 7293034; omega)⟩ (Nat.le_of_ble_eq_true rfl) rfl rfl (fun r4 u3 => ?_)
  refine g_icmp_eq hX 1360 d_L_law_834 (n := 837) rfl rfl ?_ ?_
  · exact (g_widen (c1 := c0 + 4) (s1 := z0 + 24) (by omega) (by omega) (m_L_law_1360 hX hB hT c0 z0 hc0 hs0 K23 hK23 u3 x4))
  · exact g_none
def f_L_law_904 (xs : Nat → Int32) (L : Nat) (K23 : Mem → Int32 → Option Unit) (σ : Mem) (x4 : Int32) : Option Unit :=
  f_L_law_1360 xs L K23 σ x4
set_option maxRecDepth 100000 in
set_option maxHeartbeats 4000000 in
theorem m_L_law_904 {κ : GC} {Γ : GA} {b L : Nat} {xs : Nat → Int32} (hX : Gx κ Γ 7 code "PaneScreenLaw" room_1 ret) (hB : gScr κ Γ b L xs) (hT : κ.2.1.stackTraces = false) (c0 z0 : Nat) (hc0 : c0 + 4 ≤ 601024) (hs0 : z0 + 24 ≤ 7293034) (K23 : Mem → Int32 → Option Unit) (hK23 : ∀ (σ : Mem) (x4 : Int32), GG κ Γ 7 (gQL κ b) (c0 + 4) (z0 + 24) σ [some (.ref b), some (.ref (Γ.2.1 0)), some (.ref (Γ.2.1 19)), some (.ref (Γ.2.1 40)), some (.int x4), none, none] 23 [] (K23 σ x4)) (σ : Mem) (x4 : Int32) : GG κ Γ 7 (gQL κ b) (c0 + 1) (z0 + 6) σ [some (.ref b), some (.ref (Γ.2.1 0)), some (.ref (Γ.2.1 19)), some (.ref (Γ.2.1 40)), some (.int x4), none, none] 904 [] (f_L_law_904 xs L K23 σ x4) := by
  unfold f_L_law_904
  refine g_goto hX 1360 d_L_law_904 rfl ?_
  exact (g_widen (c1 := c0 + 4) (s1 := z0 + 24) (by omega) (by omega) (m_L_law_1360 hX hB hT c0 z0 hc0 hs0 K23 hK23 σ x4))
def f_L_law_839 (xs : Nat → Int32) (L : Nat) (K23 : Mem → Int32 → Option Unit) (σ : Mem) (x4 : Int32) : Option Unit :=
  if gin (x4 + 1) L = true then
    if gin (x4 + 2) L = true then
      gb (f_L_screen (xs (x4 + 1).toNatClampNeg) (xs (x4 + 2).toNatClampNeg) σ) fun r1 u2 =>
      if gin (x4 + 1) L = true then
        if gin (x4 + 2) L = true then
          gb (f_M_screen (xs (x4 + 1).toNatClampNeg) (xs (x4 + 2).toNatClampNeg) u2) fun r4 u3 =>
          gb (f_M_thrown u3) fun r6 u5 =>
          if r6 = r1 then
            if r1 = 0 then
              if (lg_cmp ((u5 40 (0 : Int32).toNatClampNeg) : Int32).toInt64 (r4 : Int32).toInt64) = 0 then
                f_L_law_904 xs L K23 u5 x4
              else
                none
            else
              f_L_law_904 xs L K23 u5 x4
          else
            none
        else none
      else none
    else none
  else none
set_option maxRecDepth 100000 in
set_option maxHeartbeats 4000000 in
theorem m_L_law_839 {κ : GC} {Γ : GA} {b L : Nat} {xs : Nat → Int32} (hX : Gx κ Γ 7 code "PaneScreenLaw" room_1 ret) (hB : gScr κ Γ b L xs) (hT : κ.2.1.stackTraces = false) (c0 z0 : Nat) (hc0 : c0 + 4 ≤ 601024) (hs0 : z0 + 24 ≤ 7293034) (K23 : Mem → Int32 → Option Unit) (hK23 : ∀ (σ : Mem) (x4 : Int32), GG κ Γ 7 (gQL κ b) (c0 + 4) (z0 + 24) σ [some (.ref b), some (.ref (Γ.2.1 0)), some (.ref (Γ.2.1 19)), some (.ref (Γ.2.1 40)), some (.int x4), none, none] 23 [] (K23 σ x4)) (σ : Mem) (x4 : Int32) : GG κ Γ 7 (gQL κ b) (c0 + 0) (z0 + 0) σ [some (.ref b), some (.ref (Γ.2.1 0)), some (.ref (Γ.2.1 19)), some (.ref (Γ.2.1 40)), some (.int x4), none, none] 839 [] (f_L_law_839 xs L K23 σ x4) := by
  unfold f_L_law_839
  refine g_aload_n hX 1 d_L_law_839 (n := 840) rfl rfl rfl ?_
  refine g_aload_n hX 0 d_L_law_840 (n := 841) rfl rfl rfl ?_
  refine g_iload hX d_L_law_841 (n := 843) rfl rfl ?_
  refine g_iconst hX 1 d_L_law_843 (n := 844) rfl k_iconst_1 ?_
  refine g_iadd hX d_L_law_844 (n := 845) rfl ?_
  refine g_sld hX hB d_L_law_845 (n := 846) rfl ?_
  refine g_aload_n hX 0 d_L_law_846 (n := 847) rfl rfl rfl ?_
  refine g_iload hX d_L_law_847 (n := 849) rfl rfl ?_
  refine g_iconst hX 2 d_L_law_849 (n := 850) rfl k_iconst_2 ?_
  refine g_iadd hX d_L_law_850 (n := 851) rfl ?_
  refine g_sld hX hB d_L_law_851 (n := 852) rfl ?_
  refine g_aload_n hX 3 d_L_law_852 (n := 853) rfl rfl rfl ?_
  refine g_cH hX [_, _, _, _] rfl (c0 + 1) (z0 + 6) (c_L_screen _ hT Γ (xs (x4 + 1).toNatClampNeg) (xs (x4 + 2).toNatClampNeg) σ) gwh_123 rfl d_L_law_853 (n := 856) rfl ⟨by decide, by decide⟩ ⟨(by show c0 + 0 + 1 ≤ 601024; omega), (by show z0 + 0 + 6 ≤ 7293034; omega)⟩ (Nat.le_of_ble_eq_true rfl) rfl rfl (fun r1 u2 => ?_)
  refine g_istore hX [_, _, _, _, _, _, _] d_L_law_856 (n := 858) rfl (by decide) rfl ?_
  refine g_aload_n hX 2 d_L_law_858 (n := 859) rfl rfl rfl ?_
  refine g_aload_n hX 0 d_L_law_859 (n := 860) rfl rfl rfl ?_
  refine g_iload hX d_L_law_860 (n := 862) rfl rfl ?_
  refine g_iconst hX 1 d_L_law_862 (n := 863) rfl k_iconst_1 ?_
  refine g_iadd hX d_L_law_863 (n := 864) rfl ?_
  refine g_sld hX hB d_L_law_864 (n := 865) rfl ?_
  refine g_aload_n hX 0 d_L_law_865 (n := 866) rfl rfl rfl ?_
  refine g_iload hX d_L_law_866 (n := 868) rfl rfl ?_
  refine g_iconst hX 2 d_L_law_868 (n := 869) rfl k_iconst_2 ?_
  refine g_iadd hX d_L_law_869 (n := 870) rfl ?_
  refine g_sld hX hB d_L_law_870 (n := 871) rfl ?_
  refine g_cVi hX [_, _] rfl (c0 + 1) (z0 + 6) (c_M_screen _ Γ (xs (x4 + 1).toNatClampNeg) (xs (x4 + 2).toNatClampNeg) u2) gw_L_126 rfl sh_19 rfl d_L_law_871 (n := 874) rfl ⟨by decide, by decide⟩ ⟨(by show c0 + 1 + 0 ≤ 601024; omega), (by show z0 + 6 + 0 ≤ 7293034; omega)⟩ (Nat.le_of_ble_eq_true rfl) rfl rfl (fun r4 u3 => ?_)
  refine g_istore hX [_, _, _, _, _, _, _] d_L_law_874 (n := 876) rfl (by decide) rfl ?_
  refine g_aload_n hX 2 d_L_law_876 (n := 877) rfl rfl rfl ?_
  refine g_cVi hX [] rfl (c0 + 1) (z0 + 6) (c_M_thrown _ Γ u3) gw_L_88 rfl sh_19 rfl d_L_law_877 (n := 880) rfl ⟨by decide, by decide⟩ ⟨(by show c0 + 1 + 0 ≤ 601024; omega), (by show z0 + 6 + 0 ≤ 7293034; omega)⟩ (Nat.le_of_ble_eq_true rfl) rfl rfl (fun r6 u5 => ?_)
  refine g_iload hX d_L_law_880 (n := 882) rfl rfl ?_
  refine g_icmp_eq hX 887 d_L_law_882 (n := 885) rfl rfl ?_ ?_
  · refine g_iload hX d_L_law_887 (n := 889) rfl rfl ?_
    refine g_if_ne hX 904 d_L_law_889 (n := 892) rfl rfl ?_ ?_
    · exact (g_sub (lw := [some (.ref b), some (.ref (Γ.2.1 0)), some (.ref (Γ.2.1 19)), some (.ref (Γ.2.1 40)), some (.int x4), none, none]) (And.intro rfl (And.intro rfl (And.intro rfl (And.intro rfl (And.intro rfl (True.intro)))))) (m_L_law_904 hX hB hT c0 z0 hc0 hs0 K23 hK23 u5 x4))
    · refine g_aload_n hX 3 d_L_law_892 (n := 893) rfl rfl rfl ?_
      refine g_iconst hX 0 d_L_law_893 (n := 894) rfl k_iconst_0 ?_
      refine g_laldK hX (by decide) d_L_law_894 (n := 895) rfl sh_40 ?_
      refine g_iload hX d_L_law_895 (n := 897) rfl rfl ?_
      refine g_i2l hX d_L_law_897 (n := 898) rfl ?_
      refine g_lcmp hX d_L_law_898 (n := 899) rfl ?_
      refine g_if_eq hX 904 d_L_law_899 (n := 902) rfl rfl ?_ ?_
      · exact (g_sub (lw := [some (.ref b), some (.ref (Γ.2.1 0)), some (.ref (Γ.2.1 19)), some (.ref (Γ.2.1 40)), some (.int x4), none, none]) (And.intro rfl (And.intro rfl (And.intro rfl (And.intro rfl (And.intro rfl (True.intro)))))) (m_L_law_904 hX hB hT c0 z0 hc0 hs0 K23 hK23 u5 x4))
      · exact g_none
  · exact g_none
def f_L_law_984 (xs : Nat → Int32) (L : Nat) (K23 : Mem → Int32 → Option Unit) (σ : Mem) (x4 : Int32) : Option Unit :=
  f_L_law_1360 xs L K23 σ x4
set_option maxRecDepth 100000 in
set_option maxHeartbeats 4000000 in
theorem m_L_law_984 {κ : GC} {Γ : GA} {b L : Nat} {xs : Nat → Int32} (hX : Gx κ Γ 7 code "PaneScreenLaw" room_1 ret) (hB : gScr κ Γ b L xs) (hT : κ.2.1.stackTraces = false) (c0 z0 : Nat) (hc0 : c0 + 4 ≤ 601024) (hs0 : z0 + 24 ≤ 7293034) (K23 : Mem → Int32 → Option Unit) (hK23 : ∀ (σ : Mem) (x4 : Int32), GG κ Γ 7 (gQL κ b) (c0 + 4) (z0 + 24) σ [some (.ref b), some (.ref (Γ.2.1 0)), some (.ref (Γ.2.1 19)), some (.ref (Γ.2.1 40)), some (.int x4), none, none] 23 [] (K23 σ x4)) (σ : Mem) (x4 : Int32) : GG κ Γ 7 (gQL κ b) (c0 + 2) (z0 + 12) σ [some (.ref b), some (.ref (Γ.2.1 0)), some (.ref (Γ.2.1 19)), some (.ref (Γ.2.1 40)), some (.int x4), none, none] 984 [] (f_L_law_984 xs L K23 σ x4) := by
  unfold f_L_law_984
  refine g_goto hX 1360 d_L_law_984 rfl ?_
  exact (g_widen (c1 := c0 + 4) (s1 := z0 + 24) (by omega) (by omega) (m_L_law_1360 hX hB hT c0 z0 hc0 hs0 K23 hK23 σ x4))
def f_L_law_907 (xs : Nat → Int32) (L : Nat) (K23 : Mem → Int32 → Option Unit) (σ : Mem) (x4 : Int32) : Option Unit :=
  if gin (x4 + 1) L = true then
    if gin (x4 + 2) L = true then
      if gin (x4 + 3) L = true then
        gb (f_L_picture (xs (x4 + 1).toNatClampNeg) (xs (x4 + 2).toNatClampNeg) (xs (x4 + 3).toNatClampNeg) σ) fun r1 u2 =>
        if gin (x4 + 1) L = true then
          if gin (x4 + 2) L = true then
            if gin (x4 + 3) L = true then
              gb (f_M_picture (xs (x4 + 1).toNatClampNeg) (xs (x4 + 2).toNatClampNeg) (xs (x4 + 3).toNatClampNeg) u2) fun r4 u3 =>
              gb (f_M_thrown u3) fun r6 u5 =>
              if r6 = r1 then
                if r1 = 0 then
                  if (lg_cmp ((u5 40 (0 : Int32).toNatClampNeg) : Int32).toInt64 (r4 : Int32).toInt64) = 0 then
                    f_L_law_984 xs L K23 u5 x4
                  else
                    none
                else
                  f_L_law_984 xs L K23 u5 x4
              else
                none
            else none
          else none
        else none
      else none
    else none
  else none
set_option maxRecDepth 100000 in
set_option maxHeartbeats 4000000 in
theorem m_L_law_907 {κ : GC} {Γ : GA} {b L : Nat} {xs : Nat → Int32} (hX : Gx κ Γ 7 code "PaneScreenLaw" room_1 ret) (hB : gScr κ Γ b L xs) (hT : κ.2.1.stackTraces = false) (c0 z0 : Nat) (hc0 : c0 + 4 ≤ 601024) (hs0 : z0 + 24 ≤ 7293034) (K23 : Mem → Int32 → Option Unit) (hK23 : ∀ (σ : Mem) (x4 : Int32), GG κ Γ 7 (gQL κ b) (c0 + 4) (z0 + 24) σ [some (.ref b), some (.ref (Γ.2.1 0)), some (.ref (Γ.2.1 19)), some (.ref (Γ.2.1 40)), some (.int x4), none, none] 23 [] (K23 σ x4)) (σ : Mem) (x4 : Int32) : GG κ Γ 7 (gQL κ b) (c0 + 0) (z0 + 0) σ [some (.ref b), some (.ref (Γ.2.1 0)), some (.ref (Γ.2.1 19)), some (.ref (Γ.2.1 40)), some (.int x4), none, none] 907 [] (f_L_law_907 xs L K23 σ x4) := by
  unfold f_L_law_907
  refine g_aload_n hX 1 d_L_law_907 (n := 908) rfl rfl rfl ?_
  refine g_aload_n hX 0 d_L_law_908 (n := 909) rfl rfl rfl ?_
  refine g_iload hX d_L_law_909 (n := 911) rfl rfl ?_
  refine g_iconst hX 1 d_L_law_911 (n := 912) rfl k_iconst_1 ?_
  refine g_iadd hX d_L_law_912 (n := 913) rfl ?_
  refine g_sld hX hB d_L_law_913 (n := 914) rfl ?_
  refine g_aload_n hX 0 d_L_law_914 (n := 915) rfl rfl rfl ?_
  refine g_iload hX d_L_law_915 (n := 917) rfl rfl ?_
  refine g_iconst hX 2 d_L_law_917 (n := 918) rfl k_iconst_2 ?_
  refine g_iadd hX d_L_law_918 (n := 919) rfl ?_
  refine g_sld hX hB d_L_law_919 (n := 920) rfl ?_
  refine g_aload_n hX 0 d_L_law_920 (n := 921) rfl rfl rfl ?_
  refine g_iload hX d_L_law_921 (n := 923) rfl rfl ?_
  refine g_iconst hX 3 d_L_law_923 (n := 924) rfl k_iconst_3 ?_
  refine g_iadd hX d_L_law_924 (n := 925) rfl ?_
  refine g_sld hX hB d_L_law_925 (n := 926) rfl ?_
  refine g_aload_n hX 3 d_L_law_926 (n := 927) rfl rfl rfl ?_
  refine g_cH hX [_, _, _, _, _] rfl (c0 + 2) (z0 + 12) (c_L_picture _ hT Γ (xs (x4 + 1).toNatClampNeg) (xs (x4 + 2).toNatClampNeg) (xs (x4 + 3).toNatClampNeg) σ) gwh_127 rfl d_L_law_927 (n := 930) rfl ⟨by decide, by decide⟩ ⟨(by show c0 + 0 + 2 ≤ 601024; omega), (by show z0 + 0 + 12 ≤ 7293034; omega)⟩ (Nat.le_of_ble_eq_true rfl) rfl rfl (fun r1 u2 => ?_)
  refine g_istore hX [_, _, _, _, _, _, _] d_L_law_930 (n := 932) rfl (by decide) rfl ?_
  refine g_aload_n hX 2 d_L_law_932 (n := 933) rfl rfl rfl ?_
  refine g_aload_n hX 0 d_L_law_933 (n := 934) rfl rfl rfl ?_
  refine g_iload hX d_L_law_934 (n := 936) rfl rfl ?_
  refine g_iconst hX 1 d_L_law_936 (n := 937) rfl k_iconst_1 ?_
  refine g_iadd hX d_L_law_937 (n := 938) rfl ?_
  refine g_sld hX hB d_L_law_938 (n := 939) rfl ?_
  refine g_aload_n hX 0 d_L_law_939 (n := 940) rfl rfl rfl ?_
  refine g_iload hX d_L_law_940 (n := 942) rfl rfl ?_
  refine g_iconst hX 2 d_L_law_942 (n := 943) rfl k_iconst_2 ?_
  refine g_iadd hX d_L_law_943 (n := 944) rfl ?_
  refine g_sld hX hB d_L_law_944 (n := 945) rfl ?_
  refine g_aload_n hX 0 d_L_law_945 (n := 946) rfl rfl rfl ?_
  refine g_iload hX d_L_law_946 (n := 948) rfl rfl ?_
  refine g_iconst hX 3 d_L_law_948 (n := 949) rfl k_iconst_3 ?_
  refine g_iadd hX d_L_law_949 (n := 950) rfl ?_
  refine g_sld hX hB d_L_law_950 (n := 951) rfl ?_
  refine g_cVi hX [_, _, _] rfl (c0 + 2) (z0 + 12) (c_M_picture _ Γ (xs (x4 + 1).toNatClampNeg) (xs (x4 + 2).toNatClampNeg) (xs (x4 + 3).toNatClampNeg) u2) gw_L_130 rfl sh_19 rfl d_L_law_951 (n := 954) rfl ⟨by decide, by decide⟩ ⟨(by show c0 + 2 + 0 ≤ 601024; omega), (by show z0 + 12 + 0 ≤ 7293034; omega)⟩ (Nat.le_of_ble_eq_true rfl) rfl rfl (fun r4 u3 => ?_)
  refine g_istore hX [_, _, _, _, _, _, _] d_L_law_954 (n := 956) rfl (by decide) rfl ?_
  refine g_aload_n hX 2 d_L_law_956 (n := 957) rfl rfl rfl ?_
  refine g_cVi hX [] rfl (c0 + 2) (z0 + 12) (c_M_thrown _ Γ u3) gw_L_88 rfl sh_19 rfl d_L_law_957 (n := 960) rfl ⟨by decide, by decide⟩ ⟨(by show c0 + 2 + 0 ≤ 601024; omega), (by show z0 + 12 + 0 ≤ 7293034; omega)⟩ (Nat.le_of_ble_eq_true rfl) rfl rfl (fun r6 u5 => ?_)
  refine g_iload hX d_L_law_960 (n := 962) rfl rfl ?_
  refine g_icmp_eq hX 967 d_L_law_962 (n := 965) rfl rfl ?_ ?_
  · refine g_iload hX d_L_law_967 (n := 969) rfl rfl ?_
    refine g_if_ne hX 984 d_L_law_969 (n := 972) rfl rfl ?_ ?_
    · exact (g_sub (lw := [some (.ref b), some (.ref (Γ.2.1 0)), some (.ref (Γ.2.1 19)), some (.ref (Γ.2.1 40)), some (.int x4), none, none]) (And.intro rfl (And.intro rfl (And.intro rfl (And.intro rfl (And.intro rfl (True.intro)))))) (m_L_law_984 hX hB hT c0 z0 hc0 hs0 K23 hK23 u5 x4))
    · refine g_aload_n hX 3 d_L_law_972 (n := 973) rfl rfl rfl ?_
      refine g_iconst hX 0 d_L_law_973 (n := 974) rfl k_iconst_0 ?_
      refine g_laldK hX (by decide) d_L_law_974 (n := 975) rfl sh_40 ?_
      refine g_iload hX d_L_law_975 (n := 977) rfl rfl ?_
      refine g_i2l hX d_L_law_977 (n := 978) rfl ?_
      refine g_lcmp hX d_L_law_978 (n := 979) rfl ?_
      refine g_if_eq hX 984 d_L_law_979 (n := 982) rfl rfl ?_ ?_
      · exact (g_sub (lw := [some (.ref b), some (.ref (Γ.2.1 0)), some (.ref (Γ.2.1 19)), some (.ref (Γ.2.1 40)), some (.int x4), none, none]) (And.intro rfl (And.intro rfl (And.intro rfl (And.intro rfl (And.intro rfl (True.intro)))))) (m_L_law_984 hX hB hT c0 z0 hc0 hs0 K23 hK23 u5 x4))
      · exact g_none
  · exact g_none
def f_L_law_1052 (xs : Nat → Int32) (L : Nat) (K23 : Mem → Int32 → Option Unit) (σ : Mem) (x4 : Int32) : Option Unit :=
  f_L_law_1360 xs L K23 σ x4
set_option maxRecDepth 100000 in
set_option maxHeartbeats 4000000 in
theorem m_L_law_1052 {κ : GC} {Γ : GA} {b L : Nat} {xs : Nat → Int32} (hX : Gx κ Γ 7 code "PaneScreenLaw" room_1 ret) (hB : gScr κ Γ b L xs) (hT : κ.2.1.stackTraces = false) (c0 z0 : Nat) (hc0 : c0 + 4 ≤ 601024) (hs0 : z0 + 24 ≤ 7293034) (K23 : Mem → Int32 → Option Unit) (hK23 : ∀ (σ : Mem) (x4 : Int32), GG κ Γ 7 (gQL κ b) (c0 + 4) (z0 + 24) σ [some (.ref b), some (.ref (Γ.2.1 0)), some (.ref (Γ.2.1 19)), some (.ref (Γ.2.1 40)), some (.int x4), none, none] 23 [] (K23 σ x4)) (σ : Mem) (x4 : Int32) : GG κ Γ 7 (gQL κ b) (c0 + 1) (z0 + 6) σ [some (.ref b), some (.ref (Γ.2.1 0)), some (.ref (Γ.2.1 19)), some (.ref (Γ.2.1 40)), some (.int x4), none, none] 1052 [] (f_L_law_1052 xs L K23 σ x4) := by
  unfold f_L_law_1052
  refine g_goto hX 1360 d_L_law_1052 rfl ?_
  exact (g_widen (c1 := c0 + 4) (s1 := z0 + 24) (by omega) (by omega) (m_L_law_1360 hX hB hT c0 z0 hc0 hs0 K23 hK23 σ x4))
def f_L_law_987 (xs : Nat → Int32) (L : Nat) (K23 : Mem → Int32 → Option Unit) (σ : Mem) (x4 : Int32) : Option Unit :=
  if gin (x4 + 1) L = true then
    if gin (x4 + 2) L = true then
      gb (f_L_at (xs (x4 + 1).toNatClampNeg) (xs (x4 + 2).toNatClampNeg) σ) fun r1 u2 =>
      if gin (x4 + 1) L = true then
        if gin (x4 + 2) L = true then
          gb (f_M_at (xs (x4 + 1).toNatClampNeg) (xs (x4 + 2).toNatClampNeg) u2) fun r4 u3 =>
          gb (f_M_thrown u3) fun r6 u5 =>
          if r6 = r1 then
            if r1 = 0 then
              if (lg_cmp ((u5 40 (0 : Int32).toNatClampNeg) : Int32).toInt64 (r4 : Int32).toInt64) = 0 then
                f_L_law_1052 xs L K23 u5 x4
              else
                none
            else
              f_L_law_1052 xs L K23 u5 x4
          else
            none
        else none
      else none
    else none
  else none
set_option maxRecDepth 100000 in
set_option maxHeartbeats 4000000 in
theorem m_L_law_987 {κ : GC} {Γ : GA} {b L : Nat} {xs : Nat → Int32} (hX : Gx κ Γ 7 code "PaneScreenLaw" room_1 ret) (hB : gScr κ Γ b L xs) (hT : κ.2.1.stackTraces = false) (c0 z0 : Nat) (hc0 : c0 + 4 ≤ 601024) (hs0 : z0 + 24 ≤ 7293034) (K23 : Mem → Int32 → Option Unit) (hK23 : ∀ (σ : Mem) (x4 : Int32), GG κ Γ 7 (gQL κ b) (c0 + 4) (z0 + 24) σ [some (.ref b), some (.ref (Γ.2.1 0)), some (.ref (Γ.2.1 19)), some (.ref (Γ.2.1 40)), some (.int x4), none, none] 23 [] (K23 σ x4)) (σ : Mem) (x4 : Int32) : GG κ Γ 7 (gQL κ b) (c0 + 0) (z0 + 0) σ [some (.ref b), some (.ref (Γ.2.1 0)), some (.ref (Γ.2.1 19)), some (.ref (Γ.2.1 40)), some (.int x4), none, none] 987 [] (f_L_law_987 xs L K23 σ x4) := by
  unfold f_L_law_987
  refine g_aload_n hX 1 d_L_law_987 (n := 988) rfl rfl rfl ?_
  refine g_aload_n hX 0 d_L_law_988 (n := 989) rfl rfl rfl ?_
  refine g_iload hX d_L_law_989 (n := 991) rfl rfl ?_
  refine g_iconst hX 1 d_L_law_991 (n := 992) rfl k_iconst_1 ?_
  refine g_iadd hX d_L_law_992 (n := 993) rfl ?_
  refine g_sld hX hB d_L_law_993 (n := 994) rfl ?_
  refine g_aload_n hX 0 d_L_law_994 (n := 995) rfl rfl rfl ?_
  refine g_iload hX d_L_law_995 (n := 997) rfl rfl ?_
  refine g_iconst hX 2 d_L_law_997 (n := 998) rfl k_iconst_2 ?_
  refine g_iadd hX d_L_law_998 (n := 999) rfl ?_
  refine g_sld hX hB d_L_law_999 (n := 1000) rfl ?_
  refine g_aload_n hX 3 d_L_law_1000 (n := 1001) rfl rfl rfl ?_
  refine g_cH hX [_, _, _, _] rfl (c0 + 1) (z0 + 6) (c_L_at _ hT Γ (xs (x4 + 1).toNatClampNeg) (xs (x4 + 2).toNatClampNeg) σ) gwh_131 rfl d_L_law_1001 (n := 1004) rfl ⟨by decide, by decide⟩ ⟨(by show c0 + 0 + 1 ≤ 601024; omega), (by show z0 + 0 + 6 ≤ 7293034; omega)⟩ (Nat.le_of_ble_eq_true rfl) rfl rfl (fun r1 u2 => ?_)
  refine g_istore hX [_, _, _, _, _, _, _] d_L_law_1004 (n := 1006) rfl (by decide) rfl ?_
  refine g_aload_n hX 2 d_L_law_1006 (n := 1007) rfl rfl rfl ?_
  refine g_aload_n hX 0 d_L_law_1007 (n := 1008) rfl rfl rfl ?_
  refine g_iload hX d_L_law_1008 (n := 1010) rfl rfl ?_
  refine g_iconst hX 1 d_L_law_1010 (n := 1011) rfl k_iconst_1 ?_
  refine g_iadd hX d_L_law_1011 (n := 1012) rfl ?_
  refine g_sld hX hB d_L_law_1012 (n := 1013) rfl ?_
  refine g_aload_n hX 0 d_L_law_1013 (n := 1014) rfl rfl rfl ?_
  refine g_iload hX d_L_law_1014 (n := 1016) rfl rfl ?_
  refine g_iconst hX 2 d_L_law_1016 (n := 1017) rfl k_iconst_2 ?_
  refine g_iadd hX d_L_law_1017 (n := 1018) rfl ?_
  refine g_sld hX hB d_L_law_1018 (n := 1019) rfl ?_
  refine g_cVi hX [_, _] rfl (c0 + 1) (z0 + 6) (c_M_at _ Γ (xs (x4 + 1).toNatClampNeg) (xs (x4 + 2).toNatClampNeg) u2) gw_L_133 rfl sh_19 rfl d_L_law_1019 (n := 1022) rfl ⟨by decide, by decide⟩ ⟨(by show c0 + 1 + 0 ≤ 601024; omega), (by show z0 + 6 + 0 ≤ 7293034; omega)⟩ (Nat.le_of_ble_eq_true rfl) rfl rfl (fun r4 u3 => ?_)
  refine g_istore hX [_, _, _, _, _, _, _] d_L_law_1022 (n := 1024) rfl (by decide) rfl ?_
  refine g_aload_n hX 2 d_L_law_1024 (n := 1025) rfl rfl rfl ?_
  refine g_cVi hX [] rfl (c0 + 1) (z0 + 6) (c_M_thrown _ Γ u3) gw_L_88 rfl sh_19 rfl d_L_law_1025 (n := 1028) rfl ⟨by decide, by decide⟩ ⟨(by show c0 + 1 + 0 ≤ 601024; omega), (by show z0 + 6 + 0 ≤ 7293034; omega)⟩ (Nat.le_of_ble_eq_true rfl) rfl rfl (fun r6 u5 => ?_)
  refine g_iload hX d_L_law_1028 (n := 1030) rfl rfl ?_
  refine g_icmp_eq hX 1035 d_L_law_1030 (n := 1033) rfl rfl ?_ ?_
  · refine g_iload hX d_L_law_1035 (n := 1037) rfl rfl ?_
    refine g_if_ne hX 1052 d_L_law_1037 (n := 1040) rfl rfl ?_ ?_
    · exact (g_sub (lw := [some (.ref b), some (.ref (Γ.2.1 0)), some (.ref (Γ.2.1 19)), some (.ref (Γ.2.1 40)), some (.int x4), none, none]) (And.intro rfl (And.intro rfl (And.intro rfl (And.intro rfl (And.intro rfl (True.intro)))))) (m_L_law_1052 hX hB hT c0 z0 hc0 hs0 K23 hK23 u5 x4))
    · refine g_aload_n hX 3 d_L_law_1040 (n := 1041) rfl rfl rfl ?_
      refine g_iconst hX 0 d_L_law_1041 (n := 1042) rfl k_iconst_0 ?_
      refine g_laldK hX (by decide) d_L_law_1042 (n := 1043) rfl sh_40 ?_
      refine g_iload hX d_L_law_1043 (n := 1045) rfl rfl ?_
      refine g_i2l hX d_L_law_1045 (n := 1046) rfl ?_
      refine g_lcmp hX d_L_law_1046 (n := 1047) rfl ?_
      refine g_if_eq hX 1052 d_L_law_1047 (n := 1050) rfl rfl ?_ ?_
      · exact (g_sub (lw := [some (.ref b), some (.ref (Γ.2.1 0)), some (.ref (Γ.2.1 19)), some (.ref (Γ.2.1 40)), some (.int x4), none, none]) (And.intro rfl (And.intro rfl (And.intro rfl (And.intro rfl (And.intro rfl (True.intro)))))) (m_L_law_1052 hX hB hT c0 z0 hc0 hs0 K23 hK23 u5 x4))
      · exact g_none
  · exact g_none
def f_L_law_1108 (xs : Nat → Int32) (L : Nat) (K23 : Mem → Int32 → Option Unit) (σ : Mem) (x4 : Int32) : Option Unit :=
  f_L_law_1360 xs L K23 σ x4
set_option maxRecDepth 100000 in
set_option maxHeartbeats 4000000 in
theorem m_L_law_1108 {κ : GC} {Γ : GA} {b L : Nat} {xs : Nat → Int32} (hX : Gx κ Γ 7 code "PaneScreenLaw" room_1 ret) (hB : gScr κ Γ b L xs) (hT : κ.2.1.stackTraces = false) (c0 z0 : Nat) (hc0 : c0 + 4 ≤ 601024) (hs0 : z0 + 24 ≤ 7293034) (K23 : Mem → Int32 → Option Unit) (hK23 : ∀ (σ : Mem) (x4 : Int32), GG κ Γ 7 (gQL κ b) (c0 + 4) (z0 + 24) σ [some (.ref b), some (.ref (Γ.2.1 0)), some (.ref (Γ.2.1 19)), some (.ref (Γ.2.1 40)), some (.int x4), none, none] 23 [] (K23 σ x4)) (σ : Mem) (x4 : Int32) : GG κ Γ 7 (gQL κ b) (c0 + 1) (z0 + 6) σ [some (.ref b), some (.ref (Γ.2.1 0)), some (.ref (Γ.2.1 19)), some (.ref (Γ.2.1 40)), some (.int x4), none, none] 1108 [] (f_L_law_1108 xs L K23 σ x4) := by
  unfold f_L_law_1108
  refine g_goto hX 1360 d_L_law_1108 rfl ?_
  exact (g_widen (c1 := c0 + 4) (s1 := z0 + 24) (by omega) (by omega) (m_L_law_1360 hX hB hT c0 z0 hc0 hs0 K23 hK23 σ x4))
def f_L_law_1055 (xs : Nat → Int32) (L : Nat) (K23 : Mem → Int32 → Option Unit) (σ : Mem) (x4 : Int32) : Option Unit :=
  if gin (x4 + 1) L = true then
    gb (f_L_visible (xs (x4 + 1).toNatClampNeg) σ) fun r1 u2 =>
    if gin (x4 + 1) L = true then
      gb (f_M_visible (xs (x4 + 1).toNatClampNeg) u2) fun r4 u3 =>
      gb (f_M_thrown u3) fun r6 u5 =>
      if r6 = r1 then
        if r1 = 0 then
          if (lg_cmp ((u5 40 (0 : Int32).toNatClampNeg) : Int32).toInt64 (r4 : Int32).toInt64) = 0 then
            f_L_law_1108 xs L K23 u5 x4
          else
            none
        else
          f_L_law_1108 xs L K23 u5 x4
      else
        none
    else none
  else none
set_option maxRecDepth 100000 in
set_option maxHeartbeats 4000000 in
theorem m_L_law_1055 {κ : GC} {Γ : GA} {b L : Nat} {xs : Nat → Int32} (hX : Gx κ Γ 7 code "PaneScreenLaw" room_1 ret) (hB : gScr κ Γ b L xs) (hT : κ.2.1.stackTraces = false) (c0 z0 : Nat) (hc0 : c0 + 4 ≤ 601024) (hs0 : z0 + 24 ≤ 7293034) (K23 : Mem → Int32 → Option Unit) (hK23 : ∀ (σ : Mem) (x4 : Int32), GG κ Γ 7 (gQL κ b) (c0 + 4) (z0 + 24) σ [some (.ref b), some (.ref (Γ.2.1 0)), some (.ref (Γ.2.1 19)), some (.ref (Γ.2.1 40)), some (.int x4), none, none] 23 [] (K23 σ x4)) (σ : Mem) (x4 : Int32) : GG κ Γ 7 (gQL κ b) (c0 + 0) (z0 + 0) σ [some (.ref b), some (.ref (Γ.2.1 0)), some (.ref (Γ.2.1 19)), some (.ref (Γ.2.1 40)), some (.int x4), none, none] 1055 [] (f_L_law_1055 xs L K23 σ x4) := by
  unfold f_L_law_1055
  refine g_aload_n hX 1 d_L_law_1055 (n := 1056) rfl rfl rfl ?_
  refine g_aload_n hX 0 d_L_law_1056 (n := 1057) rfl rfl rfl ?_
  refine g_iload hX d_L_law_1057 (n := 1059) rfl rfl ?_
  refine g_iconst hX 1 d_L_law_1059 (n := 1060) rfl k_iconst_1 ?_
  refine g_iadd hX d_L_law_1060 (n := 1061) rfl ?_
  refine g_sld hX hB d_L_law_1061 (n := 1062) rfl ?_
  refine g_aload_n hX 3 d_L_law_1062 (n := 1063) rfl rfl rfl ?_
  refine g_cH hX [_, _, _] rfl (c0 + 1) (z0 + 6) (c_L_visible _ hT Γ (xs (x4 + 1).toNatClampNeg) σ) gwh_134 rfl d_L_law_1063 (n := 1066) rfl ⟨by decide, by decide⟩ ⟨(by show c0 + 0 + 1 ≤ 601024; omega), (by show z0 + 0 + 6 ≤ 7293034; omega)⟩ (Nat.le_of_ble_eq_true rfl) rfl rfl (fun r1 u2 => ?_)
  refine g_istore hX [_, _, _, _, _, _, _] d_L_law_1066 (n := 1068) rfl (by decide) rfl ?_
  refine g_aload_n hX 2 d_L_law_1068 (n := 1069) rfl rfl rfl ?_
  refine g_aload_n hX 0 d_L_law_1069 (n := 1070) rfl rfl rfl ?_
  refine g_iload hX d_L_law_1070 (n := 1072) rfl rfl ?_
  refine g_iconst hX 1 d_L_law_1072 (n := 1073) rfl k_iconst_1 ?_
  refine g_iadd hX d_L_law_1073 (n := 1074) rfl ?_
  refine g_sld hX hB d_L_law_1074 (n := 1075) rfl ?_
  refine g_cVi hX [_] rfl (c0 + 1) (z0 + 6) (c_M_visible _ Γ (xs (x4 + 1).toNatClampNeg) u2) gw_L_137 rfl sh_19 rfl d_L_law_1075 (n := 1078) rfl ⟨by decide, by decide⟩ ⟨(by show c0 + 1 + 0 ≤ 601024; omega), (by show z0 + 6 + 0 ≤ 7293034; omega)⟩ (Nat.le_of_ble_eq_true rfl) rfl rfl (fun r4 u3 => ?_)
  refine g_istore hX [_, _, _, _, _, _, _] d_L_law_1078 (n := 1080) rfl (by decide) rfl ?_
  refine g_aload_n hX 2 d_L_law_1080 (n := 1081) rfl rfl rfl ?_
  refine g_cVi hX [] rfl (c0 + 1) (z0 + 6) (c_M_thrown _ Γ u3) gw_L_88 rfl sh_19 rfl d_L_law_1081 (n := 1084) rfl ⟨by decide, by decide⟩ ⟨(by show c0 + 1 + 0 ≤ 601024; omega), (by show z0 + 6 + 0 ≤ 7293034; omega)⟩ (Nat.le_of_ble_eq_true rfl) rfl rfl (fun r6 u5 => ?_)
  refine g_iload hX d_L_law_1084 (n := 1086) rfl rfl ?_
  refine g_icmp_eq hX 1091 d_L_law_1086 (n := 1089) rfl rfl ?_ ?_
  · refine g_iload hX d_L_law_1091 (n := 1093) rfl rfl ?_
    refine g_if_ne hX 1108 d_L_law_1093 (n := 1096) rfl rfl ?_ ?_
    · exact (g_sub (lw := [some (.ref b), some (.ref (Γ.2.1 0)), some (.ref (Γ.2.1 19)), some (.ref (Γ.2.1 40)), some (.int x4), none, none]) (And.intro rfl (And.intro rfl (And.intro rfl (And.intro rfl (And.intro rfl (True.intro)))))) (m_L_law_1108 hX hB hT c0 z0 hc0 hs0 K23 hK23 u5 x4))
    · refine g_aload_n hX 3 d_L_law_1096 (n := 1097) rfl rfl rfl ?_
      refine g_iconst hX 0 d_L_law_1097 (n := 1098) rfl k_iconst_0 ?_
      refine g_laldK hX (by decide) d_L_law_1098 (n := 1099) rfl sh_40 ?_
      refine g_iload hX d_L_law_1099 (n := 1101) rfl rfl ?_
      refine g_i2l hX d_L_law_1101 (n := 1102) rfl ?_
      refine g_lcmp hX d_L_law_1102 (n := 1103) rfl ?_
      refine g_if_eq hX 1108 d_L_law_1103 (n := 1106) rfl rfl ?_ ?_
      · exact (g_sub (lw := [some (.ref b), some (.ref (Γ.2.1 0)), some (.ref (Γ.2.1 19)), some (.ref (Γ.2.1 40)), some (.int x4), none, none]) (And.intro rfl (And.intro rfl (And.intro rfl (And.intro rfl (And.intro rfl (True.intro)))))) (m_L_law_1108 hX hB hT c0 z0 hc0 hs0 K23 hK23 u5 x4))
      · exact g_none
  · exact g_none
def f_L_law_1176 (xs : Nat → Int32) (L : Nat) (K23 : Mem → Int32 → Option Unit) (σ : Mem) (x4 : Int32) : Option Unit :=
  f_L_law_1360 xs L K23 σ x4
set_option maxRecDepth 100000 in
set_option maxHeartbeats 4000000 in
theorem m_L_law_1176 {κ : GC} {Γ : GA} {b L : Nat} {xs : Nat → Int32} (hX : Gx κ Γ 7 code "PaneScreenLaw" room_1 ret) (hB : gScr κ Γ b L xs) (hT : κ.2.1.stackTraces = false) (c0 z0 : Nat) (hc0 : c0 + 4 ≤ 601024) (hs0 : z0 + 24 ≤ 7293034) (K23 : Mem → Int32 → Option Unit) (hK23 : ∀ (σ : Mem) (x4 : Int32), GG κ Γ 7 (gQL κ b) (c0 + 4) (z0 + 24) σ [some (.ref b), some (.ref (Γ.2.1 0)), some (.ref (Γ.2.1 19)), some (.ref (Γ.2.1 40)), some (.int x4), none, none] 23 [] (K23 σ x4)) (σ : Mem) (x4 : Int32) : GG κ Γ 7 (gQL κ b) (c0 + 1) (z0 + 6) σ [some (.ref b), some (.ref (Γ.2.1 0)), some (.ref (Γ.2.1 19)), some (.ref (Γ.2.1 40)), some (.int x4), none, none] 1176 [] (f_L_law_1176 xs L K23 σ x4) := by
  unfold f_L_law_1176
  refine g_goto hX 1360 d_L_law_1176 rfl ?_
  exact (g_widen (c1 := c0 + 4) (s1 := z0 + 24) (by omega) (by omega) (m_L_law_1360 hX hB hT c0 z0 hc0 hs0 K23 hK23 σ x4))
def f_L_law_1111 (xs : Nat → Int32) (L : Nat) (K23 : Mem → Int32 → Option Unit) (σ : Mem) (x4 : Int32) : Option Unit :=
  if gin (x4 + 1) L = true then
    if gin (x4 + 2) L = true then
      gb (f_L_click (xs (x4 + 1).toNatClampNeg) (xs (x4 + 2).toNatClampNeg) σ) fun r1 u2 =>
      if gin (x4 + 1) L = true then
        if gin (x4 + 2) L = true then
          gb (f_M_click (xs (x4 + 1).toNatClampNeg) (xs (x4 + 2).toNatClampNeg) u2) fun r4 u3 =>
          gb (f_M_thrown u3) fun r6 u5 =>
          if r6 = r1 then
            if r1 = 0 then
              if (lg_cmp ((u5 40 (0 : Int32).toNatClampNeg) : Int32).toInt64 (r4 : Int32).toInt64) = 0 then
                f_L_law_1176 xs L K23 u5 x4
              else
                none
            else
              f_L_law_1176 xs L K23 u5 x4
          else
            none
        else none
      else none
    else none
  else none
set_option maxRecDepth 100000 in
set_option maxHeartbeats 4000000 in
theorem m_L_law_1111 {κ : GC} {Γ : GA} {b L : Nat} {xs : Nat → Int32} (hX : Gx κ Γ 7 code "PaneScreenLaw" room_1 ret) (hB : gScr κ Γ b L xs) (hT : κ.2.1.stackTraces = false) (c0 z0 : Nat) (hc0 : c0 + 4 ≤ 601024) (hs0 : z0 + 24 ≤ 7293034) (K23 : Mem → Int32 → Option Unit) (hK23 : ∀ (σ : Mem) (x4 : Int32), GG κ Γ 7 (gQL κ b) (c0 + 4) (z0 + 24) σ [some (.ref b), some (.ref (Γ.2.1 0)), some (.ref (Γ.2.1 19)), some (.ref (Γ.2.1 40)), some (.int x4), none, none] 23 [] (K23 σ x4)) (σ : Mem) (x4 : Int32) : GG κ Γ 7 (gQL κ b) (c0 + 0) (z0 + 0) σ [some (.ref b), some (.ref (Γ.2.1 0)), some (.ref (Γ.2.1 19)), some (.ref (Γ.2.1 40)), some (.int x4), none, none] 1111 [] (f_L_law_1111 xs L K23 σ x4) := by
  unfold f_L_law_1111
  refine g_aload_n hX 1 d_L_law_1111 (n := 1112) rfl rfl rfl ?_
  refine g_aload_n hX 0 d_L_law_1112 (n := 1113) rfl rfl rfl ?_
  refine g_iload hX d_L_law_1113 (n := 1115) rfl rfl ?_
  refine g_iconst hX 1 d_L_law_1115 (n := 1116) rfl k_iconst_1 ?_
  refine g_iadd hX d_L_law_1116 (n := 1117) rfl ?_
  refine g_sld hX hB d_L_law_1117 (n := 1118) rfl ?_
  refine g_aload_n hX 0 d_L_law_1118 (n := 1119) rfl rfl rfl ?_
  refine g_iload hX d_L_law_1119 (n := 1121) rfl rfl ?_
  refine g_iconst hX 2 d_L_law_1121 (n := 1122) rfl k_iconst_2 ?_
  refine g_iadd hX d_L_law_1122 (n := 1123) rfl ?_
  refine g_sld hX hB d_L_law_1123 (n := 1124) rfl ?_
  refine g_aload_n hX 3 d_L_law_1124 (n := 1125) rfl rfl rfl ?_
  refine g_cH hX [_, _, _, _] rfl (c0 + 1) (z0 + 6) (c_L_click _ hT Γ (xs (x4 + 1).toNatClampNeg) (xs (x4 + 2).toNatClampNeg) σ) gwh_138 rfl d_L_law_1125 (n := 1128) rfl ⟨by decide, by decide⟩ ⟨(by show c0 + 0 + 1 ≤ 601024; omega), (by show z0 + 0 + 6 ≤ 7293034; omega)⟩ (Nat.le_of_ble_eq_true rfl) rfl rfl (fun r1 u2 => ?_)
  refine g_istore hX [_, _, _, _, _, _, _] d_L_law_1128 (n := 1130) rfl (by decide) rfl ?_
  refine g_aload_n hX 2 d_L_law_1130 (n := 1131) rfl rfl rfl ?_
  refine g_aload_n hX 0 d_L_law_1131 (n := 1132) rfl rfl rfl ?_
  refine g_iload hX d_L_law_1132 (n := 1134) rfl rfl ?_
  refine g_iconst hX 1 d_L_law_1134 (n := 1135) rfl k_iconst_1 ?_
  refine g_iadd hX d_L_law_1135 (n := 1136) rfl ?_
  refine g_sld hX hB d_L_law_1136 (n := 1137) rfl ?_
  refine g_aload_n hX 0 d_L_law_1137 (n := 1138) rfl rfl rfl ?_
  refine g_iload hX d_L_law_1138 (n := 1140) rfl rfl ?_
  refine g_iconst hX 2 d_L_law_1140 (n := 1141) rfl k_iconst_2 ?_
  refine g_iadd hX d_L_law_1141 (n := 1142) rfl ?_
  refine g_sld hX hB d_L_law_1142 (n := 1143) rfl ?_
  refine g_cVi hX [_, _] rfl (c0 + 1) (z0 + 6) (c_M_click _ Γ (xs (x4 + 1).toNatClampNeg) (xs (x4 + 2).toNatClampNeg) u2) gw_L_140 rfl sh_19 rfl d_L_law_1143 (n := 1146) rfl ⟨by decide, by decide⟩ ⟨(by show c0 + 1 + 0 ≤ 601024; omega), (by show z0 + 6 + 0 ≤ 7293034; omega)⟩ (Nat.le_of_ble_eq_true rfl) rfl rfl (fun r4 u3 => ?_)
  refine g_istore hX [_, _, _, _, _, _, _] d_L_law_1146 (n := 1148) rfl (by decide) rfl ?_
  refine g_aload_n hX 2 d_L_law_1148 (n := 1149) rfl rfl rfl ?_
  refine g_cVi hX [] rfl (c0 + 1) (z0 + 6) (c_M_thrown _ Γ u3) gw_L_88 rfl sh_19 rfl d_L_law_1149 (n := 1152) rfl ⟨by decide, by decide⟩ ⟨(by show c0 + 1 + 0 ≤ 601024; omega), (by show z0 + 6 + 0 ≤ 7293034; omega)⟩ (Nat.le_of_ble_eq_true rfl) rfl rfl (fun r6 u5 => ?_)
  refine g_iload hX d_L_law_1152 (n := 1154) rfl rfl ?_
  refine g_icmp_eq hX 1159 d_L_law_1154 (n := 1157) rfl rfl ?_ ?_
  · refine g_iload hX d_L_law_1159 (n := 1161) rfl rfl ?_
    refine g_if_ne hX 1176 d_L_law_1161 (n := 1164) rfl rfl ?_ ?_
    · exact (g_sub (lw := [some (.ref b), some (.ref (Γ.2.1 0)), some (.ref (Γ.2.1 19)), some (.ref (Γ.2.1 40)), some (.int x4), none, none]) (And.intro rfl (And.intro rfl (And.intro rfl (And.intro rfl (And.intro rfl (True.intro)))))) (m_L_law_1176 hX hB hT c0 z0 hc0 hs0 K23 hK23 u5 x4))
    · refine g_aload_n hX 3 d_L_law_1164 (n := 1165) rfl rfl rfl ?_
      refine g_iconst hX 0 d_L_law_1165 (n := 1166) rfl k_iconst_0 ?_
      refine g_laldK hX (by decide) d_L_law_1166 (n := 1167) rfl sh_40 ?_
      refine g_iload hX d_L_law_1167 (n := 1169) rfl rfl ?_
      refine g_i2l hX d_L_law_1169 (n := 1170) rfl ?_
      refine g_lcmp hX d_L_law_1170 (n := 1171) rfl ?_
      refine g_if_eq hX 1176 d_L_law_1171 (n := 1174) rfl rfl ?_ ?_
      · exact (g_sub (lw := [some (.ref b), some (.ref (Γ.2.1 0)), some (.ref (Γ.2.1 19)), some (.ref (Γ.2.1 40)), some (.int x4), none, none]) (And.intro rfl (And.intro rfl (And.intro rfl (And.intro rfl (And.intro rfl (True.intro)))))) (m_L_law_1176 hX hB hT c0 z0 hc0 hs0 K23 hK23 u5 x4))
      · exact g_none
  · exact g_none
def f_L_law_1179 (xs : Nat → Int32) (L : Nat) (K23 : Mem → Int32 → Option Unit) (σ : Mem) (x4 : Int32) : Option Unit :=
  if gin (x4 + 1) L = true then
    gb (f_S_key (xs (x4 + 1).toNatClampNeg) σ) fun r2 u1 =>
    if gin (x4 + 1) L = true then
      gb (f_M_key (xs (x4 + 1).toNatClampNeg) u1) fun r4 u3 =>
      if r2 = r4 then
        f_L_law_1360 xs L K23 u3 x4
      else
        none
    else none
  else none
set_option maxRecDepth 100000 in
set_option maxHeartbeats 4000000 in
theorem m_L_law_1179 {κ : GC} {Γ : GA} {b L : Nat} {xs : Nat → Int32} (hX : Gx κ Γ 7 code "PaneScreenLaw" room_1 ret) (hB : gScr κ Γ b L xs) (hT : κ.2.1.stackTraces = false) (c0 z0 : Nat) (hc0 : c0 + 4 ≤ 601024) (hs0 : z0 + 24 ≤ 7293034) (K23 : Mem → Int32 → Option Unit) (hK23 : ∀ (σ : Mem) (x4 : Int32), GG κ Γ 7 (gQL κ b) (c0 + 4) (z0 + 24) σ [some (.ref b), some (.ref (Γ.2.1 0)), some (.ref (Γ.2.1 19)), some (.ref (Γ.2.1 40)), some (.int x4), none, none] 23 [] (K23 σ x4)) (σ : Mem) (x4 : Int32) : GG κ Γ 7 (gQL κ b) (c0 + 0) (z0 + 0) σ [some (.ref b), some (.ref (Γ.2.1 0)), some (.ref (Γ.2.1 19)), some (.ref (Γ.2.1 40)), some (.int x4), none, none] 1179 [] (f_L_law_1179 xs L K23 σ x4) := by
  unfold f_L_law_1179
  refine g_aload_n hX 1 d_L_law_1179 (n := 1180) rfl rfl rfl ?_
  refine g_aload_n hX 0 d_L_law_1180 (n := 1181) rfl rfl rfl ?_
  refine g_iload hX d_L_law_1181 (n := 1183) rfl rfl ?_
  refine g_iconst hX 1 d_L_law_1183 (n := 1184) rfl k_iconst_1 ?_
  refine g_iadd hX d_L_law_1184 (n := 1185) rfl ?_
  refine g_sld hX hB d_L_law_1185 (n := 1186) rfl ?_
  refine g_cVi hX [_] rfl (c0 + 0) (z0 + 0) (c_S_key _ Γ (xs (x4 + 1).toNatClampNeg) σ) gw_L_141 rfl sh_0 rfl d_L_law_1186 (n := 1189) rfl ⟨by decide, by decide⟩ ⟨(by show c0 + 0 + 0 ≤ 601024; omega), (by show z0 + 0 + 0 ≤ 7293034; omega)⟩ (Nat.le_of_ble_eq_true rfl) rfl rfl (fun r2 u1 => ?_)
  refine g_aload_n hX 2 d_L_law_1189 (n := 1190) rfl rfl rfl ?_
  refine g_aload_n hX 0 d_L_law_1190 (n := 1191) rfl rfl rfl ?_
  refine g_iload hX d_L_law_1191 (n := 1193) rfl rfl ?_
  refine g_iconst hX 1 d_L_law_1193 (n := 1194) rfl k_iconst_1 ?_
  refine g_iadd hX d_L_law_1194 (n := 1195) rfl ?_
  refine g_sld hX hB d_L_law_1195 (n := 1196) rfl ?_
  refine g_cVi hX [_] rfl (c0 + 0) (z0 + 0) (c_M_key _ Γ (xs (x4 + 1).toNatClampNeg) u1) gw_L_145 rfl sh_19 rfl d_L_law_1196 (n := 1199) rfl ⟨by decide, by decide⟩ ⟨(by show c0 + 0 + 0 ≤ 601024; omega), (by show z0 + 0 + 0 ≤ 7293034; omega)⟩ (Nat.le_of_ble_eq_true rfl) rfl rfl (fun r4 u3 => ?_)
  refine g_icmp_eq hX 1360 d_L_law_1199 (n := 1202) rfl rfl ?_ ?_
  · exact (g_widen (c1 := c0 + 4) (s1 := z0 + 24) (by omega) (by omega) (m_L_law_1360 hX hB hT c0 z0 hc0 hs0 K23 hK23 u3 x4))
  · exact g_none
def f_L_law_1245 (xs : Nat → Int32) (L : Nat) (K23 : Mem → Int32 → Option Unit) (σ : Mem) (x4 : Int32) : Option Unit :=
  f_L_law_1360 xs L K23 σ x4
set_option maxRecDepth 100000 in
set_option maxHeartbeats 4000000 in
theorem m_L_law_1245 {κ : GC} {Γ : GA} {b L : Nat} {xs : Nat → Int32} (hX : Gx κ Γ 7 code "PaneScreenLaw" room_1 ret) (hB : gScr κ Γ b L xs) (hT : κ.2.1.stackTraces = false) (c0 z0 : Nat) (hc0 : c0 + 4 ≤ 601024) (hs0 : z0 + 24 ≤ 7293034) (K23 : Mem → Int32 → Option Unit) (hK23 : ∀ (σ : Mem) (x4 : Int32), GG κ Γ 7 (gQL κ b) (c0 + 4) (z0 + 24) σ [some (.ref b), some (.ref (Γ.2.1 0)), some (.ref (Γ.2.1 19)), some (.ref (Γ.2.1 40)), some (.int x4), none, none] 23 [] (K23 σ x4)) (σ : Mem) (x4 : Int32) : GG κ Γ 7 (gQL κ b) (c0 + 1) (z0 + 6) σ [some (.ref b), some (.ref (Γ.2.1 0)), some (.ref (Γ.2.1 19)), some (.ref (Γ.2.1 40)), some (.int x4), none, none] 1245 [] (f_L_law_1245 xs L K23 σ x4) := by
  unfold f_L_law_1245
  refine g_goto hX 1360 d_L_law_1245 rfl ?_
  exact (g_widen (c1 := c0 + 4) (s1 := z0 + 24) (by omega) (by omega) (m_L_law_1360 hX hB hT c0 z0 hc0 hs0 K23 hK23 σ x4))
def f_L_law_1204 (xs : Nat → Int32) (L : Nat) (K23 : Mem → Int32 → Option Unit) (σ : Mem) (x4 : Int32) : Option Unit :=
  gb (f_L_next σ) fun r1 u2 =>
  gb (f_M_next u2) fun r4 u3 =>
  gb (f_M_thrown u3) fun r6 u5 =>
  if r6 = r1 then
    if r1 = 0 then
      if (lg_cmp ((u5 40 (0 : Int32).toNatClampNeg) : Int32).toInt64 (r4 : Int32).toInt64) = 0 then
        f_L_law_1245 xs L K23 u5 x4
      else
        none
    else
      f_L_law_1245 xs L K23 u5 x4
  else
    none
set_option maxRecDepth 100000 in
set_option maxHeartbeats 4000000 in
theorem m_L_law_1204 {κ : GC} {Γ : GA} {b L : Nat} {xs : Nat → Int32} (hX : Gx κ Γ 7 code "PaneScreenLaw" room_1 ret) (hB : gScr κ Γ b L xs) (hT : κ.2.1.stackTraces = false) (c0 z0 : Nat) (hc0 : c0 + 4 ≤ 601024) (hs0 : z0 + 24 ≤ 7293034) (K23 : Mem → Int32 → Option Unit) (hK23 : ∀ (σ : Mem) (x4 : Int32), GG κ Γ 7 (gQL κ b) (c0 + 4) (z0 + 24) σ [some (.ref b), some (.ref (Γ.2.1 0)), some (.ref (Γ.2.1 19)), some (.ref (Γ.2.1 40)), some (.int x4), none, none] 23 [] (K23 σ x4)) (σ : Mem) (x4 : Int32) : GG κ Γ 7 (gQL κ b) (c0 + 0) (z0 + 0) σ [some (.ref b), some (.ref (Γ.2.1 0)), some (.ref (Γ.2.1 19)), some (.ref (Γ.2.1 40)), some (.int x4), none, none] 1204 [] (f_L_law_1204 xs L K23 σ x4) := by
  unfold f_L_law_1204
  refine g_aload_n hX 1 d_L_law_1204 (n := 1205) rfl rfl rfl ?_
  refine g_aload_n hX 3 d_L_law_1205 (n := 1206) rfl rfl rfl ?_
  refine g_cH hX [_, _] rfl (c0 + 1) (z0 + 6) (c_L_next _ hT Γ σ) gwh_146 rfl d_L_law_1206 (n := 1209) rfl ⟨by decide, by decide⟩ ⟨(by show c0 + 0 + 1 ≤ 601024; omega), (by show z0 + 0 + 6 ≤ 7293034; omega)⟩ (Nat.le_of_ble_eq_true rfl) rfl rfl (fun r1 u2 => ?_)
  refine g_istore hX [_, _, _, _, _, _, _] d_L_law_1209 (n := 1211) rfl (by decide) rfl ?_
  refine g_aload_n hX 2 d_L_law_1211 (n := 1212) rfl rfl rfl ?_
  refine g_cVi hX [] rfl (c0 + 1) (z0 + 6) (c_M_next _ Γ u2) gw_L_149 rfl sh_19 rfl d_L_law_1212 (n := 1215) rfl ⟨by decide, by decide⟩ ⟨(by show c0 + 1 + 0 ≤ 601024; omega), (by show z0 + 6 + 0 ≤ 7293034; omega)⟩ (Nat.le_of_ble_eq_true rfl) rfl rfl (fun r4 u3 => ?_)
  refine g_istore hX [_, _, _, _, _, _, _] d_L_law_1215 (n := 1217) rfl (by decide) rfl ?_
  refine g_aload_n hX 2 d_L_law_1217 (n := 1218) rfl rfl rfl ?_
  refine g_cVi hX [] rfl (c0 + 1) (z0 + 6) (c_M_thrown _ Γ u3) gw_L_88 rfl sh_19 rfl d_L_law_1218 (n := 1221) rfl ⟨by decide, by decide⟩ ⟨(by show c0 + 1 + 0 ≤ 601024; omega), (by show z0 + 6 + 0 ≤ 7293034; omega)⟩ (Nat.le_of_ble_eq_true rfl) rfl rfl (fun r6 u5 => ?_)
  refine g_iload hX d_L_law_1221 (n := 1223) rfl rfl ?_
  refine g_icmp_eq hX 1228 d_L_law_1223 (n := 1226) rfl rfl ?_ ?_
  · refine g_iload hX d_L_law_1228 (n := 1230) rfl rfl ?_
    refine g_if_ne hX 1245 d_L_law_1230 (n := 1233) rfl rfl ?_ ?_
    · exact (g_sub (lw := [some (.ref b), some (.ref (Γ.2.1 0)), some (.ref (Γ.2.1 19)), some (.ref (Γ.2.1 40)), some (.int x4), none, none]) (And.intro rfl (And.intro rfl (And.intro rfl (And.intro rfl (And.intro rfl (True.intro)))))) (m_L_law_1245 hX hB hT c0 z0 hc0 hs0 K23 hK23 u5 x4))
    · refine g_aload_n hX 3 d_L_law_1233 (n := 1234) rfl rfl rfl ?_
      refine g_iconst hX 0 d_L_law_1234 (n := 1235) rfl k_iconst_0 ?_
      refine g_laldK hX (by decide) d_L_law_1235 (n := 1236) rfl sh_40 ?_
      refine g_iload hX d_L_law_1236 (n := 1238) rfl rfl ?_
      refine g_i2l hX d_L_law_1238 (n := 1239) rfl ?_
      refine g_lcmp hX d_L_law_1239 (n := 1240) rfl ?_
      refine g_if_eq hX 1245 d_L_law_1240 (n := 1243) rfl rfl ?_ ?_
      · exact (g_sub (lw := [some (.ref b), some (.ref (Γ.2.1 0)), some (.ref (Γ.2.1 19)), some (.ref (Γ.2.1 40)), some (.int x4), none, none]) (And.intro rfl (And.intro rfl (And.intro rfl (And.intro rfl (And.intro rfl (True.intro)))))) (m_L_law_1245 hX hB hT c0 z0 hc0 hs0 K23 hK23 u5 x4))
      · exact g_none
  · exact g_none
def f_L_law_1301 (xs : Nat → Int32) (L : Nat) (K23 : Mem → Int32 → Option Unit) (σ : Mem) (x4 : Int32) : Option Unit :=
  f_L_law_1360 xs L K23 σ x4
set_option maxRecDepth 100000 in
set_option maxHeartbeats 4000000 in
theorem m_L_law_1301 {κ : GC} {Γ : GA} {b L : Nat} {xs : Nat → Int32} (hX : Gx κ Γ 7 code "PaneScreenLaw" room_1 ret) (hB : gScr κ Γ b L xs) (hT : κ.2.1.stackTraces = false) (c0 z0 : Nat) (hc0 : c0 + 4 ≤ 601024) (hs0 : z0 + 24 ≤ 7293034) (K23 : Mem → Int32 → Option Unit) (hK23 : ∀ (σ : Mem) (x4 : Int32), GG κ Γ 7 (gQL κ b) (c0 + 4) (z0 + 24) σ [some (.ref b), some (.ref (Γ.2.1 0)), some (.ref (Γ.2.1 19)), some (.ref (Γ.2.1 40)), some (.int x4), none, none] 23 [] (K23 σ x4)) (σ : Mem) (x4 : Int32) : GG κ Γ 7 (gQL κ b) (c0 + 1) (z0 + 6) σ [some (.ref b), some (.ref (Γ.2.1 0)), some (.ref (Γ.2.1 19)), some (.ref (Γ.2.1 40)), some (.int x4), none, none] 1301 [] (f_L_law_1301 xs L K23 σ x4) := by
  unfold f_L_law_1301
  refine g_goto hX 1360 d_L_law_1301 rfl ?_
  exact (g_widen (c1 := c0 + 4) (s1 := z0 + 24) (by omega) (by omega) (m_L_law_1360 hX hB hT c0 z0 hc0 hs0 K23 hK23 σ x4))
def f_L_law_1248 (xs : Nat → Int32) (L : Nat) (K23 : Mem → Int32 → Option Unit) (σ : Mem) (x4 : Int32) : Option Unit :=
  if gin (x4 + 1) L = true then
    gb (f_L_event (xs (x4 + 1).toNatClampNeg) σ) fun r1 u2 =>
    if gin (x4 + 1) L = true then
      gb (f_M_event (xs (x4 + 1).toNatClampNeg) u2) fun r4 u3 =>
      gb (f_M_thrown u3) fun r6 u5 =>
      if r6 = r1 then
        if r1 = 0 then
          if (lg_cmp ((u5 40 (0 : Int32).toNatClampNeg) : Int32).toInt64 (r4 : Int32).toInt64) = 0 then
            f_L_law_1301 xs L K23 u5 x4
          else
            none
        else
          f_L_law_1301 xs L K23 u5 x4
      else
        none
    else none
  else none
set_option maxRecDepth 100000 in
set_option maxHeartbeats 4000000 in
theorem m_L_law_1248 {κ : GC} {Γ : GA} {b L : Nat} {xs : Nat → Int32} (hX : Gx κ Γ 7 code "PaneScreenLaw" room_1 ret) (hB : gScr κ Γ b L xs) (hT : κ.2.1.stackTraces = false) (c0 z0 : Nat) (hc0 : c0 + 4 ≤ 601024) (hs0 : z0 + 24 ≤ 7293034) (K23 : Mem → Int32 → Option Unit) (hK23 : ∀ (σ : Mem) (x4 : Int32), GG κ Γ 7 (gQL κ b) (c0 + 4) (z0 + 24) σ [some (.ref b), some (.ref (Γ.2.1 0)), some (.ref (Γ.2.1 19)), some (.ref (Γ.2.1 40)), some (.int x4), none, none] 23 [] (K23 σ x4)) (σ : Mem) (x4 : Int32) : GG κ Γ 7 (gQL κ b) (c0 + 0) (z0 + 0) σ [some (.ref b), some (.ref (Γ.2.1 0)), some (.ref (Γ.2.1 19)), some (.ref (Γ.2.1 40)), some (.int x4), none, none] 1248 [] (f_L_law_1248 xs L K23 σ x4) := by
  unfold f_L_law_1248
  refine g_aload_n hX 1 d_L_law_1248 (n := 1249) rfl rfl rfl ?_
  refine g_aload_n hX 0 d_L_law_1249 (n := 1250) rfl rfl rfl ?_
  refine g_iload hX d_L_law_1250 (n := 1252) rfl rfl ?_
  refine g_iconst hX 1 d_L_law_1252 (n := 1253) rfl k_iconst_1 ?_
  refine g_iadd hX d_L_law_1253 (n := 1254) rfl ?_
  refine g_sld hX hB d_L_law_1254 (n := 1255) rfl ?_
  refine g_aload_n hX 3 d_L_law_1255 (n := 1256) rfl rfl rfl ?_
  refine g_cH hX [_, _, _] rfl (c0 + 1) (z0 + 6) (c_L_event _ hT Γ (xs (x4 + 1).toNatClampNeg) σ) gwh_150 rfl d_L_law_1256 (n := 1259) rfl ⟨by decide, by decide⟩ ⟨(by show c0 + 0 + 1 ≤ 601024; omega), (by show z0 + 0 + 6 ≤ 7293034; omega)⟩ (Nat.le_of_ble_eq_true rfl) rfl rfl (fun r1 u2 => ?_)
  refine g_istore hX [_, _, _, _, _, _, _] d_L_law_1259 (n := 1261) rfl (by decide) rfl ?_
  refine g_aload_n hX 2 d_L_law_1261 (n := 1262) rfl rfl rfl ?_
  refine g_aload_n hX 0 d_L_law_1262 (n := 1263) rfl rfl rfl ?_
  refine g_iload hX d_L_law_1263 (n := 1265) rfl rfl ?_
  refine g_iconst hX 1 d_L_law_1265 (n := 1266) rfl k_iconst_1 ?_
  refine g_iadd hX d_L_law_1266 (n := 1267) rfl ?_
  refine g_sld hX hB d_L_law_1267 (n := 1268) rfl ?_
  refine g_cVi hX [_] rfl (c0 + 1) (z0 + 6) (c_M_event _ Γ (xs (x4 + 1).toNatClampNeg) u2) gw_L_152 rfl sh_19 rfl d_L_law_1268 (n := 1271) rfl ⟨by decide, by decide⟩ ⟨(by show c0 + 1 + 0 ≤ 601024; omega), (by show z0 + 6 + 0 ≤ 7293034; omega)⟩ (Nat.le_of_ble_eq_true rfl) rfl rfl (fun r4 u3 => ?_)
  refine g_istore hX [_, _, _, _, _, _, _] d_L_law_1271 (n := 1273) rfl (by decide) rfl ?_
  refine g_aload_n hX 2 d_L_law_1273 (n := 1274) rfl rfl rfl ?_
  refine g_cVi hX [] rfl (c0 + 1) (z0 + 6) (c_M_thrown _ Γ u3) gw_L_88 rfl sh_19 rfl d_L_law_1274 (n := 1277) rfl ⟨by decide, by decide⟩ ⟨(by show c0 + 1 + 0 ≤ 601024; omega), (by show z0 + 6 + 0 ≤ 7293034; omega)⟩ (Nat.le_of_ble_eq_true rfl) rfl rfl (fun r6 u5 => ?_)
  refine g_iload hX d_L_law_1277 (n := 1279) rfl rfl ?_
  refine g_icmp_eq hX 1284 d_L_law_1279 (n := 1282) rfl rfl ?_ ?_
  · refine g_iload hX d_L_law_1284 (n := 1286) rfl rfl ?_
    refine g_if_ne hX 1301 d_L_law_1286 (n := 1289) rfl rfl ?_ ?_
    · exact (g_sub (lw := [some (.ref b), some (.ref (Γ.2.1 0)), some (.ref (Γ.2.1 19)), some (.ref (Γ.2.1 40)), some (.int x4), none, none]) (And.intro rfl (And.intro rfl (And.intro rfl (And.intro rfl (And.intro rfl (True.intro)))))) (m_L_law_1301 hX hB hT c0 z0 hc0 hs0 K23 hK23 u5 x4))
    · refine g_aload_n hX 3 d_L_law_1289 (n := 1290) rfl rfl rfl ?_
      refine g_iconst hX 0 d_L_law_1290 (n := 1291) rfl k_iconst_0 ?_
      refine g_laldK hX (by decide) d_L_law_1291 (n := 1292) rfl sh_40 ?_
      refine g_iload hX d_L_law_1292 (n := 1294) rfl rfl ?_
      refine g_i2l hX d_L_law_1294 (n := 1295) rfl ?_
      refine g_lcmp hX d_L_law_1295 (n := 1296) rfl ?_
      refine g_if_eq hX 1301 d_L_law_1296 (n := 1299) rfl rfl ?_ ?_
      · exact (g_sub (lw := [some (.ref b), some (.ref (Γ.2.1 0)), some (.ref (Γ.2.1 19)), some (.ref (Γ.2.1 40)), some (.int x4), none, none]) (And.intro rfl (And.intro rfl (And.intro rfl (And.intro rfl (And.intro rfl (True.intro)))))) (m_L_law_1301 hX hB hT c0 z0 hc0 hs0 K23 hK23 u5 x4))
      · exact g_none
  · exact g_none
def f_L_law_1357 (xs : Nat → Int32) (L : Nat) (K23 : Mem → Int32 → Option Unit) (σ : Mem) (x4 : Int32) : Option Unit :=
  f_L_law_1360 xs L K23 σ x4
set_option maxRecDepth 100000 in
set_option maxHeartbeats 4000000 in
theorem m_L_law_1357 {κ : GC} {Γ : GA} {b L : Nat} {xs : Nat → Int32} (hX : Gx κ Γ 7 code "PaneScreenLaw" room_1 ret) (hB : gScr κ Γ b L xs) (hT : κ.2.1.stackTraces = false) (c0 z0 : Nat) (hc0 : c0 + 4 ≤ 601024) (hs0 : z0 + 24 ≤ 7293034) (K23 : Mem → Int32 → Option Unit) (hK23 : ∀ (σ : Mem) (x4 : Int32), GG κ Γ 7 (gQL κ b) (c0 + 4) (z0 + 24) σ [some (.ref b), some (.ref (Γ.2.1 0)), some (.ref (Γ.2.1 19)), some (.ref (Γ.2.1 40)), some (.int x4), none, none] 23 [] (K23 σ x4)) (σ : Mem) (x4 : Int32) : GG κ Γ 7 (gQL κ b) (c0 + 1) (z0 + 6) σ [some (.ref b), some (.ref (Γ.2.1 0)), some (.ref (Γ.2.1 19)), some (.ref (Γ.2.1 40)), some (.int x4), none, none] 1357 [] (f_L_law_1357 xs L K23 σ x4) := by
  unfold f_L_law_1357
  refine g_goto hX 1360 d_L_law_1357 rfl ?_
  exact (g_widen (c1 := c0 + 4) (s1 := z0 + 24) (by omega) (by omega) (m_L_law_1360 hX hB hT c0 z0 hc0 hs0 K23 hK23 σ x4))
def f_L_law_1304 (xs : Nat → Int32) (L : Nat) (K23 : Mem → Int32 → Option Unit) (σ : Mem) (x4 : Int32) : Option Unit :=
  if gin (x4 + 1) L = true then
    gb (f_L_figure (xs (x4 + 1).toNatClampNeg) σ) fun r1 u2 =>
    if gin (x4 + 1) L = true then
      gb (f_M_figure (xs (x4 + 1).toNatClampNeg) u2) fun r4 u3 =>
      gb (f_M_thrown u3) fun r6 u5 =>
      if r6 = r1 then
        if r1 = 0 then
          if (lg_cmp ((u5 40 (0 : Int32).toNatClampNeg) : Int32).toInt64 (r4 : Int32).toInt64) = 0 then
            f_L_law_1357 xs L K23 u5 x4
          else
            none
        else
          f_L_law_1357 xs L K23 u5 x4
      else
        none
    else none
  else none
set_option maxRecDepth 100000 in
set_option maxHeartbeats 4000000 in
theorem m_L_law_1304 {κ : GC} {Γ : GA} {b L : Nat} {xs : Nat → Int32} (hX : Gx κ Γ 7 code "PaneScreenLaw" room_1 ret) (hB : gScr κ Γ b L xs) (hT : κ.2.1.stackTraces = false) (c0 z0 : Nat) (hc0 : c0 + 4 ≤ 601024) (hs0 : z0 + 24 ≤ 7293034) (K23 : Mem → Int32 → Option Unit) (hK23 : ∀ (σ : Mem) (x4 : Int32), GG κ Γ 7 (gQL κ b) (c0 + 4) (z0 + 24) σ [some (.ref b), some (.ref (Γ.2.1 0)), some (.ref (Γ.2.1 19)), some (.ref (Γ.2.1 40)), some (.int x4), none, none] 23 [] (K23 σ x4)) (σ : Mem) (x4 : Int32) : GG κ Γ 7 (gQL κ b) (c0 + 0) (z0 + 0) σ [some (.ref b), some (.ref (Γ.2.1 0)), some (.ref (Γ.2.1 19)), some (.ref (Γ.2.1 40)), some (.int x4), none, none] 1304 [] (f_L_law_1304 xs L K23 σ x4) := by
  unfold f_L_law_1304
  refine g_aload_n hX 1 d_L_law_1304 (n := 1305) rfl rfl rfl ?_
  refine g_aload_n hX 0 d_L_law_1305 (n := 1306) rfl rfl rfl ?_
  refine g_iload hX d_L_law_1306 (n := 1308) rfl rfl ?_
  refine g_iconst hX 1 d_L_law_1308 (n := 1309) rfl k_iconst_1 ?_
  refine g_iadd hX d_L_law_1309 (n := 1310) rfl ?_
  refine g_sld hX hB d_L_law_1310 (n := 1311) rfl ?_
  refine g_aload_n hX 3 d_L_law_1311 (n := 1312) rfl rfl rfl ?_
  refine g_cH hX [_, _, _] rfl (c0 + 1) (z0 + 6) (c_L_figure _ hT Γ (xs (x4 + 1).toNatClampNeg) σ) gwh_153 rfl d_L_law_1312 (n := 1315) rfl ⟨by decide, by decide⟩ ⟨(by show c0 + 0 + 1 ≤ 601024; omega), (by show z0 + 0 + 6 ≤ 7293034; omega)⟩ (Nat.le_of_ble_eq_true rfl) rfl rfl (fun r1 u2 => ?_)
  refine g_istore hX [_, _, _, _, _, _, _] d_L_law_1315 (n := 1317) rfl (by decide) rfl ?_
  refine g_aload_n hX 2 d_L_law_1317 (n := 1318) rfl rfl rfl ?_
  refine g_aload_n hX 0 d_L_law_1318 (n := 1319) rfl rfl rfl ?_
  refine g_iload hX d_L_law_1319 (n := 1321) rfl rfl ?_
  refine g_iconst hX 1 d_L_law_1321 (n := 1322) rfl k_iconst_1 ?_
  refine g_iadd hX d_L_law_1322 (n := 1323) rfl ?_
  refine g_sld hX hB d_L_law_1323 (n := 1324) rfl ?_
  refine g_cVi hX [_] rfl (c0 + 1) (z0 + 6) (c_M_figure _ Γ (xs (x4 + 1).toNatClampNeg) u2) gw_L_155 rfl sh_19 rfl d_L_law_1324 (n := 1327) rfl ⟨by decide, by decide⟩ ⟨(by show c0 + 1 + 0 ≤ 601024; omega), (by show z0 + 6 + 0 ≤ 7293034; omega)⟩ (Nat.le_of_ble_eq_true rfl) rfl rfl (fun r4 u3 => ?_)
  refine g_istore hX [_, _, _, _, _, _, _] d_L_law_1327 (n := 1329) rfl (by decide) rfl ?_
  refine g_aload_n hX 2 d_L_law_1329 (n := 1330) rfl rfl rfl ?_
  refine g_cVi hX [] rfl (c0 + 1) (z0 + 6) (c_M_thrown _ Γ u3) gw_L_88 rfl sh_19 rfl d_L_law_1330 (n := 1333) rfl ⟨by decide, by decide⟩ ⟨(by show c0 + 1 + 0 ≤ 601024; omega), (by show z0 + 6 + 0 ≤ 7293034; omega)⟩ (Nat.le_of_ble_eq_true rfl) rfl rfl (fun r6 u5 => ?_)
  refine g_iload hX d_L_law_1333 (n := 1335) rfl rfl ?_
  refine g_icmp_eq hX 1340 d_L_law_1335 (n := 1338) rfl rfl ?_ ?_
  · refine g_iload hX d_L_law_1340 (n := 1342) rfl rfl ?_
    refine g_if_ne hX 1357 d_L_law_1342 (n := 1345) rfl rfl ?_ ?_
    · exact (g_sub (lw := [some (.ref b), some (.ref (Γ.2.1 0)), some (.ref (Γ.2.1 19)), some (.ref (Γ.2.1 40)), some (.int x4), none, none]) (And.intro rfl (And.intro rfl (And.intro rfl (And.intro rfl (And.intro rfl (True.intro)))))) (m_L_law_1357 hX hB hT c0 z0 hc0 hs0 K23 hK23 u5 x4))
    · refine g_aload_n hX 3 d_L_law_1345 (n := 1346) rfl rfl rfl ?_
      refine g_iconst hX 0 d_L_law_1346 (n := 1347) rfl k_iconst_0 ?_
      refine g_laldK hX (by decide) d_L_law_1347 (n := 1348) rfl sh_40 ?_
      refine g_iload hX d_L_law_1348 (n := 1350) rfl rfl ?_
      refine g_i2l hX d_L_law_1350 (n := 1351) rfl ?_
      refine g_lcmp hX d_L_law_1351 (n := 1352) rfl ?_
      refine g_if_eq hX 1357 d_L_law_1352 (n := 1355) rfl rfl ?_ ?_
      · exact (g_sub (lw := [some (.ref b), some (.ref (Γ.2.1 0)), some (.ref (Γ.2.1 19)), some (.ref (Γ.2.1 40)), some (.int x4), none, none]) (And.intro rfl (And.intro rfl (And.intro rfl (And.intro rfl (And.intro rfl (True.intro)))))) (m_L_law_1357 hX hB hT c0 z0 hc0 hs0 K23 hK23 u5 x4))
      · exact g_none
  · exact g_none
def f_L_law_23B (xs : Nat → Int32) (L : Nat) (K23 : Mem → Int32 → Option Unit) (σ : Mem) (x4 : Int32) : Option Unit :=
  if ((Int32.ofNat L) - 6) < x4 then
    some ()
  else
    if gin x4 L = true then
      gsw ((xs x4.toNatClampNeg) &&& 31) 0 [
        (132, (
          f_L_law_132 xs L K23 σ x4
        )),
        (224, (
          f_L_law_224 xs L K23 σ x4
        )),
        (260, (
          f_L_law_260 xs L K23 σ x4
        )),
        (320, (
          f_L_law_320 xs L K23 σ x4
        )),
        (411, (
          f_L_law_411 xs L K23 σ x4
        )),
        (510, (
          f_L_law_510 xs L K23 σ x4
        )),
        (614, (
          f_L_law_614 xs L K23 σ x4
        )),
        (674, (
          f_L_law_674 xs L K23 σ x4
        )),
        (766, (
          f_L_law_766 xs L K23 σ x4
        )),
        (826, (
          f_L_law_826 xs L K23 σ x4
        )),
        (839, (
          f_L_law_839 xs L K23 σ x4
        )),
        (907, (
          f_L_law_907 xs L K23 σ x4
        )),
        (987, (
          f_L_law_987 xs L K23 σ x4
        )),
        (1055, (
          f_L_law_1055 xs L K23 σ x4
        )),
        (1111, (
          f_L_law_1111 xs L K23 σ x4
        )),
        (1179, (
          f_L_law_1179 xs L K23 σ x4
        )),
        (1204, (
          f_L_law_1204 xs L K23 σ x4
        )),
        (1248, (
          f_L_law_1248 xs L K23 σ x4
        )),
        (1304, (
          f_L_law_1304 xs L K23 σ x4
        ))
      ] (
        f_L_law_1360 xs L K23 σ x4
      )
    else none
set_option maxRecDepth 100000 in
set_option maxHeartbeats 4000000 in
theorem m_L_law_23B {κ : GC} {Γ : GA} {b L : Nat} {xs : Nat → Int32} (hX : Gx κ Γ 7 code "PaneScreenLaw" room_1 ret) (hB : gScr κ Γ b L xs) (hT : κ.2.1.stackTraces = false) (c0 z0 : Nat) (hc0 : c0 + 4 ≤ 601024) (hs0 : z0 + 24 ≤ 7293034) (K23 : Mem → Int32 → Option Unit) (hK23 : ∀ (σ : Mem) (x4 : Int32), GG κ Γ 7 (gQL κ b) (c0 + 4) (z0 + 24) σ [some (.ref b), some (.ref (Γ.2.1 0)), some (.ref (Γ.2.1 19)), some (.ref (Γ.2.1 40)), some (.int x4), none, none] 23 [] (K23 σ x4)) (σ : Mem) (x4 : Int32) : GG κ Γ 7 (gQL κ b) (c0 + 0) (z0 + 0) σ [some (.ref b), some (.ref (Γ.2.1 0)), some (.ref (Γ.2.1 19)), some (.ref (Γ.2.1 40)), some (.int x4), none, none] 23 [] (f_L_law_23B xs L K23 σ x4) := by
  unfold f_L_law_23B
  refine g_iload hX d_L_law_23 (n := 25) rfl rfl ?_
  refine g_aload_n hX 0 d_L_law_25 (n := 26) rfl rfl rfl ?_
  refine g_slen hX hB d_L_law_26 (n := 27) rfl ?_
  refine g_bipush hX 6 d_L_law_27 (n := 29) rfl k_bipush_6 ?_
  refine g_isub hX d_L_law_29 (n := 30) rfl ?_
  refine g_icmp_gt hX 1366 d_L_law_30 (n := 33) rfl rfl ?_ ?_
  · refine g_iconst hX 1 d_L_law_1366 (n := 1367) rfl k_iconst_1 ?_
    exact g_lret hX hB d_L_law_1367 (by omega) (by omega)
  · refine g_aload_n hX 0 d_L_law_33 (n := 34) rfl rfl rfl ?_
    refine g_iload hX d_L_law_34 (n := 36) rfl rfl ?_
    refine g_sld hX hB d_L_law_36 (n := 37) rfl ?_
    refine g_bipush hX 31 d_L_law_37 (n := 39) rfl k_bipush_31 ?_
    refine g_iand hX d_L_law_39 (n := 40) rfl ?_
    refine g_table hX [(132, _), (224, _), (260, _), (320, _), (411, _), (510, _), (614, _), (674, _), (766, _), (826, _), (839, _), (907, _), (987, _), (1055, _), (1111, _), (1179, _), (1204, _), (1248, _), (1304, _)] 1360 d_L_law_40 rfl rfl rfl ?_ ⟨?_, ?_, ?_, ?_, ?_, ?_, ?_, ?_, ?_, ?_, ?_, ?_, ?_, ?_, ?_, ?_, ?_, ?_, ?_, True.intro⟩
    · exact (g_widen (c1 := c0 + 4) (s1 := z0 + 24) (by omega) (by omega) (m_L_law_1360 hX hB hT c0 z0 hc0 hs0 K23 hK23 σ x4))
    · exact (m_L_law_132 hX hB hT c0 z0 hc0 hs0 K23 hK23 σ x4)
    · exact (m_L_law_224 hX hB hT c0 z0 hc0 hs0 K23 hK23 σ x4)
    · exact (m_L_law_260 hX hB hT c0 z0 hc0 hs0 K23 hK23 σ x4)
    · exact (m_L_law_320 hX hB hT c0 z0 hc0 hs0 K23 hK23 σ x4)
    · exact (m_L_law_411 hX hB hT c0 z0 hc0 hs0 K23 hK23 σ x4)
    · exact (m_L_law_510 hX hB hT c0 z0 hc0 hs0 K23 hK23 σ x4)
    · exact (m_L_law_614 hX hB hT c0 z0 hc0 hs0 K23 hK23 σ x4)
    · exact (m_L_law_674 hX hB hT c0 z0 hc0 hs0 K23 hK23 σ x4)
    · exact (m_L_law_766 hX hB hT c0 z0 hc0 hs0 K23 hK23 σ x4)
    · exact (m_L_law_826 hX hB hT c0 z0 hc0 hs0 K23 hK23 σ x4)
    · exact (m_L_law_839 hX hB hT c0 z0 hc0 hs0 K23 hK23 σ x4)
    · exact (m_L_law_907 hX hB hT c0 z0 hc0 hs0 K23 hK23 σ x4)
    · exact (m_L_law_987 hX hB hT c0 z0 hc0 hs0 K23 hK23 σ x4)
    · exact (m_L_law_1055 hX hB hT c0 z0 hc0 hs0 K23 hK23 σ x4)
    · exact (m_L_law_1111 hX hB hT c0 z0 hc0 hs0 K23 hK23 σ x4)
    · exact (m_L_law_1179 hX hB hT c0 z0 hc0 hs0 K23 hK23 σ x4)
    · exact (m_L_law_1204 hX hB hT c0 z0 hc0 hs0 K23 hK23 σ x4)
    · exact (m_L_law_1248 hX hB hT c0 z0 hc0 hs0 K23 hK23 σ x4)
    · exact (m_L_law_1304 hX hB hT c0 z0 hc0 hs0 K23 hK23 σ x4)
def f_L_law_23 (xs : Nat → Int32) (L : Nat) (n : Nat) : Mem → Int32 → Option Unit := gfix (fun _ _ => none) (fun K23 => f_L_law_23B xs L K23) n
theorem m_L_law_23 {κ : GC} {Γ : GA} {b L : Nat} {xs : Nat → Int32} (hX : Gx κ Γ 7 code "PaneScreenLaw" room_1 ret) (hB : gScr κ Γ b L xs) (hT : κ.2.1.stackTraces = false) (n : Nat) : ∀ (c0 z0 : Nat), c0 + 4 * n ≤ 601024 → z0 + 24 * n ≤ 7293034 → ∀ (σ : Mem) (x4 : Int32), GG κ Γ 7 (gQL κ b) (c0 + 0) (z0 + 0) σ [some (.ref b), some (.ref (Γ.2.1 0)), some (.ref (Γ.2.1 19)), some (.ref (Γ.2.1 40)), some (.int x4), none, none] 23 [] (f_L_law_23 xs L n σ x4) := by
  induction n with
  | zero => intros; exact g_none
  | succ n ih => intro c0 z0 h1 h2 σ x4; exact m_L_law_23B hX hB hT c0 z0 (by omega) (by omega) (f_L_law_23 xs L n) (fun σ x4 => ih (c0 + 4) (z0 + 24) (by omega) (by omega) σ x4) σ x4
