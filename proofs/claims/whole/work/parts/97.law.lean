abbrev mL_law : gb_M := (x, code, 4, some .boolean)
def fbL_law_966 (X : gb_X) (k18 : Nat → Nat → Int32 → gb_H → Option (Int32 × gb_H)) (v1 : Nat) (v2 : Nat) (v3 : Int32) (h : gb_H) : Option (Int32 × gb_H) :=
  gb_lt (v3 + (8 : Int32)) fun x1 =>
  k18 v1 v2 x1 h
theorem fbL_law_966_ok {X : gb_X} {k18 : Nat → Nat → Int32 → gb_H → Option (Int32 × gb_H)} (hk18 : ∀ v1 v2 v3 h r, k18 v1 v2 v3 h = some r → gb_Ev X 17 mL_law 18 [some (.retAddr 1000), some (.ref v1), some (.ref v2), some (.int v3)] [] h (gb_wI r)) (v1 : Nat) (v2 : Nat) (v3 : Int32) (h : gb_H) (r : Int32 × gb_H) (hF : fbL_law_966 X k18 v1 v2 v3 h = some r) : gb_Ev X 17 mL_law 966 [some (.retAddr 1000), some (.ref v1), some (.ref v2), some (.int v3)] [] h (gb_wI r) := by
  unfold fbL_law_966 at hF
  obtain ⟨x1, ex1, hF⟩ := gb_ltE hF
  refine gb_iinc (v := x1) (L' := [some (.retAddr 1000), some (.ref v1), some (.ref v2), some (.int x1)]) dL_law_966 rfl (by rw [ex1]; rfl) (by decide) rfl rfl ?_
  refine gb_goto (tgt := 18) dL_law_969 (by decide) ?_
  exact gb_wk (hk18 v1 v2 x1 h r hF) (And.intro rfl (And.intro rfl (And.intro rfl (And.intro rfl trivial))))
def fbL_law_18 (X : gb_X) (k18 : Nat → Nat → Int32 → gb_H → Option (Int32 × gb_H)) (v1 : Nat) (v2 : Nat) (v3 : Int32) (h : gb_H) : Option (Int32 × gb_H) :=
  if ((Int32.ofNat X.1) - (8 : Int32)) < v3 then
    some ((1 : Int32), h)
  else
    gb_gd (gb_inX X v3) <|
    gb_lt ((X.2 v3.toNatClampNeg) &&& (31 : Int32)) fun x3 =>
    if x3 = 0 then
      gb_lt (v3 + (1 : Int32)) fun x5 =>
      gb_gd (gb_inX X x5) <|
      gb_gd (gb_k h v1 10) <|
      gb_bd (fnX10_grain v1 (X.2 x5.toNatClampNeg) h) fun x8 h9 =>
      gb_lt (v3 + (1 : Int32)) fun x10 =>
      gb_gd (gb_inX X x10) <|
      gb_gd (gb_k h9 v2 11) <|
      gb_bd (fnX11_grain v2 (X.2 x10.toNatClampNeg) h9) fun x13 h14 =>
      if x8 = x13 then
        fbL_law_966 X k18 v1 v2 v3 h14
      else
        some ((0 : Int32), h14)
    else
      if x3 = 1 then
        gb_gd (gb_k h v1 10) <|
        gb_bd (fnX10_clear v1 h) fun x18 h19 =>
        gb_gd (gb_k h19 v2 11) <|
        gb_bd (fnX11_clear v2 h19) fun x21 h22 =>
        if x18 = x21 then
          fbL_law_966 X k18 v1 v2 v3 h22
        else
          some ((0 : Int32), h22)
      else
        if x3 = 2 then
          gb_lt (v3 + (1 : Int32)) fun x25 =>
          gb_gd (gb_inX X x25) <|
          gb_lt (v3 + (2 : Int32)) fun x27 =>
          gb_gd (gb_inX X x27) <|
          gb_lt (v3 + (3 : Int32)) fun x29 =>
          gb_gd (gb_inX X x29) <|
          gb_lt (v3 + (4 : Int32)) fun x31 =>
          gb_gd (gb_inX X x31) <|
          gb_lt (v3 + (5 : Int32)) fun x33 =>
          gb_gd (gb_inX X x33) <|
          gb_gd (gb_k h v1 10) <|
          gb_bd (fnX10_feed v1 (X.2 x25.toNatClampNeg) (X.2 x27.toNatClampNeg) (X.2 x29.toNatClampNeg) (X.2 x31.toNatClampNeg) (X.2 x33.toNatClampNeg) h) fun x36 h37 =>
          gb_lt (v3 + (1 : Int32)) fun x38 =>
          gb_gd (gb_inX X x38) <|
          gb_lt (v3 + (2 : Int32)) fun x40 =>
          gb_gd (gb_inX X x40) <|
          gb_lt (v3 + (3 : Int32)) fun x42 =>
          gb_gd (gb_inX X x42) <|
          gb_lt (v3 + (4 : Int32)) fun x44 =>
          gb_gd (gb_inX X x44) <|
          gb_lt (v3 + (5 : Int32)) fun x46 =>
          gb_gd (gb_inX X x46) <|
          gb_gd (gb_k h37 v2 11) <|
          gb_bd (fnX11_feed v2 (X.2 x38.toNatClampNeg) (X.2 x40.toNatClampNeg) (X.2 x42.toNatClampNeg) (X.2 x44.toNatClampNeg) (X.2 x46.toNatClampNeg) h37) fun x49 h50 =>
          if x36 = x49 then
            fbL_law_966 X k18 v1 v2 v3 h50
          else
            some ((0 : Int32), h50)
        else
          if x3 = 3 then
            gb_lt (v3 + (1 : Int32)) fun x53 =>
            gb_gd (gb_inX X x53) <|
            gb_gd (gb_k h v1 10) <|
            gb_bd (fnX10_end v1 (X.2 x53.toNatClampNeg) h) fun x56 h57 =>
            gb_lt (v3 + (1 : Int32)) fun x58 =>
            gb_gd (gb_inX X x58) <|
            gb_gd (gb_k h57 v2 11) <|
            gb_bd (fnX11_end v2 (X.2 x58.toNatClampNeg) h57) fun x61 h62 =>
            if x56 = x61 then
              fbL_law_966 X k18 v1 v2 v3 h62
            else
              some ((0 : Int32), h62)
          else
            if x3 = 4 then
              gb_lt (v3 + (1 : Int32)) fun x65 =>
              gb_gd (gb_inX X x65) <|
              gb_gd (gb_k h v1 10) <|
              gb_bd (fnX10_bench v1 (X.2 x65.toNatClampNeg) h) fun x68 h69 =>
              gb_lt (v3 + (1 : Int32)) fun x70 =>
              gb_gd (gb_inX X x70) <|
              gb_gd (gb_k h69 v2 11) <|
              gb_bd (fnX11_bench v2 (X.2 x70.toNatClampNeg) h69) fun x73 h74 =>
              if x68 = x73 then
                fbL_law_966 X k18 v1 v2 v3 h74
              else
                some ((0 : Int32), h74)
            else
              if x3 = 5 then
                gb_gd (gb_k h v1 10) <|
                gb_bd (fnX10_shelf v1 h) fun x78 h79 =>
                gb_gd (gb_k h79 v2 11) <|
                gb_bd (fnX11_shelf v2 h79) fun x81 h82 =>
                if x78 = x81 then
                  fbL_law_966 X k18 v1 v2 v3 h82
                else
                  some ((0 : Int32), h82)
              else
                if x3 = 6 then
                  gb_gd (gb_k h v1 10) <|
                  gb_bd (fnX10_fault v1 h) fun x86 h87 =>
                  gb_gd (gb_k h87 v2 11) <|
                  gb_bd (fnX11_fault v2 h87) fun x89 h90 =>
                  if x86 = x89 then
                    fbL_law_966 X k18 v1 v2 v3 h90
                  else
                    some ((0 : Int32), h90)
                else
                  if x3 = 7 then
                    gb_lt (v3 + (1 : Int32)) fun x93 =>
                    gb_gd (gb_inX X x93) <|
                    gb_gd (gb_k h v1 10) <|
                    gb_bd (fnX10_deep v1 (X.2 x93.toNatClampNeg) h) fun x96 h97 =>
                    gb_lt (v3 + (1 : Int32)) fun x98 =>
                    gb_gd (gb_inX X x98) <|
                    gb_gd (gb_k h97 v2 11) <|
                    gb_bd (fnX11_deep v2 (X.2 x98.toNatClampNeg) h97) fun x101 h102 =>
                    if x96 = x101 then
                      fbL_law_966 X k18 v1 v2 v3 h102
                    else
                      some ((0 : Int32), h102)
                  else
                    if x3 = 8 then
                      gb_lt (v3 + (1 : Int32)) fun x105 =>
                      gb_gd (gb_inX X x105) <|
                      gb_lt (v3 + (2 : Int32)) fun x107 =>
                      gb_gd (gb_inX X x107) <|
                      gb_lt (v3 + (3 : Int32)) fun x109 =>
                      gb_gd (gb_inX X x109) <|
                      gb_lt (v3 + (4 : Int32)) fun x111 =>
                      gb_gd (gb_inX X x111) <|
                      gb_gd (gb_k h v1 10) <|
                      gb_bd (fnX10_way v1 (X.2 x105.toNatClampNeg) (X.2 x107.toNatClampNeg) (X.2 x109.toNatClampNeg) (X.2 x111.toNatClampNeg) h) fun x114 h115 =>
                      gb_lt (v3 + (1 : Int32)) fun x116 =>
                      gb_gd (gb_inX X x116) <|
                      gb_lt (v3 + (2 : Int32)) fun x118 =>
                      gb_gd (gb_inX X x118) <|
                      gb_lt (v3 + (3 : Int32)) fun x120 =>
                      gb_gd (gb_inX X x120) <|
                      gb_lt (v3 + (4 : Int32)) fun x122 =>
                      gb_gd (gb_inX X x122) <|
                      gb_gd (gb_k h115 v2 11) <|
                      gb_bd (fnX11_way v2 (X.2 x116.toNatClampNeg) (X.2 x118.toNatClampNeg) (X.2 x120.toNatClampNeg) (X.2 x122.toNatClampNeg) h115) fun x125 h126 =>
                      if x114 = x125 then
                        fbL_law_966 X k18 v1 v2 v3 h126
                      else
                        some ((0 : Int32), h126)
                    else
                      if x3 = 9 then
                        gb_lt (v3 + (1 : Int32)) fun x129 =>
                        gb_gd (gb_inX X x129) <|
                        gb_lt (v3 + (2 : Int32)) fun x131 =>
                        gb_gd (gb_inX X x131) <|
                        gb_lt (v3 + (3 : Int32)) fun x133 =>
                        gb_gd (gb_inX X x133) <|
                        gb_lt (v3 + (4 : Int32)) fun x135 =>
                        gb_gd (gb_inX X x135) <|
                        gb_lt (v3 + (5 : Int32)) fun x137 =>
                        gb_gd (gb_inX X x137) <|
                        gb_lt (v3 + (6 : Int32)) fun x139 =>
                        gb_gd (gb_inX X x139) <|
                        gb_lt (v3 + (7 : Int32)) fun x141 =>
                        gb_gd (gb_inX X x141) <|
                        gb_gd (gb_k h v1 10) <|
                        gb_bd (fnX10_odds v1 (X.2 x129.toNatClampNeg) (X.2 x131.toNatClampNeg) (X.2 x133.toNatClampNeg) (X.2 x135.toNatClampNeg) (X.2 x137.toNatClampNeg) (X.2 x139.toNatClampNeg) (X.2 x141.toNatClampNeg) h) fun x144 h145 =>
                        gb_lt (v3 + (1 : Int32)) fun x146 =>
                        gb_gd (gb_inX X x146) <|
                        gb_lt (v3 + (2 : Int32)) fun x148 =>
                        gb_gd (gb_inX X x148) <|
                        gb_lt (v3 + (3 : Int32)) fun x150 =>
                        gb_gd (gb_inX X x150) <|
                        gb_lt (v3 + (4 : Int32)) fun x152 =>
                        gb_gd (gb_inX X x152) <|
                        gb_lt (v3 + (5 : Int32)) fun x154 =>
                        gb_gd (gb_inX X x154) <|
                        gb_lt (v3 + (6 : Int32)) fun x156 =>
                        gb_gd (gb_inX X x156) <|
                        gb_lt (v3 + (7 : Int32)) fun x158 =>
                        gb_gd (gb_inX X x158) <|
                        gb_gd (gb_k h145 v2 11) <|
                        gb_bd (fnX11_odds v2 (X.2 x146.toNatClampNeg) (X.2 x148.toNatClampNeg) (X.2 x150.toNatClampNeg) (X.2 x152.toNatClampNeg) (X.2 x154.toNatClampNeg) (X.2 x156.toNatClampNeg) (X.2 x158.toNatClampNeg) h145) fun x161 h162 =>
                        if x144 = x161 then
                          fbL_law_966 X k18 v1 v2 v3 h162
                        else
                          some ((0 : Int32), h162)
                      else
                        if x3 = 10 then
                          gb_lt (v3 + (1 : Int32)) fun x165 =>
                          gb_gd (gb_inX X x165) <|
                          gb_lt (v3 + (2 : Int32)) fun x167 =>
                          gb_gd (gb_inX X x167) <|
                          gb_gd (gb_k h v1 10) <|
                          gb_bd (fnX10_dark v1 (X.2 x165.toNatClampNeg) (X.2 x167.toNatClampNeg) h) fun x170 h171 =>
                          gb_lt (v3 + (1 : Int32)) fun x172 =>
                          gb_gd (gb_inX X x172) <|
                          gb_lt (v3 + (2 : Int32)) fun x174 =>
                          gb_gd (gb_inX X x174) <|
                          gb_gd (gb_k h171 v2 11) <|
                          gb_bd (fnX11_dark v2 (X.2 x172.toNatClampNeg) (X.2 x174.toNatClampNeg) h171) fun x177 h178 =>
                          if x170 = x177 then
                            fbL_law_966 X k18 v1 v2 v3 h178
                          else
                            some ((0 : Int32), h178)
                        else
                          if x3 = 11 then
                            gb_lt (v3 + (1 : Int32)) fun x181 =>
                            gb_gd (gb_inX X x181) <|
                            gb_lt (v3 + (2 : Int32)) fun x183 =>
                            gb_gd (gb_inX X x183) <|
                            gb_lt (v3 + (3 : Int32)) fun x185 =>
                            gb_gd (gb_inX X x185) <|
                            gb_gd (gb_k h v1 10) <|
                            gb_bd (fnX10_clicks v1 (X.2 x181.toNatClampNeg) (X.2 x183.toNatClampNeg) (X.2 x185.toNatClampNeg) h) fun x188 h189 =>
                            gb_lt (v3 + (1 : Int32)) fun x190 =>
                            gb_gd (gb_inX X x190) <|
                            gb_lt (v3 + (2 : Int32)) fun x192 =>
                            gb_gd (gb_inX X x192) <|
                            gb_lt (v3 + (3 : Int32)) fun x194 =>
                            gb_gd (gb_inX X x194) <|
                            gb_gd (gb_k h189 v2 11) <|
                            gb_bd (fnX11_clicks v2 (X.2 x190.toNatClampNeg) (X.2 x192.toNatClampNeg) (X.2 x194.toNatClampNeg) h189) fun x197 h198 =>
                            if x188 = x197 then
                              fbL_law_966 X k18 v1 v2 v3 h198
                            else
                              some ((0 : Int32), h198)
                          else
                            if x3 = 12 then
                              gb_lt (v3 + (1 : Int32)) fun x201 =>
                              gb_gd (gb_inX X x201) <|
                              gb_lt (v3 + (2 : Int32)) fun x203 =>
                              gb_gd (gb_inX X x203) <|
                              gb_lt (v3 + (3 : Int32)) fun x205 =>
                              gb_gd (gb_inX X x205) <|
                              gb_gd (gb_k h v1 10) <|
                              gb_bd (fnX10_run v1 (X.2 x201.toNatClampNeg) (X.2 x203.toNatClampNeg) (X.2 x205.toNatClampNeg) h) fun x208 h209 =>
                              gb_lt (v3 + (1 : Int32)) fun x210 =>
                              gb_gd (gb_inX X x210) <|
                              gb_lt (v3 + (2 : Int32)) fun x212 =>
                              gb_gd (gb_inX X x212) <|
                              gb_lt (v3 + (3 : Int32)) fun x214 =>
                              gb_gd (gb_inX X x214) <|
                              gb_gd (gb_k h209 v2 11) <|
                              gb_bd (fnX11_run v2 (X.2 x210.toNatClampNeg) (X.2 x212.toNatClampNeg) (X.2 x214.toNatClampNeg) h209) fun x217 h218 =>
                              if x208 = x217 then
                                fbL_law_966 X k18 v1 v2 v3 h218
                              else
                                some ((0 : Int32), h218)
                            else
                              if x3 = 13 then
                                gb_lt (v3 + (1 : Int32)) fun x221 =>
                                gb_gd (gb_inX X x221) <|
                                gb_lt (v3 + (2 : Int32)) fun x223 =>
                                gb_gd (gb_inX X x223) <|
                                gb_lt (v3 + (3 : Int32)) fun x225 =>
                                gb_gd (gb_inX X x225) <|
                                gb_gd (gb_k h v1 10) <|
                                gb_bd (fnX10_counted v1 (X.2 x221.toNatClampNeg) (X.2 x223.toNatClampNeg) (X.2 x225.toNatClampNeg) h) fun x228 h229 =>
                                gb_lt (v3 + (1 : Int32)) fun x230 =>
                                gb_gd (gb_inX X x230) <|
                                gb_lt (v3 + (2 : Int32)) fun x232 =>
                                gb_gd (gb_inX X x232) <|
                                gb_lt (v3 + (3 : Int32)) fun x234 =>
                                gb_gd (gb_inX X x234) <|
                                gb_gd (gb_k h229 v2 11) <|
                                gb_bd (fnX11_counted v2 (X.2 x230.toNatClampNeg) (X.2 x232.toNatClampNeg) (X.2 x234.toNatClampNeg) h229) fun x237 h238 =>
                                if x228 = x237 then
                                  fbL_law_966 X k18 v1 v2 v3 h238
                                else
                                  some ((0 : Int32), h238)
                              else
                                if x3 = 14 then
                                  gb_lt (v3 + (1 : Int32)) fun x241 =>
                                  gb_gd (gb_inX X x241) <|
                                  gb_lt (v3 + (2 : Int32)) fun x243 =>
                                  gb_gd (gb_inX X x243) <|
                                  gb_gd (gb_k h v1 10) <|
                                  gb_bd (fnX10_wrong v1 (X.2 x241.toNatClampNeg) (X.2 x243.toNatClampNeg) h) fun x246 h247 =>
                                  gb_lt (v3 + (1 : Int32)) fun x248 =>
                                  gb_gd (gb_inX X x248) <|
                                  gb_lt (v3 + (2 : Int32)) fun x250 =>
                                  gb_gd (gb_inX X x250) <|
                                  gb_gd (gb_k h247 v2 11) <|
                                  gb_bd (fnX11_wrong v2 (X.2 x248.toNatClampNeg) (X.2 x250.toNatClampNeg) h247) fun x253 h254 =>
                                  if x246 = x253 then
                                    fbL_law_966 X k18 v1 v2 v3 h254
                                  else
                                    some ((0 : Int32), h254)
                                else
                                  if x3 = 15 then
                                    gb_lt (v3 + (1 : Int32)) fun x257 =>
                                    gb_gd (gb_inX X x257) <|
                                    gb_lt (v3 + (2 : Int32)) fun x259 =>
                                    gb_gd (gb_inX X x259) <|
                                    gb_gd (gb_k h v1 10) <|
                                    gb_bd (fnX10_misfit v1 (X.2 x257.toNatClampNeg) (X.2 x259.toNatClampNeg) h) fun x262 h263 =>
                                    gb_lt (v3 + (1 : Int32)) fun x264 =>
                                    gb_gd (gb_inX X x264) <|
                                    gb_lt (v3 + (2 : Int32)) fun x266 =>
                                    gb_gd (gb_inX X x266) <|
                                    gb_gd (gb_k h263 v2 11) <|
                                    gb_bd (fnX11_misfit v2 (X.2 x264.toNatClampNeg) (X.2 x266.toNatClampNeg) h263) fun x269 h270 =>
                                    if x262 = x269 then
                                      fbL_law_966 X k18 v1 v2 v3 h270
                                    else
                                      some ((0 : Int32), h270)
                                  else
                                    if x3 = 16 then
                                      gb_lt (v3 + (1 : Int32)) fun x273 =>
                                      gb_gd (gb_inX X x273) <|
                                      gb_gd (gb_k h v1 10) <|
                                      gb_bd (fnX10_fits v1 (X.2 x273.toNatClampNeg) h) fun x276 h277 =>
                                      gb_lt (v3 + (1 : Int32)) fun x278 =>
                                      gb_gd (gb_inX X x278) <|
                                      gb_gd (gb_k h277 v2 11) <|
                                      gb_bd (fnX11_fits v2 (X.2 x278.toNatClampNeg) h277) fun x281 h282 =>
                                      if x276 = x281 then
                                        fbL_law_966 X k18 v1 v2 v3 h282
                                      else
                                        some ((0 : Int32), h282)
                                    else
                                      if x3 = 17 then
                                        gb_lt (v3 + (1 : Int32)) fun x285 =>
                                        gb_gd (gb_inX X x285) <|
                                        gb_lt (v3 + (2 : Int32)) fun x287 =>
                                        gb_gd (gb_inX X x287) <|
                                        gb_lt (v3 + (3 : Int32)) fun x289 =>
                                        gb_gd (gb_inX X x289) <|
                                        gb_gd (gb_k h v1 10) <|
                                        gb_bd (fnX10_pairs v1 (X.2 x285.toNatClampNeg) (X.2 x287.toNatClampNeg) (X.2 x289.toNatClampNeg) h) fun x292 h293 =>
                                        gb_lt (v3 + (1 : Int32)) fun x294 =>
                                        gb_gd (gb_inX X x294) <|
                                        gb_lt (v3 + (2 : Int32)) fun x296 =>
                                        gb_gd (gb_inX X x296) <|
                                        gb_lt (v3 + (3 : Int32)) fun x298 =>
                                        gb_gd (gb_inX X x298) <|
                                        gb_gd (gb_k h293 v2 11) <|
                                        gb_bd (fnX11_pairs v2 (X.2 x294.toNatClampNeg) (X.2 x296.toNatClampNeg) (X.2 x298.toNatClampNeg) h293) fun x301 h302 =>
                                        if x292 = x301 then
                                          fbL_law_966 X k18 v1 v2 v3 h302
                                        else
                                          some ((0 : Int32), h302)
                                      else
                                        if x3 = 18 then
                                          gb_lt (v3 + (1 : Int32)) fun x305 =>
                                          gb_gd (gb_inX X x305) <|
                                          gb_lt (v3 + (2 : Int32)) fun x307 =>
                                          gb_gd (gb_inX X x307) <|
                                          gb_gd (gb_k h v1 10) <|
                                          gb_bd (fnX10_notes v1 (X.2 x305.toNatClampNeg) (X.2 x307.toNatClampNeg) h) fun x310 h311 =>
                                          gb_lt (v3 + (1 : Int32)) fun x312 =>
                                          gb_gd (gb_inX X x312) <|
                                          gb_lt (v3 + (2 : Int32)) fun x314 =>
                                          gb_gd (gb_inX X x314) <|
                                          gb_gd (gb_k h311 v2 11) <|
                                          gb_bd (fnX11_notes v2 (X.2 x312.toNatClampNeg) (X.2 x314.toNatClampNeg) h311) fun x317 h318 =>
                                          if x310 = x317 then
                                            fbL_law_966 X k18 v1 v2 v3 h318
                                          else
                                            some ((0 : Int32), h318)
                                        else
                                          if x3 = 19 then
                                            gb_lt (v3 + (1 : Int32)) fun x321 =>
                                            gb_gd (gb_inX X x321) <|
                                            gb_lt (v3 + (2 : Int32)) fun x323 =>
                                            gb_gd (gb_inX X x323) <|
                                            gb_lt (v3 + (3 : Int32)) fun x325 =>
                                            gb_gd (gb_inX X x325) <|
                                            gb_lt (v3 + (4 : Int32)) fun x327 =>
                                            gb_gd (gb_inX X x327) <|
                                            gb_lt (v3 + (5 : Int32)) fun x329 =>
                                            gb_gd (gb_inX X x329) <|
                                            gb_lt (v3 + (6 : Int32)) fun x331 =>
                                            gb_gd (gb_inX X x331) <|
                                            gb_gd (gb_k h v1 10) <|
                                            gb_bd (fnX10_plan v1 (X.2 x321.toNatClampNeg) (X.2 x323.toNatClampNeg) (X.2 x325.toNatClampNeg) (X.2 x327.toNatClampNeg) (X.2 x329.toNatClampNeg) (X.2 x331.toNatClampNeg) h) fun x334 h335 =>
                                            gb_lt (v3 + (1 : Int32)) fun x336 =>
                                            gb_gd (gb_inX X x336) <|
                                            gb_lt (v3 + (2 : Int32)) fun x338 =>
                                            gb_gd (gb_inX X x338) <|
                                            gb_lt (v3 + (3 : Int32)) fun x340 =>
                                            gb_gd (gb_inX X x340) <|
                                            gb_lt (v3 + (4 : Int32)) fun x342 =>
                                            gb_gd (gb_inX X x342) <|
                                            gb_lt (v3 + (5 : Int32)) fun x344 =>
                                            gb_gd (gb_inX X x344) <|
                                            gb_lt (v3 + (6 : Int32)) fun x346 =>
                                            gb_gd (gb_inX X x346) <|
                                            gb_gd (gb_k h335 v2 11) <|
                                            gb_bd (fnX11_plan v2 (X.2 x336.toNatClampNeg) (X.2 x338.toNatClampNeg) (X.2 x340.toNatClampNeg) (X.2 x342.toNatClampNeg) (X.2 x344.toNatClampNeg) (X.2 x346.toNatClampNeg) h335) fun x349 h350 =>
                                            if x334 = x349 then
                                              fbL_law_966 X k18 v1 v2 v3 h350
                                            else
                                              some ((0 : Int32), h350)
                                          else
                                            if x3 = 20 then
                                              gb_lt (v3 + (1 : Int32)) fun x353 =>
                                              gb_gd (gb_inX X x353) <|
                                              gb_gd (gb_k h v1 10) <|
                                              gb_bd (fnX10_planned v1 (X.2 x353.toNatClampNeg) h) fun x356 h357 =>
                                              gb_lt (v3 + (1 : Int32)) fun x358 =>
                                              gb_gd (gb_inX X x358) <|
                                              gb_gd (gb_k h357 v2 11) <|
                                              gb_bd (fnX11_planned v2 (X.2 x358.toNatClampNeg) h357) fun x361 h362 =>
                                              if x356 = x361 then
                                                fbL_law_966 X k18 v1 v2 v3 h362
                                              else
                                                some ((0 : Int32), h362)
                                            else
                                              if x3 = 21 then
                                                gb_lt (v3 + (1 : Int32)) fun x365 =>
                                                gb_gd (gb_inX X x365) <|
                                                gb_gd (gb_k h v1 10) <|
                                                gb_bd (fnX10_build v1 (X.2 x365.toNatClampNeg) h) fun x368 h369 =>
                                                gb_lt (v3 + (1 : Int32)) fun x370 =>
                                                gb_gd (gb_inX X x370) <|
                                                gb_gd (gb_k h369 v2 11) <|
                                                gb_bd (fnX11_build v2 (X.2 x370.toNatClampNeg) h369) fun x373 h374 =>
                                                if x368 = x373 then
                                                  fbL_law_966 X k18 v1 v2 v3 h374
                                                else
                                                  some ((0 : Int32), h374)
                                              else
                                                if x3 = 22 then
                                                  gb_lt (v3 + (1 : Int32)) fun x377 =>
                                                  gb_gd (gb_inX X x377) <|
                                                  gb_gd (gb_k h v1 10) <|
                                                  gb_bd (fnX10_count v1 (X.2 x377.toNatClampNeg) h) fun x380 h381 =>
                                                  gb_lt (v3 + (1 : Int32)) fun x382 =>
                                                  gb_gd (gb_inX X x382) <|
                                                  gb_gd (gb_k h381 v2 11) <|
                                                  gb_bd (fnX11_count v2 (X.2 x382.toNatClampNeg) h381) fun x385 h386 =>
                                                  if x380 = x385 then
                                                    fbL_law_966 X k18 v1 v2 v3 h386
                                                  else
                                                    some ((0 : Int32), h386)
                                                else
                                                  if x3 = 23 then
                                                    gb_gd (gb_k h v1 10) <|
                                                    gb_bd (fnX10_status v1 h) fun x390 h391 =>
                                                    gb_gd (gb_k h391 v2 11) <|
                                                    gb_bd (fnX11_status v2 h391) fun x393 h394 =>
                                                    if x390 = x393 then
                                                      fbL_law_966 X k18 v1 v2 v3 h394
                                                    else
                                                      some ((0 : Int32), h394)
                                                  else
                                                    fbL_law_966 X k18 v1 v2 v3 h
theorem fbL_law_18_ok {X : gb_X} {k18 : Nat → Nat → Int32 → gb_H → Option (Int32 × gb_H)} (hk18 : ∀ v1 v2 v3 h r, k18 v1 v2 v3 h = some r → gb_Ev X 17 mL_law 18 [some (.retAddr 1000), some (.ref v1), some (.ref v2), some (.int v3)] [] h (gb_wI r)) (v1 : Nat) (v2 : Nat) (v3 : Int32) (h : gb_H) (r : Int32 × gb_H) (hF : fbL_law_18 X k18 v1 v2 v3 h = some r) : gb_Ev X 17 mL_law 18 [some (.retAddr 1000), some (.ref v1), some (.ref v2), some (.int v3)] [] h (gb_wI r) := by
  unfold fbL_law_18 at hF
  refine gb_iload_n dL_law_18 rfl rfl ?_
  refine gb_aload_nS dL_law_19 rfl rfl ?_
  refine gb_slen dL_law_20 ?_
  refine gb_bipush (v := (8 : Int32)) dL_law_21 (by decide) ?_
  refine gb_isub dL_law_23 ?_
  refine gb_icmp_gt (tgt := 972) dL_law_24 (by decide) (fun c1 => ?_) (fun c1 => ?_)
  · replace hF := gb_ifT c1 hF
    refine gb_iconst (v := (1 : Int32)) dL_law_972 (by decide) ?_
    cases hF
    exact gb_zret dL_law_973 rfl (by decide)
  · replace hF := gb_ifF c1 hF
    refine gb_aload_nS dL_law_27 rfl rfl ?_
    refine gb_iload_n dL_law_28 rfl rfl ?_
    obtain ⟨g2, hF⟩ := gb_gdE hF
    refine gb_sld dL_law_29 (gb_inXE g2) ?_
    refine gb_bipush (v := (31 : Int32)) dL_law_30 (by decide) ?_
    refine gb_iand dL_law_32 ?_
    obtain ⟨x3, ex3, hF⟩ := gb_ltE hF
    refine gb_topI ex3 ?_
    rcases Classical.em (x3 = 0) with c4 | c4
    · replace hF := gb_ifT c4 hF
      refine gb_tswIn (tgt := 144) (x := x3) dL_law_33 (by rw [c4]; decide) (by rw [c4]; decide) (by rw [c4]; rfl) (by decide) ?_
      refine gb_aload_n dL_law_144 rfl rfl ?_
      refine gb_aload_nS dL_law_145 rfl rfl ?_
      refine gb_iload_n dL_law_146 rfl rfl ?_
      refine gb_iconst (v := (1 : Int32)) dL_law_147 (by decide) ?_
      refine gb_iadd dL_law_148 ?_
      obtain ⟨x5, ex5, hF⟩ := gb_ltE hF
      refine gb_topI ex5 ?_
      obtain ⟨g6, hF⟩ := gb_gdE hF
      refine gb_sld dL_law_149 (gb_inXE g6) ?_
      obtain ⟨g7, hF⟩ := gb_gdE hF
      obtain ⟨x8, h9, cx8, hF⟩ := gb_bdE hF
      refine gb_cV (As := [.int (X.2 x5.toNatClampNeg)]) (S := []) (v := some (.int x8)) (h1 := h9) (S2 := [.int x8]) cf10 dL_law_150 mtX10_grain lL_13 inX10_grain seX10_grain (gb_kE g7) (fnX10_grain_ok _ _ cx8) (by decide) rfl (Nat.le_of_ble_eq_true rfl) (Nat.le_of_ble_eq_true rfl) rfl rfl ?_
      refine gb_aload_n dL_law_153 rfl rfl ?_
      refine gb_aload_nS dL_law_154 rfl rfl ?_
      refine gb_iload_n dL_law_155 rfl rfl ?_
      refine gb_iconst (v := (1 : Int32)) dL_law_156 (by decide) ?_
      refine gb_iadd dL_law_157 ?_
      obtain ⟨x10, ex10, hF⟩ := gb_ltE hF
      refine gb_topI ex10 ?_
      obtain ⟨g11, hF⟩ := gb_gdE hF
      refine gb_sld dL_law_158 (gb_inXE g11) ?_
      obtain ⟨g12, hF⟩ := gb_gdE hF
      obtain ⟨x13, h14, cx13, hF⟩ := gb_bdE hF
      refine gb_cV (As := [.int (X.2 x10.toNatClampNeg)]) (S := [.int x8]) (v := some (.int x13)) (h1 := h14) (S2 := [.int x13, .int x8]) cf11 dL_law_159 mtX11_grain lL_17 inX11_grain seX11_grain (gb_kE g12) (fnX11_grain_ok _ _ cx13) (by decide) rfl (Nat.le_of_ble_eq_true rfl) (Nat.le_of_ble_eq_true rfl) rfl rfl ?_
      refine gb_icmp_eq (tgt := 966) dL_law_162 (by decide) (fun c15 => ?_) (fun c15 => ?_)
      · replace hF := gb_ifT c15 hF
        exact gb_wk (fbL_law_966_ok hk18 v1 v2 v3 h14 r hF) (And.intro rfl (And.intro rfl (And.intro rfl (And.intro rfl trivial))))
      · replace hF := gb_ifF c15 hF
        refine gb_iconst (v := (0 : Int32)) dL_law_165 (by decide) ?_
        cases hF
        exact gb_zret dL_law_166 rfl (by decide)
    · replace hF := gb_ifF c4 hF
      rcases Classical.em (x3 = 1) with c16 | c16
      · replace hF := gb_ifT c16 hF
        refine gb_tswIn (tgt := 167) (x := x3) dL_law_33 (by rw [c16]; decide) (by rw [c16]; decide) (by rw [c16]; rfl) (by decide) ?_
        refine gb_aload_n dL_law_167 rfl rfl ?_
        obtain ⟨g17, hF⟩ := gb_gdE hF
        obtain ⟨x18, h19, cx18, hF⟩ := gb_bdE hF
        refine gb_cV (As := []) (S := []) (v := some (.int x18)) (h1 := h19) (S2 := [.int x18]) cf10 dL_law_168 mtX10_clear lL_18 inX10_clear seX10_clear (gb_kE g17) (fnX10_clear_ok _ _ cx18) (by decide) rfl (Nat.le_of_ble_eq_true rfl) (Nat.le_of_ble_eq_true rfl) rfl rfl ?_
        refine gb_aload_n dL_law_171 rfl rfl ?_
        obtain ⟨g20, hF⟩ := gb_gdE hF
        obtain ⟨x21, h22, cx21, hF⟩ := gb_bdE hF
        refine gb_cV (As := []) (S := [.int x18]) (v := some (.int x21)) (h1 := h22) (S2 := [.int x21, .int x18]) cf11 dL_law_172 mtX11_clear lL_22 inX11_clear seX11_clear (gb_kE g20) (fnX11_clear_ok _ _ cx21) (by decide) rfl (Nat.le_of_ble_eq_true rfl) (Nat.le_of_ble_eq_true rfl) rfl rfl ?_
        refine gb_icmp_eq (tgt := 966) dL_law_175 (by decide) (fun c23 => ?_) (fun c23 => ?_)
        · replace hF := gb_ifT c23 hF
          exact gb_wk (fbL_law_966_ok hk18 v1 v2 v3 h22 r hF) (And.intro rfl (And.intro rfl (And.intro rfl (And.intro rfl trivial))))
        · replace hF := gb_ifF c23 hF
          refine gb_iconst (v := (0 : Int32)) dL_law_178 (by decide) ?_
          cases hF
          exact gb_zret dL_law_179 rfl (by decide)
      · replace hF := gb_ifF c16 hF
        rcases Classical.em (x3 = 2) with c24 | c24
        · replace hF := gb_ifT c24 hF
          refine gb_tswIn (tgt := 180) (x := x3) dL_law_33 (by rw [c24]; decide) (by rw [c24]; decide) (by rw [c24]; rfl) (by decide) ?_
          refine gb_aload_n dL_law_180 rfl rfl ?_
          refine gb_aload_nS dL_law_181 rfl rfl ?_
          refine gb_iload_n dL_law_182 rfl rfl ?_
          refine gb_iconst (v := (1 : Int32)) dL_law_183 (by decide) ?_
          refine gb_iadd dL_law_184 ?_
          obtain ⟨x25, ex25, hF⟩ := gb_ltE hF
          refine gb_topI ex25 ?_
          obtain ⟨g26, hF⟩ := gb_gdE hF
          refine gb_sld dL_law_185 (gb_inXE g26) ?_
          refine gb_aload_nS dL_law_186 rfl rfl ?_
          refine gb_iload_n dL_law_187 rfl rfl ?_
          refine gb_iconst (v := (2 : Int32)) dL_law_188 (by decide) ?_
          refine gb_iadd dL_law_189 ?_
          obtain ⟨x27, ex27, hF⟩ := gb_ltE hF
          refine gb_topI ex27 ?_
          obtain ⟨g28, hF⟩ := gb_gdE hF
          refine gb_sld dL_law_190 (gb_inXE g28) ?_
          refine gb_aload_nS dL_law_191 rfl rfl ?_
          refine gb_iload_n dL_law_192 rfl rfl ?_
          refine gb_iconst (v := (3 : Int32)) dL_law_193 (by decide) ?_
          refine gb_iadd dL_law_194 ?_
          obtain ⟨x29, ex29, hF⟩ := gb_ltE hF
          refine gb_topI ex29 ?_
          obtain ⟨g30, hF⟩ := gb_gdE hF
          refine gb_sld dL_law_195 (gb_inXE g30) ?_
          refine gb_aload_nS dL_law_196 rfl rfl ?_
          refine gb_iload_n dL_law_197 rfl rfl ?_
          refine gb_iconst (v := (4 : Int32)) dL_law_198 (by decide) ?_
          refine gb_iadd dL_law_199 ?_
          obtain ⟨x31, ex31, hF⟩ := gb_ltE hF
          refine gb_topI ex31 ?_
          obtain ⟨g32, hF⟩ := gb_gdE hF
          refine gb_sld dL_law_200 (gb_inXE g32) ?_
          refine gb_aload_nS dL_law_201 rfl rfl ?_
          refine gb_iload_n dL_law_202 rfl rfl ?_
          refine gb_iconst (v := (5 : Int32)) dL_law_203 (by decide) ?_
          refine gb_iadd dL_law_204 ?_
          obtain ⟨x33, ex33, hF⟩ := gb_ltE hF
          refine gb_topI ex33 ?_
          obtain ⟨g34, hF⟩ := gb_gdE hF
          refine gb_sld dL_law_205 (gb_inXE g34) ?_
          obtain ⟨g35, hF⟩ := gb_gdE hF
          obtain ⟨x36, h37, cx36, hF⟩ := gb_bdE hF
          refine gb_cV (As := [.int (X.2 x25.toNatClampNeg), .int (X.2 x27.toNatClampNeg), .int (X.2 x29.toNatClampNeg), .int (X.2 x31.toNatClampNeg), .int (X.2 x33.toNatClampNeg)]) (S := []) (v := some (.int x36)) (h1 := h37) (S2 := [.int x36]) cf10 dL_law_206 mtX10_feed lL_23 inX10_feed seX10_feed (gb_kE g35) (fnX10_feed_ok _ _ cx36) (by decide) rfl (Nat.le_of_ble_eq_true rfl) (Nat.le_of_ble_eq_true rfl) rfl rfl ?_
          refine gb_aload_n dL_law_209 rfl rfl ?_
          refine gb_aload_nS dL_law_210 rfl rfl ?_
          refine gb_iload_n dL_law_211 rfl rfl ?_
          refine gb_iconst (v := (1 : Int32)) dL_law_212 (by decide) ?_
          refine gb_iadd dL_law_213 ?_
          obtain ⟨x38, ex38, hF⟩ := gb_ltE hF
          refine gb_topI ex38 ?_
          obtain ⟨g39, hF⟩ := gb_gdE hF
          refine gb_sld dL_law_214 (gb_inXE g39) ?_
          refine gb_aload_nS dL_law_215 rfl rfl ?_
          refine gb_iload_n dL_law_216 rfl rfl ?_
          refine gb_iconst (v := (2 : Int32)) dL_law_217 (by decide) ?_
          refine gb_iadd dL_law_218 ?_
          obtain ⟨x40, ex40, hF⟩ := gb_ltE hF
          refine gb_topI ex40 ?_
          obtain ⟨g41, hF⟩ := gb_gdE hF
          refine gb_sld dL_law_219 (gb_inXE g41) ?_
          refine gb_aload_nS dL_law_220 rfl rfl ?_
          refine gb_iload_n dL_law_221 rfl rfl ?_
          refine gb_iconst (v := (3 : Int32)) dL_law_222 (by decide) ?_
          refine gb_iadd dL_law_223 ?_
          obtain ⟨x42, ex42, hF⟩ := gb_ltE hF
          refine gb_topI ex42 ?_
          obtain ⟨g43, hF⟩ := gb_gdE hF
          refine gb_sld dL_law_224 (gb_inXE g43) ?_
          refine gb_aload_nS dL_law_225 rfl rfl ?_
          refine gb_iload_n dL_law_226 rfl rfl ?_
          refine gb_iconst (v := (4 : Int32)) dL_law_227 (by decide) ?_
          refine gb_iadd dL_law_228 ?_
          obtain ⟨x44, ex44, hF⟩ := gb_ltE hF
          refine gb_topI ex44 ?_
          obtain ⟨g45, hF⟩ := gb_gdE hF
          refine gb_sld dL_law_229 (gb_inXE g45) ?_
          refine gb_aload_nS dL_law_230 rfl rfl ?_
          refine gb_iload_n dL_law_231 rfl rfl ?_
          refine gb_iconst (v := (5 : Int32)) dL_law_232 (by decide) ?_
          refine gb_iadd dL_law_233 ?_
          obtain ⟨x46, ex46, hF⟩ := gb_ltE hF
          refine gb_topI ex46 ?_
          obtain ⟨g47, hF⟩ := gb_gdE hF
          refine gb_sld dL_law_234 (gb_inXE g47) ?_
          obtain ⟨g48, hF⟩ := gb_gdE hF
          obtain ⟨x49, h50, cx49, hF⟩ := gb_bdE hF
          refine gb_cV (As := [.int (X.2 x38.toNatClampNeg), .int (X.2 x40.toNatClampNeg), .int (X.2 x42.toNatClampNeg), .int (X.2 x44.toNatClampNeg), .int (X.2 x46.toNatClampNeg)]) (S := [.int x36]) (v := some (.int x49)) (h1 := h50) (S2 := [.int x49, .int x36]) cf11 dL_law_235 mtX11_feed lL_27 inX11_feed seX11_feed (gb_kE g48) (fnX11_feed_ok _ _ cx49) (by decide) rfl (Nat.le_of_ble_eq_true rfl) (Nat.le_of_ble_eq_true rfl) rfl rfl ?_
          refine gb_icmp_eq (tgt := 966) dL_law_238 (by decide) (fun c51 => ?_) (fun c51 => ?_)
          · replace hF := gb_ifT c51 hF
            exact gb_wk (fbL_law_966_ok hk18 v1 v2 v3 h50 r hF) (And.intro rfl (And.intro rfl (And.intro rfl (And.intro rfl trivial))))
          · replace hF := gb_ifF c51 hF
            refine gb_iconst (v := (0 : Int32)) dL_law_241 (by decide) ?_
            cases hF
            exact gb_zret dL_law_242 rfl (by decide)
        · replace hF := gb_ifF c24 hF
          rcases Classical.em (x3 = 3) with c52 | c52
          · replace hF := gb_ifT c52 hF
            refine gb_tswIn (tgt := 243) (x := x3) dL_law_33 (by rw [c52]; decide) (by rw [c52]; decide) (by rw [c52]; rfl) (by decide) ?_
            refine gb_aload_n dL_law_243 rfl rfl ?_
            refine gb_aload_nS dL_law_244 rfl rfl ?_
            refine gb_iload_n dL_law_245 rfl rfl ?_
            refine gb_iconst (v := (1 : Int32)) dL_law_246 (by decide) ?_
            refine gb_iadd dL_law_247 ?_
            obtain ⟨x53, ex53, hF⟩ := gb_ltE hF
            refine gb_topI ex53 ?_
            obtain ⟨g54, hF⟩ := gb_gdE hF
            refine gb_sld dL_law_248 (gb_inXE g54) ?_
            obtain ⟨g55, hF⟩ := gb_gdE hF
            obtain ⟨x56, h57, cx56, hF⟩ := gb_bdE hF
            refine gb_cV (As := [.int (X.2 x53.toNatClampNeg)]) (S := []) (v := some (.int x56)) (h1 := h57) (S2 := [.int x56]) cf10 dL_law_249 mtX10_end lL_28 inX10_end seX10_end (gb_kE g55) (fnX10_end_ok _ _ cx56) (by decide) rfl (Nat.le_of_ble_eq_true rfl) (Nat.le_of_ble_eq_true rfl) rfl rfl ?_
            refine gb_aload_n dL_law_252 rfl rfl ?_
            refine gb_aload_nS dL_law_253 rfl rfl ?_
            refine gb_iload_n dL_law_254 rfl rfl ?_
            refine gb_iconst (v := (1 : Int32)) dL_law_255 (by decide) ?_
            refine gb_iadd dL_law_256 ?_
            obtain ⟨x58, ex58, hF⟩ := gb_ltE hF
            refine gb_topI ex58 ?_
            obtain ⟨g59, hF⟩ := gb_gdE hF
            refine gb_sld dL_law_257 (gb_inXE g59) ?_
            obtain ⟨g60, hF⟩ := gb_gdE hF
            obtain ⟨x61, h62, cx61, hF⟩ := gb_bdE hF
            refine gb_cV (As := [.int (X.2 x58.toNatClampNeg)]) (S := [.int x56]) (v := some (.int x61)) (h1 := h62) (S2 := [.int x61, .int x56]) cf11 dL_law_258 mtX11_end lL_31 inX11_end seX11_end (gb_kE g60) (fnX11_end_ok _ _ cx61) (by decide) rfl (Nat.le_of_ble_eq_true rfl) (Nat.le_of_ble_eq_true rfl) rfl rfl ?_
            refine gb_icmp_eq (tgt := 966) dL_law_261 (by decide) (fun c63 => ?_) (fun c63 => ?_)
            · replace hF := gb_ifT c63 hF
              exact gb_wk (fbL_law_966_ok hk18 v1 v2 v3 h62 r hF) (And.intro rfl (And.intro rfl (And.intro rfl (And.intro rfl trivial))))
            · replace hF := gb_ifF c63 hF
              refine gb_iconst (v := (0 : Int32)) dL_law_264 (by decide) ?_
              cases hF
              exact gb_zret dL_law_265 rfl (by decide)
          · replace hF := gb_ifF c52 hF
            rcases Classical.em (x3 = 4) with c64 | c64
            · replace hF := gb_ifT c64 hF
              refine gb_tswIn (tgt := 266) (x := x3) dL_law_33 (by rw [c64]; decide) (by rw [c64]; decide) (by rw [c64]; rfl) (by decide) ?_
              refine gb_aload_n dL_law_266 rfl rfl ?_
              refine gb_aload_nS dL_law_267 rfl rfl ?_
              refine gb_iload_n dL_law_268 rfl rfl ?_
              refine gb_iconst (v := (1 : Int32)) dL_law_269 (by decide) ?_
              refine gb_iadd dL_law_270 ?_
              obtain ⟨x65, ex65, hF⟩ := gb_ltE hF
              refine gb_topI ex65 ?_
              obtain ⟨g66, hF⟩ := gb_gdE hF
              refine gb_sld dL_law_271 (gb_inXE g66) ?_
              obtain ⟨g67, hF⟩ := gb_gdE hF
              obtain ⟨x68, h69, cx68, hF⟩ := gb_bdE hF
              refine gb_cV (As := [.int (X.2 x65.toNatClampNeg)]) (S := []) (v := some (.int x68)) (h1 := h69) (S2 := [.int x68]) cf10 dL_law_272 mtX10_bench lL_32 inX10_bench seX10_bench (gb_kE g67) (fnX10_bench_ok _ _ cx68) (by decide) rfl (Nat.le_of_ble_eq_true rfl) (Nat.le_of_ble_eq_true rfl) rfl rfl ?_
              refine gb_aload_n dL_law_275 rfl rfl ?_
              refine gb_aload_nS dL_law_276 rfl rfl ?_
              refine gb_iload_n dL_law_277 rfl rfl ?_
              refine gb_iconst (v := (1 : Int32)) dL_law_278 (by decide) ?_
              refine gb_iadd dL_law_279 ?_
              obtain ⟨x70, ex70, hF⟩ := gb_ltE hF
              refine gb_topI ex70 ?_
              obtain ⟨g71, hF⟩ := gb_gdE hF
              refine gb_sld dL_law_280 (gb_inXE g71) ?_
              obtain ⟨g72, hF⟩ := gb_gdE hF
              obtain ⟨x73, h74, cx73, hF⟩ := gb_bdE hF
              refine gb_cV (As := [.int (X.2 x70.toNatClampNeg)]) (S := [.int x68]) (v := some (.int x73)) (h1 := h74) (S2 := [.int x73, .int x68]) cf11 dL_law_281 mtX11_bench lL_35 inX11_bench seX11_bench (gb_kE g72) (fnX11_bench_ok _ _ cx73) (by decide) rfl (Nat.le_of_ble_eq_true rfl) (Nat.le_of_ble_eq_true rfl) rfl rfl ?_
              refine gb_icmp_eq (tgt := 966) dL_law_284 (by decide) (fun c75 => ?_) (fun c75 => ?_)
              · replace hF := gb_ifT c75 hF
                exact gb_wk (fbL_law_966_ok hk18 v1 v2 v3 h74 r hF) (And.intro rfl (And.intro rfl (And.intro rfl (And.intro rfl trivial))))
              · replace hF := gb_ifF c75 hF
                refine gb_iconst (v := (0 : Int32)) dL_law_287 (by decide) ?_
                cases hF
                exact gb_zret dL_law_288 rfl (by decide)
            · replace hF := gb_ifF c64 hF
              rcases Classical.em (x3 = 5) with c76 | c76
              · replace hF := gb_ifT c76 hF
                refine gb_tswIn (tgt := 289) (x := x3) dL_law_33 (by rw [c76]; decide) (by rw [c76]; decide) (by rw [c76]; rfl) (by decide) ?_
                refine gb_aload_n dL_law_289 rfl rfl ?_
                obtain ⟨g77, hF⟩ := gb_gdE hF
                obtain ⟨x78, h79, cx78, hF⟩ := gb_bdE hF
                refine gb_cV (As := []) (S := []) (v := some (.int x78)) (h1 := h79) (S2 := [.int x78]) cf10 dL_law_290 mtX10_shelf lL_36 inX10_shelf seX10_shelf (gb_kE g77) (fnX10_shelf_ok _ _ cx78) (by decide) rfl (Nat.le_of_ble_eq_true rfl) (Nat.le_of_ble_eq_true rfl) rfl rfl ?_
                refine gb_aload_n dL_law_293 rfl rfl ?_
                obtain ⟨g80, hF⟩ := gb_gdE hF
                obtain ⟨x81, h82, cx81, hF⟩ := gb_bdE hF
                refine gb_cV (As := []) (S := [.int x78]) (v := some (.int x81)) (h1 := h82) (S2 := [.int x81, .int x78]) cf11 dL_law_294 mtX11_shelf lL_39 inX11_shelf seX11_shelf (gb_kE g80) (fnX11_shelf_ok _ _ cx81) (by decide) rfl (Nat.le_of_ble_eq_true rfl) (Nat.le_of_ble_eq_true rfl) rfl rfl ?_
                refine gb_icmp_eq (tgt := 966) dL_law_297 (by decide) (fun c83 => ?_) (fun c83 => ?_)
                · replace hF := gb_ifT c83 hF
                  exact gb_wk (fbL_law_966_ok hk18 v1 v2 v3 h82 r hF) (And.intro rfl (And.intro rfl (And.intro rfl (And.intro rfl trivial))))
                · replace hF := gb_ifF c83 hF
                  refine gb_iconst (v := (0 : Int32)) dL_law_300 (by decide) ?_
                  cases hF
                  exact gb_zret dL_law_301 rfl (by decide)
              · replace hF := gb_ifF c76 hF
                rcases Classical.em (x3 = 6) with c84 | c84
                · replace hF := gb_ifT c84 hF
                  refine gb_tswIn (tgt := 302) (x := x3) dL_law_33 (by rw [c84]; decide) (by rw [c84]; decide) (by rw [c84]; rfl) (by decide) ?_
                  refine gb_aload_n dL_law_302 rfl rfl ?_
                  obtain ⟨g85, hF⟩ := gb_gdE hF
                  obtain ⟨x86, h87, cx86, hF⟩ := gb_bdE hF
                  refine gb_cV (As := []) (S := []) (v := some (.int x86)) (h1 := h87) (S2 := [.int x86]) cf10 dL_law_303 mtX10_fault lL_40 inX10_fault seX10_fault (gb_kE g85) (fnX10_fault_ok _ _ cx86) (by decide) rfl (Nat.le_of_ble_eq_true rfl) (Nat.le_of_ble_eq_true rfl) rfl rfl ?_
                  refine gb_aload_n dL_law_306 rfl rfl ?_
                  obtain ⟨g88, hF⟩ := gb_gdE hF
                  obtain ⟨x89, h90, cx89, hF⟩ := gb_bdE hF
                  refine gb_cV (As := []) (S := [.int x86]) (v := some (.int x89)) (h1 := h90) (S2 := [.int x89, .int x86]) cf11 dL_law_307 mtX11_fault lL_43 inX11_fault seX11_fault (gb_kE g88) (fnX11_fault_ok _ _ cx89) (by decide) rfl (Nat.le_of_ble_eq_true rfl) (Nat.le_of_ble_eq_true rfl) rfl rfl ?_
                  refine gb_icmp_eq (tgt := 966) dL_law_310 (by decide) (fun c91 => ?_) (fun c91 => ?_)
                  · replace hF := gb_ifT c91 hF
                    exact gb_wk (fbL_law_966_ok hk18 v1 v2 v3 h90 r hF) (And.intro rfl (And.intro rfl (And.intro rfl (And.intro rfl trivial))))
                  · replace hF := gb_ifF c91 hF
                    refine gb_iconst (v := (0 : Int32)) dL_law_313 (by decide) ?_
                    cases hF
                    exact gb_zret dL_law_314 rfl (by decide)
                · replace hF := gb_ifF c84 hF
                  rcases Classical.em (x3 = 7) with c92 | c92
                  · replace hF := gb_ifT c92 hF
                    refine gb_tswIn (tgt := 315) (x := x3) dL_law_33 (by rw [c92]; decide) (by rw [c92]; decide) (by rw [c92]; rfl) (by decide) ?_
                    refine gb_aload_n dL_law_315 rfl rfl ?_
                    refine gb_aload_nS dL_law_316 rfl rfl ?_
                    refine gb_iload_n dL_law_317 rfl rfl ?_
                    refine gb_iconst (v := (1 : Int32)) dL_law_318 (by decide) ?_
                    refine gb_iadd dL_law_319 ?_
                    obtain ⟨x93, ex93, hF⟩ := gb_ltE hF
                    refine gb_topI ex93 ?_
                    obtain ⟨g94, hF⟩ := gb_gdE hF
                    refine gb_sld dL_law_320 (gb_inXE g94) ?_
                    obtain ⟨g95, hF⟩ := gb_gdE hF
                    obtain ⟨x96, h97, cx96, hF⟩ := gb_bdE hF
                    refine gb_cV (As := [.int (X.2 x93.toNatClampNeg)]) (S := []) (v := some (.int x96)) (h1 := h97) (S2 := [.int x96]) cf10 dL_law_321 mtX10_deep lL_44 inX10_deep seX10_deep (gb_kE g95) (fnX10_deep_ok _ _ cx96) (by decide) rfl (Nat.le_of_ble_eq_true rfl) (Nat.le_of_ble_eq_true rfl) rfl rfl ?_
                    refine gb_aload_n dL_law_324 rfl rfl ?_
                    refine gb_aload_nS dL_law_325 rfl rfl ?_
                    refine gb_iload_n dL_law_326 rfl rfl ?_
                    refine gb_iconst (v := (1 : Int32)) dL_law_327 (by decide) ?_
                    refine gb_iadd dL_law_328 ?_
                    obtain ⟨x98, ex98, hF⟩ := gb_ltE hF
                    refine gb_topI ex98 ?_
                    obtain ⟨g99, hF⟩ := gb_gdE hF
                    refine gb_sld dL_law_329 (gb_inXE g99) ?_
                    obtain ⟨g100, hF⟩ := gb_gdE hF
                    obtain ⟨x101, h102, cx101, hF⟩ := gb_bdE hF
                    refine gb_cV (As := [.int (X.2 x98.toNatClampNeg)]) (S := [.int x96]) (v := some (.int x101)) (h1 := h102) (S2 := [.int x101, .int x96]) cf11 dL_law_330 mtX11_deep lL_47 inX11_deep seX11_deep (gb_kE g100) (fnX11_deep_ok _ _ cx101) (by decide) rfl (Nat.le_of_ble_eq_true rfl) (Nat.le_of_ble_eq_true rfl) rfl rfl ?_
                    refine gb_icmp_eq (tgt := 966) dL_law_333 (by decide) (fun c103 => ?_) (fun c103 => ?_)
                    · replace hF := gb_ifT c103 hF
                      exact gb_wk (fbL_law_966_ok hk18 v1 v2 v3 h102 r hF) (And.intro rfl (And.intro rfl (And.intro rfl (And.intro rfl trivial))))
                    · replace hF := gb_ifF c103 hF
                      refine gb_iconst (v := (0 : Int32)) dL_law_336 (by decide) ?_
                      cases hF
                      exact gb_zret dL_law_337 rfl (by decide)
                  · replace hF := gb_ifF c92 hF
                    rcases Classical.em (x3 = 8) with c104 | c104
                    · replace hF := gb_ifT c104 hF
                      refine gb_tswIn (tgt := 338) (x := x3) dL_law_33 (by rw [c104]; decide) (by rw [c104]; decide) (by rw [c104]; rfl) (by decide) ?_
                      refine gb_aload_n dL_law_338 rfl rfl ?_
                      refine gb_aload_nS dL_law_339 rfl rfl ?_
                      refine gb_iload_n dL_law_340 rfl rfl ?_
                      refine gb_iconst (v := (1 : Int32)) dL_law_341 (by decide) ?_
                      refine gb_iadd dL_law_342 ?_
                      obtain ⟨x105, ex105, hF⟩ := gb_ltE hF
                      refine gb_topI ex105 ?_
                      obtain ⟨g106, hF⟩ := gb_gdE hF
                      refine gb_sld dL_law_343 (gb_inXE g106) ?_
                      refine gb_aload_nS dL_law_344 rfl rfl ?_
                      refine gb_iload_n dL_law_345 rfl rfl ?_
                      refine gb_iconst (v := (2 : Int32)) dL_law_346 (by decide) ?_
                      refine gb_iadd dL_law_347 ?_
                      obtain ⟨x107, ex107, hF⟩ := gb_ltE hF
                      refine gb_topI ex107 ?_
                      obtain ⟨g108, hF⟩ := gb_gdE hF
                      refine gb_sld dL_law_348 (gb_inXE g108) ?_
                      refine gb_aload_nS dL_law_349 rfl rfl ?_
                      refine gb_iload_n dL_law_350 rfl rfl ?_
                      refine gb_iconst (v := (3 : Int32)) dL_law_351 (by decide) ?_
                      refine gb_iadd dL_law_352 ?_
                      obtain ⟨x109, ex109, hF⟩ := gb_ltE hF
                      refine gb_topI ex109 ?_
                      obtain ⟨g110, hF⟩ := gb_gdE hF
                      refine gb_sld dL_law_353 (gb_inXE g110) ?_
                      refine gb_aload_nS dL_law_354 rfl rfl ?_
                      refine gb_iload_n dL_law_355 rfl rfl ?_
                      refine gb_iconst (v := (4 : Int32)) dL_law_356 (by decide) ?_
                      refine gb_iadd dL_law_357 ?_
                      obtain ⟨x111, ex111, hF⟩ := gb_ltE hF
                      refine gb_topI ex111 ?_
                      obtain ⟨g112, hF⟩ := gb_gdE hF
                      refine gb_sld dL_law_358 (gb_inXE g112) ?_
                      obtain ⟨g113, hF⟩ := gb_gdE hF
                      obtain ⟨x114, h115, cx114, hF⟩ := gb_bdE hF
                      refine gb_cV (As := [.int (X.2 x105.toNatClampNeg), .int (X.2 x107.toNatClampNeg), .int (X.2 x109.toNatClampNeg), .int (X.2 x111.toNatClampNeg)]) (S := []) (v := some (.int x114)) (h1 := h115) (S2 := [.int x114]) cf10 dL_law_359 mtX10_way lL_48 inX10_way seX10_way (gb_kE g113) (fnX10_way_ok _ _ cx114) (by decide) rfl (Nat.le_of_ble_eq_true rfl) (Nat.le_of_ble_eq_true rfl) rfl rfl ?_
                      refine gb_aload_n dL_law_362 rfl rfl ?_
                      refine gb_aload_nS dL_law_363 rfl rfl ?_
                      refine gb_iload_n dL_law_364 rfl rfl ?_
                      refine gb_iconst (v := (1 : Int32)) dL_law_365 (by decide) ?_
                      refine gb_iadd dL_law_366 ?_
                      obtain ⟨x116, ex116, hF⟩ := gb_ltE hF
                      refine gb_topI ex116 ?_
                      obtain ⟨g117, hF⟩ := gb_gdE hF
                      refine gb_sld dL_law_367 (gb_inXE g117) ?_
                      refine gb_aload_nS dL_law_368 rfl rfl ?_
                      refine gb_iload_n dL_law_369 rfl rfl ?_
                      refine gb_iconst (v := (2 : Int32)) dL_law_370 (by decide) ?_
                      refine gb_iadd dL_law_371 ?_
                      obtain ⟨x118, ex118, hF⟩ := gb_ltE hF
                      refine gb_topI ex118 ?_
                      obtain ⟨g119, hF⟩ := gb_gdE hF
                      refine gb_sld dL_law_372 (gb_inXE g119) ?_
                      refine gb_aload_nS dL_law_373 rfl rfl ?_
                      refine gb_iload_n dL_law_374 rfl rfl ?_
                      refine gb_iconst (v := (3 : Int32)) dL_law_375 (by decide) ?_
                      refine gb_iadd dL_law_376 ?_
                      obtain ⟨x120, ex120, hF⟩ := gb_ltE hF
                      refine gb_topI ex120 ?_
                      obtain ⟨g121, hF⟩ := gb_gdE hF
                      refine gb_sld dL_law_377 (gb_inXE g121) ?_
                      refine gb_aload_nS dL_law_378 rfl rfl ?_
                      refine gb_iload_n dL_law_379 rfl rfl ?_
                      refine gb_iconst (v := (4 : Int32)) dL_law_380 (by decide) ?_
                      refine gb_iadd dL_law_381 ?_
                      obtain ⟨x122, ex122, hF⟩ := gb_ltE hF
                      refine gb_topI ex122 ?_
                      obtain ⟨g123, hF⟩ := gb_gdE hF
                      refine gb_sld dL_law_382 (gb_inXE g123) ?_
                      obtain ⟨g124, hF⟩ := gb_gdE hF
                      obtain ⟨x125, h126, cx125, hF⟩ := gb_bdE hF
                      refine gb_cV (As := [.int (X.2 x116.toNatClampNeg), .int (X.2 x118.toNatClampNeg), .int (X.2 x120.toNatClampNeg), .int (X.2 x122.toNatClampNeg)]) (S := [.int x114]) (v := some (.int x125)) (h1 := h126) (S2 := [.int x125, .int x114]) cf11 dL_law_383 mtX11_way lL_52 inX11_way seX11_way (gb_kE g124) (fnX11_way_ok _ _ cx125) (by decide) rfl (Nat.le_of_ble_eq_true rfl) (Nat.le_of_ble_eq_true rfl) rfl rfl ?_
                      refine gb_icmp_eq (tgt := 966) dL_law_386 (by decide) (fun c127 => ?_) (fun c127 => ?_)
                      · replace hF := gb_ifT c127 hF
                        exact gb_wk (fbL_law_966_ok hk18 v1 v2 v3 h126 r hF) (And.intro rfl (And.intro rfl (And.intro rfl (And.intro rfl trivial))))
                      · replace hF := gb_ifF c127 hF
                        refine gb_iconst (v := (0 : Int32)) dL_law_389 (by decide) ?_
                        cases hF
                        exact gb_zret dL_law_390 rfl (by decide)
                    · replace hF := gb_ifF c104 hF
                      rcases Classical.em (x3 = 9) with c128 | c128
                      · replace hF := gb_ifT c128 hF
                        refine gb_tswIn (tgt := 391) (x := x3) dL_law_33 (by rw [c128]; decide) (by rw [c128]; decide) (by rw [c128]; rfl) (by decide) ?_
                        refine gb_aload_n dL_law_391 rfl rfl ?_
                        refine gb_aload_nS dL_law_392 rfl rfl ?_
                        refine gb_iload_n dL_law_393 rfl rfl ?_
                        refine gb_iconst (v := (1 : Int32)) dL_law_394 (by decide) ?_
                        refine gb_iadd dL_law_395 ?_
                        obtain ⟨x129, ex129, hF⟩ := gb_ltE hF
                        refine gb_topI ex129 ?_
                        obtain ⟨g130, hF⟩ := gb_gdE hF
                        refine gb_sld dL_law_396 (gb_inXE g130) ?_
                        refine gb_aload_nS dL_law_397 rfl rfl ?_
                        refine gb_iload_n dL_law_398 rfl rfl ?_
                        refine gb_iconst (v := (2 : Int32)) dL_law_399 (by decide) ?_
                        refine gb_iadd dL_law_400 ?_
                        obtain ⟨x131, ex131, hF⟩ := gb_ltE hF
                        refine gb_topI ex131 ?_
                        obtain ⟨g132, hF⟩ := gb_gdE hF
                        refine gb_sld dL_law_401 (gb_inXE g132) ?_
                        refine gb_aload_nS dL_law_402 rfl rfl ?_
                        refine gb_iload_n dL_law_403 rfl rfl ?_
                        refine gb_iconst (v := (3 : Int32)) dL_law_404 (by decide) ?_
                        refine gb_iadd dL_law_405 ?_
                        obtain ⟨x133, ex133, hF⟩ := gb_ltE hF
                        refine gb_topI ex133 ?_
                        obtain ⟨g134, hF⟩ := gb_gdE hF
                        refine gb_sld dL_law_406 (gb_inXE g134) ?_
                        refine gb_aload_nS dL_law_407 rfl rfl ?_
                        refine gb_iload_n dL_law_408 rfl rfl ?_
                        refine gb_iconst (v := (4 : Int32)) dL_law_409 (by decide) ?_
                        refine gb_iadd dL_law_410 ?_
                        obtain ⟨x135, ex135, hF⟩ := gb_ltE hF
                        refine gb_topI ex135 ?_
                        obtain ⟨g136, hF⟩ := gb_gdE hF
                        refine gb_sld dL_law_411 (gb_inXE g136) ?_
                        refine gb_aload_nS dL_law_412 rfl rfl ?_
                        refine gb_iload_n dL_law_413 rfl rfl ?_
                        refine gb_iconst (v := (5 : Int32)) dL_law_414 (by decide) ?_
                        refine gb_iadd dL_law_415 ?_
                        obtain ⟨x137, ex137, hF⟩ := gb_ltE hF
                        refine gb_topI ex137 ?_
                        obtain ⟨g138, hF⟩ := gb_gdE hF
                        refine gb_sld dL_law_416 (gb_inXE g138) ?_
                        refine gb_aload_nS dL_law_417 rfl rfl ?_
                        refine gb_iload_n dL_law_418 rfl rfl ?_
                        refine gb_bipush (v := (6 : Int32)) dL_law_419 (by decide) ?_
                        refine gb_iadd dL_law_421 ?_
                        obtain ⟨x139, ex139, hF⟩ := gb_ltE hF
                        refine gb_topI ex139 ?_
                        obtain ⟨g140, hF⟩ := gb_gdE hF
                        refine gb_sld dL_law_422 (gb_inXE g140) ?_
                        refine gb_aload_nS dL_law_423 rfl rfl ?_
                        refine gb_iload_n dL_law_424 rfl rfl ?_
                        refine gb_bipush (v := (7 : Int32)) dL_law_425 (by decide) ?_
                        refine gb_iadd dL_law_427 ?_
                        obtain ⟨x141, ex141, hF⟩ := gb_ltE hF
                        refine gb_topI ex141 ?_
                        obtain ⟨g142, hF⟩ := gb_gdE hF
                        refine gb_sld dL_law_428 (gb_inXE g142) ?_
                        obtain ⟨g143, hF⟩ := gb_gdE hF
                        obtain ⟨x144, h145, cx144, hF⟩ := gb_bdE hF
                        refine gb_cV (As := [.int (X.2 x129.toNatClampNeg), .int (X.2 x131.toNatClampNeg), .int (X.2 x133.toNatClampNeg), .int (X.2 x135.toNatClampNeg), .int (X.2 x137.toNatClampNeg), .int (X.2 x139.toNatClampNeg), .int (X.2 x141.toNatClampNeg)]) (S := []) (v := some (.long x144)) (h1 := h145) (S2 := [.long x144]) cf10 dL_law_429 mtX10_odds lL_53 inX10_odds seX10_odds (gb_kE g143) (fnX10_odds_ok _ _ cx144) (by decide) rfl (Nat.le_of_ble_eq_true rfl) (Nat.le_of_ble_eq_true rfl) rfl rfl ?_
                        refine gb_aload_n dL_law_432 rfl rfl ?_
                        refine gb_aload_nS dL_law_433 rfl rfl ?_
                        refine gb_iload_n dL_law_434 rfl rfl ?_
                        refine gb_iconst (v := (1 : Int32)) dL_law_435 (by decide) ?_
                        refine gb_iadd dL_law_436 ?_
                        obtain ⟨x146, ex146, hF⟩ := gb_ltE hF
                        refine gb_topI ex146 ?_
                        obtain ⟨g147, hF⟩ := gb_gdE hF
                        refine gb_sld dL_law_437 (gb_inXE g147) ?_
                        refine gb_aload_nS dL_law_438 rfl rfl ?_
                        refine gb_iload_n dL_law_439 rfl rfl ?_
                        refine gb_iconst (v := (2 : Int32)) dL_law_440 (by decide) ?_
                        refine gb_iadd dL_law_441 ?_
                        obtain ⟨x148, ex148, hF⟩ := gb_ltE hF
                        refine gb_topI ex148 ?_
                        obtain ⟨g149, hF⟩ := gb_gdE hF
                        refine gb_sld dL_law_442 (gb_inXE g149) ?_
                        refine gb_aload_nS dL_law_443 rfl rfl ?_
                        refine gb_iload_n dL_law_444 rfl rfl ?_
                        refine gb_iconst (v := (3 : Int32)) dL_law_445 (by decide) ?_
                        refine gb_iadd dL_law_446 ?_
                        obtain ⟨x150, ex150, hF⟩ := gb_ltE hF
                        refine gb_topI ex150 ?_
                        obtain ⟨g151, hF⟩ := gb_gdE hF
                        refine gb_sld dL_law_447 (gb_inXE g151) ?_
                        refine gb_aload_nS dL_law_448 rfl rfl ?_
                        refine gb_iload_n dL_law_449 rfl rfl ?_
                        refine gb_iconst (v := (4 : Int32)) dL_law_450 (by decide) ?_
                        refine gb_iadd dL_law_451 ?_
                        obtain ⟨x152, ex152, hF⟩ := gb_ltE hF
                        refine gb_topI ex152 ?_
                        obtain ⟨g153, hF⟩ := gb_gdE hF
                        refine gb_sld dL_law_452 (gb_inXE g153) ?_
                        refine gb_aload_nS dL_law_453 rfl rfl ?_
                        refine gb_iload_n dL_law_454 rfl rfl ?_
                        refine gb_iconst (v := (5 : Int32)) dL_law_455 (by decide) ?_
                        refine gb_iadd dL_law_456 ?_
                        obtain ⟨x154, ex154, hF⟩ := gb_ltE hF
                        refine gb_topI ex154 ?_
                        obtain ⟨g155, hF⟩ := gb_gdE hF
                        refine gb_sld dL_law_457 (gb_inXE g155) ?_
                        refine gb_aload_nS dL_law_458 rfl rfl ?_
                        refine gb_iload_n dL_law_459 rfl rfl ?_
                        refine gb_bipush (v := (6 : Int32)) dL_law_460 (by decide) ?_
                        refine gb_iadd dL_law_462 ?_
                        obtain ⟨x156, ex156, hF⟩ := gb_ltE hF
                        refine gb_topI ex156 ?_
                        obtain ⟨g157, hF⟩ := gb_gdE hF
                        refine gb_sld dL_law_463 (gb_inXE g157) ?_
                        refine gb_aload_nS dL_law_464 rfl rfl ?_
                        refine gb_iload_n dL_law_465 rfl rfl ?_
                        refine gb_bipush (v := (7 : Int32)) dL_law_466 (by decide) ?_
                        refine gb_iadd dL_law_468 ?_
                        obtain ⟨x158, ex158, hF⟩ := gb_ltE hF
                        refine gb_topI ex158 ?_
                        obtain ⟨g159, hF⟩ := gb_gdE hF
                        refine gb_sld dL_law_469 (gb_inXE g159) ?_
                        obtain ⟨g160, hF⟩ := gb_gdE hF
                        obtain ⟨x161, h162, cx161, hF⟩ := gb_bdE hF
                        refine gb_cV (As := [.int (X.2 x146.toNatClampNeg), .int (X.2 x148.toNatClampNeg), .int (X.2 x150.toNatClampNeg), .int (X.2 x152.toNatClampNeg), .int (X.2 x154.toNatClampNeg), .int (X.2 x156.toNatClampNeg), .int (X.2 x158.toNatClampNeg)]) (S := [.long x144]) (v := some (.long x161)) (h1 := h162) (S2 := [.long x161, .long x144]) cf11 dL_law_470 mtX11_odds lL_57 inX11_odds seX11_odds (gb_kE g160) (fnX11_odds_ok _ _ cx161) (by decide) rfl (Nat.le_of_ble_eq_true rfl) (Nat.le_of_ble_eq_true rfl) rfl rfl ?_
                        refine gb_lc_eq (tgt := 966) dL_law_473 dL_law_474 (by decide) (fun c163 => ?_) (fun c163 => ?_)
                        · replace hF := gb_ifT c163 hF
                          exact gb_wk (fbL_law_966_ok hk18 v1 v2 v3 h162 r hF) (And.intro rfl (And.intro rfl (And.intro rfl (And.intro rfl trivial))))
                        · replace hF := gb_ifF c163 hF
                          refine gb_iconst (v := (0 : Int32)) dL_law_477 (by decide) ?_
                          cases hF
                          exact gb_zret dL_law_478 rfl (by decide)
                      · replace hF := gb_ifF c128 hF
                        rcases Classical.em (x3 = 10) with c164 | c164
                        · replace hF := gb_ifT c164 hF
                          refine gb_tswIn (tgt := 479) (x := x3) dL_law_33 (by rw [c164]; decide) (by rw [c164]; decide) (by rw [c164]; rfl) (by decide) ?_
                          refine gb_aload_n dL_law_479 rfl rfl ?_
                          refine gb_aload_nS dL_law_480 rfl rfl ?_
                          refine gb_iload_n dL_law_481 rfl rfl ?_
                          refine gb_iconst (v := (1 : Int32)) dL_law_482 (by decide) ?_
                          refine gb_iadd dL_law_483 ?_
                          obtain ⟨x165, ex165, hF⟩ := gb_ltE hF
                          refine gb_topI ex165 ?_
                          obtain ⟨g166, hF⟩ := gb_gdE hF
                          refine gb_sld dL_law_484 (gb_inXE g166) ?_
                          refine gb_aload_nS dL_law_485 rfl rfl ?_
                          refine gb_iload_n dL_law_486 rfl rfl ?_
                          refine gb_iconst (v := (2 : Int32)) dL_law_487 (by decide) ?_
                          refine gb_iadd dL_law_488 ?_
                          obtain ⟨x167, ex167, hF⟩ := gb_ltE hF
                          refine gb_topI ex167 ?_
                          obtain ⟨g168, hF⟩ := gb_gdE hF
                          refine gb_sld dL_law_489 (gb_inXE g168) ?_
                          obtain ⟨g169, hF⟩ := gb_gdE hF
                          obtain ⟨x170, h171, cx170, hF⟩ := gb_bdE hF
                          refine gb_cV (As := [.int (X.2 x165.toNatClampNeg), .int (X.2 x167.toNatClampNeg)]) (S := []) (v := some (.int x170)) (h1 := h171) (S2 := [.int x170]) cf10 dL_law_490 mtX10_dark lL_58 inX10_dark seX10_dark (gb_kE g169) (fnX10_dark_ok _ _ cx170) (by decide) rfl (Nat.le_of_ble_eq_true rfl) (Nat.le_of_ble_eq_true rfl) rfl rfl ?_
                          refine gb_aload_n dL_law_493 rfl rfl ?_
                          refine gb_aload_nS dL_law_494 rfl rfl ?_
                          refine gb_iload_n dL_law_495 rfl rfl ?_
                          refine gb_iconst (v := (1 : Int32)) dL_law_496 (by decide) ?_
                          refine gb_iadd dL_law_497 ?_
                          obtain ⟨x172, ex172, hF⟩ := gb_ltE hF
                          refine gb_topI ex172 ?_
                          obtain ⟨g173, hF⟩ := gb_gdE hF
                          refine gb_sld dL_law_498 (gb_inXE g173) ?_
                          refine gb_aload_nS dL_law_499 rfl rfl ?_
                          refine gb_iload_n dL_law_500 rfl rfl ?_
                          refine gb_iconst (v := (2 : Int32)) dL_law_501 (by decide) ?_
                          refine gb_iadd dL_law_502 ?_
                          obtain ⟨x174, ex174, hF⟩ := gb_ltE hF
                          refine gb_topI ex174 ?_
                          obtain ⟨g175, hF⟩ := gb_gdE hF
                          refine gb_sld dL_law_503 (gb_inXE g175) ?_
                          obtain ⟨g176, hF⟩ := gb_gdE hF
                          obtain ⟨x177, h178, cx177, hF⟩ := gb_bdE hF
                          refine gb_cV (As := [.int (X.2 x172.toNatClampNeg), .int (X.2 x174.toNatClampNeg)]) (S := [.int x170]) (v := some (.int x177)) (h1 := h178) (S2 := [.int x177, .int x170]) cf11 dL_law_504 mtX11_dark lL_62 inX11_dark seX11_dark (gb_kE g176) (fnX11_dark_ok _ _ cx177) (by decide) rfl (Nat.le_of_ble_eq_true rfl) (Nat.le_of_ble_eq_true rfl) rfl rfl ?_
                          refine gb_icmp_eq (tgt := 966) dL_law_507 (by decide) (fun c179 => ?_) (fun c179 => ?_)
                          · replace hF := gb_ifT c179 hF
                            exact gb_wk (fbL_law_966_ok hk18 v1 v2 v3 h178 r hF) (And.intro rfl (And.intro rfl (And.intro rfl (And.intro rfl trivial))))
                          · replace hF := gb_ifF c179 hF
                            refine gb_iconst (v := (0 : Int32)) dL_law_510 (by decide) ?_
                            cases hF
                            exact gb_zret dL_law_511 rfl (by decide)
                        · replace hF := gb_ifF c164 hF
                          rcases Classical.em (x3 = 11) with c180 | c180
                          · replace hF := gb_ifT c180 hF
                            refine gb_tswIn (tgt := 512) (x := x3) dL_law_33 (by rw [c180]; decide) (by rw [c180]; decide) (by rw [c180]; rfl) (by decide) ?_
                            refine gb_aload_n dL_law_512 rfl rfl ?_
                            refine gb_aload_nS dL_law_513 rfl rfl ?_
                            refine gb_iload_n dL_law_514 rfl rfl ?_
                            refine gb_iconst (v := (1 : Int32)) dL_law_515 (by decide) ?_
                            refine gb_iadd dL_law_516 ?_
                            obtain ⟨x181, ex181, hF⟩ := gb_ltE hF
                            refine gb_topI ex181 ?_
                            obtain ⟨g182, hF⟩ := gb_gdE hF
                            refine gb_sld dL_law_517 (gb_inXE g182) ?_
                            refine gb_aload_nS dL_law_518 rfl rfl ?_
                            refine gb_iload_n dL_law_519 rfl rfl ?_
                            refine gb_iconst (v := (2 : Int32)) dL_law_520 (by decide) ?_
                            refine gb_iadd dL_law_521 ?_
                            obtain ⟨x183, ex183, hF⟩ := gb_ltE hF
                            refine gb_topI ex183 ?_
                            obtain ⟨g184, hF⟩ := gb_gdE hF
                            refine gb_sld dL_law_522 (gb_inXE g184) ?_
                            refine gb_aload_nS dL_law_523 rfl rfl ?_
                            refine gb_iload_n dL_law_524 rfl rfl ?_
                            refine gb_iconst (v := (3 : Int32)) dL_law_525 (by decide) ?_
                            refine gb_iadd dL_law_526 ?_
                            obtain ⟨x185, ex185, hF⟩ := gb_ltE hF
                            refine gb_topI ex185 ?_
                            obtain ⟨g186, hF⟩ := gb_gdE hF
                            refine gb_sld dL_law_527 (gb_inXE g186) ?_
                            obtain ⟨g187, hF⟩ := gb_gdE hF
                            obtain ⟨x188, h189, cx188, hF⟩ := gb_bdE hF
                            refine gb_cV (As := [.int (X.2 x181.toNatClampNeg), .int (X.2 x183.toNatClampNeg), .int (X.2 x185.toNatClampNeg)]) (S := []) (v := some (.long x188)) (h1 := h189) (S2 := [.long x188]) cf10 dL_law_528 mtX10_clicks lL_63 inX10_clicks seX10_clicks (gb_kE g187) (fnX10_clicks_ok _ _ cx188) (by decide) rfl (Nat.le_of_ble_eq_true rfl) (Nat.le_of_ble_eq_true rfl) rfl rfl ?_
                            refine gb_aload_n dL_law_531 rfl rfl ?_
                            refine gb_aload_nS dL_law_532 rfl rfl ?_
                            refine gb_iload_n dL_law_533 rfl rfl ?_
                            refine gb_iconst (v := (1 : Int32)) dL_law_534 (by decide) ?_
                            refine gb_iadd dL_law_535 ?_
                            obtain ⟨x190, ex190, hF⟩ := gb_ltE hF
                            refine gb_topI ex190 ?_
                            obtain ⟨g191, hF⟩ := gb_gdE hF
                            refine gb_sld dL_law_536 (gb_inXE g191) ?_
                            refine gb_aload_nS dL_law_537 rfl rfl ?_
                            refine gb_iload_n dL_law_538 rfl rfl ?_
                            refine gb_iconst (v := (2 : Int32)) dL_law_539 (by decide) ?_
                            refine gb_iadd dL_law_540 ?_
                            obtain ⟨x192, ex192, hF⟩ := gb_ltE hF
                            refine gb_topI ex192 ?_
                            obtain ⟨g193, hF⟩ := gb_gdE hF
                            refine gb_sld dL_law_541 (gb_inXE g193) ?_
                            refine gb_aload_nS dL_law_542 rfl rfl ?_
                            refine gb_iload_n dL_law_543 rfl rfl ?_
                            refine gb_iconst (v := (3 : Int32)) dL_law_544 (by decide) ?_
                            refine gb_iadd dL_law_545 ?_
                            obtain ⟨x194, ex194, hF⟩ := gb_ltE hF
                            refine gb_topI ex194 ?_
                            obtain ⟨g195, hF⟩ := gb_gdE hF
                            refine gb_sld dL_law_546 (gb_inXE g195) ?_
                            obtain ⟨g196, hF⟩ := gb_gdE hF
                            obtain ⟨x197, h198, cx197, hF⟩ := gb_bdE hF
                            refine gb_cV (As := [.int (X.2 x190.toNatClampNeg), .int (X.2 x192.toNatClampNeg), .int (X.2 x194.toNatClampNeg)]) (S := [.long x188]) (v := some (.long x197)) (h1 := h198) (S2 := [.long x197, .long x188]) cf11 dL_law_547 mtX11_clicks lL_67 inX11_clicks seX11_clicks (gb_kE g196) (fnX11_clicks_ok _ _ cx197) (by decide) rfl (Nat.le_of_ble_eq_true rfl) (Nat.le_of_ble_eq_true rfl) rfl rfl ?_
                            refine gb_lc_eq (tgt := 966) dL_law_550 dL_law_551 (by decide) (fun c199 => ?_) (fun c199 => ?_)
                            · replace hF := gb_ifT c199 hF
                              exact gb_wk (fbL_law_966_ok hk18 v1 v2 v3 h198 r hF) (And.intro rfl (And.intro rfl (And.intro rfl (And.intro rfl trivial))))
                            · replace hF := gb_ifF c199 hF
                              refine gb_iconst (v := (0 : Int32)) dL_law_554 (by decide) ?_
                              cases hF
                              exact gb_zret dL_law_555 rfl (by decide)
                          · replace hF := gb_ifF c180 hF
                            rcases Classical.em (x3 = 12) with c200 | c200
                            · replace hF := gb_ifT c200 hF
                              refine gb_tswIn (tgt := 556) (x := x3) dL_law_33 (by rw [c200]; decide) (by rw [c200]; decide) (by rw [c200]; rfl) (by decide) ?_
                              refine gb_aload_n dL_law_556 rfl rfl ?_
                              refine gb_aload_nS dL_law_557 rfl rfl ?_
                              refine gb_iload_n dL_law_558 rfl rfl ?_
                              refine gb_iconst (v := (1 : Int32)) dL_law_559 (by decide) ?_
                              refine gb_iadd dL_law_560 ?_
                              obtain ⟨x201, ex201, hF⟩ := gb_ltE hF
                              refine gb_topI ex201 ?_
                              obtain ⟨g202, hF⟩ := gb_gdE hF
                              refine gb_sld dL_law_561 (gb_inXE g202) ?_
                              refine gb_aload_nS dL_law_562 rfl rfl ?_
                              refine gb_iload_n dL_law_563 rfl rfl ?_
                              refine gb_iconst (v := (2 : Int32)) dL_law_564 (by decide) ?_
                              refine gb_iadd dL_law_565 ?_
                              obtain ⟨x203, ex203, hF⟩ := gb_ltE hF
                              refine gb_topI ex203 ?_
                              obtain ⟨g204, hF⟩ := gb_gdE hF
                              refine gb_sld dL_law_566 (gb_inXE g204) ?_
                              refine gb_aload_nS dL_law_567 rfl rfl ?_
                              refine gb_iload_n dL_law_568 rfl rfl ?_
                              refine gb_iconst (v := (3 : Int32)) dL_law_569 (by decide) ?_
                              refine gb_iadd dL_law_570 ?_
                              obtain ⟨x205, ex205, hF⟩ := gb_ltE hF
                              refine gb_topI ex205 ?_
                              obtain ⟨g206, hF⟩ := gb_gdE hF
                              refine gb_sld dL_law_571 (gb_inXE g206) ?_
                              obtain ⟨g207, hF⟩ := gb_gdE hF
                              obtain ⟨x208, h209, cx208, hF⟩ := gb_bdE hF
                              refine gb_cV (As := [.int (X.2 x201.toNatClampNeg), .int (X.2 x203.toNatClampNeg), .int (X.2 x205.toNatClampNeg)]) (S := []) (v := some (.int x208)) (h1 := h209) (S2 := [.int x208]) cf10 dL_law_572 mtX10_run lL_68 inX10_run seX10_run (gb_kE g207) (fnX10_run_ok _ _ cx208) (by decide) rfl (Nat.le_of_ble_eq_true rfl) (Nat.le_of_ble_eq_true rfl) rfl rfl ?_
                              refine gb_aload_n dL_law_575 rfl rfl ?_
                              refine gb_aload_nS dL_law_576 rfl rfl ?_
                              refine gb_iload_n dL_law_577 rfl rfl ?_
                              refine gb_iconst (v := (1 : Int32)) dL_law_578 (by decide) ?_
                              refine gb_iadd dL_law_579 ?_
                              obtain ⟨x210, ex210, hF⟩ := gb_ltE hF
                              refine gb_topI ex210 ?_
                              obtain ⟨g211, hF⟩ := gb_gdE hF
                              refine gb_sld dL_law_580 (gb_inXE g211) ?_
                              refine gb_aload_nS dL_law_581 rfl rfl ?_
                              refine gb_iload_n dL_law_582 rfl rfl ?_
                              refine gb_iconst (v := (2 : Int32)) dL_law_583 (by decide) ?_
                              refine gb_iadd dL_law_584 ?_
                              obtain ⟨x212, ex212, hF⟩ := gb_ltE hF
                              refine gb_topI ex212 ?_
                              obtain ⟨g213, hF⟩ := gb_gdE hF
                              refine gb_sld dL_law_585 (gb_inXE g213) ?_
                              refine gb_aload_nS dL_law_586 rfl rfl ?_
                              refine gb_iload_n dL_law_587 rfl rfl ?_
                              refine gb_iconst (v := (3 : Int32)) dL_law_588 (by decide) ?_
                              refine gb_iadd dL_law_589 ?_
                              obtain ⟨x214, ex214, hF⟩ := gb_ltE hF
                              refine gb_topI ex214 ?_
                              obtain ⟨g215, hF⟩ := gb_gdE hF
                              refine gb_sld dL_law_590 (gb_inXE g215) ?_
                              obtain ⟨g216, hF⟩ := gb_gdE hF
                              obtain ⟨x217, h218, cx217, hF⟩ := gb_bdE hF
                              refine gb_cV (As := [.int (X.2 x210.toNatClampNeg), .int (X.2 x212.toNatClampNeg), .int (X.2 x214.toNatClampNeg)]) (S := [.int x208]) (v := some (.int x217)) (h1 := h218) (S2 := [.int x217, .int x208]) cf11 dL_law_591 mtX11_run lL_72 inX11_run seX11_run (gb_kE g216) (fnX11_run_ok _ _ cx217) (by decide) rfl (Nat.le_of_ble_eq_true rfl) (Nat.le_of_ble_eq_true rfl) rfl rfl ?_
                              refine gb_icmp_eq (tgt := 966) dL_law_594 (by decide) (fun c219 => ?_) (fun c219 => ?_)
                              · replace hF := gb_ifT c219 hF
                                exact gb_wk (fbL_law_966_ok hk18 v1 v2 v3 h218 r hF) (And.intro rfl (And.intro rfl (And.intro rfl (And.intro rfl trivial))))
                              · replace hF := gb_ifF c219 hF
                                refine gb_iconst (v := (0 : Int32)) dL_law_597 (by decide) ?_
                                cases hF
                                exact gb_zret dL_law_598 rfl (by decide)
                            · replace hF := gb_ifF c200 hF
                              rcases Classical.em (x3 = 13) with c220 | c220
                              · replace hF := gb_ifT c220 hF
                                refine gb_tswIn (tgt := 599) (x := x3) dL_law_33 (by rw [c220]; decide) (by rw [c220]; decide) (by rw [c220]; rfl) (by decide) ?_
                                refine gb_aload_n dL_law_599 rfl rfl ?_
                                refine gb_aload_nS dL_law_600 rfl rfl ?_
                                refine gb_iload_n dL_law_601 rfl rfl ?_
                                refine gb_iconst (v := (1 : Int32)) dL_law_602 (by decide) ?_
                                refine gb_iadd dL_law_603 ?_
                                obtain ⟨x221, ex221, hF⟩ := gb_ltE hF
                                refine gb_topI ex221 ?_
                                obtain ⟨g222, hF⟩ := gb_gdE hF
                                refine gb_sld dL_law_604 (gb_inXE g222) ?_
                                refine gb_aload_nS dL_law_605 rfl rfl ?_
                                refine gb_iload_n dL_law_606 rfl rfl ?_
                                refine gb_iconst (v := (2 : Int32)) dL_law_607 (by decide) ?_
                                refine gb_iadd dL_law_608 ?_
                                obtain ⟨x223, ex223, hF⟩ := gb_ltE hF
                                refine gb_topI ex223 ?_
                                obtain ⟨g224, hF⟩ := gb_gdE hF
                                refine gb_sld dL_law_609 (gb_inXE g224) ?_
                                refine gb_aload_nS dL_law_610 rfl rfl ?_
                                refine gb_iload_n dL_law_611 rfl rfl ?_
                                refine gb_iconst (v := (3 : Int32)) dL_law_612 (by decide) ?_
                                refine gb_iadd dL_law_613 ?_
                                obtain ⟨x225, ex225, hF⟩ := gb_ltE hF
                                refine gb_topI ex225 ?_
                                obtain ⟨g226, hF⟩ := gb_gdE hF
                                refine gb_sld dL_law_614 (gb_inXE g226) ?_
                                obtain ⟨g227, hF⟩ := gb_gdE hF
                                obtain ⟨x228, h229, cx228, hF⟩ := gb_bdE hF
                                refine gb_cV (As := [.int (X.2 x221.toNatClampNeg), .int (X.2 x223.toNatClampNeg), .int (X.2 x225.toNatClampNeg)]) (S := []) (v := some (.int x228)) (h1 := h229) (S2 := [.int x228]) cf10 dL_law_615 mtX10_counted lL_73 inX10_counted seX10_counted (gb_kE g227) (fnX10_counted_ok _ _ cx228) (by decide) rfl (Nat.le_of_ble_eq_true rfl) (Nat.le_of_ble_eq_true rfl) rfl rfl ?_
                                refine gb_aload_n dL_law_618 rfl rfl ?_
                                refine gb_aload_nS dL_law_619 rfl rfl ?_
                                refine gb_iload_n dL_law_620 rfl rfl ?_
                                refine gb_iconst (v := (1 : Int32)) dL_law_621 (by decide) ?_
                                refine gb_iadd dL_law_622 ?_
                                obtain ⟨x230, ex230, hF⟩ := gb_ltE hF
                                refine gb_topI ex230 ?_
                                obtain ⟨g231, hF⟩ := gb_gdE hF
                                refine gb_sld dL_law_623 (gb_inXE g231) ?_
                                refine gb_aload_nS dL_law_624 rfl rfl ?_
                                refine gb_iload_n dL_law_625 rfl rfl ?_
                                refine gb_iconst (v := (2 : Int32)) dL_law_626 (by decide) ?_
                                refine gb_iadd dL_law_627 ?_
                                obtain ⟨x232, ex232, hF⟩ := gb_ltE hF
                                refine gb_topI ex232 ?_
                                obtain ⟨g233, hF⟩ := gb_gdE hF
                                refine gb_sld dL_law_628 (gb_inXE g233) ?_
                                refine gb_aload_nS dL_law_629 rfl rfl ?_
                                refine gb_iload_n dL_law_630 rfl rfl ?_
                                refine gb_iconst (v := (3 : Int32)) dL_law_631 (by decide) ?_
                                refine gb_iadd dL_law_632 ?_
                                obtain ⟨x234, ex234, hF⟩ := gb_ltE hF
                                refine gb_topI ex234 ?_
                                obtain ⟨g235, hF⟩ := gb_gdE hF
                                refine gb_sld dL_law_633 (gb_inXE g235) ?_
                                obtain ⟨g236, hF⟩ := gb_gdE hF
                                obtain ⟨x237, h238, cx237, hF⟩ := gb_bdE hF
                                refine gb_cV (As := [.int (X.2 x230.toNatClampNeg), .int (X.2 x232.toNatClampNeg), .int (X.2 x234.toNatClampNeg)]) (S := [.int x228]) (v := some (.int x237)) (h1 := h238) (S2 := [.int x237, .int x228]) cf11 dL_law_634 mtX11_counted lL_76 inX11_counted seX11_counted (gb_kE g236) (fnX11_counted_ok _ _ cx237) (by decide) rfl (Nat.le_of_ble_eq_true rfl) (Nat.le_of_ble_eq_true rfl) rfl rfl ?_
                                refine gb_icmp_eq (tgt := 966) dL_law_637 (by decide) (fun c239 => ?_) (fun c239 => ?_)
                                · replace hF := gb_ifT c239 hF
                                  exact gb_wk (fbL_law_966_ok hk18 v1 v2 v3 h238 r hF) (And.intro rfl (And.intro rfl (And.intro rfl (And.intro rfl trivial))))
                                · replace hF := gb_ifF c239 hF
                                  refine gb_iconst (v := (0 : Int32)) dL_law_640 (by decide) ?_
                                  cases hF
                                  exact gb_zret dL_law_641 rfl (by decide)
                              · replace hF := gb_ifF c220 hF
                                rcases Classical.em (x3 = 14) with c240 | c240
                                · replace hF := gb_ifT c240 hF
                                  refine gb_tswIn (tgt := 642) (x := x3) dL_law_33 (by rw [c240]; decide) (by rw [c240]; decide) (by rw [c240]; rfl) (by decide) ?_
                                  refine gb_aload_n dL_law_642 rfl rfl ?_
                                  refine gb_aload_nS dL_law_643 rfl rfl ?_
                                  refine gb_iload_n dL_law_644 rfl rfl ?_
                                  refine gb_iconst (v := (1 : Int32)) dL_law_645 (by decide) ?_
                                  refine gb_iadd dL_law_646 ?_
                                  obtain ⟨x241, ex241, hF⟩ := gb_ltE hF
                                  refine gb_topI ex241 ?_
                                  obtain ⟨g242, hF⟩ := gb_gdE hF
                                  refine gb_sld dL_law_647 (gb_inXE g242) ?_
                                  refine gb_aload_nS dL_law_648 rfl rfl ?_
                                  refine gb_iload_n dL_law_649 rfl rfl ?_
                                  refine gb_iconst (v := (2 : Int32)) dL_law_650 (by decide) ?_
                                  refine gb_iadd dL_law_651 ?_
                                  obtain ⟨x243, ex243, hF⟩ := gb_ltE hF
                                  refine gb_topI ex243 ?_
                                  obtain ⟨g244, hF⟩ := gb_gdE hF
                                  refine gb_sld dL_law_652 (gb_inXE g244) ?_
                                  obtain ⟨g245, hF⟩ := gb_gdE hF
                                  obtain ⟨x246, h247, cx246, hF⟩ := gb_bdE hF
                                  refine gb_cV (As := [.int (X.2 x241.toNatClampNeg), .int (X.2 x243.toNatClampNeg)]) (S := []) (v := some (.int x246)) (h1 := h247) (S2 := [.int x246]) cf10 dL_law_653 mtX10_wrong lL_77 inX10_wrong seX10_wrong (gb_kE g245) (fnX10_wrong_ok _ _ cx246) (by decide) rfl (Nat.le_of_ble_eq_true rfl) (Nat.le_of_ble_eq_true rfl) rfl rfl ?_
                                  refine gb_aload_n dL_law_656 rfl rfl ?_
                                  refine gb_aload_nS dL_law_657 rfl rfl ?_
                                  refine gb_iload_n dL_law_658 rfl rfl ?_
                                  refine gb_iconst (v := (1 : Int32)) dL_law_659 (by decide) ?_
                                  refine gb_iadd dL_law_660 ?_
                                  obtain ⟨x248, ex248, hF⟩ := gb_ltE hF
                                  refine gb_topI ex248 ?_
                                  obtain ⟨g249, hF⟩ := gb_gdE hF
                                  refine gb_sld dL_law_661 (gb_inXE g249) ?_
                                  refine gb_aload_nS dL_law_662 rfl rfl ?_
                                  refine gb_iload_n dL_law_663 rfl rfl ?_
                                  refine gb_iconst (v := (2 : Int32)) dL_law_664 (by decide) ?_
                                  refine gb_iadd dL_law_665 ?_
                                  obtain ⟨x250, ex250, hF⟩ := gb_ltE hF
                                  refine gb_topI ex250 ?_
                                  obtain ⟨g251, hF⟩ := gb_gdE hF
                                  refine gb_sld dL_law_666 (gb_inXE g251) ?_
                                  obtain ⟨g252, hF⟩ := gb_gdE hF
                                  obtain ⟨x253, h254, cx253, hF⟩ := gb_bdE hF
                                  refine gb_cV (As := [.int (X.2 x248.toNatClampNeg), .int (X.2 x250.toNatClampNeg)]) (S := [.int x246]) (v := some (.int x253)) (h1 := h254) (S2 := [.int x253, .int x246]) cf11 dL_law_667 mtX11_wrong lL_80 inX11_wrong seX11_wrong (gb_kE g252) (fnX11_wrong_ok _ _ cx253) (by decide) rfl (Nat.le_of_ble_eq_true rfl) (Nat.le_of_ble_eq_true rfl) rfl rfl ?_
                                  refine gb_icmp_eq (tgt := 966) dL_law_670 (by decide) (fun c255 => ?_) (fun c255 => ?_)
                                  · replace hF := gb_ifT c255 hF
                                    exact gb_wk (fbL_law_966_ok hk18 v1 v2 v3 h254 r hF) (And.intro rfl (And.intro rfl (And.intro rfl (And.intro rfl trivial))))
                                  · replace hF := gb_ifF c255 hF
                                    refine gb_iconst (v := (0 : Int32)) dL_law_673 (by decide) ?_
                                    cases hF
                                    exact gb_zret dL_law_674 rfl (by decide)
                                · replace hF := gb_ifF c240 hF
                                  rcases Classical.em (x3 = 15) with c256 | c256
                                  · replace hF := gb_ifT c256 hF
                                    refine gb_tswIn (tgt := 675) (x := x3) dL_law_33 (by rw [c256]; decide) (by rw [c256]; decide) (by rw [c256]; rfl) (by decide) ?_
                                    refine gb_aload_n dL_law_675 rfl rfl ?_
                                    refine gb_aload_nS dL_law_676 rfl rfl ?_
                                    refine gb_iload_n dL_law_677 rfl rfl ?_
                                    refine gb_iconst (v := (1 : Int32)) dL_law_678 (by decide) ?_
                                    refine gb_iadd dL_law_679 ?_
                                    obtain ⟨x257, ex257, hF⟩ := gb_ltE hF
                                    refine gb_topI ex257 ?_
                                    obtain ⟨g258, hF⟩ := gb_gdE hF
                                    refine gb_sld dL_law_680 (gb_inXE g258) ?_
                                    refine gb_aload_nS dL_law_681 rfl rfl ?_
                                    refine gb_iload_n dL_law_682 rfl rfl ?_
                                    refine gb_iconst (v := (2 : Int32)) dL_law_683 (by decide) ?_
                                    refine gb_iadd dL_law_684 ?_
                                    obtain ⟨x259, ex259, hF⟩ := gb_ltE hF
                                    refine gb_topI ex259 ?_
                                    obtain ⟨g260, hF⟩ := gb_gdE hF
                                    refine gb_sld dL_law_685 (gb_inXE g260) ?_
                                    obtain ⟨g261, hF⟩ := gb_gdE hF
                                    obtain ⟨x262, h263, cx262, hF⟩ := gb_bdE hF
                                    refine gb_cV (As := [.int (X.2 x257.toNatClampNeg), .int (X.2 x259.toNatClampNeg)]) (S := []) (v := some (.int x262)) (h1 := h263) (S2 := [.int x262]) cf10 dL_law_686 mtX10_misfit lL_81 inX10_misfit seX10_misfit (gb_kE g261) (fnX10_misfit_ok _ _ cx262) (by decide) rfl (Nat.le_of_ble_eq_true rfl) (Nat.le_of_ble_eq_true rfl) rfl rfl ?_
                                    refine gb_aload_n dL_law_689 rfl rfl ?_
                                    refine gb_aload_nS dL_law_690 rfl rfl ?_
                                    refine gb_iload_n dL_law_691 rfl rfl ?_
                                    refine gb_iconst (v := (1 : Int32)) dL_law_692 (by decide) ?_
                                    refine gb_iadd dL_law_693 ?_
                                    obtain ⟨x264, ex264, hF⟩ := gb_ltE hF
                                    refine gb_topI ex264 ?_
                                    obtain ⟨g265, hF⟩ := gb_gdE hF
                                    refine gb_sld dL_law_694 (gb_inXE g265) ?_
                                    refine gb_aload_nS dL_law_695 rfl rfl ?_
                                    refine gb_iload_n dL_law_696 rfl rfl ?_
                                    refine gb_iconst (v := (2 : Int32)) dL_law_697 (by decide) ?_
                                    refine gb_iadd dL_law_698 ?_
                                    obtain ⟨x266, ex266, hF⟩ := gb_ltE hF
                                    refine gb_topI ex266 ?_
                                    obtain ⟨g267, hF⟩ := gb_gdE hF
                                    refine gb_sld dL_law_699 (gb_inXE g267) ?_
                                    obtain ⟨g268, hF⟩ := gb_gdE hF
                                    obtain ⟨x269, h270, cx269, hF⟩ := gb_bdE hF
                                    refine gb_cV (As := [.int (X.2 x264.toNatClampNeg), .int (X.2 x266.toNatClampNeg)]) (S := [.int x262]) (v := some (.int x269)) (h1 := h270) (S2 := [.int x269, .int x262]) cf11 dL_law_700 mtX11_misfit lL_84 inX11_misfit seX11_misfit (gb_kE g268) (fnX11_misfit_ok _ _ cx269) (by decide) rfl (Nat.le_of_ble_eq_true rfl) (Nat.le_of_ble_eq_true rfl) rfl rfl ?_
                                    refine gb_icmp_eq (tgt := 966) dL_law_703 (by decide) (fun c271 => ?_) (fun c271 => ?_)
                                    · replace hF := gb_ifT c271 hF
                                      exact gb_wk (fbL_law_966_ok hk18 v1 v2 v3 h270 r hF) (And.intro rfl (And.intro rfl (And.intro rfl (And.intro rfl trivial))))
                                    · replace hF := gb_ifF c271 hF
                                      refine gb_iconst (v := (0 : Int32)) dL_law_706 (by decide) ?_
                                      cases hF
                                      exact gb_zret dL_law_707 rfl (by decide)
                                  · replace hF := gb_ifF c256 hF
                                    rcases Classical.em (x3 = 16) with c272 | c272
                                    · replace hF := gb_ifT c272 hF
                                      refine gb_tswIn (tgt := 708) (x := x3) dL_law_33 (by rw [c272]; decide) (by rw [c272]; decide) (by rw [c272]; rfl) (by decide) ?_
                                      refine gb_aload_n dL_law_708 rfl rfl ?_
                                      refine gb_aload_nS dL_law_709 rfl rfl ?_
                                      refine gb_iload_n dL_law_710 rfl rfl ?_
                                      refine gb_iconst (v := (1 : Int32)) dL_law_711 (by decide) ?_
                                      refine gb_iadd dL_law_712 ?_
                                      obtain ⟨x273, ex273, hF⟩ := gb_ltE hF
                                      refine gb_topI ex273 ?_
                                      obtain ⟨g274, hF⟩ := gb_gdE hF
                                      refine gb_sld dL_law_713 (gb_inXE g274) ?_
                                      obtain ⟨g275, hF⟩ := gb_gdE hF
                                      obtain ⟨x276, h277, cx276, hF⟩ := gb_bdE hF
                                      refine gb_cV (As := [.int (X.2 x273.toNatClampNeg)]) (S := []) (v := some (.int x276)) (h1 := h277) (S2 := [.int x276]) cf10 dL_law_714 mtX10_fits lL_85 inX10_fits seX10_fits (gb_kE g275) (fnX10_fits_ok _ _ cx276) (by decide) rfl (Nat.le_of_ble_eq_true rfl) (Nat.le_of_ble_eq_true rfl) rfl rfl ?_
                                      refine gb_aload_n dL_law_717 rfl rfl ?_
                                      refine gb_aload_nS dL_law_718 rfl rfl ?_
                                      refine gb_iload_n dL_law_719 rfl rfl ?_
                                      refine gb_iconst (v := (1 : Int32)) dL_law_720 (by decide) ?_
                                      refine gb_iadd dL_law_721 ?_
                                      obtain ⟨x278, ex278, hF⟩ := gb_ltE hF
                                      refine gb_topI ex278 ?_
                                      obtain ⟨g279, hF⟩ := gb_gdE hF
                                      refine gb_sld dL_law_722 (gb_inXE g279) ?_
                                      obtain ⟨g280, hF⟩ := gb_gdE hF
                                      obtain ⟨x281, h282, cx281, hF⟩ := gb_bdE hF
                                      refine gb_cV (As := [.int (X.2 x278.toNatClampNeg)]) (S := [.int x276]) (v := some (.int x281)) (h1 := h282) (S2 := [.int x281, .int x276]) cf11 dL_law_723 mtX11_fits lL_88 inX11_fits seX11_fits (gb_kE g280) (fnX11_fits_ok _ _ cx281) (by decide) rfl (Nat.le_of_ble_eq_true rfl) (Nat.le_of_ble_eq_true rfl) rfl rfl ?_
                                      refine gb_icmp_eq (tgt := 966) dL_law_726 (by decide) (fun c283 => ?_) (fun c283 => ?_)
                                      · replace hF := gb_ifT c283 hF
                                        exact gb_wk (fbL_law_966_ok hk18 v1 v2 v3 h282 r hF) (And.intro rfl (And.intro rfl (And.intro rfl (And.intro rfl trivial))))
                                      · replace hF := gb_ifF c283 hF
                                        refine gb_iconst (v := (0 : Int32)) dL_law_729 (by decide) ?_
                                        cases hF
                                        exact gb_zret dL_law_730 rfl (by decide)
                                    · replace hF := gb_ifF c272 hF
                                      rcases Classical.em (x3 = 17) with c284 | c284
                                      · replace hF := gb_ifT c284 hF
                                        refine gb_tswIn (tgt := 731) (x := x3) dL_law_33 (by rw [c284]; decide) (by rw [c284]; decide) (by rw [c284]; rfl) (by decide) ?_
                                        refine gb_aload_n dL_law_731 rfl rfl ?_
                                        refine gb_aload_nS dL_law_732 rfl rfl ?_
                                        refine gb_iload_n dL_law_733 rfl rfl ?_
                                        refine gb_iconst (v := (1 : Int32)) dL_law_734 (by decide) ?_
                                        refine gb_iadd dL_law_735 ?_
                                        obtain ⟨x285, ex285, hF⟩ := gb_ltE hF
                                        refine gb_topI ex285 ?_
                                        obtain ⟨g286, hF⟩ := gb_gdE hF
                                        refine gb_sld dL_law_736 (gb_inXE g286) ?_
                                        refine gb_aload_nS dL_law_737 rfl rfl ?_
                                        refine gb_iload_n dL_law_738 rfl rfl ?_
                                        refine gb_iconst (v := (2 : Int32)) dL_law_739 (by decide) ?_
                                        refine gb_iadd dL_law_740 ?_
                                        obtain ⟨x287, ex287, hF⟩ := gb_ltE hF
                                        refine gb_topI ex287 ?_
                                        obtain ⟨g288, hF⟩ := gb_gdE hF
                                        refine gb_sld dL_law_741 (gb_inXE g288) ?_
                                        refine gb_aload_nS dL_law_742 rfl rfl ?_
                                        refine gb_iload_n dL_law_743 rfl rfl ?_
                                        refine gb_iconst (v := (3 : Int32)) dL_law_744 (by decide) ?_
                                        refine gb_iadd dL_law_745 ?_
                                        obtain ⟨x289, ex289, hF⟩ := gb_ltE hF
                                        refine gb_topI ex289 ?_
                                        obtain ⟨g290, hF⟩ := gb_gdE hF
                                        refine gb_sld dL_law_746 (gb_inXE g290) ?_
                                        obtain ⟨g291, hF⟩ := gb_gdE hF
                                        obtain ⟨x292, h293, cx292, hF⟩ := gb_bdE hF
                                        refine gb_cV (As := [.int (X.2 x285.toNatClampNeg), .int (X.2 x287.toNatClampNeg), .int (X.2 x289.toNatClampNeg)]) (S := []) (v := some (.int x292)) (h1 := h293) (S2 := [.int x292]) cf10 dL_law_747 mtX10_pairs lL_89 inX10_pairs seX10_pairs (gb_kE g291) (fnX10_pairs_ok _ _ cx292) (by decide) rfl (Nat.le_of_ble_eq_true rfl) (Nat.le_of_ble_eq_true rfl) rfl rfl ?_
                                        refine gb_aload_n dL_law_750 rfl rfl ?_
                                        refine gb_aload_nS dL_law_751 rfl rfl ?_
                                        refine gb_iload_n dL_law_752 rfl rfl ?_
                                        refine gb_iconst (v := (1 : Int32)) dL_law_753 (by decide) ?_
                                        refine gb_iadd dL_law_754 ?_
                                        obtain ⟨x294, ex294, hF⟩ := gb_ltE hF
                                        refine gb_topI ex294 ?_
                                        obtain ⟨g295, hF⟩ := gb_gdE hF
                                        refine gb_sld dL_law_755 (gb_inXE g295) ?_
                                        refine gb_aload_nS dL_law_756 rfl rfl ?_
                                        refine gb_iload_n dL_law_757 rfl rfl ?_
                                        refine gb_iconst (v := (2 : Int32)) dL_law_758 (by decide) ?_
                                        refine gb_iadd dL_law_759 ?_
                                        obtain ⟨x296, ex296, hF⟩ := gb_ltE hF
                                        refine gb_topI ex296 ?_
                                        obtain ⟨g297, hF⟩ := gb_gdE hF
                                        refine gb_sld dL_law_760 (gb_inXE g297) ?_
                                        refine gb_aload_nS dL_law_761 rfl rfl ?_
                                        refine gb_iload_n dL_law_762 rfl rfl ?_
                                        refine gb_iconst (v := (3 : Int32)) dL_law_763 (by decide) ?_
                                        refine gb_iadd dL_law_764 ?_
                                        obtain ⟨x298, ex298, hF⟩ := gb_ltE hF
                                        refine gb_topI ex298 ?_
                                        obtain ⟨g299, hF⟩ := gb_gdE hF
                                        refine gb_sld dL_law_765 (gb_inXE g299) ?_
                                        obtain ⟨g300, hF⟩ := gb_gdE hF
                                        obtain ⟨x301, h302, cx301, hF⟩ := gb_bdE hF
                                        refine gb_cV (As := [.int (X.2 x294.toNatClampNeg), .int (X.2 x296.toNatClampNeg), .int (X.2 x298.toNatClampNeg)]) (S := [.int x292]) (v := some (.int x301)) (h1 := h302) (S2 := [.int x301, .int x292]) cf11 dL_law_766 mtX11_pairs lL_92 inX11_pairs seX11_pairs (gb_kE g300) (fnX11_pairs_ok _ _ cx301) (by decide) rfl (Nat.le_of_ble_eq_true rfl) (Nat.le_of_ble_eq_true rfl) rfl rfl ?_
                                        refine gb_icmp_eq (tgt := 966) dL_law_769 (by decide) (fun c303 => ?_) (fun c303 => ?_)
                                        · replace hF := gb_ifT c303 hF
                                          exact gb_wk (fbL_law_966_ok hk18 v1 v2 v3 h302 r hF) (And.intro rfl (And.intro rfl (And.intro rfl (And.intro rfl trivial))))
                                        · replace hF := gb_ifF c303 hF
                                          refine gb_iconst (v := (0 : Int32)) dL_law_772 (by decide) ?_
                                          cases hF
                                          exact gb_zret dL_law_773 rfl (by decide)
                                      · replace hF := gb_ifF c284 hF
                                        rcases Classical.em (x3 = 18) with c304 | c304
                                        · replace hF := gb_ifT c304 hF
                                          refine gb_tswIn (tgt := 774) (x := x3) dL_law_33 (by rw [c304]; decide) (by rw [c304]; decide) (by rw [c304]; rfl) (by decide) ?_
                                          refine gb_aload_n dL_law_774 rfl rfl ?_
                                          refine gb_aload_nS dL_law_775 rfl rfl ?_
                                          refine gb_iload_n dL_law_776 rfl rfl ?_
                                          refine gb_iconst (v := (1 : Int32)) dL_law_777 (by decide) ?_
                                          refine gb_iadd dL_law_778 ?_
                                          obtain ⟨x305, ex305, hF⟩ := gb_ltE hF
                                          refine gb_topI ex305 ?_
                                          obtain ⟨g306, hF⟩ := gb_gdE hF
                                          refine gb_sld dL_law_779 (gb_inXE g306) ?_
                                          refine gb_aload_nS dL_law_780 rfl rfl ?_
                                          refine gb_iload_n dL_law_781 rfl rfl ?_
                                          refine gb_iconst (v := (2 : Int32)) dL_law_782 (by decide) ?_
                                          refine gb_iadd dL_law_783 ?_
                                          obtain ⟨x307, ex307, hF⟩ := gb_ltE hF
                                          refine gb_topI ex307 ?_
                                          obtain ⟨g308, hF⟩ := gb_gdE hF
                                          refine gb_sld dL_law_784 (gb_inXE g308) ?_
                                          obtain ⟨g309, hF⟩ := gb_gdE hF
                                          obtain ⟨x310, h311, cx310, hF⟩ := gb_bdE hF
                                          refine gb_cV (As := [.int (X.2 x305.toNatClampNeg), .int (X.2 x307.toNatClampNeg)]) (S := []) (v := some (.long x310)) (h1 := h311) (S2 := [.long x310]) cf10 dL_law_785 mtX10_notes lL_93 inX10_notes seX10_notes (gb_kE g309) (fnX10_notes_ok _ _ cx310) (by decide) rfl (Nat.le_of_ble_eq_true rfl) (Nat.le_of_ble_eq_true rfl) rfl rfl ?_
                                          refine gb_aload_n dL_law_788 rfl rfl ?_
                                          refine gb_aload_nS dL_law_789 rfl rfl ?_
                                          refine gb_iload_n dL_law_790 rfl rfl ?_
                                          refine gb_iconst (v := (1 : Int32)) dL_law_791 (by decide) ?_
                                          refine gb_iadd dL_law_792 ?_
                                          obtain ⟨x312, ex312, hF⟩ := gb_ltE hF
                                          refine gb_topI ex312 ?_
                                          obtain ⟨g313, hF⟩ := gb_gdE hF
                                          refine gb_sld dL_law_793 (gb_inXE g313) ?_
                                          refine gb_aload_nS dL_law_794 rfl rfl ?_
                                          refine gb_iload_n dL_law_795 rfl rfl ?_
                                          refine gb_iconst (v := (2 : Int32)) dL_law_796 (by decide) ?_
                                          refine gb_iadd dL_law_797 ?_
                                          obtain ⟨x314, ex314, hF⟩ := gb_ltE hF
                                          refine gb_topI ex314 ?_
                                          obtain ⟨g315, hF⟩ := gb_gdE hF
                                          refine gb_sld dL_law_798 (gb_inXE g315) ?_
                                          obtain ⟨g316, hF⟩ := gb_gdE hF
                                          obtain ⟨x317, h318, cx317, hF⟩ := gb_bdE hF
                                          refine gb_cV (As := [.int (X.2 x312.toNatClampNeg), .int (X.2 x314.toNatClampNeg)]) (S := [.long x310]) (v := some (.long x317)) (h1 := h318) (S2 := [.long x317, .long x310]) cf11 dL_law_799 mtX11_notes lL_97 inX11_notes seX11_notes (gb_kE g316) (fnX11_notes_ok _ _ cx317) (by decide) rfl (Nat.le_of_ble_eq_true rfl) (Nat.le_of_ble_eq_true rfl) rfl rfl ?_
                                          refine gb_lc_eq (tgt := 966) dL_law_802 dL_law_803 (by decide) (fun c319 => ?_) (fun c319 => ?_)
                                          · replace hF := gb_ifT c319 hF
                                            exact gb_wk (fbL_law_966_ok hk18 v1 v2 v3 h318 r hF) (And.intro rfl (And.intro rfl (And.intro rfl (And.intro rfl trivial))))
                                          · replace hF := gb_ifF c319 hF
                                            refine gb_iconst (v := (0 : Int32)) dL_law_806 (by decide) ?_
                                            cases hF
                                            exact gb_zret dL_law_807 rfl (by decide)
                                        · replace hF := gb_ifF c304 hF
                                          rcases Classical.em (x3 = 19) with c320 | c320
                                          · replace hF := gb_ifT c320 hF
                                            refine gb_tswIn (tgt := 808) (x := x3) dL_law_33 (by rw [c320]; decide) (by rw [c320]; decide) (by rw [c320]; rfl) (by decide) ?_
                                            refine gb_aload_n dL_law_808 rfl rfl ?_
                                            refine gb_aload_nS dL_law_809 rfl rfl ?_
                                            refine gb_iload_n dL_law_810 rfl rfl ?_
                                            refine gb_iconst (v := (1 : Int32)) dL_law_811 (by decide) ?_
                                            refine gb_iadd dL_law_812 ?_
                                            obtain ⟨x321, ex321, hF⟩ := gb_ltE hF
                                            refine gb_topI ex321 ?_
                                            obtain ⟨g322, hF⟩ := gb_gdE hF
                                            refine gb_sld dL_law_813 (gb_inXE g322) ?_
                                            refine gb_aload_nS dL_law_814 rfl rfl ?_
                                            refine gb_iload_n dL_law_815 rfl rfl ?_
                                            refine gb_iconst (v := (2 : Int32)) dL_law_816 (by decide) ?_
                                            refine gb_iadd dL_law_817 ?_
                                            obtain ⟨x323, ex323, hF⟩ := gb_ltE hF
                                            refine gb_topI ex323 ?_
                                            obtain ⟨g324, hF⟩ := gb_gdE hF
                                            refine gb_sld dL_law_818 (gb_inXE g324) ?_
                                            refine gb_aload_nS dL_law_819 rfl rfl ?_
                                            refine gb_iload_n dL_law_820 rfl rfl ?_
                                            refine gb_iconst (v := (3 : Int32)) dL_law_821 (by decide) ?_
                                            refine gb_iadd dL_law_822 ?_
                                            obtain ⟨x325, ex325, hF⟩ := gb_ltE hF
                                            refine gb_topI ex325 ?_
                                            obtain ⟨g326, hF⟩ := gb_gdE hF
                                            refine gb_sld dL_law_823 (gb_inXE g326) ?_
                                            refine gb_aload_nS dL_law_824 rfl rfl ?_
                                            refine gb_iload_n dL_law_825 rfl rfl ?_
                                            refine gb_iconst (v := (4 : Int32)) dL_law_826 (by decide) ?_
                                            refine gb_iadd dL_law_827 ?_
                                            obtain ⟨x327, ex327, hF⟩ := gb_ltE hF
                                            refine gb_topI ex327 ?_
                                            obtain ⟨g328, hF⟩ := gb_gdE hF
                                            refine gb_sld dL_law_828 (gb_inXE g328) ?_
                                            refine gb_aload_nS dL_law_829 rfl rfl ?_
                                            refine gb_iload_n dL_law_830 rfl rfl ?_
                                            refine gb_iconst (v := (5 : Int32)) dL_law_831 (by decide) ?_
                                            refine gb_iadd dL_law_832 ?_
                                            obtain ⟨x329, ex329, hF⟩ := gb_ltE hF
                                            refine gb_topI ex329 ?_
                                            obtain ⟨g330, hF⟩ := gb_gdE hF
                                            refine gb_sld dL_law_833 (gb_inXE g330) ?_
                                            refine gb_aload_nS dL_law_834 rfl rfl ?_
                                            refine gb_iload_n dL_law_835 rfl rfl ?_
                                            refine gb_bipush (v := (6 : Int32)) dL_law_836 (by decide) ?_
                                            refine gb_iadd dL_law_838 ?_
                                            obtain ⟨x331, ex331, hF⟩ := gb_ltE hF
                                            refine gb_topI ex331 ?_
                                            obtain ⟨g332, hF⟩ := gb_gdE hF
                                            refine gb_sld dL_law_839 (gb_inXE g332) ?_
                                            obtain ⟨g333, hF⟩ := gb_gdE hF
                                            obtain ⟨x334, h335, cx334, hF⟩ := gb_bdE hF
                                            refine gb_cV (As := [.int (X.2 x321.toNatClampNeg), .int (X.2 x323.toNatClampNeg), .int (X.2 x325.toNatClampNeg), .int (X.2 x327.toNatClampNeg), .int (X.2 x329.toNatClampNeg), .int (X.2 x331.toNatClampNeg)]) (S := []) (v := some (.int x334)) (h1 := h335) (S2 := [.int x334]) cf10 dL_law_840 mtX10_plan lL_98 inX10_plan seX10_plan (gb_kE g333) (fnX10_plan_ok _ _ cx334) (by decide) rfl (Nat.le_of_ble_eq_true rfl) (Nat.le_of_ble_eq_true rfl) rfl rfl ?_
                                            refine gb_aload_n dL_law_843 rfl rfl ?_
                                            refine gb_aload_nS dL_law_844 rfl rfl ?_
                                            refine gb_iload_n dL_law_845 rfl rfl ?_
                                            refine gb_iconst (v := (1 : Int32)) dL_law_846 (by decide) ?_
                                            refine gb_iadd dL_law_847 ?_
                                            obtain ⟨x336, ex336, hF⟩ := gb_ltE hF
                                            refine gb_topI ex336 ?_
                                            obtain ⟨g337, hF⟩ := gb_gdE hF
                                            refine gb_sld dL_law_848 (gb_inXE g337) ?_
                                            refine gb_aload_nS dL_law_849 rfl rfl ?_
                                            refine gb_iload_n dL_law_850 rfl rfl ?_
                                            refine gb_iconst (v := (2 : Int32)) dL_law_851 (by decide) ?_
                                            refine gb_iadd dL_law_852 ?_
                                            obtain ⟨x338, ex338, hF⟩ := gb_ltE hF
                                            refine gb_topI ex338 ?_
                                            obtain ⟨g339, hF⟩ := gb_gdE hF
                                            refine gb_sld dL_law_853 (gb_inXE g339) ?_
                                            refine gb_aload_nS dL_law_854 rfl rfl ?_
                                            refine gb_iload_n dL_law_855 rfl rfl ?_
                                            refine gb_iconst (v := (3 : Int32)) dL_law_856 (by decide) ?_
                                            refine gb_iadd dL_law_857 ?_
                                            obtain ⟨x340, ex340, hF⟩ := gb_ltE hF
                                            refine gb_topI ex340 ?_
                                            obtain ⟨g341, hF⟩ := gb_gdE hF
                                            refine gb_sld dL_law_858 (gb_inXE g341) ?_
                                            refine gb_aload_nS dL_law_859 rfl rfl ?_
                                            refine gb_iload_n dL_law_860 rfl rfl ?_
                                            refine gb_iconst (v := (4 : Int32)) dL_law_861 (by decide) ?_
                                            refine gb_iadd dL_law_862 ?_
                                            obtain ⟨x342, ex342, hF⟩ := gb_ltE hF
                                            refine gb_topI ex342 ?_
                                            obtain ⟨g343, hF⟩ := gb_gdE hF
                                            refine gb_sld dL_law_863 (gb_inXE g343) ?_
                                            refine gb_aload_nS dL_law_864 rfl rfl ?_
                                            refine gb_iload_n dL_law_865 rfl rfl ?_
                                            refine gb_iconst (v := (5 : Int32)) dL_law_866 (by decide) ?_
                                            refine gb_iadd dL_law_867 ?_
                                            obtain ⟨x344, ex344, hF⟩ := gb_ltE hF
                                            refine gb_topI ex344 ?_
                                            obtain ⟨g345, hF⟩ := gb_gdE hF
                                            refine gb_sld dL_law_868 (gb_inXE g345) ?_
                                            refine gb_aload_nS dL_law_869 rfl rfl ?_
                                            refine gb_iload_n dL_law_870 rfl rfl ?_
                                            refine gb_bipush (v := (6 : Int32)) dL_law_871 (by decide) ?_
                                            refine gb_iadd dL_law_873 ?_
                                            obtain ⟨x346, ex346, hF⟩ := gb_ltE hF
                                            refine gb_topI ex346 ?_
                                            obtain ⟨g347, hF⟩ := gb_gdE hF
                                            refine gb_sld dL_law_874 (gb_inXE g347) ?_
                                            obtain ⟨g348, hF⟩ := gb_gdE hF
                                            obtain ⟨x349, h350, cx349, hF⟩ := gb_bdE hF
                                            refine gb_cV (As := [.int (X.2 x336.toNatClampNeg), .int (X.2 x338.toNatClampNeg), .int (X.2 x340.toNatClampNeg), .int (X.2 x342.toNatClampNeg), .int (X.2 x344.toNatClampNeg), .int (X.2 x346.toNatClampNeg)]) (S := [.int x334]) (v := some (.int x349)) (h1 := h350) (S2 := [.int x349, .int x334]) cf11 dL_law_875 mtX11_plan lL_102 inX11_plan seX11_plan (gb_kE g348) (fnX11_plan_ok _ _ cx349) (by decide) rfl (Nat.le_of_ble_eq_true rfl) (Nat.le_of_ble_eq_true rfl) rfl rfl ?_
                                            refine gb_icmp_eq (tgt := 966) dL_law_878 (by decide) (fun c351 => ?_) (fun c351 => ?_)
                                            · replace hF := gb_ifT c351 hF
                                              exact gb_wk (fbL_law_966_ok hk18 v1 v2 v3 h350 r hF) (And.intro rfl (And.intro rfl (And.intro rfl (And.intro rfl trivial))))
                                            · replace hF := gb_ifF c351 hF
                                              refine gb_iconst (v := (0 : Int32)) dL_law_881 (by decide) ?_
                                              cases hF
                                              exact gb_zret dL_law_882 rfl (by decide)
                                          · replace hF := gb_ifF c320 hF
                                            rcases Classical.em (x3 = 20) with c352 | c352
                                            · replace hF := gb_ifT c352 hF
                                              refine gb_tswIn (tgt := 883) (x := x3) dL_law_33 (by rw [c352]; decide) (by rw [c352]; decide) (by rw [c352]; rfl) (by decide) ?_
                                              refine gb_aload_n dL_law_883 rfl rfl ?_
                                              refine gb_aload_nS dL_law_884 rfl rfl ?_
                                              refine gb_iload_n dL_law_885 rfl rfl ?_
                                              refine gb_iconst (v := (1 : Int32)) dL_law_886 (by decide) ?_
                                              refine gb_iadd dL_law_887 ?_
                                              obtain ⟨x353, ex353, hF⟩ := gb_ltE hF
                                              refine gb_topI ex353 ?_
                                              obtain ⟨g354, hF⟩ := gb_gdE hF
                                              refine gb_sld dL_law_888 (gb_inXE g354) ?_
                                              obtain ⟨g355, hF⟩ := gb_gdE hF
                                              obtain ⟨x356, h357, cx356, hF⟩ := gb_bdE hF
                                              refine gb_cV (As := [.int (X.2 x353.toNatClampNeg)]) (S := []) (v := some (.long x356)) (h1 := h357) (S2 := [.long x356]) cf10 dL_law_889 mtX10_planned lL_103 inX10_planned seX10_planned (gb_kE g355) (fnX10_planned_ok _ _ cx356) (by decide) rfl (Nat.le_of_ble_eq_true rfl) (Nat.le_of_ble_eq_true rfl) rfl rfl ?_
                                              refine gb_aload_n dL_law_892 rfl rfl ?_
                                              refine gb_aload_nS dL_law_893 rfl rfl ?_
                                              refine gb_iload_n dL_law_894 rfl rfl ?_
                                              refine gb_iconst (v := (1 : Int32)) dL_law_895 (by decide) ?_
                                              refine gb_iadd dL_law_896 ?_
                                              obtain ⟨x358, ex358, hF⟩ := gb_ltE hF
                                              refine gb_topI ex358 ?_
                                              obtain ⟨g359, hF⟩ := gb_gdE hF
                                              refine gb_sld dL_law_897 (gb_inXE g359) ?_
                                              obtain ⟨g360, hF⟩ := gb_gdE hF
                                              obtain ⟨x361, h362, cx361, hF⟩ := gb_bdE hF
                                              refine gb_cV (As := [.int (X.2 x358.toNatClampNeg)]) (S := [.long x356]) (v := some (.long x361)) (h1 := h362) (S2 := [.long x361, .long x356]) cf11 dL_law_898 mtX11_planned lL_107 inX11_planned seX11_planned (gb_kE g360) (fnX11_planned_ok _ _ cx361) (by decide) rfl (Nat.le_of_ble_eq_true rfl) (Nat.le_of_ble_eq_true rfl) rfl rfl ?_
                                              refine gb_lc_eq (tgt := 966) dL_law_901 dL_law_902 (by decide) (fun c363 => ?_) (fun c363 => ?_)
                                              · replace hF := gb_ifT c363 hF
                                                exact gb_wk (fbL_law_966_ok hk18 v1 v2 v3 h362 r hF) (And.intro rfl (And.intro rfl (And.intro rfl (And.intro rfl trivial))))
                                              · replace hF := gb_ifF c363 hF
                                                refine gb_iconst (v := (0 : Int32)) dL_law_905 (by decide) ?_
                                                cases hF
                                                exact gb_zret dL_law_906 rfl (by decide)
                                            · replace hF := gb_ifF c352 hF
                                              rcases Classical.em (x3 = 21) with c364 | c364
                                              · replace hF := gb_ifT c364 hF
                                                refine gb_tswIn (tgt := 907) (x := x3) dL_law_33 (by rw [c364]; decide) (by rw [c364]; decide) (by rw [c364]; rfl) (by decide) ?_
                                                refine gb_aload_n dL_law_907 rfl rfl ?_
                                                refine gb_aload_nS dL_law_908 rfl rfl ?_
                                                refine gb_iload_n dL_law_909 rfl rfl ?_
                                                refine gb_iconst (v := (1 : Int32)) dL_law_910 (by decide) ?_
                                                refine gb_iadd dL_law_911 ?_
                                                obtain ⟨x365, ex365, hF⟩ := gb_ltE hF
                                                refine gb_topI ex365 ?_
                                                obtain ⟨g366, hF⟩ := gb_gdE hF
                                                refine gb_sld dL_law_912 (gb_inXE g366) ?_
                                                obtain ⟨g367, hF⟩ := gb_gdE hF
                                                obtain ⟨x368, h369, cx368, hF⟩ := gb_bdE hF
                                                refine gb_cV (As := [.int (X.2 x365.toNatClampNeg)]) (S := []) (v := some (.int x368)) (h1 := h369) (S2 := [.int x368]) cf10 dL_law_913 mtX10_build lL_108 inX10_build seX10_build (gb_kE g367) (fnX10_build_ok _ _ cx368) (by decide) rfl (Nat.le_of_ble_eq_true rfl) (Nat.le_of_ble_eq_true rfl) rfl rfl ?_
                                                refine gb_aload_n dL_law_916 rfl rfl ?_
                                                refine gb_aload_nS dL_law_917 rfl rfl ?_
                                                refine gb_iload_n dL_law_918 rfl rfl ?_
                                                refine gb_iconst (v := (1 : Int32)) dL_law_919 (by decide) ?_
                                                refine gb_iadd dL_law_920 ?_
                                                obtain ⟨x370, ex370, hF⟩ := gb_ltE hF
                                                refine gb_topI ex370 ?_
                                                obtain ⟨g371, hF⟩ := gb_gdE hF
                                                refine gb_sld dL_law_921 (gb_inXE g371) ?_
                                                obtain ⟨g372, hF⟩ := gb_gdE hF
                                                obtain ⟨x373, h374, cx373, hF⟩ := gb_bdE hF
                                                refine gb_cV (As := [.int (X.2 x370.toNatClampNeg)]) (S := [.int x368]) (v := some (.int x373)) (h1 := h374) (S2 := [.int x373, .int x368]) cf11 dL_law_922 mtX11_build lL_111 inX11_build seX11_build (gb_kE g372) (fnX11_build_ok _ _ cx373) (by decide) rfl (Nat.le_of_ble_eq_true rfl) (Nat.le_of_ble_eq_true rfl) rfl rfl ?_
                                                refine gb_icmp_eq (tgt := 966) dL_law_925 (by decide) (fun c375 => ?_) (fun c375 => ?_)
                                                · replace hF := gb_ifT c375 hF
                                                  exact gb_wk (fbL_law_966_ok hk18 v1 v2 v3 h374 r hF) (And.intro rfl (And.intro rfl (And.intro rfl (And.intro rfl trivial))))
                                                · replace hF := gb_ifF c375 hF
                                                  refine gb_iconst (v := (0 : Int32)) dL_law_928 (by decide) ?_
                                                  cases hF
                                                  exact gb_zret dL_law_929 rfl (by decide)
                                              · replace hF := gb_ifF c364 hF
                                                rcases Classical.em (x3 = 22) with c376 | c376
                                                · replace hF := gb_ifT c376 hF
                                                  refine gb_tswIn (tgt := 930) (x := x3) dL_law_33 (by rw [c376]; decide) (by rw [c376]; decide) (by rw [c376]; rfl) (by decide) ?_
                                                  refine gb_aload_n dL_law_930 rfl rfl ?_
                                                  refine gb_aload_nS dL_law_931 rfl rfl ?_
                                                  refine gb_iload_n dL_law_932 rfl rfl ?_
                                                  refine gb_iconst (v := (1 : Int32)) dL_law_933 (by decide) ?_
                                                  refine gb_iadd dL_law_934 ?_
                                                  obtain ⟨x377, ex377, hF⟩ := gb_ltE hF
                                                  refine gb_topI ex377 ?_
                                                  obtain ⟨g378, hF⟩ := gb_gdE hF
                                                  refine gb_sld dL_law_935 (gb_inXE g378) ?_
                                                  obtain ⟨g379, hF⟩ := gb_gdE hF
                                                  obtain ⟨x380, h381, cx380, hF⟩ := gb_bdE hF
                                                  refine gb_cV (As := [.int (X.2 x377.toNatClampNeg)]) (S := []) (v := some (.int x380)) (h1 := h381) (S2 := [.int x380]) cf10 dL_law_936 mtX10_count lL_112 inX10_count seX10_count (gb_kE g379) (fnX10_count_ok _ _ cx380) (by decide) rfl (Nat.le_of_ble_eq_true rfl) (Nat.le_of_ble_eq_true rfl) rfl rfl ?_
                                                  refine gb_aload_n dL_law_939 rfl rfl ?_
                                                  refine gb_aload_nS dL_law_940 rfl rfl ?_
                                                  refine gb_iload_n dL_law_941 rfl rfl ?_
                                                  refine gb_iconst (v := (1 : Int32)) dL_law_942 (by decide) ?_
                                                  refine gb_iadd dL_law_943 ?_
                                                  obtain ⟨x382, ex382, hF⟩ := gb_ltE hF
                                                  refine gb_topI ex382 ?_
                                                  obtain ⟨g383, hF⟩ := gb_gdE hF
                                                  refine gb_sld dL_law_944 (gb_inXE g383) ?_
                                                  obtain ⟨g384, hF⟩ := gb_gdE hF
                                                  obtain ⟨x385, h386, cx385, hF⟩ := gb_bdE hF
                                                  refine gb_cV (As := [.int (X.2 x382.toNatClampNeg)]) (S := [.int x380]) (v := some (.int x385)) (h1 := h386) (S2 := [.int x385, .int x380]) cf11 dL_law_945 mtX11_count lL_115 inX11_count seX11_count (gb_kE g384) (fnX11_count_ok _ _ cx385) (by decide) rfl (Nat.le_of_ble_eq_true rfl) (Nat.le_of_ble_eq_true rfl) rfl rfl ?_
                                                  refine gb_icmp_eq (tgt := 966) dL_law_948 (by decide) (fun c387 => ?_) (fun c387 => ?_)
                                                  · replace hF := gb_ifT c387 hF
                                                    exact gb_wk (fbL_law_966_ok hk18 v1 v2 v3 h386 r hF) (And.intro rfl (And.intro rfl (And.intro rfl (And.intro rfl trivial))))
                                                  · replace hF := gb_ifF c387 hF
                                                    refine gb_iconst (v := (0 : Int32)) dL_law_951 (by decide) ?_
                                                    cases hF
                                                    exact gb_zret dL_law_952 rfl (by decide)
                                                · replace hF := gb_ifF c376 hF
                                                  rcases Classical.em (x3 = 23) with c388 | c388
                                                  · replace hF := gb_ifT c388 hF
                                                    refine gb_tswIn (tgt := 953) (x := x3) dL_law_33 (by rw [c388]; decide) (by rw [c388]; decide) (by rw [c388]; rfl) (by decide) ?_
                                                    refine gb_aload_n dL_law_953 rfl rfl ?_
                                                    obtain ⟨g389, hF⟩ := gb_gdE hF
                                                    obtain ⟨x390, h391, cx390, hF⟩ := gb_bdE hF
                                                    refine gb_cV (As := []) (S := []) (v := some (.int x390)) (h1 := h391) (S2 := [.int x390]) cf10 dL_law_954 mtX10_status lL_116 inX10_status seX10_status (gb_kE g389) (fnX10_status_ok _ _ cx390) (by decide) rfl (Nat.le_of_ble_eq_true rfl) (Nat.le_of_ble_eq_true rfl) rfl rfl ?_
                                                    refine gb_aload_n dL_law_957 rfl rfl ?_
                                                    obtain ⟨g392, hF⟩ := gb_gdE hF
                                                    obtain ⟨x393, h394, cx393, hF⟩ := gb_bdE hF
                                                    refine gb_cV (As := []) (S := [.int x390]) (v := some (.int x393)) (h1 := h394) (S2 := [.int x393, .int x390]) cf11 dL_law_958 mtX11_status lL_119 inX11_status seX11_status (gb_kE g392) (fnX11_status_ok _ _ cx393) (by decide) rfl (Nat.le_of_ble_eq_true rfl) (Nat.le_of_ble_eq_true rfl) rfl rfl ?_
                                                    refine gb_icmp_eq (tgt := 966) dL_law_961 (by decide) (fun c395 => ?_) (fun c395 => ?_)
                                                    · replace hF := gb_ifT c395 hF
                                                      exact gb_wk (fbL_law_966_ok hk18 v1 v2 v3 h394 r hF) (And.intro rfl (And.intro rfl (And.intro rfl (And.intro rfl trivial))))
                                                    · replace hF := gb_ifF c395 hF
                                                      refine gb_iconst (v := (0 : Int32)) dL_law_964 (by decide) ?_
                                                      cases hF
                                                      exact gb_zret dL_law_965 rfl (by decide)
                                                  · replace hF := gb_ifF c388 hF
                                                    refine gb_tswOut (tgt := 966) dL_law_33 (gb_swo24 c4 c16 c24 c52 c64 c76 c84 c92 c104 c128 c164 c180 c200 c220 c240 c256 c272 c284 c304 c320 c352 c364 c376 c388) (by decide) ?_
                                                    exact gb_wk (fbL_law_966_ok hk18 v1 v2 v3 h r hF) (And.intro rfl (And.intro rfl (And.intro rfl (And.intro rfl trivial))))
def lpL_law_18 (X : gb_X) (n : Nat) (v1 : Nat) (v2 : Nat) (v3 : Int32) (h : gb_H) : Option (Int32 × gb_H) := gb_lp (σ := Nat × Nat × Int32 × gb_H) (fun k s => fbL_law_18 X (fun v1 v2 v3 h => k (v1, v2, v3, h)) s.1 s.2.1 s.2.2.1 s.2.2.2) n (v1, v2, v3, h)
theorem lpL_law_18_ok {X : gb_X}  (n : Nat) (v1 : Nat) (v2 : Nat) (v3 : Int32) (h : gb_H) (r : Int32 × gb_H) (hF : lpL_law_18 X n v1 v2 v3 h = some r) : gb_Ev X 17 mL_law 18 [some (.retAddr 1000), some (.ref v1), some (.ref v2), some (.int v3)] [] h (gb_wI r) := by
  exact gb_lpE (σ := Nat × Nat × Int32 × gb_H) (P := fun s r => gb_Ev X 17 mL_law 18 [some (.retAddr 1000), some (.ref s.1), some (.ref s.2.1), some (.int s.2.2.1)] [] s.2.2.2 (gb_wI r)) (fun k hk s r hs => fbL_law_18_ok (fun v1 v2 v3 h r e => hk (v1, v2, v3, h) r e) _ _ _ _ r hs) n (v1, v2, v3, h) r hF
def fnL_law (X : gb_X) (h : gb_H) : Option (Int32 × gb_H) :=
  gb_lt (gb_cn h) fun a1 =>
  gb_lt (gb_nw h 10 0 16) fun h2 =>
  gb_bd (fnX10_init a1 h2) fun _ h4 =>
  gb_lt (gb_cn h4) fun a5 =>
  gb_lt (gb_nw h4 11 0 57) fun h6 =>
  gb_bd (fnX11_init a5 h6) fun _ h8 =>
  lpL_law_18 X gb_FU a1 a5 (0 : Int32) h8
theorem fnL_law_ok {X : gb_X}  (h : gb_H) (r : Int32 × gb_H) (hF : fnL_law X h = some r) : gb_Ev X 17 mL_law 0 (gb_L0 [.retAddr 1000]) [] h (gb_wI r) := by
  unfold fnL_law at hF
  refine gb_weak (L' := [some (.retAddr 1000), none, none, none]) (And.intro rfl trivial) ?_
  obtain ⟨a1, ea1, hF⟩ := gb_ltE hF
  obtain ⟨h2, eh2, hF⟩ := gb_ltE hF
  refine gb_new cf10 cL_7 df10 dL_law_0 (gb_hp eh2 (gb_topA ea1 ?_))
  refine gb_dup dL_law_3 rfl ?_
  obtain ⟨x3, h4, cx3, hF⟩ := gb_bdE hF
  refine gb_callI (As := []) (S := [.ref a1]) (h1 := h4) dL_law_4 mtX10_init rfl rfl lL_9 inX10_init (fnX10_init_ok _ _ cx3) (by decide) rfl (Nat.le_of_ble_eq_true rfl) (Nat.le_of_ble_eq_true rfl) rfl ?_
  refine gb_astore_n (L' := [some (.retAddr 1000), some (.ref a1), none, none]) dL_law_7 rfl (by decide) rfl rfl ?_
  obtain ⟨a5, ea5, hF⟩ := gb_ltE hF
  obtain ⟨h6, eh6, hF⟩ := gb_ltE hF
  refine gb_new cf11 cL_10 df11 dL_law_8 (gb_hp eh6 (gb_topA ea5 ?_))
  refine gb_dup dL_law_11 rfl ?_
  obtain ⟨x7, h8, cx7, hF⟩ := gb_bdE hF
  refine gb_callI (As := []) (S := [.ref a5]) (h1 := h8) dL_law_12 mtX11_init rfl rfl lL_12 inX11_init (fnX11_init_ok _ _ cx7) (by decide) rfl (Nat.le_of_ble_eq_true rfl) (Nat.le_of_ble_eq_true rfl) rfl ?_
  refine gb_astore_n (L' := [some (.retAddr 1000), some (.ref a1), some (.ref a5), none]) dL_law_15 rfl (by decide) rfl rfl ?_
  refine gb_iconst (v := (0 : Int32)) dL_law_16 (by decide) ?_
  refine gb_istore_n (L' := [some (.retAddr 1000), some (.ref a1), some (.ref a5), some (.int (0 : Int32))]) dL_law_17 rfl (by decide) rfl rfl ?_
  exact gb_wk (lpL_law_18_ok gb_FU a1 a5 (0 : Int32) h8 r hF) (And.intro rfl (And.intro rfl (And.intro rfl (And.intro rfl trivial))))
