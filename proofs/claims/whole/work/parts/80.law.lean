abbrev mL_law : gb_M := (x, code, 4, some .boolean)
def fbL_law_966 (k18 : Nat → Nat → Int32 → gb_H → Option (Int32 × gb_H)) (v1 : Nat) (v2 : Nat) (v3 : Int32) (h : gb_H) : Option (Int32 × gb_H) :=
  gb_lt (v3 + (8 : Int32)) fun x1 =>
  k18 v1 v2 x1 h
theorem fbL_law_966_ok {k18 : Nat → Nat → Int32 → gb_H → Option (Int32 × gb_H)} (hk18 : ∀ v1 v2 v3 h r, k18 v1 v2 v3 h = some r → gb_Ev 17 mL_law 18 [some (.retAddr 1000), some (.ref v1), some (.ref v2), some (.int v3)] [] h (gb_wI r)) (v1 : Nat) (v2 : Nat) (v3 : Int32) (h : gb_H) (r : Int32 × gb_H) (hF : fbL_law_966 k18 v1 v2 v3 h = some r) : gb_Ev 17 mL_law 966 [some (.retAddr 1000), some (.ref v1), some (.ref v2), some (.int v3)] [] h (gb_wI r) := by
  unfold fbL_law_966 at hF
  obtain ⟨x1, ex1, hF⟩ := gb_ltE hF
  refine gb_iinc (v := x1) (L' := [some (.retAddr 1000), some (.ref v1), some (.ref v2), some (.int x1)]) dL_law_966 rfl (by rw [ex1]; rfl) (by decide) rfl rfl ?_
  refine gb_goto (tgt := 18) dL_law_969 (by decide) ?_
  exact gb_wk (hk18 v1 v2 x1 h r hF) (And.intro rfl (And.intro rfl (And.intro rfl (And.intro rfl trivial))))
def fbL_law_18 (k18 : Nat → Nat → Int32 → gb_H → Option (Int32 × gb_H)) (v1 : Nat) (v2 : Nat) (v3 : Int32) (h : gb_H) : Option (Int32 × gb_H) :=
  gb_gd (gb_k h gb_SC 24) <|
  if ((Int32.ofNat (gb_kd h gb_SC).2) - (8 : Int32)) < v3 then
    some ((1 : Int32), h)
  else
    gb_gd (gb_k h gb_SC 24) <|
    gb_gd (gb_in h gb_SC v3) <|
    gb_lt ((gb_I h gb_SC v3.toNatClampNeg) &&& (31 : Int32)) fun x5 =>
    if x5 = 0 then
      gb_lt (v3 + (1 : Int32)) fun x7 =>
      gb_gd (gb_k h gb_SC 24) <|
      gb_gd (gb_in h gb_SC x7) <|
      gb_gd (gb_k h v1 10) <|
      gb_bd (fnX10_grain v1 (gb_I h gb_SC x7.toNatClampNeg) h) fun x11 h12 =>
      gb_lt (v3 + (1 : Int32)) fun x13 =>
      gb_gd (gb_k h12 gb_SC 24) <|
      gb_gd (gb_in h12 gb_SC x13) <|
      gb_gd (gb_k h12 v2 11) <|
      gb_bd (fnX11_grain v2 (gb_I h12 gb_SC x13.toNatClampNeg) h12) fun x17 h18 =>
      if x11 = x17 then
        fbL_law_966 k18 v1 v2 v3 h18
      else
        some ((0 : Int32), h18)
    else
      if x5 = 1 then
        gb_gd (gb_k h v1 10) <|
        gb_bd (fnX10_clear v1 h) fun x22 h23 =>
        gb_gd (gb_k h23 v2 11) <|
        gb_bd (fnX11_clear v2 h23) fun x25 h26 =>
        if x22 = x25 then
          fbL_law_966 k18 v1 v2 v3 h26
        else
          some ((0 : Int32), h26)
      else
        if x5 = 2 then
          gb_lt (v3 + (1 : Int32)) fun x29 =>
          gb_gd (gb_k h gb_SC 24) <|
          gb_gd (gb_in h gb_SC x29) <|
          gb_lt (v3 + (2 : Int32)) fun x32 =>
          gb_gd (gb_k h gb_SC 24) <|
          gb_gd (gb_in h gb_SC x32) <|
          gb_lt (v3 + (3 : Int32)) fun x35 =>
          gb_gd (gb_k h gb_SC 24) <|
          gb_gd (gb_in h gb_SC x35) <|
          gb_lt (v3 + (4 : Int32)) fun x38 =>
          gb_gd (gb_k h gb_SC 24) <|
          gb_gd (gb_in h gb_SC x38) <|
          gb_lt (v3 + (5 : Int32)) fun x41 =>
          gb_gd (gb_k h gb_SC 24) <|
          gb_gd (gb_in h gb_SC x41) <|
          gb_gd (gb_k h v1 10) <|
          gb_bd (fnX10_feed v1 (gb_I h gb_SC x29.toNatClampNeg) (gb_I h gb_SC x32.toNatClampNeg) (gb_I h gb_SC x35.toNatClampNeg) (gb_I h gb_SC x38.toNatClampNeg) (gb_I h gb_SC x41.toNatClampNeg) h) fun x45 h46 =>
          gb_lt (v3 + (1 : Int32)) fun x47 =>
          gb_gd (gb_k h46 gb_SC 24) <|
          gb_gd (gb_in h46 gb_SC x47) <|
          gb_lt (v3 + (2 : Int32)) fun x50 =>
          gb_gd (gb_k h46 gb_SC 24) <|
          gb_gd (gb_in h46 gb_SC x50) <|
          gb_lt (v3 + (3 : Int32)) fun x53 =>
          gb_gd (gb_k h46 gb_SC 24) <|
          gb_gd (gb_in h46 gb_SC x53) <|
          gb_lt (v3 + (4 : Int32)) fun x56 =>
          gb_gd (gb_k h46 gb_SC 24) <|
          gb_gd (gb_in h46 gb_SC x56) <|
          gb_lt (v3 + (5 : Int32)) fun x59 =>
          gb_gd (gb_k h46 gb_SC 24) <|
          gb_gd (gb_in h46 gb_SC x59) <|
          gb_gd (gb_k h46 v2 11) <|
          gb_bd (fnX11_feed v2 (gb_I h46 gb_SC x47.toNatClampNeg) (gb_I h46 gb_SC x50.toNatClampNeg) (gb_I h46 gb_SC x53.toNatClampNeg) (gb_I h46 gb_SC x56.toNatClampNeg) (gb_I h46 gb_SC x59.toNatClampNeg) h46) fun x63 h64 =>
          if x45 = x63 then
            fbL_law_966 k18 v1 v2 v3 h64
          else
            some ((0 : Int32), h64)
        else
          if x5 = 3 then
            gb_lt (v3 + (1 : Int32)) fun x67 =>
            gb_gd (gb_k h gb_SC 24) <|
            gb_gd (gb_in h gb_SC x67) <|
            gb_gd (gb_k h v1 10) <|
            gb_bd (fnX10_end v1 (gb_I h gb_SC x67.toNatClampNeg) h) fun x71 h72 =>
            gb_lt (v3 + (1 : Int32)) fun x73 =>
            gb_gd (gb_k h72 gb_SC 24) <|
            gb_gd (gb_in h72 gb_SC x73) <|
            gb_gd (gb_k h72 v2 11) <|
            gb_bd (fnX11_end v2 (gb_I h72 gb_SC x73.toNatClampNeg) h72) fun x77 h78 =>
            if x71 = x77 then
              fbL_law_966 k18 v1 v2 v3 h78
            else
              some ((0 : Int32), h78)
          else
            if x5 = 4 then
              gb_lt (v3 + (1 : Int32)) fun x81 =>
              gb_gd (gb_k h gb_SC 24) <|
              gb_gd (gb_in h gb_SC x81) <|
              gb_gd (gb_k h v1 10) <|
              gb_bd (fnX10_bench v1 (gb_I h gb_SC x81.toNatClampNeg) h) fun x85 h86 =>
              gb_lt (v3 + (1 : Int32)) fun x87 =>
              gb_gd (gb_k h86 gb_SC 24) <|
              gb_gd (gb_in h86 gb_SC x87) <|
              gb_gd (gb_k h86 v2 11) <|
              gb_bd (fnX11_bench v2 (gb_I h86 gb_SC x87.toNatClampNeg) h86) fun x91 h92 =>
              if x85 = x91 then
                fbL_law_966 k18 v1 v2 v3 h92
              else
                some ((0 : Int32), h92)
            else
              if x5 = 5 then
                gb_gd (gb_k h v1 10) <|
                gb_bd (fnX10_shelf v1 h) fun x96 h97 =>
                gb_gd (gb_k h97 v2 11) <|
                gb_bd (fnX11_shelf v2 h97) fun x99 h100 =>
                if x96 = x99 then
                  fbL_law_966 k18 v1 v2 v3 h100
                else
                  some ((0 : Int32), h100)
              else
                if x5 = 6 then
                  gb_gd (gb_k h v1 10) <|
                  gb_bd (fnX10_fault v1 h) fun x104 h105 =>
                  gb_gd (gb_k h105 v2 11) <|
                  gb_bd (fnX11_fault v2 h105) fun x107 h108 =>
                  if x104 = x107 then
                    fbL_law_966 k18 v1 v2 v3 h108
                  else
                    some ((0 : Int32), h108)
                else
                  if x5 = 7 then
                    gb_lt (v3 + (1 : Int32)) fun x111 =>
                    gb_gd (gb_k h gb_SC 24) <|
                    gb_gd (gb_in h gb_SC x111) <|
                    gb_gd (gb_k h v1 10) <|
                    gb_bd (fnX10_deep v1 (gb_I h gb_SC x111.toNatClampNeg) h) fun x115 h116 =>
                    gb_lt (v3 + (1 : Int32)) fun x117 =>
                    gb_gd (gb_k h116 gb_SC 24) <|
                    gb_gd (gb_in h116 gb_SC x117) <|
                    gb_gd (gb_k h116 v2 11) <|
                    gb_bd (fnX11_deep v2 (gb_I h116 gb_SC x117.toNatClampNeg) h116) fun x121 h122 =>
                    if x115 = x121 then
                      fbL_law_966 k18 v1 v2 v3 h122
                    else
                      some ((0 : Int32), h122)
                  else
                    if x5 = 8 then
                      gb_lt (v3 + (1 : Int32)) fun x125 =>
                      gb_gd (gb_k h gb_SC 24) <|
                      gb_gd (gb_in h gb_SC x125) <|
                      gb_lt (v3 + (2 : Int32)) fun x128 =>
                      gb_gd (gb_k h gb_SC 24) <|
                      gb_gd (gb_in h gb_SC x128) <|
                      gb_lt (v3 + (3 : Int32)) fun x131 =>
                      gb_gd (gb_k h gb_SC 24) <|
                      gb_gd (gb_in h gb_SC x131) <|
                      gb_lt (v3 + (4 : Int32)) fun x134 =>
                      gb_gd (gb_k h gb_SC 24) <|
                      gb_gd (gb_in h gb_SC x134) <|
                      gb_gd (gb_k h v1 10) <|
                      gb_bd (fnX10_way v1 (gb_I h gb_SC x125.toNatClampNeg) (gb_I h gb_SC x128.toNatClampNeg) (gb_I h gb_SC x131.toNatClampNeg) (gb_I h gb_SC x134.toNatClampNeg) h) fun x138 h139 =>
                      gb_lt (v3 + (1 : Int32)) fun x140 =>
                      gb_gd (gb_k h139 gb_SC 24) <|
                      gb_gd (gb_in h139 gb_SC x140) <|
                      gb_lt (v3 + (2 : Int32)) fun x143 =>
                      gb_gd (gb_k h139 gb_SC 24) <|
                      gb_gd (gb_in h139 gb_SC x143) <|
                      gb_lt (v3 + (3 : Int32)) fun x146 =>
                      gb_gd (gb_k h139 gb_SC 24) <|
                      gb_gd (gb_in h139 gb_SC x146) <|
                      gb_lt (v3 + (4 : Int32)) fun x149 =>
                      gb_gd (gb_k h139 gb_SC 24) <|
                      gb_gd (gb_in h139 gb_SC x149) <|
                      gb_gd (gb_k h139 v2 11) <|
                      gb_bd (fnX11_way v2 (gb_I h139 gb_SC x140.toNatClampNeg) (gb_I h139 gb_SC x143.toNatClampNeg) (gb_I h139 gb_SC x146.toNatClampNeg) (gb_I h139 gb_SC x149.toNatClampNeg) h139) fun x153 h154 =>
                      if x138 = x153 then
                        fbL_law_966 k18 v1 v2 v3 h154
                      else
                        some ((0 : Int32), h154)
                    else
                      if x5 = 9 then
                        gb_lt (v3 + (1 : Int32)) fun x157 =>
                        gb_gd (gb_k h gb_SC 24) <|
                        gb_gd (gb_in h gb_SC x157) <|
                        gb_lt (v3 + (2 : Int32)) fun x160 =>
                        gb_gd (gb_k h gb_SC 24) <|
                        gb_gd (gb_in h gb_SC x160) <|
                        gb_lt (v3 + (3 : Int32)) fun x163 =>
                        gb_gd (gb_k h gb_SC 24) <|
                        gb_gd (gb_in h gb_SC x163) <|
                        gb_lt (v3 + (4 : Int32)) fun x166 =>
                        gb_gd (gb_k h gb_SC 24) <|
                        gb_gd (gb_in h gb_SC x166) <|
                        gb_lt (v3 + (5 : Int32)) fun x169 =>
                        gb_gd (gb_k h gb_SC 24) <|
                        gb_gd (gb_in h gb_SC x169) <|
                        gb_lt (v3 + (6 : Int32)) fun x172 =>
                        gb_gd (gb_k h gb_SC 24) <|
                        gb_gd (gb_in h gb_SC x172) <|
                        gb_lt (v3 + (7 : Int32)) fun x175 =>
                        gb_gd (gb_k h gb_SC 24) <|
                        gb_gd (gb_in h gb_SC x175) <|
                        gb_gd (gb_k h v1 10) <|
                        gb_bd (fnX10_odds v1 (gb_I h gb_SC x157.toNatClampNeg) (gb_I h gb_SC x160.toNatClampNeg) (gb_I h gb_SC x163.toNatClampNeg) (gb_I h gb_SC x166.toNatClampNeg) (gb_I h gb_SC x169.toNatClampNeg) (gb_I h gb_SC x172.toNatClampNeg) (gb_I h gb_SC x175.toNatClampNeg) h) fun x179 h180 =>
                        gb_lt (v3 + (1 : Int32)) fun x181 =>
                        gb_gd (gb_k h180 gb_SC 24) <|
                        gb_gd (gb_in h180 gb_SC x181) <|
                        gb_lt (v3 + (2 : Int32)) fun x184 =>
                        gb_gd (gb_k h180 gb_SC 24) <|
                        gb_gd (gb_in h180 gb_SC x184) <|
                        gb_lt (v3 + (3 : Int32)) fun x187 =>
                        gb_gd (gb_k h180 gb_SC 24) <|
                        gb_gd (gb_in h180 gb_SC x187) <|
                        gb_lt (v3 + (4 : Int32)) fun x190 =>
                        gb_gd (gb_k h180 gb_SC 24) <|
                        gb_gd (gb_in h180 gb_SC x190) <|
                        gb_lt (v3 + (5 : Int32)) fun x193 =>
                        gb_gd (gb_k h180 gb_SC 24) <|
                        gb_gd (gb_in h180 gb_SC x193) <|
                        gb_lt (v3 + (6 : Int32)) fun x196 =>
                        gb_gd (gb_k h180 gb_SC 24) <|
                        gb_gd (gb_in h180 gb_SC x196) <|
                        gb_lt (v3 + (7 : Int32)) fun x199 =>
                        gb_gd (gb_k h180 gb_SC 24) <|
                        gb_gd (gb_in h180 gb_SC x199) <|
                        gb_gd (gb_k h180 v2 11) <|
                        gb_bd (fnX11_odds v2 (gb_I h180 gb_SC x181.toNatClampNeg) (gb_I h180 gb_SC x184.toNatClampNeg) (gb_I h180 gb_SC x187.toNatClampNeg) (gb_I h180 gb_SC x190.toNatClampNeg) (gb_I h180 gb_SC x193.toNatClampNeg) (gb_I h180 gb_SC x196.toNatClampNeg) (gb_I h180 gb_SC x199.toNatClampNeg) h180) fun x203 h204 =>
                        if x179 = x203 then
                          fbL_law_966 k18 v1 v2 v3 h204
                        else
                          some ((0 : Int32), h204)
                      else
                        if x5 = 10 then
                          gb_lt (v3 + (1 : Int32)) fun x207 =>
                          gb_gd (gb_k h gb_SC 24) <|
                          gb_gd (gb_in h gb_SC x207) <|
                          gb_lt (v3 + (2 : Int32)) fun x210 =>
                          gb_gd (gb_k h gb_SC 24) <|
                          gb_gd (gb_in h gb_SC x210) <|
                          gb_gd (gb_k h v1 10) <|
                          gb_bd (fnX10_dark v1 (gb_I h gb_SC x207.toNatClampNeg) (gb_I h gb_SC x210.toNatClampNeg) h) fun x214 h215 =>
                          gb_lt (v3 + (1 : Int32)) fun x216 =>
                          gb_gd (gb_k h215 gb_SC 24) <|
                          gb_gd (gb_in h215 gb_SC x216) <|
                          gb_lt (v3 + (2 : Int32)) fun x219 =>
                          gb_gd (gb_k h215 gb_SC 24) <|
                          gb_gd (gb_in h215 gb_SC x219) <|
                          gb_gd (gb_k h215 v2 11) <|
                          gb_bd (fnX11_dark v2 (gb_I h215 gb_SC x216.toNatClampNeg) (gb_I h215 gb_SC x219.toNatClampNeg) h215) fun x223 h224 =>
                          if x214 = x223 then
                            fbL_law_966 k18 v1 v2 v3 h224
                          else
                            some ((0 : Int32), h224)
                        else
                          if x5 = 11 then
                            gb_lt (v3 + (1 : Int32)) fun x227 =>
                            gb_gd (gb_k h gb_SC 24) <|
                            gb_gd (gb_in h gb_SC x227) <|
                            gb_lt (v3 + (2 : Int32)) fun x230 =>
                            gb_gd (gb_k h gb_SC 24) <|
                            gb_gd (gb_in h gb_SC x230) <|
                            gb_lt (v3 + (3 : Int32)) fun x233 =>
                            gb_gd (gb_k h gb_SC 24) <|
                            gb_gd (gb_in h gb_SC x233) <|
                            gb_gd (gb_k h v1 10) <|
                            gb_bd (fnX10_clicks v1 (gb_I h gb_SC x227.toNatClampNeg) (gb_I h gb_SC x230.toNatClampNeg) (gb_I h gb_SC x233.toNatClampNeg) h) fun x237 h238 =>
                            gb_lt (v3 + (1 : Int32)) fun x239 =>
                            gb_gd (gb_k h238 gb_SC 24) <|
                            gb_gd (gb_in h238 gb_SC x239) <|
                            gb_lt (v3 + (2 : Int32)) fun x242 =>
                            gb_gd (gb_k h238 gb_SC 24) <|
                            gb_gd (gb_in h238 gb_SC x242) <|
                            gb_lt (v3 + (3 : Int32)) fun x245 =>
                            gb_gd (gb_k h238 gb_SC 24) <|
                            gb_gd (gb_in h238 gb_SC x245) <|
                            gb_gd (gb_k h238 v2 11) <|
                            gb_bd (fnX11_clicks v2 (gb_I h238 gb_SC x239.toNatClampNeg) (gb_I h238 gb_SC x242.toNatClampNeg) (gb_I h238 gb_SC x245.toNatClampNeg) h238) fun x249 h250 =>
                            if x237 = x249 then
                              fbL_law_966 k18 v1 v2 v3 h250
                            else
                              some ((0 : Int32), h250)
                          else
                            if x5 = 12 then
                              gb_lt (v3 + (1 : Int32)) fun x253 =>
                              gb_gd (gb_k h gb_SC 24) <|
                              gb_gd (gb_in h gb_SC x253) <|
                              gb_lt (v3 + (2 : Int32)) fun x256 =>
                              gb_gd (gb_k h gb_SC 24) <|
                              gb_gd (gb_in h gb_SC x256) <|
                              gb_lt (v3 + (3 : Int32)) fun x259 =>
                              gb_gd (gb_k h gb_SC 24) <|
                              gb_gd (gb_in h gb_SC x259) <|
                              gb_gd (gb_k h v1 10) <|
                              gb_bd (fnX10_run v1 (gb_I h gb_SC x253.toNatClampNeg) (gb_I h gb_SC x256.toNatClampNeg) (gb_I h gb_SC x259.toNatClampNeg) h) fun x263 h264 =>
                              gb_lt (v3 + (1 : Int32)) fun x265 =>
                              gb_gd (gb_k h264 gb_SC 24) <|
                              gb_gd (gb_in h264 gb_SC x265) <|
                              gb_lt (v3 + (2 : Int32)) fun x268 =>
                              gb_gd (gb_k h264 gb_SC 24) <|
                              gb_gd (gb_in h264 gb_SC x268) <|
                              gb_lt (v3 + (3 : Int32)) fun x271 =>
                              gb_gd (gb_k h264 gb_SC 24) <|
                              gb_gd (gb_in h264 gb_SC x271) <|
                              gb_gd (gb_k h264 v2 11) <|
                              gb_bd (fnX11_run v2 (gb_I h264 gb_SC x265.toNatClampNeg) (gb_I h264 gb_SC x268.toNatClampNeg) (gb_I h264 gb_SC x271.toNatClampNeg) h264) fun x275 h276 =>
                              if x263 = x275 then
                                fbL_law_966 k18 v1 v2 v3 h276
                              else
                                some ((0 : Int32), h276)
                            else
                              if x5 = 13 then
                                gb_lt (v3 + (1 : Int32)) fun x279 =>
                                gb_gd (gb_k h gb_SC 24) <|
                                gb_gd (gb_in h gb_SC x279) <|
                                gb_lt (v3 + (2 : Int32)) fun x282 =>
                                gb_gd (gb_k h gb_SC 24) <|
                                gb_gd (gb_in h gb_SC x282) <|
                                gb_lt (v3 + (3 : Int32)) fun x285 =>
                                gb_gd (gb_k h gb_SC 24) <|
                                gb_gd (gb_in h gb_SC x285) <|
                                gb_gd (gb_k h v1 10) <|
                                gb_bd (fnX10_counted v1 (gb_I h gb_SC x279.toNatClampNeg) (gb_I h gb_SC x282.toNatClampNeg) (gb_I h gb_SC x285.toNatClampNeg) h) fun x289 h290 =>
                                gb_lt (v3 + (1 : Int32)) fun x291 =>
                                gb_gd (gb_k h290 gb_SC 24) <|
                                gb_gd (gb_in h290 gb_SC x291) <|
                                gb_lt (v3 + (2 : Int32)) fun x294 =>
                                gb_gd (gb_k h290 gb_SC 24) <|
                                gb_gd (gb_in h290 gb_SC x294) <|
                                gb_lt (v3 + (3 : Int32)) fun x297 =>
                                gb_gd (gb_k h290 gb_SC 24) <|
                                gb_gd (gb_in h290 gb_SC x297) <|
                                gb_gd (gb_k h290 v2 11) <|
                                gb_bd (fnX11_counted v2 (gb_I h290 gb_SC x291.toNatClampNeg) (gb_I h290 gb_SC x294.toNatClampNeg) (gb_I h290 gb_SC x297.toNatClampNeg) h290) fun x301 h302 =>
                                if x289 = x301 then
                                  fbL_law_966 k18 v1 v2 v3 h302
                                else
                                  some ((0 : Int32), h302)
                              else
                                if x5 = 14 then
                                  gb_lt (v3 + (1 : Int32)) fun x305 =>
                                  gb_gd (gb_k h gb_SC 24) <|
                                  gb_gd (gb_in h gb_SC x305) <|
                                  gb_lt (v3 + (2 : Int32)) fun x308 =>
                                  gb_gd (gb_k h gb_SC 24) <|
                                  gb_gd (gb_in h gb_SC x308) <|
                                  gb_gd (gb_k h v1 10) <|
                                  gb_bd (fnX10_wrong v1 (gb_I h gb_SC x305.toNatClampNeg) (gb_I h gb_SC x308.toNatClampNeg) h) fun x312 h313 =>
                                  gb_lt (v3 + (1 : Int32)) fun x314 =>
                                  gb_gd (gb_k h313 gb_SC 24) <|
                                  gb_gd (gb_in h313 gb_SC x314) <|
                                  gb_lt (v3 + (2 : Int32)) fun x317 =>
                                  gb_gd (gb_k h313 gb_SC 24) <|
                                  gb_gd (gb_in h313 gb_SC x317) <|
                                  gb_gd (gb_k h313 v2 11) <|
                                  gb_bd (fnX11_wrong v2 (gb_I h313 gb_SC x314.toNatClampNeg) (gb_I h313 gb_SC x317.toNatClampNeg) h313) fun x321 h322 =>
                                  if x312 = x321 then
                                    fbL_law_966 k18 v1 v2 v3 h322
                                  else
                                    some ((0 : Int32), h322)
                                else
                                  if x5 = 15 then
                                    gb_lt (v3 + (1 : Int32)) fun x325 =>
                                    gb_gd (gb_k h gb_SC 24) <|
                                    gb_gd (gb_in h gb_SC x325) <|
                                    gb_lt (v3 + (2 : Int32)) fun x328 =>
                                    gb_gd (gb_k h gb_SC 24) <|
                                    gb_gd (gb_in h gb_SC x328) <|
                                    gb_gd (gb_k h v1 10) <|
                                    gb_bd (fnX10_misfit v1 (gb_I h gb_SC x325.toNatClampNeg) (gb_I h gb_SC x328.toNatClampNeg) h) fun x332 h333 =>
                                    gb_lt (v3 + (1 : Int32)) fun x334 =>
                                    gb_gd (gb_k h333 gb_SC 24) <|
                                    gb_gd (gb_in h333 gb_SC x334) <|
                                    gb_lt (v3 + (2 : Int32)) fun x337 =>
                                    gb_gd (gb_k h333 gb_SC 24) <|
                                    gb_gd (gb_in h333 gb_SC x337) <|
                                    gb_gd (gb_k h333 v2 11) <|
                                    gb_bd (fnX11_misfit v2 (gb_I h333 gb_SC x334.toNatClampNeg) (gb_I h333 gb_SC x337.toNatClampNeg) h333) fun x341 h342 =>
                                    if x332 = x341 then
                                      fbL_law_966 k18 v1 v2 v3 h342
                                    else
                                      some ((0 : Int32), h342)
                                  else
                                    if x5 = 16 then
                                      gb_lt (v3 + (1 : Int32)) fun x345 =>
                                      gb_gd (gb_k h gb_SC 24) <|
                                      gb_gd (gb_in h gb_SC x345) <|
                                      gb_gd (gb_k h v1 10) <|
                                      gb_bd (fnX10_fits v1 (gb_I h gb_SC x345.toNatClampNeg) h) fun x349 h350 =>
                                      gb_lt (v3 + (1 : Int32)) fun x351 =>
                                      gb_gd (gb_k h350 gb_SC 24) <|
                                      gb_gd (gb_in h350 gb_SC x351) <|
                                      gb_gd (gb_k h350 v2 11) <|
                                      gb_bd (fnX11_fits v2 (gb_I h350 gb_SC x351.toNatClampNeg) h350) fun x355 h356 =>
                                      if x349 = x355 then
                                        fbL_law_966 k18 v1 v2 v3 h356
                                      else
                                        some ((0 : Int32), h356)
                                    else
                                      if x5 = 17 then
                                        gb_lt (v3 + (1 : Int32)) fun x359 =>
                                        gb_gd (gb_k h gb_SC 24) <|
                                        gb_gd (gb_in h gb_SC x359) <|
                                        gb_lt (v3 + (2 : Int32)) fun x362 =>
                                        gb_gd (gb_k h gb_SC 24) <|
                                        gb_gd (gb_in h gb_SC x362) <|
                                        gb_lt (v3 + (3 : Int32)) fun x365 =>
                                        gb_gd (gb_k h gb_SC 24) <|
                                        gb_gd (gb_in h gb_SC x365) <|
                                        gb_gd (gb_k h v1 10) <|
                                        gb_bd (fnX10_pairs v1 (gb_I h gb_SC x359.toNatClampNeg) (gb_I h gb_SC x362.toNatClampNeg) (gb_I h gb_SC x365.toNatClampNeg) h) fun x369 h370 =>
                                        gb_lt (v3 + (1 : Int32)) fun x371 =>
                                        gb_gd (gb_k h370 gb_SC 24) <|
                                        gb_gd (gb_in h370 gb_SC x371) <|
                                        gb_lt (v3 + (2 : Int32)) fun x374 =>
                                        gb_gd (gb_k h370 gb_SC 24) <|
                                        gb_gd (gb_in h370 gb_SC x374) <|
                                        gb_lt (v3 + (3 : Int32)) fun x377 =>
                                        gb_gd (gb_k h370 gb_SC 24) <|
                                        gb_gd (gb_in h370 gb_SC x377) <|
                                        gb_gd (gb_k h370 v2 11) <|
                                        gb_bd (fnX11_pairs v2 (gb_I h370 gb_SC x371.toNatClampNeg) (gb_I h370 gb_SC x374.toNatClampNeg) (gb_I h370 gb_SC x377.toNatClampNeg) h370) fun x381 h382 =>
                                        if x369 = x381 then
                                          fbL_law_966 k18 v1 v2 v3 h382
                                        else
                                          some ((0 : Int32), h382)
                                      else
                                        if x5 = 18 then
                                          gb_lt (v3 + (1 : Int32)) fun x385 =>
                                          gb_gd (gb_k h gb_SC 24) <|
                                          gb_gd (gb_in h gb_SC x385) <|
                                          gb_lt (v3 + (2 : Int32)) fun x388 =>
                                          gb_gd (gb_k h gb_SC 24) <|
                                          gb_gd (gb_in h gb_SC x388) <|
                                          gb_gd (gb_k h v1 10) <|
                                          gb_bd (fnX10_notes v1 (gb_I h gb_SC x385.toNatClampNeg) (gb_I h gb_SC x388.toNatClampNeg) h) fun x392 h393 =>
                                          gb_lt (v3 + (1 : Int32)) fun x394 =>
                                          gb_gd (gb_k h393 gb_SC 24) <|
                                          gb_gd (gb_in h393 gb_SC x394) <|
                                          gb_lt (v3 + (2 : Int32)) fun x397 =>
                                          gb_gd (gb_k h393 gb_SC 24) <|
                                          gb_gd (gb_in h393 gb_SC x397) <|
                                          gb_gd (gb_k h393 v2 11) <|
                                          gb_bd (fnX11_notes v2 (gb_I h393 gb_SC x394.toNatClampNeg) (gb_I h393 gb_SC x397.toNatClampNeg) h393) fun x401 h402 =>
                                          if x392 = x401 then
                                            fbL_law_966 k18 v1 v2 v3 h402
                                          else
                                            some ((0 : Int32), h402)
                                        else
                                          if x5 = 19 then
                                            gb_lt (v3 + (1 : Int32)) fun x405 =>
                                            gb_gd (gb_k h gb_SC 24) <|
                                            gb_gd (gb_in h gb_SC x405) <|
                                            gb_lt (v3 + (2 : Int32)) fun x408 =>
                                            gb_gd (gb_k h gb_SC 24) <|
                                            gb_gd (gb_in h gb_SC x408) <|
                                            gb_lt (v3 + (3 : Int32)) fun x411 =>
                                            gb_gd (gb_k h gb_SC 24) <|
                                            gb_gd (gb_in h gb_SC x411) <|
                                            gb_lt (v3 + (4 : Int32)) fun x414 =>
                                            gb_gd (gb_k h gb_SC 24) <|
                                            gb_gd (gb_in h gb_SC x414) <|
                                            gb_lt (v3 + (5 : Int32)) fun x417 =>
                                            gb_gd (gb_k h gb_SC 24) <|
                                            gb_gd (gb_in h gb_SC x417) <|
                                            gb_lt (v3 + (6 : Int32)) fun x420 =>
                                            gb_gd (gb_k h gb_SC 24) <|
                                            gb_gd (gb_in h gb_SC x420) <|
                                            gb_gd (gb_k h v1 10) <|
                                            gb_bd (fnX10_plan v1 (gb_I h gb_SC x405.toNatClampNeg) (gb_I h gb_SC x408.toNatClampNeg) (gb_I h gb_SC x411.toNatClampNeg) (gb_I h gb_SC x414.toNatClampNeg) (gb_I h gb_SC x417.toNatClampNeg) (gb_I h gb_SC x420.toNatClampNeg) h) fun x424 h425 =>
                                            gb_lt (v3 + (1 : Int32)) fun x426 =>
                                            gb_gd (gb_k h425 gb_SC 24) <|
                                            gb_gd (gb_in h425 gb_SC x426) <|
                                            gb_lt (v3 + (2 : Int32)) fun x429 =>
                                            gb_gd (gb_k h425 gb_SC 24) <|
                                            gb_gd (gb_in h425 gb_SC x429) <|
                                            gb_lt (v3 + (3 : Int32)) fun x432 =>
                                            gb_gd (gb_k h425 gb_SC 24) <|
                                            gb_gd (gb_in h425 gb_SC x432) <|
                                            gb_lt (v3 + (4 : Int32)) fun x435 =>
                                            gb_gd (gb_k h425 gb_SC 24) <|
                                            gb_gd (gb_in h425 gb_SC x435) <|
                                            gb_lt (v3 + (5 : Int32)) fun x438 =>
                                            gb_gd (gb_k h425 gb_SC 24) <|
                                            gb_gd (gb_in h425 gb_SC x438) <|
                                            gb_lt (v3 + (6 : Int32)) fun x441 =>
                                            gb_gd (gb_k h425 gb_SC 24) <|
                                            gb_gd (gb_in h425 gb_SC x441) <|
                                            gb_gd (gb_k h425 v2 11) <|
                                            gb_bd (fnX11_plan v2 (gb_I h425 gb_SC x426.toNatClampNeg) (gb_I h425 gb_SC x429.toNatClampNeg) (gb_I h425 gb_SC x432.toNatClampNeg) (gb_I h425 gb_SC x435.toNatClampNeg) (gb_I h425 gb_SC x438.toNatClampNeg) (gb_I h425 gb_SC x441.toNatClampNeg) h425) fun x445 h446 =>
                                            if x424 = x445 then
                                              fbL_law_966 k18 v1 v2 v3 h446
                                            else
                                              some ((0 : Int32), h446)
                                          else
                                            if x5 = 20 then
                                              gb_lt (v3 + (1 : Int32)) fun x449 =>
                                              gb_gd (gb_k h gb_SC 24) <|
                                              gb_gd (gb_in h gb_SC x449) <|
                                              gb_gd (gb_k h v1 10) <|
                                              gb_bd (fnX10_planned v1 (gb_I h gb_SC x449.toNatClampNeg) h) fun x453 h454 =>
                                              gb_lt (v3 + (1 : Int32)) fun x455 =>
                                              gb_gd (gb_k h454 gb_SC 24) <|
                                              gb_gd (gb_in h454 gb_SC x455) <|
                                              gb_gd (gb_k h454 v2 11) <|
                                              gb_bd (fnX11_planned v2 (gb_I h454 gb_SC x455.toNatClampNeg) h454) fun x459 h460 =>
                                              if x453 = x459 then
                                                fbL_law_966 k18 v1 v2 v3 h460
                                              else
                                                some ((0 : Int32), h460)
                                            else
                                              if x5 = 21 then
                                                gb_lt (v3 + (1 : Int32)) fun x463 =>
                                                gb_gd (gb_k h gb_SC 24) <|
                                                gb_gd (gb_in h gb_SC x463) <|
                                                gb_gd (gb_k h v1 10) <|
                                                gb_bd (fnX10_build v1 (gb_I h gb_SC x463.toNatClampNeg) h) fun x467 h468 =>
                                                gb_lt (v3 + (1 : Int32)) fun x469 =>
                                                gb_gd (gb_k h468 gb_SC 24) <|
                                                gb_gd (gb_in h468 gb_SC x469) <|
                                                gb_gd (gb_k h468 v2 11) <|
                                                gb_bd (fnX11_build v2 (gb_I h468 gb_SC x469.toNatClampNeg) h468) fun x473 h474 =>
                                                if x467 = x473 then
                                                  fbL_law_966 k18 v1 v2 v3 h474
                                                else
                                                  some ((0 : Int32), h474)
                                              else
                                                if x5 = 22 then
                                                  gb_lt (v3 + (1 : Int32)) fun x477 =>
                                                  gb_gd (gb_k h gb_SC 24) <|
                                                  gb_gd (gb_in h gb_SC x477) <|
                                                  gb_gd (gb_k h v1 10) <|
                                                  gb_bd (fnX10_count v1 (gb_I h gb_SC x477.toNatClampNeg) h) fun x481 h482 =>
                                                  gb_lt (v3 + (1 : Int32)) fun x483 =>
                                                  gb_gd (gb_k h482 gb_SC 24) <|
                                                  gb_gd (gb_in h482 gb_SC x483) <|
                                                  gb_gd (gb_k h482 v2 11) <|
                                                  gb_bd (fnX11_count v2 (gb_I h482 gb_SC x483.toNatClampNeg) h482) fun x487 h488 =>
                                                  if x481 = x487 then
                                                    fbL_law_966 k18 v1 v2 v3 h488
                                                  else
                                                    some ((0 : Int32), h488)
                                                else
                                                  if x5 = 23 then
                                                    gb_gd (gb_k h v1 10) <|
                                                    gb_bd (fnX10_status v1 h) fun x492 h493 =>
                                                    gb_gd (gb_k h493 v2 11) <|
                                                    gb_bd (fnX11_status v2 h493) fun x495 h496 =>
                                                    if x492 = x495 then
                                                      fbL_law_966 k18 v1 v2 v3 h496
                                                    else
                                                      some ((0 : Int32), h496)
                                                  else
                                                    fbL_law_966 k18 v1 v2 v3 h
theorem fbL_law_18_ok {k18 : Nat → Nat → Int32 → gb_H → Option (Int32 × gb_H)} (hk18 : ∀ v1 v2 v3 h r, k18 v1 v2 v3 h = some r → gb_Ev 17 mL_law 18 [some (.retAddr 1000), some (.ref v1), some (.ref v2), some (.int v3)] [] h (gb_wI r)) (v1 : Nat) (v2 : Nat) (v3 : Int32) (h : gb_H) (r : Int32 × gb_H) (hF : fbL_law_18 k18 v1 v2 v3 h = some r) : gb_Ev 17 mL_law 18 [some (.retAddr 1000), some (.ref v1), some (.ref v2), some (.int v3)] [] h (gb_wI r) := by
  unfold fbL_law_18 at hF
  refine gb_iload_n dL_law_18 rfl rfl ?_
  refine gb_aload_nS dL_law_19 rfl rfl ?_
  obtain ⟨g1, hF⟩ := gb_gdE hF
  refine gb_slen dL_law_20 (gb_kE g1) ?_
  refine gb_bipush (v := (8 : Int32)) dL_law_21 (by decide) ?_
  refine gb_isub dL_law_23 ?_
  refine gb_icmp_gt (tgt := 972) dL_law_24 (by decide) (fun c2 => ?_) (fun c2 => ?_)
  · replace hF := gb_ifT c2 hF
    refine gb_iconst (v := (1 : Int32)) dL_law_972 (by decide) ?_
    cases hF
    exact gb_zret dL_law_973 rfl (by decide)
  · replace hF := gb_ifF c2 hF
    refine gb_aload_nS dL_law_27 rfl rfl ?_
    refine gb_iload_n dL_law_28 rfl rfl ?_
    obtain ⟨g3, hF⟩ := gb_gdE hF
    obtain ⟨g4, hF⟩ := gb_gdE hF
    refine gb_sld dL_law_29 (gb_kE g3) (gb_inE g4) ?_
    refine gb_bipush (v := (31 : Int32)) dL_law_30 (by decide) ?_
    refine gb_iand dL_law_32 ?_
    obtain ⟨x5, ex5, hF⟩ := gb_ltE hF
    refine gb_topI ex5 ?_
    rcases Classical.em (x5 = 0) with c6 | c6
    · replace hF := gb_ifT c6 hF
      refine gb_tswIn (tgt := 144) (x := x5) dL_law_33 (by rw [c6]; decide) (by rw [c6]; decide) (by rw [c6]; rfl) (by decide) ?_
      refine gb_aload_n dL_law_144 rfl rfl ?_
      refine gb_aload_nS dL_law_145 rfl rfl ?_
      refine gb_iload_n dL_law_146 rfl rfl ?_
      refine gb_iconst (v := (1 : Int32)) dL_law_147 (by decide) ?_
      refine gb_iadd dL_law_148 ?_
      obtain ⟨x7, ex7, hF⟩ := gb_ltE hF
      refine gb_topI ex7 ?_
      obtain ⟨g8, hF⟩ := gb_gdE hF
      obtain ⟨g9, hF⟩ := gb_gdE hF
      refine gb_sld dL_law_149 (gb_kE g8) (gb_inE g9) ?_
      obtain ⟨g10, hF⟩ := gb_gdE hF
      obtain ⟨x11, h12, cx11, hF⟩ := gb_bdE hF
      refine gb_cV (As := [.int (gb_I h gb_SC x7.toNatClampNeg)]) (S := []) (v := some (.int x11)) (h1 := h12) (S2 := [.int x11]) cf10 dL_law_150 mtX10_grain lL_13 inX10_grain seX10_grain (gb_kE g10) (fnX10_grain_ok _ _ cx11) (by decide) rfl (Nat.le_of_ble_eq_true rfl) (Nat.le_of_ble_eq_true rfl) rfl rfl ?_
      refine gb_aload_n dL_law_153 rfl rfl ?_
      refine gb_aload_nS dL_law_154 rfl rfl ?_
      refine gb_iload_n dL_law_155 rfl rfl ?_
      refine gb_iconst (v := (1 : Int32)) dL_law_156 (by decide) ?_
      refine gb_iadd dL_law_157 ?_
      obtain ⟨x13, ex13, hF⟩ := gb_ltE hF
      refine gb_topI ex13 ?_
      obtain ⟨g14, hF⟩ := gb_gdE hF
      obtain ⟨g15, hF⟩ := gb_gdE hF
      refine gb_sld dL_law_158 (gb_kE g14) (gb_inE g15) ?_
      obtain ⟨g16, hF⟩ := gb_gdE hF
      obtain ⟨x17, h18, cx17, hF⟩ := gb_bdE hF
      refine gb_cV (As := [.int (gb_I h12 gb_SC x13.toNatClampNeg)]) (S := [.int x11]) (v := some (.int x17)) (h1 := h18) (S2 := [.int x17, .int x11]) cf11 dL_law_159 mtX11_grain lL_17 inX11_grain seX11_grain (gb_kE g16) (fnX11_grain_ok _ _ cx17) (by decide) rfl (Nat.le_of_ble_eq_true rfl) (Nat.le_of_ble_eq_true rfl) rfl rfl ?_
      refine gb_icmp_eq (tgt := 966) dL_law_162 (by decide) (fun c19 => ?_) (fun c19 => ?_)
      · replace hF := gb_ifT c19 hF
        exact gb_wk (fbL_law_966_ok hk18 v1 v2 v3 h18 r hF) (And.intro rfl (And.intro rfl (And.intro rfl (And.intro rfl trivial))))
      · replace hF := gb_ifF c19 hF
        refine gb_iconst (v := (0 : Int32)) dL_law_165 (by decide) ?_
        cases hF
        exact gb_zret dL_law_166 rfl (by decide)
    · replace hF := gb_ifF c6 hF
      rcases Classical.em (x5 = 1) with c20 | c20
      · replace hF := gb_ifT c20 hF
        refine gb_tswIn (tgt := 167) (x := x5) dL_law_33 (by rw [c20]; decide) (by rw [c20]; decide) (by rw [c20]; rfl) (by decide) ?_
        refine gb_aload_n dL_law_167 rfl rfl ?_
        obtain ⟨g21, hF⟩ := gb_gdE hF
        obtain ⟨x22, h23, cx22, hF⟩ := gb_bdE hF
        refine gb_cV (As := []) (S := []) (v := some (.int x22)) (h1 := h23) (S2 := [.int x22]) cf10 dL_law_168 mtX10_clear lL_18 inX10_clear seX10_clear (gb_kE g21) (fnX10_clear_ok _ _ cx22) (by decide) rfl (Nat.le_of_ble_eq_true rfl) (Nat.le_of_ble_eq_true rfl) rfl rfl ?_
        refine gb_aload_n dL_law_171 rfl rfl ?_
        obtain ⟨g24, hF⟩ := gb_gdE hF
        obtain ⟨x25, h26, cx25, hF⟩ := gb_bdE hF
        refine gb_cV (As := []) (S := [.int x22]) (v := some (.int x25)) (h1 := h26) (S2 := [.int x25, .int x22]) cf11 dL_law_172 mtX11_clear lL_22 inX11_clear seX11_clear (gb_kE g24) (fnX11_clear_ok _ _ cx25) (by decide) rfl (Nat.le_of_ble_eq_true rfl) (Nat.le_of_ble_eq_true rfl) rfl rfl ?_
        refine gb_icmp_eq (tgt := 966) dL_law_175 (by decide) (fun c27 => ?_) (fun c27 => ?_)
        · replace hF := gb_ifT c27 hF
          exact gb_wk (fbL_law_966_ok hk18 v1 v2 v3 h26 r hF) (And.intro rfl (And.intro rfl (And.intro rfl (And.intro rfl trivial))))
        · replace hF := gb_ifF c27 hF
          refine gb_iconst (v := (0 : Int32)) dL_law_178 (by decide) ?_
          cases hF
          exact gb_zret dL_law_179 rfl (by decide)
      · replace hF := gb_ifF c20 hF
        rcases Classical.em (x5 = 2) with c28 | c28
        · replace hF := gb_ifT c28 hF
          refine gb_tswIn (tgt := 180) (x := x5) dL_law_33 (by rw [c28]; decide) (by rw [c28]; decide) (by rw [c28]; rfl) (by decide) ?_
          refine gb_aload_n dL_law_180 rfl rfl ?_
          refine gb_aload_nS dL_law_181 rfl rfl ?_
          refine gb_iload_n dL_law_182 rfl rfl ?_
          refine gb_iconst (v := (1 : Int32)) dL_law_183 (by decide) ?_
          refine gb_iadd dL_law_184 ?_
          obtain ⟨x29, ex29, hF⟩ := gb_ltE hF
          refine gb_topI ex29 ?_
          obtain ⟨g30, hF⟩ := gb_gdE hF
          obtain ⟨g31, hF⟩ := gb_gdE hF
          refine gb_sld dL_law_185 (gb_kE g30) (gb_inE g31) ?_
          refine gb_aload_nS dL_law_186 rfl rfl ?_
          refine gb_iload_n dL_law_187 rfl rfl ?_
          refine gb_iconst (v := (2 : Int32)) dL_law_188 (by decide) ?_
          refine gb_iadd dL_law_189 ?_
          obtain ⟨x32, ex32, hF⟩ := gb_ltE hF
          refine gb_topI ex32 ?_
          obtain ⟨g33, hF⟩ := gb_gdE hF
          obtain ⟨g34, hF⟩ := gb_gdE hF
          refine gb_sld dL_law_190 (gb_kE g33) (gb_inE g34) ?_
          refine gb_aload_nS dL_law_191 rfl rfl ?_
          refine gb_iload_n dL_law_192 rfl rfl ?_
          refine gb_iconst (v := (3 : Int32)) dL_law_193 (by decide) ?_
          refine gb_iadd dL_law_194 ?_
          obtain ⟨x35, ex35, hF⟩ := gb_ltE hF
          refine gb_topI ex35 ?_
          obtain ⟨g36, hF⟩ := gb_gdE hF
          obtain ⟨g37, hF⟩ := gb_gdE hF
          refine gb_sld dL_law_195 (gb_kE g36) (gb_inE g37) ?_
          refine gb_aload_nS dL_law_196 rfl rfl ?_
          refine gb_iload_n dL_law_197 rfl rfl ?_
          refine gb_iconst (v := (4 : Int32)) dL_law_198 (by decide) ?_
          refine gb_iadd dL_law_199 ?_
          obtain ⟨x38, ex38, hF⟩ := gb_ltE hF
          refine gb_topI ex38 ?_
          obtain ⟨g39, hF⟩ := gb_gdE hF
          obtain ⟨g40, hF⟩ := gb_gdE hF
          refine gb_sld dL_law_200 (gb_kE g39) (gb_inE g40) ?_
          refine gb_aload_nS dL_law_201 rfl rfl ?_
          refine gb_iload_n dL_law_202 rfl rfl ?_
          refine gb_iconst (v := (5 : Int32)) dL_law_203 (by decide) ?_
          refine gb_iadd dL_law_204 ?_
          obtain ⟨x41, ex41, hF⟩ := gb_ltE hF
          refine gb_topI ex41 ?_
          obtain ⟨g42, hF⟩ := gb_gdE hF
          obtain ⟨g43, hF⟩ := gb_gdE hF
          refine gb_sld dL_law_205 (gb_kE g42) (gb_inE g43) ?_
          obtain ⟨g44, hF⟩ := gb_gdE hF
          obtain ⟨x45, h46, cx45, hF⟩ := gb_bdE hF
          refine gb_cV (As := [.int (gb_I h gb_SC x29.toNatClampNeg), .int (gb_I h gb_SC x32.toNatClampNeg), .int (gb_I h gb_SC x35.toNatClampNeg), .int (gb_I h gb_SC x38.toNatClampNeg), .int (gb_I h gb_SC x41.toNatClampNeg)]) (S := []) (v := some (.int x45)) (h1 := h46) (S2 := [.int x45]) cf10 dL_law_206 mtX10_feed lL_23 inX10_feed seX10_feed (gb_kE g44) (fnX10_feed_ok _ _ cx45) (by decide) rfl (Nat.le_of_ble_eq_true rfl) (Nat.le_of_ble_eq_true rfl) rfl rfl ?_
          refine gb_aload_n dL_law_209 rfl rfl ?_
          refine gb_aload_nS dL_law_210 rfl rfl ?_
          refine gb_iload_n dL_law_211 rfl rfl ?_
          refine gb_iconst (v := (1 : Int32)) dL_law_212 (by decide) ?_
          refine gb_iadd dL_law_213 ?_
          obtain ⟨x47, ex47, hF⟩ := gb_ltE hF
          refine gb_topI ex47 ?_
          obtain ⟨g48, hF⟩ := gb_gdE hF
          obtain ⟨g49, hF⟩ := gb_gdE hF
          refine gb_sld dL_law_214 (gb_kE g48) (gb_inE g49) ?_
          refine gb_aload_nS dL_law_215 rfl rfl ?_
          refine gb_iload_n dL_law_216 rfl rfl ?_
          refine gb_iconst (v := (2 : Int32)) dL_law_217 (by decide) ?_
          refine gb_iadd dL_law_218 ?_
          obtain ⟨x50, ex50, hF⟩ := gb_ltE hF
          refine gb_topI ex50 ?_
          obtain ⟨g51, hF⟩ := gb_gdE hF
          obtain ⟨g52, hF⟩ := gb_gdE hF
          refine gb_sld dL_law_219 (gb_kE g51) (gb_inE g52) ?_
          refine gb_aload_nS dL_law_220 rfl rfl ?_
          refine gb_iload_n dL_law_221 rfl rfl ?_
          refine gb_iconst (v := (3 : Int32)) dL_law_222 (by decide) ?_
          refine gb_iadd dL_law_223 ?_
          obtain ⟨x53, ex53, hF⟩ := gb_ltE hF
          refine gb_topI ex53 ?_
          obtain ⟨g54, hF⟩ := gb_gdE hF
          obtain ⟨g55, hF⟩ := gb_gdE hF
          refine gb_sld dL_law_224 (gb_kE g54) (gb_inE g55) ?_
          refine gb_aload_nS dL_law_225 rfl rfl ?_
          refine gb_iload_n dL_law_226 rfl rfl ?_
          refine gb_iconst (v := (4 : Int32)) dL_law_227 (by decide) ?_
          refine gb_iadd dL_law_228 ?_
          obtain ⟨x56, ex56, hF⟩ := gb_ltE hF
          refine gb_topI ex56 ?_
          obtain ⟨g57, hF⟩ := gb_gdE hF
          obtain ⟨g58, hF⟩ := gb_gdE hF
          refine gb_sld dL_law_229 (gb_kE g57) (gb_inE g58) ?_
          refine gb_aload_nS dL_law_230 rfl rfl ?_
          refine gb_iload_n dL_law_231 rfl rfl ?_
          refine gb_iconst (v := (5 : Int32)) dL_law_232 (by decide) ?_
          refine gb_iadd dL_law_233 ?_
          obtain ⟨x59, ex59, hF⟩ := gb_ltE hF
          refine gb_topI ex59 ?_
          obtain ⟨g60, hF⟩ := gb_gdE hF
          obtain ⟨g61, hF⟩ := gb_gdE hF
          refine gb_sld dL_law_234 (gb_kE g60) (gb_inE g61) ?_
          obtain ⟨g62, hF⟩ := gb_gdE hF
          obtain ⟨x63, h64, cx63, hF⟩ := gb_bdE hF
          refine gb_cV (As := [.int (gb_I h46 gb_SC x47.toNatClampNeg), .int (gb_I h46 gb_SC x50.toNatClampNeg), .int (gb_I h46 gb_SC x53.toNatClampNeg), .int (gb_I h46 gb_SC x56.toNatClampNeg), .int (gb_I h46 gb_SC x59.toNatClampNeg)]) (S := [.int x45]) (v := some (.int x63)) (h1 := h64) (S2 := [.int x63, .int x45]) cf11 dL_law_235 mtX11_feed lL_27 inX11_feed seX11_feed (gb_kE g62) (fnX11_feed_ok _ _ cx63) (by decide) rfl (Nat.le_of_ble_eq_true rfl) (Nat.le_of_ble_eq_true rfl) rfl rfl ?_
          refine gb_icmp_eq (tgt := 966) dL_law_238 (by decide) (fun c65 => ?_) (fun c65 => ?_)
          · replace hF := gb_ifT c65 hF
            exact gb_wk (fbL_law_966_ok hk18 v1 v2 v3 h64 r hF) (And.intro rfl (And.intro rfl (And.intro rfl (And.intro rfl trivial))))
          · replace hF := gb_ifF c65 hF
            refine gb_iconst (v := (0 : Int32)) dL_law_241 (by decide) ?_
            cases hF
            exact gb_zret dL_law_242 rfl (by decide)
        · replace hF := gb_ifF c28 hF
          rcases Classical.em (x5 = 3) with c66 | c66
          · replace hF := gb_ifT c66 hF
            refine gb_tswIn (tgt := 243) (x := x5) dL_law_33 (by rw [c66]; decide) (by rw [c66]; decide) (by rw [c66]; rfl) (by decide) ?_
            refine gb_aload_n dL_law_243 rfl rfl ?_
            refine gb_aload_nS dL_law_244 rfl rfl ?_
            refine gb_iload_n dL_law_245 rfl rfl ?_
            refine gb_iconst (v := (1 : Int32)) dL_law_246 (by decide) ?_
            refine gb_iadd dL_law_247 ?_
            obtain ⟨x67, ex67, hF⟩ := gb_ltE hF
            refine gb_topI ex67 ?_
            obtain ⟨g68, hF⟩ := gb_gdE hF
            obtain ⟨g69, hF⟩ := gb_gdE hF
            refine gb_sld dL_law_248 (gb_kE g68) (gb_inE g69) ?_
            obtain ⟨g70, hF⟩ := gb_gdE hF
            obtain ⟨x71, h72, cx71, hF⟩ := gb_bdE hF
            refine gb_cV (As := [.int (gb_I h gb_SC x67.toNatClampNeg)]) (S := []) (v := some (.int x71)) (h1 := h72) (S2 := [.int x71]) cf10 dL_law_249 mtX10_end lL_28 inX10_end seX10_end (gb_kE g70) (fnX10_end_ok _ _ cx71) (by decide) rfl (Nat.le_of_ble_eq_true rfl) (Nat.le_of_ble_eq_true rfl) rfl rfl ?_
            refine gb_aload_n dL_law_252 rfl rfl ?_
            refine gb_aload_nS dL_law_253 rfl rfl ?_
            refine gb_iload_n dL_law_254 rfl rfl ?_
            refine gb_iconst (v := (1 : Int32)) dL_law_255 (by decide) ?_
            refine gb_iadd dL_law_256 ?_
            obtain ⟨x73, ex73, hF⟩ := gb_ltE hF
            refine gb_topI ex73 ?_
            obtain ⟨g74, hF⟩ := gb_gdE hF
            obtain ⟨g75, hF⟩ := gb_gdE hF
            refine gb_sld dL_law_257 (gb_kE g74) (gb_inE g75) ?_
            obtain ⟨g76, hF⟩ := gb_gdE hF
            obtain ⟨x77, h78, cx77, hF⟩ := gb_bdE hF
            refine gb_cV (As := [.int (gb_I h72 gb_SC x73.toNatClampNeg)]) (S := [.int x71]) (v := some (.int x77)) (h1 := h78) (S2 := [.int x77, .int x71]) cf11 dL_law_258 mtX11_end lL_31 inX11_end seX11_end (gb_kE g76) (fnX11_end_ok _ _ cx77) (by decide) rfl (Nat.le_of_ble_eq_true rfl) (Nat.le_of_ble_eq_true rfl) rfl rfl ?_
            refine gb_icmp_eq (tgt := 966) dL_law_261 (by decide) (fun c79 => ?_) (fun c79 => ?_)
            · replace hF := gb_ifT c79 hF
              exact gb_wk (fbL_law_966_ok hk18 v1 v2 v3 h78 r hF) (And.intro rfl (And.intro rfl (And.intro rfl (And.intro rfl trivial))))
            · replace hF := gb_ifF c79 hF
              refine gb_iconst (v := (0 : Int32)) dL_law_264 (by decide) ?_
              cases hF
              exact gb_zret dL_law_265 rfl (by decide)
          · replace hF := gb_ifF c66 hF
            rcases Classical.em (x5 = 4) with c80 | c80
            · replace hF := gb_ifT c80 hF
              refine gb_tswIn (tgt := 266) (x := x5) dL_law_33 (by rw [c80]; decide) (by rw [c80]; decide) (by rw [c80]; rfl) (by decide) ?_
              refine gb_aload_n dL_law_266 rfl rfl ?_
              refine gb_aload_nS dL_law_267 rfl rfl ?_
              refine gb_iload_n dL_law_268 rfl rfl ?_
              refine gb_iconst (v := (1 : Int32)) dL_law_269 (by decide) ?_
              refine gb_iadd dL_law_270 ?_
              obtain ⟨x81, ex81, hF⟩ := gb_ltE hF
              refine gb_topI ex81 ?_
              obtain ⟨g82, hF⟩ := gb_gdE hF
              obtain ⟨g83, hF⟩ := gb_gdE hF
              refine gb_sld dL_law_271 (gb_kE g82) (gb_inE g83) ?_
              obtain ⟨g84, hF⟩ := gb_gdE hF
              obtain ⟨x85, h86, cx85, hF⟩ := gb_bdE hF
              refine gb_cV (As := [.int (gb_I h gb_SC x81.toNatClampNeg)]) (S := []) (v := some (.int x85)) (h1 := h86) (S2 := [.int x85]) cf10 dL_law_272 mtX10_bench lL_32 inX10_bench seX10_bench (gb_kE g84) (fnX10_bench_ok _ _ cx85) (by decide) rfl (Nat.le_of_ble_eq_true rfl) (Nat.le_of_ble_eq_true rfl) rfl rfl ?_
              refine gb_aload_n dL_law_275 rfl rfl ?_
              refine gb_aload_nS dL_law_276 rfl rfl ?_
              refine gb_iload_n dL_law_277 rfl rfl ?_
              refine gb_iconst (v := (1 : Int32)) dL_law_278 (by decide) ?_
              refine gb_iadd dL_law_279 ?_
              obtain ⟨x87, ex87, hF⟩ := gb_ltE hF
              refine gb_topI ex87 ?_
              obtain ⟨g88, hF⟩ := gb_gdE hF
              obtain ⟨g89, hF⟩ := gb_gdE hF
              refine gb_sld dL_law_280 (gb_kE g88) (gb_inE g89) ?_
              obtain ⟨g90, hF⟩ := gb_gdE hF
              obtain ⟨x91, h92, cx91, hF⟩ := gb_bdE hF
              refine gb_cV (As := [.int (gb_I h86 gb_SC x87.toNatClampNeg)]) (S := [.int x85]) (v := some (.int x91)) (h1 := h92) (S2 := [.int x91, .int x85]) cf11 dL_law_281 mtX11_bench lL_35 inX11_bench seX11_bench (gb_kE g90) (fnX11_bench_ok _ _ cx91) (by decide) rfl (Nat.le_of_ble_eq_true rfl) (Nat.le_of_ble_eq_true rfl) rfl rfl ?_
              refine gb_icmp_eq (tgt := 966) dL_law_284 (by decide) (fun c93 => ?_) (fun c93 => ?_)
              · replace hF := gb_ifT c93 hF
                exact gb_wk (fbL_law_966_ok hk18 v1 v2 v3 h92 r hF) (And.intro rfl (And.intro rfl (And.intro rfl (And.intro rfl trivial))))
              · replace hF := gb_ifF c93 hF
                refine gb_iconst (v := (0 : Int32)) dL_law_287 (by decide) ?_
                cases hF
                exact gb_zret dL_law_288 rfl (by decide)
            · replace hF := gb_ifF c80 hF
              rcases Classical.em (x5 = 5) with c94 | c94
              · replace hF := gb_ifT c94 hF
                refine gb_tswIn (tgt := 289) (x := x5) dL_law_33 (by rw [c94]; decide) (by rw [c94]; decide) (by rw [c94]; rfl) (by decide) ?_
                refine gb_aload_n dL_law_289 rfl rfl ?_
                obtain ⟨g95, hF⟩ := gb_gdE hF
                obtain ⟨x96, h97, cx96, hF⟩ := gb_bdE hF
                refine gb_cV (As := []) (S := []) (v := some (.int x96)) (h1 := h97) (S2 := [.int x96]) cf10 dL_law_290 mtX10_shelf lL_36 inX10_shelf seX10_shelf (gb_kE g95) (fnX10_shelf_ok _ _ cx96) (by decide) rfl (Nat.le_of_ble_eq_true rfl) (Nat.le_of_ble_eq_true rfl) rfl rfl ?_
                refine gb_aload_n dL_law_293 rfl rfl ?_
                obtain ⟨g98, hF⟩ := gb_gdE hF
                obtain ⟨x99, h100, cx99, hF⟩ := gb_bdE hF
                refine gb_cV (As := []) (S := [.int x96]) (v := some (.int x99)) (h1 := h100) (S2 := [.int x99, .int x96]) cf11 dL_law_294 mtX11_shelf lL_39 inX11_shelf seX11_shelf (gb_kE g98) (fnX11_shelf_ok _ _ cx99) (by decide) rfl (Nat.le_of_ble_eq_true rfl) (Nat.le_of_ble_eq_true rfl) rfl rfl ?_
                refine gb_icmp_eq (tgt := 966) dL_law_297 (by decide) (fun c101 => ?_) (fun c101 => ?_)
                · replace hF := gb_ifT c101 hF
                  exact gb_wk (fbL_law_966_ok hk18 v1 v2 v3 h100 r hF) (And.intro rfl (And.intro rfl (And.intro rfl (And.intro rfl trivial))))
                · replace hF := gb_ifF c101 hF
                  refine gb_iconst (v := (0 : Int32)) dL_law_300 (by decide) ?_
                  cases hF
                  exact gb_zret dL_law_301 rfl (by decide)
              · replace hF := gb_ifF c94 hF
                rcases Classical.em (x5 = 6) with c102 | c102
                · replace hF := gb_ifT c102 hF
                  refine gb_tswIn (tgt := 302) (x := x5) dL_law_33 (by rw [c102]; decide) (by rw [c102]; decide) (by rw [c102]; rfl) (by decide) ?_
                  refine gb_aload_n dL_law_302 rfl rfl ?_
                  obtain ⟨g103, hF⟩ := gb_gdE hF
                  obtain ⟨x104, h105, cx104, hF⟩ := gb_bdE hF
                  refine gb_cV (As := []) (S := []) (v := some (.int x104)) (h1 := h105) (S2 := [.int x104]) cf10 dL_law_303 mtX10_fault lL_40 inX10_fault seX10_fault (gb_kE g103) (fnX10_fault_ok _ _ cx104) (by decide) rfl (Nat.le_of_ble_eq_true rfl) (Nat.le_of_ble_eq_true rfl) rfl rfl ?_
                  refine gb_aload_n dL_law_306 rfl rfl ?_
                  obtain ⟨g106, hF⟩ := gb_gdE hF
                  obtain ⟨x107, h108, cx107, hF⟩ := gb_bdE hF
                  refine gb_cV (As := []) (S := [.int x104]) (v := some (.int x107)) (h1 := h108) (S2 := [.int x107, .int x104]) cf11 dL_law_307 mtX11_fault lL_43 inX11_fault seX11_fault (gb_kE g106) (fnX11_fault_ok _ _ cx107) (by decide) rfl (Nat.le_of_ble_eq_true rfl) (Nat.le_of_ble_eq_true rfl) rfl rfl ?_
                  refine gb_icmp_eq (tgt := 966) dL_law_310 (by decide) (fun c109 => ?_) (fun c109 => ?_)
                  · replace hF := gb_ifT c109 hF
                    exact gb_wk (fbL_law_966_ok hk18 v1 v2 v3 h108 r hF) (And.intro rfl (And.intro rfl (And.intro rfl (And.intro rfl trivial))))
                  · replace hF := gb_ifF c109 hF
                    refine gb_iconst (v := (0 : Int32)) dL_law_313 (by decide) ?_
                    cases hF
                    exact gb_zret dL_law_314 rfl (by decide)
                · replace hF := gb_ifF c102 hF
                  rcases Classical.em (x5 = 7) with c110 | c110
                  · replace hF := gb_ifT c110 hF
                    refine gb_tswIn (tgt := 315) (x := x5) dL_law_33 (by rw [c110]; decide) (by rw [c110]; decide) (by rw [c110]; rfl) (by decide) ?_
                    refine gb_aload_n dL_law_315 rfl rfl ?_
                    refine gb_aload_nS dL_law_316 rfl rfl ?_
                    refine gb_iload_n dL_law_317 rfl rfl ?_
                    refine gb_iconst (v := (1 : Int32)) dL_law_318 (by decide) ?_
                    refine gb_iadd dL_law_319 ?_
                    obtain ⟨x111, ex111, hF⟩ := gb_ltE hF
                    refine gb_topI ex111 ?_
                    obtain ⟨g112, hF⟩ := gb_gdE hF
                    obtain ⟨g113, hF⟩ := gb_gdE hF
                    refine gb_sld dL_law_320 (gb_kE g112) (gb_inE g113) ?_
                    obtain ⟨g114, hF⟩ := gb_gdE hF
                    obtain ⟨x115, h116, cx115, hF⟩ := gb_bdE hF
                    refine gb_cV (As := [.int (gb_I h gb_SC x111.toNatClampNeg)]) (S := []) (v := some (.int x115)) (h1 := h116) (S2 := [.int x115]) cf10 dL_law_321 mtX10_deep lL_44 inX10_deep seX10_deep (gb_kE g114) (fnX10_deep_ok _ _ cx115) (by decide) rfl (Nat.le_of_ble_eq_true rfl) (Nat.le_of_ble_eq_true rfl) rfl rfl ?_
                    refine gb_aload_n dL_law_324 rfl rfl ?_
                    refine gb_aload_nS dL_law_325 rfl rfl ?_
                    refine gb_iload_n dL_law_326 rfl rfl ?_
                    refine gb_iconst (v := (1 : Int32)) dL_law_327 (by decide) ?_
                    refine gb_iadd dL_law_328 ?_
                    obtain ⟨x117, ex117, hF⟩ := gb_ltE hF
                    refine gb_topI ex117 ?_
                    obtain ⟨g118, hF⟩ := gb_gdE hF
                    obtain ⟨g119, hF⟩ := gb_gdE hF
                    refine gb_sld dL_law_329 (gb_kE g118) (gb_inE g119) ?_
                    obtain ⟨g120, hF⟩ := gb_gdE hF
                    obtain ⟨x121, h122, cx121, hF⟩ := gb_bdE hF
                    refine gb_cV (As := [.int (gb_I h116 gb_SC x117.toNatClampNeg)]) (S := [.int x115]) (v := some (.int x121)) (h1 := h122) (S2 := [.int x121, .int x115]) cf11 dL_law_330 mtX11_deep lL_47 inX11_deep seX11_deep (gb_kE g120) (fnX11_deep_ok _ _ cx121) (by decide) rfl (Nat.le_of_ble_eq_true rfl) (Nat.le_of_ble_eq_true rfl) rfl rfl ?_
                    refine gb_icmp_eq (tgt := 966) dL_law_333 (by decide) (fun c123 => ?_) (fun c123 => ?_)
                    · replace hF := gb_ifT c123 hF
                      exact gb_wk (fbL_law_966_ok hk18 v1 v2 v3 h122 r hF) (And.intro rfl (And.intro rfl (And.intro rfl (And.intro rfl trivial))))
                    · replace hF := gb_ifF c123 hF
                      refine gb_iconst (v := (0 : Int32)) dL_law_336 (by decide) ?_
                      cases hF
                      exact gb_zret dL_law_337 rfl (by decide)
                  · replace hF := gb_ifF c110 hF
                    rcases Classical.em (x5 = 8) with c124 | c124
                    · replace hF := gb_ifT c124 hF
                      refine gb_tswIn (tgt := 338) (x := x5) dL_law_33 (by rw [c124]; decide) (by rw [c124]; decide) (by rw [c124]; rfl) (by decide) ?_
                      refine gb_aload_n dL_law_338 rfl rfl ?_
                      refine gb_aload_nS dL_law_339 rfl rfl ?_
                      refine gb_iload_n dL_law_340 rfl rfl ?_
                      refine gb_iconst (v := (1 : Int32)) dL_law_341 (by decide) ?_
                      refine gb_iadd dL_law_342 ?_
                      obtain ⟨x125, ex125, hF⟩ := gb_ltE hF
                      refine gb_topI ex125 ?_
                      obtain ⟨g126, hF⟩ := gb_gdE hF
                      obtain ⟨g127, hF⟩ := gb_gdE hF
                      refine gb_sld dL_law_343 (gb_kE g126) (gb_inE g127) ?_
                      refine gb_aload_nS dL_law_344 rfl rfl ?_
                      refine gb_iload_n dL_law_345 rfl rfl ?_
                      refine gb_iconst (v := (2 : Int32)) dL_law_346 (by decide) ?_
                      refine gb_iadd dL_law_347 ?_
                      obtain ⟨x128, ex128, hF⟩ := gb_ltE hF
                      refine gb_topI ex128 ?_
                      obtain ⟨g129, hF⟩ := gb_gdE hF
                      obtain ⟨g130, hF⟩ := gb_gdE hF
                      refine gb_sld dL_law_348 (gb_kE g129) (gb_inE g130) ?_
                      refine gb_aload_nS dL_law_349 rfl rfl ?_
                      refine gb_iload_n dL_law_350 rfl rfl ?_
                      refine gb_iconst (v := (3 : Int32)) dL_law_351 (by decide) ?_
                      refine gb_iadd dL_law_352 ?_
                      obtain ⟨x131, ex131, hF⟩ := gb_ltE hF
                      refine gb_topI ex131 ?_
                      obtain ⟨g132, hF⟩ := gb_gdE hF
                      obtain ⟨g133, hF⟩ := gb_gdE hF
                      refine gb_sld dL_law_353 (gb_kE g132) (gb_inE g133) ?_
                      refine gb_aload_nS dL_law_354 rfl rfl ?_
                      refine gb_iload_n dL_law_355 rfl rfl ?_
                      refine gb_iconst (v := (4 : Int32)) dL_law_356 (by decide) ?_
                      refine gb_iadd dL_law_357 ?_
                      obtain ⟨x134, ex134, hF⟩ := gb_ltE hF
                      refine gb_topI ex134 ?_
                      obtain ⟨g135, hF⟩ := gb_gdE hF
                      obtain ⟨g136, hF⟩ := gb_gdE hF
                      refine gb_sld dL_law_358 (gb_kE g135) (gb_inE g136) ?_
                      obtain ⟨g137, hF⟩ := gb_gdE hF
                      obtain ⟨x138, h139, cx138, hF⟩ := gb_bdE hF
                      refine gb_cV (As := [.int (gb_I h gb_SC x125.toNatClampNeg), .int (gb_I h gb_SC x128.toNatClampNeg), .int (gb_I h gb_SC x131.toNatClampNeg), .int (gb_I h gb_SC x134.toNatClampNeg)]) (S := []) (v := some (.int x138)) (h1 := h139) (S2 := [.int x138]) cf10 dL_law_359 mtX10_way lL_48 inX10_way seX10_way (gb_kE g137) (fnX10_way_ok _ _ cx138) (by decide) rfl (Nat.le_of_ble_eq_true rfl) (Nat.le_of_ble_eq_true rfl) rfl rfl ?_
                      refine gb_aload_n dL_law_362 rfl rfl ?_
                      refine gb_aload_nS dL_law_363 rfl rfl ?_
                      refine gb_iload_n dL_law_364 rfl rfl ?_
                      refine gb_iconst (v := (1 : Int32)) dL_law_365 (by decide) ?_
                      refine gb_iadd dL_law_366 ?_
                      obtain ⟨x140, ex140, hF⟩ := gb_ltE hF
                      refine gb_topI ex140 ?_
                      obtain ⟨g141, hF⟩ := gb_gdE hF
                      obtain ⟨g142, hF⟩ := gb_gdE hF
                      refine gb_sld dL_law_367 (gb_kE g141) (gb_inE g142) ?_
                      refine gb_aload_nS dL_law_368 rfl rfl ?_
                      refine gb_iload_n dL_law_369 rfl rfl ?_
                      refine gb_iconst (v := (2 : Int32)) dL_law_370 (by decide) ?_
                      refine gb_iadd dL_law_371 ?_
                      obtain ⟨x143, ex143, hF⟩ := gb_ltE hF
                      refine gb_topI ex143 ?_
                      obtain ⟨g144, hF⟩ := gb_gdE hF
                      obtain ⟨g145, hF⟩ := gb_gdE hF
                      refine gb_sld dL_law_372 (gb_kE g144) (gb_inE g145) ?_
                      refine gb_aload_nS dL_law_373 rfl rfl ?_
                      refine gb_iload_n dL_law_374 rfl rfl ?_
                      refine gb_iconst (v := (3 : Int32)) dL_law_375 (by decide) ?_
                      refine gb_iadd dL_law_376 ?_
                      obtain ⟨x146, ex146, hF⟩ := gb_ltE hF
                      refine gb_topI ex146 ?_
                      obtain ⟨g147, hF⟩ := gb_gdE hF
                      obtain ⟨g148, hF⟩ := gb_gdE hF
                      refine gb_sld dL_law_377 (gb_kE g147) (gb_inE g148) ?_
                      refine gb_aload_nS dL_law_378 rfl rfl ?_
                      refine gb_iload_n dL_law_379 rfl rfl ?_
                      refine gb_iconst (v := (4 : Int32)) dL_law_380 (by decide) ?_
                      refine gb_iadd dL_law_381 ?_
                      obtain ⟨x149, ex149, hF⟩ := gb_ltE hF
                      refine gb_topI ex149 ?_
                      obtain ⟨g150, hF⟩ := gb_gdE hF
                      obtain ⟨g151, hF⟩ := gb_gdE hF
                      refine gb_sld dL_law_382 (gb_kE g150) (gb_inE g151) ?_
                      obtain ⟨g152, hF⟩ := gb_gdE hF
                      obtain ⟨x153, h154, cx153, hF⟩ := gb_bdE hF
                      refine gb_cV (As := [.int (gb_I h139 gb_SC x140.toNatClampNeg), .int (gb_I h139 gb_SC x143.toNatClampNeg), .int (gb_I h139 gb_SC x146.toNatClampNeg), .int (gb_I h139 gb_SC x149.toNatClampNeg)]) (S := [.int x138]) (v := some (.int x153)) (h1 := h154) (S2 := [.int x153, .int x138]) cf11 dL_law_383 mtX11_way lL_52 inX11_way seX11_way (gb_kE g152) (fnX11_way_ok _ _ cx153) (by decide) rfl (Nat.le_of_ble_eq_true rfl) (Nat.le_of_ble_eq_true rfl) rfl rfl ?_
                      refine gb_icmp_eq (tgt := 966) dL_law_386 (by decide) (fun c155 => ?_) (fun c155 => ?_)
                      · replace hF := gb_ifT c155 hF
                        exact gb_wk (fbL_law_966_ok hk18 v1 v2 v3 h154 r hF) (And.intro rfl (And.intro rfl (And.intro rfl (And.intro rfl trivial))))
                      · replace hF := gb_ifF c155 hF
                        refine gb_iconst (v := (0 : Int32)) dL_law_389 (by decide) ?_
                        cases hF
                        exact gb_zret dL_law_390 rfl (by decide)
                    · replace hF := gb_ifF c124 hF
                      rcases Classical.em (x5 = 9) with c156 | c156
                      · replace hF := gb_ifT c156 hF
                        refine gb_tswIn (tgt := 391) (x := x5) dL_law_33 (by rw [c156]; decide) (by rw [c156]; decide) (by rw [c156]; rfl) (by decide) ?_
                        refine gb_aload_n dL_law_391 rfl rfl ?_
                        refine gb_aload_nS dL_law_392 rfl rfl ?_
                        refine gb_iload_n dL_law_393 rfl rfl ?_
                        refine gb_iconst (v := (1 : Int32)) dL_law_394 (by decide) ?_
                        refine gb_iadd dL_law_395 ?_
                        obtain ⟨x157, ex157, hF⟩ := gb_ltE hF
                        refine gb_topI ex157 ?_
                        obtain ⟨g158, hF⟩ := gb_gdE hF
                        obtain ⟨g159, hF⟩ := gb_gdE hF
                        refine gb_sld dL_law_396 (gb_kE g158) (gb_inE g159) ?_
                        refine gb_aload_nS dL_law_397 rfl rfl ?_
                        refine gb_iload_n dL_law_398 rfl rfl ?_
                        refine gb_iconst (v := (2 : Int32)) dL_law_399 (by decide) ?_
                        refine gb_iadd dL_law_400 ?_
                        obtain ⟨x160, ex160, hF⟩ := gb_ltE hF
                        refine gb_topI ex160 ?_
                        obtain ⟨g161, hF⟩ := gb_gdE hF
                        obtain ⟨g162, hF⟩ := gb_gdE hF
                        refine gb_sld dL_law_401 (gb_kE g161) (gb_inE g162) ?_
                        refine gb_aload_nS dL_law_402 rfl rfl ?_
                        refine gb_iload_n dL_law_403 rfl rfl ?_
                        refine gb_iconst (v := (3 : Int32)) dL_law_404 (by decide) ?_
                        refine gb_iadd dL_law_405 ?_
                        obtain ⟨x163, ex163, hF⟩ := gb_ltE hF
                        refine gb_topI ex163 ?_
                        obtain ⟨g164, hF⟩ := gb_gdE hF
                        obtain ⟨g165, hF⟩ := gb_gdE hF
                        refine gb_sld dL_law_406 (gb_kE g164) (gb_inE g165) ?_
                        refine gb_aload_nS dL_law_407 rfl rfl ?_
                        refine gb_iload_n dL_law_408 rfl rfl ?_
                        refine gb_iconst (v := (4 : Int32)) dL_law_409 (by decide) ?_
                        refine gb_iadd dL_law_410 ?_
                        obtain ⟨x166, ex166, hF⟩ := gb_ltE hF
                        refine gb_topI ex166 ?_
                        obtain ⟨g167, hF⟩ := gb_gdE hF
                        obtain ⟨g168, hF⟩ := gb_gdE hF
                        refine gb_sld dL_law_411 (gb_kE g167) (gb_inE g168) ?_
                        refine gb_aload_nS dL_law_412 rfl rfl ?_
                        refine gb_iload_n dL_law_413 rfl rfl ?_
                        refine gb_iconst (v := (5 : Int32)) dL_law_414 (by decide) ?_
                        refine gb_iadd dL_law_415 ?_
                        obtain ⟨x169, ex169, hF⟩ := gb_ltE hF
                        refine gb_topI ex169 ?_
                        obtain ⟨g170, hF⟩ := gb_gdE hF
                        obtain ⟨g171, hF⟩ := gb_gdE hF
                        refine gb_sld dL_law_416 (gb_kE g170) (gb_inE g171) ?_
                        refine gb_aload_nS dL_law_417 rfl rfl ?_
                        refine gb_iload_n dL_law_418 rfl rfl ?_
                        refine gb_bipush (v := (6 : Int32)) dL_law_419 (by decide) ?_
                        refine gb_iadd dL_law_421 ?_
                        obtain ⟨x172, ex172, hF⟩ := gb_ltE hF
                        refine gb_topI ex172 ?_
                        obtain ⟨g173, hF⟩ := gb_gdE hF
                        obtain ⟨g174, hF⟩ := gb_gdE hF
                        refine gb_sld dL_law_422 (gb_kE g173) (gb_inE g174) ?_
                        refine gb_aload_nS dL_law_423 rfl rfl ?_
                        refine gb_iload_n dL_law_424 rfl rfl ?_
                        refine gb_bipush (v := (7 : Int32)) dL_law_425 (by decide) ?_
                        refine gb_iadd dL_law_427 ?_
                        obtain ⟨x175, ex175, hF⟩ := gb_ltE hF
                        refine gb_topI ex175 ?_
                        obtain ⟨g176, hF⟩ := gb_gdE hF
                        obtain ⟨g177, hF⟩ := gb_gdE hF
                        refine gb_sld dL_law_428 (gb_kE g176) (gb_inE g177) ?_
                        obtain ⟨g178, hF⟩ := gb_gdE hF
                        obtain ⟨x179, h180, cx179, hF⟩ := gb_bdE hF
                        refine gb_cV (As := [.int (gb_I h gb_SC x157.toNatClampNeg), .int (gb_I h gb_SC x160.toNatClampNeg), .int (gb_I h gb_SC x163.toNatClampNeg), .int (gb_I h gb_SC x166.toNatClampNeg), .int (gb_I h gb_SC x169.toNatClampNeg), .int (gb_I h gb_SC x172.toNatClampNeg), .int (gb_I h gb_SC x175.toNatClampNeg)]) (S := []) (v := some (.long x179)) (h1 := h180) (S2 := [.long x179]) cf10 dL_law_429 mtX10_odds lL_53 inX10_odds seX10_odds (gb_kE g178) (fnX10_odds_ok _ _ cx179) (by decide) rfl (Nat.le_of_ble_eq_true rfl) (Nat.le_of_ble_eq_true rfl) rfl rfl ?_
                        refine gb_aload_n dL_law_432 rfl rfl ?_
                        refine gb_aload_nS dL_law_433 rfl rfl ?_
                        refine gb_iload_n dL_law_434 rfl rfl ?_
                        refine gb_iconst (v := (1 : Int32)) dL_law_435 (by decide) ?_
                        refine gb_iadd dL_law_436 ?_
                        obtain ⟨x181, ex181, hF⟩ := gb_ltE hF
                        refine gb_topI ex181 ?_
                        obtain ⟨g182, hF⟩ := gb_gdE hF
                        obtain ⟨g183, hF⟩ := gb_gdE hF
                        refine gb_sld dL_law_437 (gb_kE g182) (gb_inE g183) ?_
                        refine gb_aload_nS dL_law_438 rfl rfl ?_
                        refine gb_iload_n dL_law_439 rfl rfl ?_
                        refine gb_iconst (v := (2 : Int32)) dL_law_440 (by decide) ?_
                        refine gb_iadd dL_law_441 ?_
                        obtain ⟨x184, ex184, hF⟩ := gb_ltE hF
                        refine gb_topI ex184 ?_
                        obtain ⟨g185, hF⟩ := gb_gdE hF
                        obtain ⟨g186, hF⟩ := gb_gdE hF
                        refine gb_sld dL_law_442 (gb_kE g185) (gb_inE g186) ?_
                        refine gb_aload_nS dL_law_443 rfl rfl ?_
                        refine gb_iload_n dL_law_444 rfl rfl ?_
                        refine gb_iconst (v := (3 : Int32)) dL_law_445 (by decide) ?_
                        refine gb_iadd dL_law_446 ?_
                        obtain ⟨x187, ex187, hF⟩ := gb_ltE hF
                        refine gb_topI ex187 ?_
                        obtain ⟨g188, hF⟩ := gb_gdE hF
                        obtain ⟨g189, hF⟩ := gb_gdE hF
                        refine gb_sld dL_law_447 (gb_kE g188) (gb_inE g189) ?_
                        refine gb_aload_nS dL_law_448 rfl rfl ?_
                        refine gb_iload_n dL_law_449 rfl rfl ?_
                        refine gb_iconst (v := (4 : Int32)) dL_law_450 (by decide) ?_
                        refine gb_iadd dL_law_451 ?_
                        obtain ⟨x190, ex190, hF⟩ := gb_ltE hF
                        refine gb_topI ex190 ?_
                        obtain ⟨g191, hF⟩ := gb_gdE hF
                        obtain ⟨g192, hF⟩ := gb_gdE hF
                        refine gb_sld dL_law_452 (gb_kE g191) (gb_inE g192) ?_
                        refine gb_aload_nS dL_law_453 rfl rfl ?_
                        refine gb_iload_n dL_law_454 rfl rfl ?_
                        refine gb_iconst (v := (5 : Int32)) dL_law_455 (by decide) ?_
                        refine gb_iadd dL_law_456 ?_
                        obtain ⟨x193, ex193, hF⟩ := gb_ltE hF
                        refine gb_topI ex193 ?_
                        obtain ⟨g194, hF⟩ := gb_gdE hF
                        obtain ⟨g195, hF⟩ := gb_gdE hF
                        refine gb_sld dL_law_457 (gb_kE g194) (gb_inE g195) ?_
                        refine gb_aload_nS dL_law_458 rfl rfl ?_
                        refine gb_iload_n dL_law_459 rfl rfl ?_
                        refine gb_bipush (v := (6 : Int32)) dL_law_460 (by decide) ?_
                        refine gb_iadd dL_law_462 ?_
                        obtain ⟨x196, ex196, hF⟩ := gb_ltE hF
                        refine gb_topI ex196 ?_
                        obtain ⟨g197, hF⟩ := gb_gdE hF
                        obtain ⟨g198, hF⟩ := gb_gdE hF
                        refine gb_sld dL_law_463 (gb_kE g197) (gb_inE g198) ?_
                        refine gb_aload_nS dL_law_464 rfl rfl ?_
                        refine gb_iload_n dL_law_465 rfl rfl ?_
                        refine gb_bipush (v := (7 : Int32)) dL_law_466 (by decide) ?_
                        refine gb_iadd dL_law_468 ?_
                        obtain ⟨x199, ex199, hF⟩ := gb_ltE hF
                        refine gb_topI ex199 ?_
                        obtain ⟨g200, hF⟩ := gb_gdE hF
                        obtain ⟨g201, hF⟩ := gb_gdE hF
                        refine gb_sld dL_law_469 (gb_kE g200) (gb_inE g201) ?_
                        obtain ⟨g202, hF⟩ := gb_gdE hF
                        obtain ⟨x203, h204, cx203, hF⟩ := gb_bdE hF
                        refine gb_cV (As := [.int (gb_I h180 gb_SC x181.toNatClampNeg), .int (gb_I h180 gb_SC x184.toNatClampNeg), .int (gb_I h180 gb_SC x187.toNatClampNeg), .int (gb_I h180 gb_SC x190.toNatClampNeg), .int (gb_I h180 gb_SC x193.toNatClampNeg), .int (gb_I h180 gb_SC x196.toNatClampNeg), .int (gb_I h180 gb_SC x199.toNatClampNeg)]) (S := [.long x179]) (v := some (.long x203)) (h1 := h204) (S2 := [.long x203, .long x179]) cf11 dL_law_470 mtX11_odds lL_57 inX11_odds seX11_odds (gb_kE g202) (fnX11_odds_ok _ _ cx203) (by decide) rfl (Nat.le_of_ble_eq_true rfl) (Nat.le_of_ble_eq_true rfl) rfl rfl ?_
                        refine gb_lc_eq (tgt := 966) dL_law_473 dL_law_474 (by decide) (fun c205 => ?_) (fun c205 => ?_)
                        · replace hF := gb_ifT c205 hF
                          exact gb_wk (fbL_law_966_ok hk18 v1 v2 v3 h204 r hF) (And.intro rfl (And.intro rfl (And.intro rfl (And.intro rfl trivial))))
                        · replace hF := gb_ifF c205 hF
                          refine gb_iconst (v := (0 : Int32)) dL_law_477 (by decide) ?_
                          cases hF
                          exact gb_zret dL_law_478 rfl (by decide)
                      · replace hF := gb_ifF c156 hF
                        rcases Classical.em (x5 = 10) with c206 | c206
                        · replace hF := gb_ifT c206 hF
                          refine gb_tswIn (tgt := 479) (x := x5) dL_law_33 (by rw [c206]; decide) (by rw [c206]; decide) (by rw [c206]; rfl) (by decide) ?_
                          refine gb_aload_n dL_law_479 rfl rfl ?_
                          refine gb_aload_nS dL_law_480 rfl rfl ?_
                          refine gb_iload_n dL_law_481 rfl rfl ?_
                          refine gb_iconst (v := (1 : Int32)) dL_law_482 (by decide) ?_
                          refine gb_iadd dL_law_483 ?_
                          obtain ⟨x207, ex207, hF⟩ := gb_ltE hF
                          refine gb_topI ex207 ?_
                          obtain ⟨g208, hF⟩ := gb_gdE hF
                          obtain ⟨g209, hF⟩ := gb_gdE hF
                          refine gb_sld dL_law_484 (gb_kE g208) (gb_inE g209) ?_
                          refine gb_aload_nS dL_law_485 rfl rfl ?_
                          refine gb_iload_n dL_law_486 rfl rfl ?_
                          refine gb_iconst (v := (2 : Int32)) dL_law_487 (by decide) ?_
                          refine gb_iadd dL_law_488 ?_
                          obtain ⟨x210, ex210, hF⟩ := gb_ltE hF
                          refine gb_topI ex210 ?_
                          obtain ⟨g211, hF⟩ := gb_gdE hF
                          obtain ⟨g212, hF⟩ := gb_gdE hF
                          refine gb_sld dL_law_489 (gb_kE g211) (gb_inE g212) ?_
                          obtain ⟨g213, hF⟩ := gb_gdE hF
                          obtain ⟨x214, h215, cx214, hF⟩ := gb_bdE hF
                          refine gb_cV (As := [.int (gb_I h gb_SC x207.toNatClampNeg), .int (gb_I h gb_SC x210.toNatClampNeg)]) (S := []) (v := some (.int x214)) (h1 := h215) (S2 := [.int x214]) cf10 dL_law_490 mtX10_dark lL_58 inX10_dark seX10_dark (gb_kE g213) (fnX10_dark_ok _ _ cx214) (by decide) rfl (Nat.le_of_ble_eq_true rfl) (Nat.le_of_ble_eq_true rfl) rfl rfl ?_
                          refine gb_aload_n dL_law_493 rfl rfl ?_
                          refine gb_aload_nS dL_law_494 rfl rfl ?_
                          refine gb_iload_n dL_law_495 rfl rfl ?_
                          refine gb_iconst (v := (1 : Int32)) dL_law_496 (by decide) ?_
                          refine gb_iadd dL_law_497 ?_
                          obtain ⟨x216, ex216, hF⟩ := gb_ltE hF
                          refine gb_topI ex216 ?_
                          obtain ⟨g217, hF⟩ := gb_gdE hF
                          obtain ⟨g218, hF⟩ := gb_gdE hF
                          refine gb_sld dL_law_498 (gb_kE g217) (gb_inE g218) ?_
                          refine gb_aload_nS dL_law_499 rfl rfl ?_
                          refine gb_iload_n dL_law_500 rfl rfl ?_
                          refine gb_iconst (v := (2 : Int32)) dL_law_501 (by decide) ?_
                          refine gb_iadd dL_law_502 ?_
                          obtain ⟨x219, ex219, hF⟩ := gb_ltE hF
                          refine gb_topI ex219 ?_
                          obtain ⟨g220, hF⟩ := gb_gdE hF
                          obtain ⟨g221, hF⟩ := gb_gdE hF
                          refine gb_sld dL_law_503 (gb_kE g220) (gb_inE g221) ?_
                          obtain ⟨g222, hF⟩ := gb_gdE hF
                          obtain ⟨x223, h224, cx223, hF⟩ := gb_bdE hF
                          refine gb_cV (As := [.int (gb_I h215 gb_SC x216.toNatClampNeg), .int (gb_I h215 gb_SC x219.toNatClampNeg)]) (S := [.int x214]) (v := some (.int x223)) (h1 := h224) (S2 := [.int x223, .int x214]) cf11 dL_law_504 mtX11_dark lL_62 inX11_dark seX11_dark (gb_kE g222) (fnX11_dark_ok _ _ cx223) (by decide) rfl (Nat.le_of_ble_eq_true rfl) (Nat.le_of_ble_eq_true rfl) rfl rfl ?_
                          refine gb_icmp_eq (tgt := 966) dL_law_507 (by decide) (fun c225 => ?_) (fun c225 => ?_)
                          · replace hF := gb_ifT c225 hF
                            exact gb_wk (fbL_law_966_ok hk18 v1 v2 v3 h224 r hF) (And.intro rfl (And.intro rfl (And.intro rfl (And.intro rfl trivial))))
                          · replace hF := gb_ifF c225 hF
                            refine gb_iconst (v := (0 : Int32)) dL_law_510 (by decide) ?_
                            cases hF
                            exact gb_zret dL_law_511 rfl (by decide)
                        · replace hF := gb_ifF c206 hF
                          rcases Classical.em (x5 = 11) with c226 | c226
                          · replace hF := gb_ifT c226 hF
                            refine gb_tswIn (tgt := 512) (x := x5) dL_law_33 (by rw [c226]; decide) (by rw [c226]; decide) (by rw [c226]; rfl) (by decide) ?_
                            refine gb_aload_n dL_law_512 rfl rfl ?_
                            refine gb_aload_nS dL_law_513 rfl rfl ?_
                            refine gb_iload_n dL_law_514 rfl rfl ?_
                            refine gb_iconst (v := (1 : Int32)) dL_law_515 (by decide) ?_
                            refine gb_iadd dL_law_516 ?_
                            obtain ⟨x227, ex227, hF⟩ := gb_ltE hF
                            refine gb_topI ex227 ?_
                            obtain ⟨g228, hF⟩ := gb_gdE hF
                            obtain ⟨g229, hF⟩ := gb_gdE hF
                            refine gb_sld dL_law_517 (gb_kE g228) (gb_inE g229) ?_
                            refine gb_aload_nS dL_law_518 rfl rfl ?_
                            refine gb_iload_n dL_law_519 rfl rfl ?_
                            refine gb_iconst (v := (2 : Int32)) dL_law_520 (by decide) ?_
                            refine gb_iadd dL_law_521 ?_
                            obtain ⟨x230, ex230, hF⟩ := gb_ltE hF
                            refine gb_topI ex230 ?_
                            obtain ⟨g231, hF⟩ := gb_gdE hF
                            obtain ⟨g232, hF⟩ := gb_gdE hF
                            refine gb_sld dL_law_522 (gb_kE g231) (gb_inE g232) ?_
                            refine gb_aload_nS dL_law_523 rfl rfl ?_
                            refine gb_iload_n dL_law_524 rfl rfl ?_
                            refine gb_iconst (v := (3 : Int32)) dL_law_525 (by decide) ?_
                            refine gb_iadd dL_law_526 ?_
                            obtain ⟨x233, ex233, hF⟩ := gb_ltE hF
                            refine gb_topI ex233 ?_
                            obtain ⟨g234, hF⟩ := gb_gdE hF
                            obtain ⟨g235, hF⟩ := gb_gdE hF
                            refine gb_sld dL_law_527 (gb_kE g234) (gb_inE g235) ?_
                            obtain ⟨g236, hF⟩ := gb_gdE hF
                            obtain ⟨x237, h238, cx237, hF⟩ := gb_bdE hF
                            refine gb_cV (As := [.int (gb_I h gb_SC x227.toNatClampNeg), .int (gb_I h gb_SC x230.toNatClampNeg), .int (gb_I h gb_SC x233.toNatClampNeg)]) (S := []) (v := some (.long x237)) (h1 := h238) (S2 := [.long x237]) cf10 dL_law_528 mtX10_clicks lL_63 inX10_clicks seX10_clicks (gb_kE g236) (fnX10_clicks_ok _ _ cx237) (by decide) rfl (Nat.le_of_ble_eq_true rfl) (Nat.le_of_ble_eq_true rfl) rfl rfl ?_
                            refine gb_aload_n dL_law_531 rfl rfl ?_
                            refine gb_aload_nS dL_law_532 rfl rfl ?_
                            refine gb_iload_n dL_law_533 rfl rfl ?_
                            refine gb_iconst (v := (1 : Int32)) dL_law_534 (by decide) ?_
                            refine gb_iadd dL_law_535 ?_
                            obtain ⟨x239, ex239, hF⟩ := gb_ltE hF
                            refine gb_topI ex239 ?_
                            obtain ⟨g240, hF⟩ := gb_gdE hF
                            obtain ⟨g241, hF⟩ := gb_gdE hF
                            refine gb_sld dL_law_536 (gb_kE g240) (gb_inE g241) ?_
                            refine gb_aload_nS dL_law_537 rfl rfl ?_
                            refine gb_iload_n dL_law_538 rfl rfl ?_
                            refine gb_iconst (v := (2 : Int32)) dL_law_539 (by decide) ?_
                            refine gb_iadd dL_law_540 ?_
                            obtain ⟨x242, ex242, hF⟩ := gb_ltE hF
                            refine gb_topI ex242 ?_
                            obtain ⟨g243, hF⟩ := gb_gdE hF
                            obtain ⟨g244, hF⟩ := gb_gdE hF
                            refine gb_sld dL_law_541 (gb_kE g243) (gb_inE g244) ?_
                            refine gb_aload_nS dL_law_542 rfl rfl ?_
                            refine gb_iload_n dL_law_543 rfl rfl ?_
                            refine gb_iconst (v := (3 : Int32)) dL_law_544 (by decide) ?_
                            refine gb_iadd dL_law_545 ?_
                            obtain ⟨x245, ex245, hF⟩ := gb_ltE hF
                            refine gb_topI ex245 ?_
                            obtain ⟨g246, hF⟩ := gb_gdE hF
                            obtain ⟨g247, hF⟩ := gb_gdE hF
                            refine gb_sld dL_law_546 (gb_kE g246) (gb_inE g247) ?_
                            obtain ⟨g248, hF⟩ := gb_gdE hF
                            obtain ⟨x249, h250, cx249, hF⟩ := gb_bdE hF
                            refine gb_cV (As := [.int (gb_I h238 gb_SC x239.toNatClampNeg), .int (gb_I h238 gb_SC x242.toNatClampNeg), .int (gb_I h238 gb_SC x245.toNatClampNeg)]) (S := [.long x237]) (v := some (.long x249)) (h1 := h250) (S2 := [.long x249, .long x237]) cf11 dL_law_547 mtX11_clicks lL_67 inX11_clicks seX11_clicks (gb_kE g248) (fnX11_clicks_ok _ _ cx249) (by decide) rfl (Nat.le_of_ble_eq_true rfl) (Nat.le_of_ble_eq_true rfl) rfl rfl ?_
                            refine gb_lc_eq (tgt := 966) dL_law_550 dL_law_551 (by decide) (fun c251 => ?_) (fun c251 => ?_)
                            · replace hF := gb_ifT c251 hF
                              exact gb_wk (fbL_law_966_ok hk18 v1 v2 v3 h250 r hF) (And.intro rfl (And.intro rfl (And.intro rfl (And.intro rfl trivial))))
                            · replace hF := gb_ifF c251 hF
                              refine gb_iconst (v := (0 : Int32)) dL_law_554 (by decide) ?_
                              cases hF
                              exact gb_zret dL_law_555 rfl (by decide)
                          · replace hF := gb_ifF c226 hF
                            rcases Classical.em (x5 = 12) with c252 | c252
                            · replace hF := gb_ifT c252 hF
                              refine gb_tswIn (tgt := 556) (x := x5) dL_law_33 (by rw [c252]; decide) (by rw [c252]; decide) (by rw [c252]; rfl) (by decide) ?_
                              refine gb_aload_n dL_law_556 rfl rfl ?_
                              refine gb_aload_nS dL_law_557 rfl rfl ?_
                              refine gb_iload_n dL_law_558 rfl rfl ?_
                              refine gb_iconst (v := (1 : Int32)) dL_law_559 (by decide) ?_
                              refine gb_iadd dL_law_560 ?_
                              obtain ⟨x253, ex253, hF⟩ := gb_ltE hF
                              refine gb_topI ex253 ?_
                              obtain ⟨g254, hF⟩ := gb_gdE hF
                              obtain ⟨g255, hF⟩ := gb_gdE hF
                              refine gb_sld dL_law_561 (gb_kE g254) (gb_inE g255) ?_
                              refine gb_aload_nS dL_law_562 rfl rfl ?_
                              refine gb_iload_n dL_law_563 rfl rfl ?_
                              refine gb_iconst (v := (2 : Int32)) dL_law_564 (by decide) ?_
                              refine gb_iadd dL_law_565 ?_
                              obtain ⟨x256, ex256, hF⟩ := gb_ltE hF
                              refine gb_topI ex256 ?_
                              obtain ⟨g257, hF⟩ := gb_gdE hF
                              obtain ⟨g258, hF⟩ := gb_gdE hF
                              refine gb_sld dL_law_566 (gb_kE g257) (gb_inE g258) ?_
                              refine gb_aload_nS dL_law_567 rfl rfl ?_
                              refine gb_iload_n dL_law_568 rfl rfl ?_
                              refine gb_iconst (v := (3 : Int32)) dL_law_569 (by decide) ?_
                              refine gb_iadd dL_law_570 ?_
                              obtain ⟨x259, ex259, hF⟩ := gb_ltE hF
                              refine gb_topI ex259 ?_
                              obtain ⟨g260, hF⟩ := gb_gdE hF
                              obtain ⟨g261, hF⟩ := gb_gdE hF
                              refine gb_sld dL_law_571 (gb_kE g260) (gb_inE g261) ?_
                              obtain ⟨g262, hF⟩ := gb_gdE hF
                              obtain ⟨x263, h264, cx263, hF⟩ := gb_bdE hF
                              refine gb_cV (As := [.int (gb_I h gb_SC x253.toNatClampNeg), .int (gb_I h gb_SC x256.toNatClampNeg), .int (gb_I h gb_SC x259.toNatClampNeg)]) (S := []) (v := some (.int x263)) (h1 := h264) (S2 := [.int x263]) cf10 dL_law_572 mtX10_run lL_68 inX10_run seX10_run (gb_kE g262) (fnX10_run_ok _ _ cx263) (by decide) rfl (Nat.le_of_ble_eq_true rfl) (Nat.le_of_ble_eq_true rfl) rfl rfl ?_
                              refine gb_aload_n dL_law_575 rfl rfl ?_
                              refine gb_aload_nS dL_law_576 rfl rfl ?_
                              refine gb_iload_n dL_law_577 rfl rfl ?_
                              refine gb_iconst (v := (1 : Int32)) dL_law_578 (by decide) ?_
                              refine gb_iadd dL_law_579 ?_
                              obtain ⟨x265, ex265, hF⟩ := gb_ltE hF
                              refine gb_topI ex265 ?_
                              obtain ⟨g266, hF⟩ := gb_gdE hF
                              obtain ⟨g267, hF⟩ := gb_gdE hF
                              refine gb_sld dL_law_580 (gb_kE g266) (gb_inE g267) ?_
                              refine gb_aload_nS dL_law_581 rfl rfl ?_
                              refine gb_iload_n dL_law_582 rfl rfl ?_
                              refine gb_iconst (v := (2 : Int32)) dL_law_583 (by decide) ?_
                              refine gb_iadd dL_law_584 ?_
                              obtain ⟨x268, ex268, hF⟩ := gb_ltE hF
                              refine gb_topI ex268 ?_
                              obtain ⟨g269, hF⟩ := gb_gdE hF
                              obtain ⟨g270, hF⟩ := gb_gdE hF
                              refine gb_sld dL_law_585 (gb_kE g269) (gb_inE g270) ?_
                              refine gb_aload_nS dL_law_586 rfl rfl ?_
                              refine gb_iload_n dL_law_587 rfl rfl ?_
                              refine gb_iconst (v := (3 : Int32)) dL_law_588 (by decide) ?_
                              refine gb_iadd dL_law_589 ?_
                              obtain ⟨x271, ex271, hF⟩ := gb_ltE hF
                              refine gb_topI ex271 ?_
                              obtain ⟨g272, hF⟩ := gb_gdE hF
                              obtain ⟨g273, hF⟩ := gb_gdE hF
                              refine gb_sld dL_law_590 (gb_kE g272) (gb_inE g273) ?_
                              obtain ⟨g274, hF⟩ := gb_gdE hF
                              obtain ⟨x275, h276, cx275, hF⟩ := gb_bdE hF
                              refine gb_cV (As := [.int (gb_I h264 gb_SC x265.toNatClampNeg), .int (gb_I h264 gb_SC x268.toNatClampNeg), .int (gb_I h264 gb_SC x271.toNatClampNeg)]) (S := [.int x263]) (v := some (.int x275)) (h1 := h276) (S2 := [.int x275, .int x263]) cf11 dL_law_591 mtX11_run lL_72 inX11_run seX11_run (gb_kE g274) (fnX11_run_ok _ _ cx275) (by decide) rfl (Nat.le_of_ble_eq_true rfl) (Nat.le_of_ble_eq_true rfl) rfl rfl ?_
                              refine gb_icmp_eq (tgt := 966) dL_law_594 (by decide) (fun c277 => ?_) (fun c277 => ?_)
                              · replace hF := gb_ifT c277 hF
                                exact gb_wk (fbL_law_966_ok hk18 v1 v2 v3 h276 r hF) (And.intro rfl (And.intro rfl (And.intro rfl (And.intro rfl trivial))))
                              · replace hF := gb_ifF c277 hF
                                refine gb_iconst (v := (0 : Int32)) dL_law_597 (by decide) ?_
                                cases hF
                                exact gb_zret dL_law_598 rfl (by decide)
                            · replace hF := gb_ifF c252 hF
                              rcases Classical.em (x5 = 13) with c278 | c278
                              · replace hF := gb_ifT c278 hF
                                refine gb_tswIn (tgt := 599) (x := x5) dL_law_33 (by rw [c278]; decide) (by rw [c278]; decide) (by rw [c278]; rfl) (by decide) ?_
                                refine gb_aload_n dL_law_599 rfl rfl ?_
                                refine gb_aload_nS dL_law_600 rfl rfl ?_
                                refine gb_iload_n dL_law_601 rfl rfl ?_
                                refine gb_iconst (v := (1 : Int32)) dL_law_602 (by decide) ?_
                                refine gb_iadd dL_law_603 ?_
                                obtain ⟨x279, ex279, hF⟩ := gb_ltE hF
                                refine gb_topI ex279 ?_
                                obtain ⟨g280, hF⟩ := gb_gdE hF
                                obtain ⟨g281, hF⟩ := gb_gdE hF
                                refine gb_sld dL_law_604 (gb_kE g280) (gb_inE g281) ?_
                                refine gb_aload_nS dL_law_605 rfl rfl ?_
                                refine gb_iload_n dL_law_606 rfl rfl ?_
                                refine gb_iconst (v := (2 : Int32)) dL_law_607 (by decide) ?_
                                refine gb_iadd dL_law_608 ?_
                                obtain ⟨x282, ex282, hF⟩ := gb_ltE hF
                                refine gb_topI ex282 ?_
                                obtain ⟨g283, hF⟩ := gb_gdE hF
                                obtain ⟨g284, hF⟩ := gb_gdE hF
                                refine gb_sld dL_law_609 (gb_kE g283) (gb_inE g284) ?_
                                refine gb_aload_nS dL_law_610 rfl rfl ?_
                                refine gb_iload_n dL_law_611 rfl rfl ?_
                                refine gb_iconst (v := (3 : Int32)) dL_law_612 (by decide) ?_
                                refine gb_iadd dL_law_613 ?_
                                obtain ⟨x285, ex285, hF⟩ := gb_ltE hF
                                refine gb_topI ex285 ?_
                                obtain ⟨g286, hF⟩ := gb_gdE hF
                                obtain ⟨g287, hF⟩ := gb_gdE hF
                                refine gb_sld dL_law_614 (gb_kE g286) (gb_inE g287) ?_
                                obtain ⟨g288, hF⟩ := gb_gdE hF
                                obtain ⟨x289, h290, cx289, hF⟩ := gb_bdE hF
                                refine gb_cV (As := [.int (gb_I h gb_SC x279.toNatClampNeg), .int (gb_I h gb_SC x282.toNatClampNeg), .int (gb_I h gb_SC x285.toNatClampNeg)]) (S := []) (v := some (.int x289)) (h1 := h290) (S2 := [.int x289]) cf10 dL_law_615 mtX10_counted lL_73 inX10_counted seX10_counted (gb_kE g288) (fnX10_counted_ok _ _ cx289) (by decide) rfl (Nat.le_of_ble_eq_true rfl) (Nat.le_of_ble_eq_true rfl) rfl rfl ?_
                                refine gb_aload_n dL_law_618 rfl rfl ?_
                                refine gb_aload_nS dL_law_619 rfl rfl ?_
                                refine gb_iload_n dL_law_620 rfl rfl ?_
                                refine gb_iconst (v := (1 : Int32)) dL_law_621 (by decide) ?_
                                refine gb_iadd dL_law_622 ?_
                                obtain ⟨x291, ex291, hF⟩ := gb_ltE hF
                                refine gb_topI ex291 ?_
                                obtain ⟨g292, hF⟩ := gb_gdE hF
                                obtain ⟨g293, hF⟩ := gb_gdE hF
                                refine gb_sld dL_law_623 (gb_kE g292) (gb_inE g293) ?_
                                refine gb_aload_nS dL_law_624 rfl rfl ?_
                                refine gb_iload_n dL_law_625 rfl rfl ?_
                                refine gb_iconst (v := (2 : Int32)) dL_law_626 (by decide) ?_
                                refine gb_iadd dL_law_627 ?_
                                obtain ⟨x294, ex294, hF⟩ := gb_ltE hF
                                refine gb_topI ex294 ?_
                                obtain ⟨g295, hF⟩ := gb_gdE hF
                                obtain ⟨g296, hF⟩ := gb_gdE hF
                                refine gb_sld dL_law_628 (gb_kE g295) (gb_inE g296) ?_
                                refine gb_aload_nS dL_law_629 rfl rfl ?_
                                refine gb_iload_n dL_law_630 rfl rfl ?_
                                refine gb_iconst (v := (3 : Int32)) dL_law_631 (by decide) ?_
                                refine gb_iadd dL_law_632 ?_
                                obtain ⟨x297, ex297, hF⟩ := gb_ltE hF
                                refine gb_topI ex297 ?_
                                obtain ⟨g298, hF⟩ := gb_gdE hF
                                obtain ⟨g299, hF⟩ := gb_gdE hF
                                refine gb_sld dL_law_633 (gb_kE g298) (gb_inE g299) ?_
                                obtain ⟨g300, hF⟩ := gb_gdE hF
                                obtain ⟨x301, h302, cx301, hF⟩ := gb_bdE hF
                                refine gb_cV (As := [.int (gb_I h290 gb_SC x291.toNatClampNeg), .int (gb_I h290 gb_SC x294.toNatClampNeg), .int (gb_I h290 gb_SC x297.toNatClampNeg)]) (S := [.int x289]) (v := some (.int x301)) (h1 := h302) (S2 := [.int x301, .int x289]) cf11 dL_law_634 mtX11_counted lL_76 inX11_counted seX11_counted (gb_kE g300) (fnX11_counted_ok _ _ cx301) (by decide) rfl (Nat.le_of_ble_eq_true rfl) (Nat.le_of_ble_eq_true rfl) rfl rfl ?_
                                refine gb_icmp_eq (tgt := 966) dL_law_637 (by decide) (fun c303 => ?_) (fun c303 => ?_)
                                · replace hF := gb_ifT c303 hF
                                  exact gb_wk (fbL_law_966_ok hk18 v1 v2 v3 h302 r hF) (And.intro rfl (And.intro rfl (And.intro rfl (And.intro rfl trivial))))
                                · replace hF := gb_ifF c303 hF
                                  refine gb_iconst (v := (0 : Int32)) dL_law_640 (by decide) ?_
                                  cases hF
                                  exact gb_zret dL_law_641 rfl (by decide)
                              · replace hF := gb_ifF c278 hF
                                rcases Classical.em (x5 = 14) with c304 | c304
                                · replace hF := gb_ifT c304 hF
                                  refine gb_tswIn (tgt := 642) (x := x5) dL_law_33 (by rw [c304]; decide) (by rw [c304]; decide) (by rw [c304]; rfl) (by decide) ?_
                                  refine gb_aload_n dL_law_642 rfl rfl ?_
                                  refine gb_aload_nS dL_law_643 rfl rfl ?_
                                  refine gb_iload_n dL_law_644 rfl rfl ?_
                                  refine gb_iconst (v := (1 : Int32)) dL_law_645 (by decide) ?_
                                  refine gb_iadd dL_law_646 ?_
                                  obtain ⟨x305, ex305, hF⟩ := gb_ltE hF
                                  refine gb_topI ex305 ?_
                                  obtain ⟨g306, hF⟩ := gb_gdE hF
                                  obtain ⟨g307, hF⟩ := gb_gdE hF
                                  refine gb_sld dL_law_647 (gb_kE g306) (gb_inE g307) ?_
                                  refine gb_aload_nS dL_law_648 rfl rfl ?_
                                  refine gb_iload_n dL_law_649 rfl rfl ?_
                                  refine gb_iconst (v := (2 : Int32)) dL_law_650 (by decide) ?_
                                  refine gb_iadd dL_law_651 ?_
                                  obtain ⟨x308, ex308, hF⟩ := gb_ltE hF
                                  refine gb_topI ex308 ?_
                                  obtain ⟨g309, hF⟩ := gb_gdE hF
                                  obtain ⟨g310, hF⟩ := gb_gdE hF
                                  refine gb_sld dL_law_652 (gb_kE g309) (gb_inE g310) ?_
                                  obtain ⟨g311, hF⟩ := gb_gdE hF
                                  obtain ⟨x312, h313, cx312, hF⟩ := gb_bdE hF
                                  refine gb_cV (As := [.int (gb_I h gb_SC x305.toNatClampNeg), .int (gb_I h gb_SC x308.toNatClampNeg)]) (S := []) (v := some (.int x312)) (h1 := h313) (S2 := [.int x312]) cf10 dL_law_653 mtX10_wrong lL_77 inX10_wrong seX10_wrong (gb_kE g311) (fnX10_wrong_ok _ _ cx312) (by decide) rfl (Nat.le_of_ble_eq_true rfl) (Nat.le_of_ble_eq_true rfl) rfl rfl ?_
                                  refine gb_aload_n dL_law_656 rfl rfl ?_
                                  refine gb_aload_nS dL_law_657 rfl rfl ?_
                                  refine gb_iload_n dL_law_658 rfl rfl ?_
                                  refine gb_iconst (v := (1 : Int32)) dL_law_659 (by decide) ?_
                                  refine gb_iadd dL_law_660 ?_
                                  obtain ⟨x314, ex314, hF⟩ := gb_ltE hF
                                  refine gb_topI ex314 ?_
                                  obtain ⟨g315, hF⟩ := gb_gdE hF
                                  obtain ⟨g316, hF⟩ := gb_gdE hF
                                  refine gb_sld dL_law_661 (gb_kE g315) (gb_inE g316) ?_
                                  refine gb_aload_nS dL_law_662 rfl rfl ?_
                                  refine gb_iload_n dL_law_663 rfl rfl ?_
                                  refine gb_iconst (v := (2 : Int32)) dL_law_664 (by decide) ?_
                                  refine gb_iadd dL_law_665 ?_
                                  obtain ⟨x317, ex317, hF⟩ := gb_ltE hF
                                  refine gb_topI ex317 ?_
                                  obtain ⟨g318, hF⟩ := gb_gdE hF
                                  obtain ⟨g319, hF⟩ := gb_gdE hF
                                  refine gb_sld dL_law_666 (gb_kE g318) (gb_inE g319) ?_
                                  obtain ⟨g320, hF⟩ := gb_gdE hF
                                  obtain ⟨x321, h322, cx321, hF⟩ := gb_bdE hF
                                  refine gb_cV (As := [.int (gb_I h313 gb_SC x314.toNatClampNeg), .int (gb_I h313 gb_SC x317.toNatClampNeg)]) (S := [.int x312]) (v := some (.int x321)) (h1 := h322) (S2 := [.int x321, .int x312]) cf11 dL_law_667 mtX11_wrong lL_80 inX11_wrong seX11_wrong (gb_kE g320) (fnX11_wrong_ok _ _ cx321) (by decide) rfl (Nat.le_of_ble_eq_true rfl) (Nat.le_of_ble_eq_true rfl) rfl rfl ?_
                                  refine gb_icmp_eq (tgt := 966) dL_law_670 (by decide) (fun c323 => ?_) (fun c323 => ?_)
                                  · replace hF := gb_ifT c323 hF
                                    exact gb_wk (fbL_law_966_ok hk18 v1 v2 v3 h322 r hF) (And.intro rfl (And.intro rfl (And.intro rfl (And.intro rfl trivial))))
                                  · replace hF := gb_ifF c323 hF
                                    refine gb_iconst (v := (0 : Int32)) dL_law_673 (by decide) ?_
                                    cases hF
                                    exact gb_zret dL_law_674 rfl (by decide)
                                · replace hF := gb_ifF c304 hF
                                  rcases Classical.em (x5 = 15) with c324 | c324
                                  · replace hF := gb_ifT c324 hF
                                    refine gb_tswIn (tgt := 675) (x := x5) dL_law_33 (by rw [c324]; decide) (by rw [c324]; decide) (by rw [c324]; rfl) (by decide) ?_
                                    refine gb_aload_n dL_law_675 rfl rfl ?_
                                    refine gb_aload_nS dL_law_676 rfl rfl ?_
                                    refine gb_iload_n dL_law_677 rfl rfl ?_
                                    refine gb_iconst (v := (1 : Int32)) dL_law_678 (by decide) ?_
                                    refine gb_iadd dL_law_679 ?_
                                    obtain ⟨x325, ex325, hF⟩ := gb_ltE hF
                                    refine gb_topI ex325 ?_
                                    obtain ⟨g326, hF⟩ := gb_gdE hF
                                    obtain ⟨g327, hF⟩ := gb_gdE hF
                                    refine gb_sld dL_law_680 (gb_kE g326) (gb_inE g327) ?_
                                    refine gb_aload_nS dL_law_681 rfl rfl ?_
                                    refine gb_iload_n dL_law_682 rfl rfl ?_
                                    refine gb_iconst (v := (2 : Int32)) dL_law_683 (by decide) ?_
                                    refine gb_iadd dL_law_684 ?_
                                    obtain ⟨x328, ex328, hF⟩ := gb_ltE hF
                                    refine gb_topI ex328 ?_
                                    obtain ⟨g329, hF⟩ := gb_gdE hF
                                    obtain ⟨g330, hF⟩ := gb_gdE hF
                                    refine gb_sld dL_law_685 (gb_kE g329) (gb_inE g330) ?_
                                    obtain ⟨g331, hF⟩ := gb_gdE hF
                                    obtain ⟨x332, h333, cx332, hF⟩ := gb_bdE hF
                                    refine gb_cV (As := [.int (gb_I h gb_SC x325.toNatClampNeg), .int (gb_I h gb_SC x328.toNatClampNeg)]) (S := []) (v := some (.int x332)) (h1 := h333) (S2 := [.int x332]) cf10 dL_law_686 mtX10_misfit lL_81 inX10_misfit seX10_misfit (gb_kE g331) (fnX10_misfit_ok _ _ cx332) (by decide) rfl (Nat.le_of_ble_eq_true rfl) (Nat.le_of_ble_eq_true rfl) rfl rfl ?_
                                    refine gb_aload_n dL_law_689 rfl rfl ?_
                                    refine gb_aload_nS dL_law_690 rfl rfl ?_
                                    refine gb_iload_n dL_law_691 rfl rfl ?_
                                    refine gb_iconst (v := (1 : Int32)) dL_law_692 (by decide) ?_
                                    refine gb_iadd dL_law_693 ?_
                                    obtain ⟨x334, ex334, hF⟩ := gb_ltE hF
                                    refine gb_topI ex334 ?_
                                    obtain ⟨g335, hF⟩ := gb_gdE hF
                                    obtain ⟨g336, hF⟩ := gb_gdE hF
                                    refine gb_sld dL_law_694 (gb_kE g335) (gb_inE g336) ?_
                                    refine gb_aload_nS dL_law_695 rfl rfl ?_
                                    refine gb_iload_n dL_law_696 rfl rfl ?_
                                    refine gb_iconst (v := (2 : Int32)) dL_law_697 (by decide) ?_
                                    refine gb_iadd dL_law_698 ?_
                                    obtain ⟨x337, ex337, hF⟩ := gb_ltE hF
                                    refine gb_topI ex337 ?_
                                    obtain ⟨g338, hF⟩ := gb_gdE hF
                                    obtain ⟨g339, hF⟩ := gb_gdE hF
                                    refine gb_sld dL_law_699 (gb_kE g338) (gb_inE g339) ?_
                                    obtain ⟨g340, hF⟩ := gb_gdE hF
                                    obtain ⟨x341, h342, cx341, hF⟩ := gb_bdE hF
                                    refine gb_cV (As := [.int (gb_I h333 gb_SC x334.toNatClampNeg), .int (gb_I h333 gb_SC x337.toNatClampNeg)]) (S := [.int x332]) (v := some (.int x341)) (h1 := h342) (S2 := [.int x341, .int x332]) cf11 dL_law_700 mtX11_misfit lL_84 inX11_misfit seX11_misfit (gb_kE g340) (fnX11_misfit_ok _ _ cx341) (by decide) rfl (Nat.le_of_ble_eq_true rfl) (Nat.le_of_ble_eq_true rfl) rfl rfl ?_
                                    refine gb_icmp_eq (tgt := 966) dL_law_703 (by decide) (fun c343 => ?_) (fun c343 => ?_)
                                    · replace hF := gb_ifT c343 hF
                                      exact gb_wk (fbL_law_966_ok hk18 v1 v2 v3 h342 r hF) (And.intro rfl (And.intro rfl (And.intro rfl (And.intro rfl trivial))))
                                    · replace hF := gb_ifF c343 hF
                                      refine gb_iconst (v := (0 : Int32)) dL_law_706 (by decide) ?_
                                      cases hF
                                      exact gb_zret dL_law_707 rfl (by decide)
                                  · replace hF := gb_ifF c324 hF
                                    rcases Classical.em (x5 = 16) with c344 | c344
                                    · replace hF := gb_ifT c344 hF
                                      refine gb_tswIn (tgt := 708) (x := x5) dL_law_33 (by rw [c344]; decide) (by rw [c344]; decide) (by rw [c344]; rfl) (by decide) ?_
                                      refine gb_aload_n dL_law_708 rfl rfl ?_
                                      refine gb_aload_nS dL_law_709 rfl rfl ?_
                                      refine gb_iload_n dL_law_710 rfl rfl ?_
                                      refine gb_iconst (v := (1 : Int32)) dL_law_711 (by decide) ?_
                                      refine gb_iadd dL_law_712 ?_
                                      obtain ⟨x345, ex345, hF⟩ := gb_ltE hF
                                      refine gb_topI ex345 ?_
                                      obtain ⟨g346, hF⟩ := gb_gdE hF
                                      obtain ⟨g347, hF⟩ := gb_gdE hF
                                      refine gb_sld dL_law_713 (gb_kE g346) (gb_inE g347) ?_
                                      obtain ⟨g348, hF⟩ := gb_gdE hF
                                      obtain ⟨x349, h350, cx349, hF⟩ := gb_bdE hF
                                      refine gb_cV (As := [.int (gb_I h gb_SC x345.toNatClampNeg)]) (S := []) (v := some (.int x349)) (h1 := h350) (S2 := [.int x349]) cf10 dL_law_714 mtX10_fits lL_85 inX10_fits seX10_fits (gb_kE g348) (fnX10_fits_ok _ _ cx349) (by decide) rfl (Nat.le_of_ble_eq_true rfl) (Nat.le_of_ble_eq_true rfl) rfl rfl ?_
                                      refine gb_aload_n dL_law_717 rfl rfl ?_
                                      refine gb_aload_nS dL_law_718 rfl rfl ?_
                                      refine gb_iload_n dL_law_719 rfl rfl ?_
                                      refine gb_iconst (v := (1 : Int32)) dL_law_720 (by decide) ?_
                                      refine gb_iadd dL_law_721 ?_
                                      obtain ⟨x351, ex351, hF⟩ := gb_ltE hF
                                      refine gb_topI ex351 ?_
                                      obtain ⟨g352, hF⟩ := gb_gdE hF
                                      obtain ⟨g353, hF⟩ := gb_gdE hF
                                      refine gb_sld dL_law_722 (gb_kE g352) (gb_inE g353) ?_
                                      obtain ⟨g354, hF⟩ := gb_gdE hF
                                      obtain ⟨x355, h356, cx355, hF⟩ := gb_bdE hF
                                      refine gb_cV (As := [.int (gb_I h350 gb_SC x351.toNatClampNeg)]) (S := [.int x349]) (v := some (.int x355)) (h1 := h356) (S2 := [.int x355, .int x349]) cf11 dL_law_723 mtX11_fits lL_88 inX11_fits seX11_fits (gb_kE g354) (fnX11_fits_ok _ _ cx355) (by decide) rfl (Nat.le_of_ble_eq_true rfl) (Nat.le_of_ble_eq_true rfl) rfl rfl ?_
                                      refine gb_icmp_eq (tgt := 966) dL_law_726 (by decide) (fun c357 => ?_) (fun c357 => ?_)
                                      · replace hF := gb_ifT c357 hF
                                        exact gb_wk (fbL_law_966_ok hk18 v1 v2 v3 h356 r hF) (And.intro rfl (And.intro rfl (And.intro rfl (And.intro rfl trivial))))
                                      · replace hF := gb_ifF c357 hF
                                        refine gb_iconst (v := (0 : Int32)) dL_law_729 (by decide) ?_
                                        cases hF
                                        exact gb_zret dL_law_730 rfl (by decide)
                                    · replace hF := gb_ifF c344 hF
                                      rcases Classical.em (x5 = 17) with c358 | c358
                                      · replace hF := gb_ifT c358 hF
                                        refine gb_tswIn (tgt := 731) (x := x5) dL_law_33 (by rw [c358]; decide) (by rw [c358]; decide) (by rw [c358]; rfl) (by decide) ?_
                                        refine gb_aload_n dL_law_731 rfl rfl ?_
                                        refine gb_aload_nS dL_law_732 rfl rfl ?_
                                        refine gb_iload_n dL_law_733 rfl rfl ?_
                                        refine gb_iconst (v := (1 : Int32)) dL_law_734 (by decide) ?_
                                        refine gb_iadd dL_law_735 ?_
                                        obtain ⟨x359, ex359, hF⟩ := gb_ltE hF
                                        refine gb_topI ex359 ?_
                                        obtain ⟨g360, hF⟩ := gb_gdE hF
                                        obtain ⟨g361, hF⟩ := gb_gdE hF
                                        refine gb_sld dL_law_736 (gb_kE g360) (gb_inE g361) ?_
                                        refine gb_aload_nS dL_law_737 rfl rfl ?_
                                        refine gb_iload_n dL_law_738 rfl rfl ?_
                                        refine gb_iconst (v := (2 : Int32)) dL_law_739 (by decide) ?_
                                        refine gb_iadd dL_law_740 ?_
                                        obtain ⟨x362, ex362, hF⟩ := gb_ltE hF
                                        refine gb_topI ex362 ?_
                                        obtain ⟨g363, hF⟩ := gb_gdE hF
                                        obtain ⟨g364, hF⟩ := gb_gdE hF
                                        refine gb_sld dL_law_741 (gb_kE g363) (gb_inE g364) ?_
                                        refine gb_aload_nS dL_law_742 rfl rfl ?_
                                        refine gb_iload_n dL_law_743 rfl rfl ?_
                                        refine gb_iconst (v := (3 : Int32)) dL_law_744 (by decide) ?_
                                        refine gb_iadd dL_law_745 ?_
                                        obtain ⟨x365, ex365, hF⟩ := gb_ltE hF
                                        refine gb_topI ex365 ?_
                                        obtain ⟨g366, hF⟩ := gb_gdE hF
                                        obtain ⟨g367, hF⟩ := gb_gdE hF
                                        refine gb_sld dL_law_746 (gb_kE g366) (gb_inE g367) ?_
                                        obtain ⟨g368, hF⟩ := gb_gdE hF
                                        obtain ⟨x369, h370, cx369, hF⟩ := gb_bdE hF
                                        refine gb_cV (As := [.int (gb_I h gb_SC x359.toNatClampNeg), .int (gb_I h gb_SC x362.toNatClampNeg), .int (gb_I h gb_SC x365.toNatClampNeg)]) (S := []) (v := some (.int x369)) (h1 := h370) (S2 := [.int x369]) cf10 dL_law_747 mtX10_pairs lL_89 inX10_pairs seX10_pairs (gb_kE g368) (fnX10_pairs_ok _ _ cx369) (by decide) rfl (Nat.le_of_ble_eq_true rfl) (Nat.le_of_ble_eq_true rfl) rfl rfl ?_
                                        refine gb_aload_n dL_law_750 rfl rfl ?_
                                        refine gb_aload_nS dL_law_751 rfl rfl ?_
                                        refine gb_iload_n dL_law_752 rfl rfl ?_
                                        refine gb_iconst (v := (1 : Int32)) dL_law_753 (by decide) ?_
                                        refine gb_iadd dL_law_754 ?_
                                        obtain ⟨x371, ex371, hF⟩ := gb_ltE hF
                                        refine gb_topI ex371 ?_
                                        obtain ⟨g372, hF⟩ := gb_gdE hF
                                        obtain ⟨g373, hF⟩ := gb_gdE hF
                                        refine gb_sld dL_law_755 (gb_kE g372) (gb_inE g373) ?_
                                        refine gb_aload_nS dL_law_756 rfl rfl ?_
                                        refine gb_iload_n dL_law_757 rfl rfl ?_
                                        refine gb_iconst (v := (2 : Int32)) dL_law_758 (by decide) ?_
                                        refine gb_iadd dL_law_759 ?_
                                        obtain ⟨x374, ex374, hF⟩ := gb_ltE hF
                                        refine gb_topI ex374 ?_
                                        obtain ⟨g375, hF⟩ := gb_gdE hF
                                        obtain ⟨g376, hF⟩ := gb_gdE hF
                                        refine gb_sld dL_law_760 (gb_kE g375) (gb_inE g376) ?_
                                        refine gb_aload_nS dL_law_761 rfl rfl ?_
                                        refine gb_iload_n dL_law_762 rfl rfl ?_
                                        refine gb_iconst (v := (3 : Int32)) dL_law_763 (by decide) ?_
                                        refine gb_iadd dL_law_764 ?_
                                        obtain ⟨x377, ex377, hF⟩ := gb_ltE hF
                                        refine gb_topI ex377 ?_
                                        obtain ⟨g378, hF⟩ := gb_gdE hF
                                        obtain ⟨g379, hF⟩ := gb_gdE hF
                                        refine gb_sld dL_law_765 (gb_kE g378) (gb_inE g379) ?_
                                        obtain ⟨g380, hF⟩ := gb_gdE hF
                                        obtain ⟨x381, h382, cx381, hF⟩ := gb_bdE hF
                                        refine gb_cV (As := [.int (gb_I h370 gb_SC x371.toNatClampNeg), .int (gb_I h370 gb_SC x374.toNatClampNeg), .int (gb_I h370 gb_SC x377.toNatClampNeg)]) (S := [.int x369]) (v := some (.int x381)) (h1 := h382) (S2 := [.int x381, .int x369]) cf11 dL_law_766 mtX11_pairs lL_92 inX11_pairs seX11_pairs (gb_kE g380) (fnX11_pairs_ok _ _ cx381) (by decide) rfl (Nat.le_of_ble_eq_true rfl) (Nat.le_of_ble_eq_true rfl) rfl rfl ?_
                                        refine gb_icmp_eq (tgt := 966) dL_law_769 (by decide) (fun c383 => ?_) (fun c383 => ?_)
                                        · replace hF := gb_ifT c383 hF
                                          exact gb_wk (fbL_law_966_ok hk18 v1 v2 v3 h382 r hF) (And.intro rfl (And.intro rfl (And.intro rfl (And.intro rfl trivial))))
                                        · replace hF := gb_ifF c383 hF
                                          refine gb_iconst (v := (0 : Int32)) dL_law_772 (by decide) ?_
                                          cases hF
                                          exact gb_zret dL_law_773 rfl (by decide)
                                      · replace hF := gb_ifF c358 hF
                                        rcases Classical.em (x5 = 18) with c384 | c384
                                        · replace hF := gb_ifT c384 hF
                                          refine gb_tswIn (tgt := 774) (x := x5) dL_law_33 (by rw [c384]; decide) (by rw [c384]; decide) (by rw [c384]; rfl) (by decide) ?_
                                          refine gb_aload_n dL_law_774 rfl rfl ?_
                                          refine gb_aload_nS dL_law_775 rfl rfl ?_
                                          refine gb_iload_n dL_law_776 rfl rfl ?_
                                          refine gb_iconst (v := (1 : Int32)) dL_law_777 (by decide) ?_
                                          refine gb_iadd dL_law_778 ?_
                                          obtain ⟨x385, ex385, hF⟩ := gb_ltE hF
                                          refine gb_topI ex385 ?_
                                          obtain ⟨g386, hF⟩ := gb_gdE hF
                                          obtain ⟨g387, hF⟩ := gb_gdE hF
                                          refine gb_sld dL_law_779 (gb_kE g386) (gb_inE g387) ?_
                                          refine gb_aload_nS dL_law_780 rfl rfl ?_
                                          refine gb_iload_n dL_law_781 rfl rfl ?_
                                          refine gb_iconst (v := (2 : Int32)) dL_law_782 (by decide) ?_
                                          refine gb_iadd dL_law_783 ?_
                                          obtain ⟨x388, ex388, hF⟩ := gb_ltE hF
                                          refine gb_topI ex388 ?_
                                          obtain ⟨g389, hF⟩ := gb_gdE hF
                                          obtain ⟨g390, hF⟩ := gb_gdE hF
                                          refine gb_sld dL_law_784 (gb_kE g389) (gb_inE g390) ?_
                                          obtain ⟨g391, hF⟩ := gb_gdE hF
                                          obtain ⟨x392, h393, cx392, hF⟩ := gb_bdE hF
                                          refine gb_cV (As := [.int (gb_I h gb_SC x385.toNatClampNeg), .int (gb_I h gb_SC x388.toNatClampNeg)]) (S := []) (v := some (.long x392)) (h1 := h393) (S2 := [.long x392]) cf10 dL_law_785 mtX10_notes lL_93 inX10_notes seX10_notes (gb_kE g391) (fnX10_notes_ok _ _ cx392) (by decide) rfl (Nat.le_of_ble_eq_true rfl) (Nat.le_of_ble_eq_true rfl) rfl rfl ?_
                                          refine gb_aload_n dL_law_788 rfl rfl ?_
                                          refine gb_aload_nS dL_law_789 rfl rfl ?_
                                          refine gb_iload_n dL_law_790 rfl rfl ?_
                                          refine gb_iconst (v := (1 : Int32)) dL_law_791 (by decide) ?_
                                          refine gb_iadd dL_law_792 ?_
                                          obtain ⟨x394, ex394, hF⟩ := gb_ltE hF
                                          refine gb_topI ex394 ?_
                                          obtain ⟨g395, hF⟩ := gb_gdE hF
                                          obtain ⟨g396, hF⟩ := gb_gdE hF
                                          refine gb_sld dL_law_793 (gb_kE g395) (gb_inE g396) ?_
                                          refine gb_aload_nS dL_law_794 rfl rfl ?_
                                          refine gb_iload_n dL_law_795 rfl rfl ?_
                                          refine gb_iconst (v := (2 : Int32)) dL_law_796 (by decide) ?_
                                          refine gb_iadd dL_law_797 ?_
                                          obtain ⟨x397, ex397, hF⟩ := gb_ltE hF
                                          refine gb_topI ex397 ?_
                                          obtain ⟨g398, hF⟩ := gb_gdE hF
                                          obtain ⟨g399, hF⟩ := gb_gdE hF
                                          refine gb_sld dL_law_798 (gb_kE g398) (gb_inE g399) ?_
                                          obtain ⟨g400, hF⟩ := gb_gdE hF
                                          obtain ⟨x401, h402, cx401, hF⟩ := gb_bdE hF
                                          refine gb_cV (As := [.int (gb_I h393 gb_SC x394.toNatClampNeg), .int (gb_I h393 gb_SC x397.toNatClampNeg)]) (S := [.long x392]) (v := some (.long x401)) (h1 := h402) (S2 := [.long x401, .long x392]) cf11 dL_law_799 mtX11_notes lL_97 inX11_notes seX11_notes (gb_kE g400) (fnX11_notes_ok _ _ cx401) (by decide) rfl (Nat.le_of_ble_eq_true rfl) (Nat.le_of_ble_eq_true rfl) rfl rfl ?_
                                          refine gb_lc_eq (tgt := 966) dL_law_802 dL_law_803 (by decide) (fun c403 => ?_) (fun c403 => ?_)
                                          · replace hF := gb_ifT c403 hF
                                            exact gb_wk (fbL_law_966_ok hk18 v1 v2 v3 h402 r hF) (And.intro rfl (And.intro rfl (And.intro rfl (And.intro rfl trivial))))
                                          · replace hF := gb_ifF c403 hF
                                            refine gb_iconst (v := (0 : Int32)) dL_law_806 (by decide) ?_
                                            cases hF
                                            exact gb_zret dL_law_807 rfl (by decide)
                                        · replace hF := gb_ifF c384 hF
                                          rcases Classical.em (x5 = 19) with c404 | c404
                                          · replace hF := gb_ifT c404 hF
                                            refine gb_tswIn (tgt := 808) (x := x5) dL_law_33 (by rw [c404]; decide) (by rw [c404]; decide) (by rw [c404]; rfl) (by decide) ?_
                                            refine gb_aload_n dL_law_808 rfl rfl ?_
                                            refine gb_aload_nS dL_law_809 rfl rfl ?_
                                            refine gb_iload_n dL_law_810 rfl rfl ?_
                                            refine gb_iconst (v := (1 : Int32)) dL_law_811 (by decide) ?_
                                            refine gb_iadd dL_law_812 ?_
                                            obtain ⟨x405, ex405, hF⟩ := gb_ltE hF
                                            refine gb_topI ex405 ?_
                                            obtain ⟨g406, hF⟩ := gb_gdE hF
                                            obtain ⟨g407, hF⟩ := gb_gdE hF
                                            refine gb_sld dL_law_813 (gb_kE g406) (gb_inE g407) ?_
                                            refine gb_aload_nS dL_law_814 rfl rfl ?_
                                            refine gb_iload_n dL_law_815 rfl rfl ?_
                                            refine gb_iconst (v := (2 : Int32)) dL_law_816 (by decide) ?_
                                            refine gb_iadd dL_law_817 ?_
                                            obtain ⟨x408, ex408, hF⟩ := gb_ltE hF
                                            refine gb_topI ex408 ?_
                                            obtain ⟨g409, hF⟩ := gb_gdE hF
                                            obtain ⟨g410, hF⟩ := gb_gdE hF
                                            refine gb_sld dL_law_818 (gb_kE g409) (gb_inE g410) ?_
                                            refine gb_aload_nS dL_law_819 rfl rfl ?_
                                            refine gb_iload_n dL_law_820 rfl rfl ?_
                                            refine gb_iconst (v := (3 : Int32)) dL_law_821 (by decide) ?_
                                            refine gb_iadd dL_law_822 ?_
                                            obtain ⟨x411, ex411, hF⟩ := gb_ltE hF
                                            refine gb_topI ex411 ?_
                                            obtain ⟨g412, hF⟩ := gb_gdE hF
                                            obtain ⟨g413, hF⟩ := gb_gdE hF
                                            refine gb_sld dL_law_823 (gb_kE g412) (gb_inE g413) ?_
                                            refine gb_aload_nS dL_law_824 rfl rfl ?_
                                            refine gb_iload_n dL_law_825 rfl rfl ?_
                                            refine gb_iconst (v := (4 : Int32)) dL_law_826 (by decide) ?_
                                            refine gb_iadd dL_law_827 ?_
                                            obtain ⟨x414, ex414, hF⟩ := gb_ltE hF
                                            refine gb_topI ex414 ?_
                                            obtain ⟨g415, hF⟩ := gb_gdE hF
                                            obtain ⟨g416, hF⟩ := gb_gdE hF
                                            refine gb_sld dL_law_828 (gb_kE g415) (gb_inE g416) ?_
                                            refine gb_aload_nS dL_law_829 rfl rfl ?_
                                            refine gb_iload_n dL_law_830 rfl rfl ?_
                                            refine gb_iconst (v := (5 : Int32)) dL_law_831 (by decide) ?_
                                            refine gb_iadd dL_law_832 ?_
                                            obtain ⟨x417, ex417, hF⟩ := gb_ltE hF
                                            refine gb_topI ex417 ?_
                                            obtain ⟨g418, hF⟩ := gb_gdE hF
                                            obtain ⟨g419, hF⟩ := gb_gdE hF
                                            refine gb_sld dL_law_833 (gb_kE g418) (gb_inE g419) ?_
                                            refine gb_aload_nS dL_law_834 rfl rfl ?_
                                            refine gb_iload_n dL_law_835 rfl rfl ?_
                                            refine gb_bipush (v := (6 : Int32)) dL_law_836 (by decide) ?_
                                            refine gb_iadd dL_law_838 ?_
                                            obtain ⟨x420, ex420, hF⟩ := gb_ltE hF
                                            refine gb_topI ex420 ?_
                                            obtain ⟨g421, hF⟩ := gb_gdE hF
                                            obtain ⟨g422, hF⟩ := gb_gdE hF
                                            refine gb_sld dL_law_839 (gb_kE g421) (gb_inE g422) ?_
                                            obtain ⟨g423, hF⟩ := gb_gdE hF
                                            obtain ⟨x424, h425, cx424, hF⟩ := gb_bdE hF
                                            refine gb_cV (As := [.int (gb_I h gb_SC x405.toNatClampNeg), .int (gb_I h gb_SC x408.toNatClampNeg), .int (gb_I h gb_SC x411.toNatClampNeg), .int (gb_I h gb_SC x414.toNatClampNeg), .int (gb_I h gb_SC x417.toNatClampNeg), .int (gb_I h gb_SC x420.toNatClampNeg)]) (S := []) (v := some (.int x424)) (h1 := h425) (S2 := [.int x424]) cf10 dL_law_840 mtX10_plan lL_98 inX10_plan seX10_plan (gb_kE g423) (fnX10_plan_ok _ _ cx424) (by decide) rfl (Nat.le_of_ble_eq_true rfl) (Nat.le_of_ble_eq_true rfl) rfl rfl ?_
                                            refine gb_aload_n dL_law_843 rfl rfl ?_
                                            refine gb_aload_nS dL_law_844 rfl rfl ?_
                                            refine gb_iload_n dL_law_845 rfl rfl ?_
                                            refine gb_iconst (v := (1 : Int32)) dL_law_846 (by decide) ?_
                                            refine gb_iadd dL_law_847 ?_
                                            obtain ⟨x426, ex426, hF⟩ := gb_ltE hF
                                            refine gb_topI ex426 ?_
                                            obtain ⟨g427, hF⟩ := gb_gdE hF
                                            obtain ⟨g428, hF⟩ := gb_gdE hF
                                            refine gb_sld dL_law_848 (gb_kE g427) (gb_inE g428) ?_
                                            refine gb_aload_nS dL_law_849 rfl rfl ?_
                                            refine gb_iload_n dL_law_850 rfl rfl ?_
                                            refine gb_iconst (v := (2 : Int32)) dL_law_851 (by decide) ?_
                                            refine gb_iadd dL_law_852 ?_
                                            obtain ⟨x429, ex429, hF⟩ := gb_ltE hF
                                            refine gb_topI ex429 ?_
                                            obtain ⟨g430, hF⟩ := gb_gdE hF
                                            obtain ⟨g431, hF⟩ := gb_gdE hF
                                            refine gb_sld dL_law_853 (gb_kE g430) (gb_inE g431) ?_
                                            refine gb_aload_nS dL_law_854 rfl rfl ?_
                                            refine gb_iload_n dL_law_855 rfl rfl ?_
                                            refine gb_iconst (v := (3 : Int32)) dL_law_856 (by decide) ?_
                                            refine gb_iadd dL_law_857 ?_
                                            obtain ⟨x432, ex432, hF⟩ := gb_ltE hF
                                            refine gb_topI ex432 ?_
                                            obtain ⟨g433, hF⟩ := gb_gdE hF
                                            obtain ⟨g434, hF⟩ := gb_gdE hF
                                            refine gb_sld dL_law_858 (gb_kE g433) (gb_inE g434) ?_
                                            refine gb_aload_nS dL_law_859 rfl rfl ?_
                                            refine gb_iload_n dL_law_860 rfl rfl ?_
                                            refine gb_iconst (v := (4 : Int32)) dL_law_861 (by decide) ?_
                                            refine gb_iadd dL_law_862 ?_
                                            obtain ⟨x435, ex435, hF⟩ := gb_ltE hF
                                            refine gb_topI ex435 ?_
                                            obtain ⟨g436, hF⟩ := gb_gdE hF
                                            obtain ⟨g437, hF⟩ := gb_gdE hF
                                            refine gb_sld dL_law_863 (gb_kE g436) (gb_inE g437) ?_
                                            refine gb_aload_nS dL_law_864 rfl rfl ?_
                                            refine gb_iload_n dL_law_865 rfl rfl ?_
                                            refine gb_iconst (v := (5 : Int32)) dL_law_866 (by decide) ?_
                                            refine gb_iadd dL_law_867 ?_
                                            obtain ⟨x438, ex438, hF⟩ := gb_ltE hF
                                            refine gb_topI ex438 ?_
                                            obtain ⟨g439, hF⟩ := gb_gdE hF
                                            obtain ⟨g440, hF⟩ := gb_gdE hF
                                            refine gb_sld dL_law_868 (gb_kE g439) (gb_inE g440) ?_
                                            refine gb_aload_nS dL_law_869 rfl rfl ?_
                                            refine gb_iload_n dL_law_870 rfl rfl ?_
                                            refine gb_bipush (v := (6 : Int32)) dL_law_871 (by decide) ?_
                                            refine gb_iadd dL_law_873 ?_
                                            obtain ⟨x441, ex441, hF⟩ := gb_ltE hF
                                            refine gb_topI ex441 ?_
                                            obtain ⟨g442, hF⟩ := gb_gdE hF
                                            obtain ⟨g443, hF⟩ := gb_gdE hF
                                            refine gb_sld dL_law_874 (gb_kE g442) (gb_inE g443) ?_
                                            obtain ⟨g444, hF⟩ := gb_gdE hF
                                            obtain ⟨x445, h446, cx445, hF⟩ := gb_bdE hF
                                            refine gb_cV (As := [.int (gb_I h425 gb_SC x426.toNatClampNeg), .int (gb_I h425 gb_SC x429.toNatClampNeg), .int (gb_I h425 gb_SC x432.toNatClampNeg), .int (gb_I h425 gb_SC x435.toNatClampNeg), .int (gb_I h425 gb_SC x438.toNatClampNeg), .int (gb_I h425 gb_SC x441.toNatClampNeg)]) (S := [.int x424]) (v := some (.int x445)) (h1 := h446) (S2 := [.int x445, .int x424]) cf11 dL_law_875 mtX11_plan lL_102 inX11_plan seX11_plan (gb_kE g444) (fnX11_plan_ok _ _ cx445) (by decide) rfl (Nat.le_of_ble_eq_true rfl) (Nat.le_of_ble_eq_true rfl) rfl rfl ?_
                                            refine gb_icmp_eq (tgt := 966) dL_law_878 (by decide) (fun c447 => ?_) (fun c447 => ?_)
                                            · replace hF := gb_ifT c447 hF
                                              exact gb_wk (fbL_law_966_ok hk18 v1 v2 v3 h446 r hF) (And.intro rfl (And.intro rfl (And.intro rfl (And.intro rfl trivial))))
                                            · replace hF := gb_ifF c447 hF
                                              refine gb_iconst (v := (0 : Int32)) dL_law_881 (by decide) ?_
                                              cases hF
                                              exact gb_zret dL_law_882 rfl (by decide)
                                          · replace hF := gb_ifF c404 hF
                                            rcases Classical.em (x5 = 20) with c448 | c448
                                            · replace hF := gb_ifT c448 hF
                                              refine gb_tswIn (tgt := 883) (x := x5) dL_law_33 (by rw [c448]; decide) (by rw [c448]; decide) (by rw [c448]; rfl) (by decide) ?_
                                              refine gb_aload_n dL_law_883 rfl rfl ?_
                                              refine gb_aload_nS dL_law_884 rfl rfl ?_
                                              refine gb_iload_n dL_law_885 rfl rfl ?_
                                              refine gb_iconst (v := (1 : Int32)) dL_law_886 (by decide) ?_
                                              refine gb_iadd dL_law_887 ?_
                                              obtain ⟨x449, ex449, hF⟩ := gb_ltE hF
                                              refine gb_topI ex449 ?_
                                              obtain ⟨g450, hF⟩ := gb_gdE hF
                                              obtain ⟨g451, hF⟩ := gb_gdE hF
                                              refine gb_sld dL_law_888 (gb_kE g450) (gb_inE g451) ?_
                                              obtain ⟨g452, hF⟩ := gb_gdE hF
                                              obtain ⟨x453, h454, cx453, hF⟩ := gb_bdE hF
                                              refine gb_cV (As := [.int (gb_I h gb_SC x449.toNatClampNeg)]) (S := []) (v := some (.long x453)) (h1 := h454) (S2 := [.long x453]) cf10 dL_law_889 mtX10_planned lL_103 inX10_planned seX10_planned (gb_kE g452) (fnX10_planned_ok _ _ cx453) (by decide) rfl (Nat.le_of_ble_eq_true rfl) (Nat.le_of_ble_eq_true rfl) rfl rfl ?_
                                              refine gb_aload_n dL_law_892 rfl rfl ?_
                                              refine gb_aload_nS dL_law_893 rfl rfl ?_
                                              refine gb_iload_n dL_law_894 rfl rfl ?_
                                              refine gb_iconst (v := (1 : Int32)) dL_law_895 (by decide) ?_
                                              refine gb_iadd dL_law_896 ?_
                                              obtain ⟨x455, ex455, hF⟩ := gb_ltE hF
                                              refine gb_topI ex455 ?_
                                              obtain ⟨g456, hF⟩ := gb_gdE hF
                                              obtain ⟨g457, hF⟩ := gb_gdE hF
                                              refine gb_sld dL_law_897 (gb_kE g456) (gb_inE g457) ?_
                                              obtain ⟨g458, hF⟩ := gb_gdE hF
                                              obtain ⟨x459, h460, cx459, hF⟩ := gb_bdE hF
                                              refine gb_cV (As := [.int (gb_I h454 gb_SC x455.toNatClampNeg)]) (S := [.long x453]) (v := some (.long x459)) (h1 := h460) (S2 := [.long x459, .long x453]) cf11 dL_law_898 mtX11_planned lL_107 inX11_planned seX11_planned (gb_kE g458) (fnX11_planned_ok _ _ cx459) (by decide) rfl (Nat.le_of_ble_eq_true rfl) (Nat.le_of_ble_eq_true rfl) rfl rfl ?_
                                              refine gb_lc_eq (tgt := 966) dL_law_901 dL_law_902 (by decide) (fun c461 => ?_) (fun c461 => ?_)
                                              · replace hF := gb_ifT c461 hF
                                                exact gb_wk (fbL_law_966_ok hk18 v1 v2 v3 h460 r hF) (And.intro rfl (And.intro rfl (And.intro rfl (And.intro rfl trivial))))
                                              · replace hF := gb_ifF c461 hF
                                                refine gb_iconst (v := (0 : Int32)) dL_law_905 (by decide) ?_
                                                cases hF
                                                exact gb_zret dL_law_906 rfl (by decide)
                                            · replace hF := gb_ifF c448 hF
                                              rcases Classical.em (x5 = 21) with c462 | c462
                                              · replace hF := gb_ifT c462 hF
                                                refine gb_tswIn (tgt := 907) (x := x5) dL_law_33 (by rw [c462]; decide) (by rw [c462]; decide) (by rw [c462]; rfl) (by decide) ?_
                                                refine gb_aload_n dL_law_907 rfl rfl ?_
                                                refine gb_aload_nS dL_law_908 rfl rfl ?_
                                                refine gb_iload_n dL_law_909 rfl rfl ?_
                                                refine gb_iconst (v := (1 : Int32)) dL_law_910 (by decide) ?_
                                                refine gb_iadd dL_law_911 ?_
                                                obtain ⟨x463, ex463, hF⟩ := gb_ltE hF
                                                refine gb_topI ex463 ?_
                                                obtain ⟨g464, hF⟩ := gb_gdE hF
                                                obtain ⟨g465, hF⟩ := gb_gdE hF
                                                refine gb_sld dL_law_912 (gb_kE g464) (gb_inE g465) ?_
                                                obtain ⟨g466, hF⟩ := gb_gdE hF
                                                obtain ⟨x467, h468, cx467, hF⟩ := gb_bdE hF
                                                refine gb_cV (As := [.int (gb_I h gb_SC x463.toNatClampNeg)]) (S := []) (v := some (.int x467)) (h1 := h468) (S2 := [.int x467]) cf10 dL_law_913 mtX10_build lL_108 inX10_build seX10_build (gb_kE g466) (fnX10_build_ok _ _ cx467) (by decide) rfl (Nat.le_of_ble_eq_true rfl) (Nat.le_of_ble_eq_true rfl) rfl rfl ?_
                                                refine gb_aload_n dL_law_916 rfl rfl ?_
                                                refine gb_aload_nS dL_law_917 rfl rfl ?_
                                                refine gb_iload_n dL_law_918 rfl rfl ?_
                                                refine gb_iconst (v := (1 : Int32)) dL_law_919 (by decide) ?_
                                                refine gb_iadd dL_law_920 ?_
                                                obtain ⟨x469, ex469, hF⟩ := gb_ltE hF
                                                refine gb_topI ex469 ?_
                                                obtain ⟨g470, hF⟩ := gb_gdE hF
                                                obtain ⟨g471, hF⟩ := gb_gdE hF
                                                refine gb_sld dL_law_921 (gb_kE g470) (gb_inE g471) ?_
                                                obtain ⟨g472, hF⟩ := gb_gdE hF
                                                obtain ⟨x473, h474, cx473, hF⟩ := gb_bdE hF
                                                refine gb_cV (As := [.int (gb_I h468 gb_SC x469.toNatClampNeg)]) (S := [.int x467]) (v := some (.int x473)) (h1 := h474) (S2 := [.int x473, .int x467]) cf11 dL_law_922 mtX11_build lL_111 inX11_build seX11_build (gb_kE g472) (fnX11_build_ok _ _ cx473) (by decide) rfl (Nat.le_of_ble_eq_true rfl) (Nat.le_of_ble_eq_true rfl) rfl rfl ?_
                                                refine gb_icmp_eq (tgt := 966) dL_law_925 (by decide) (fun c475 => ?_) (fun c475 => ?_)
                                                · replace hF := gb_ifT c475 hF
                                                  exact gb_wk (fbL_law_966_ok hk18 v1 v2 v3 h474 r hF) (And.intro rfl (And.intro rfl (And.intro rfl (And.intro rfl trivial))))
                                                · replace hF := gb_ifF c475 hF
                                                  refine gb_iconst (v := (0 : Int32)) dL_law_928 (by decide) ?_
                                                  cases hF
                                                  exact gb_zret dL_law_929 rfl (by decide)
                                              · replace hF := gb_ifF c462 hF
                                                rcases Classical.em (x5 = 22) with c476 | c476
                                                · replace hF := gb_ifT c476 hF
                                                  refine gb_tswIn (tgt := 930) (x := x5) dL_law_33 (by rw [c476]; decide) (by rw [c476]; decide) (by rw [c476]; rfl) (by decide) ?_
                                                  refine gb_aload_n dL_law_930 rfl rfl ?_
                                                  refine gb_aload_nS dL_law_931 rfl rfl ?_
                                                  refine gb_iload_n dL_law_932 rfl rfl ?_
                                                  refine gb_iconst (v := (1 : Int32)) dL_law_933 (by decide) ?_
                                                  refine gb_iadd dL_law_934 ?_
                                                  obtain ⟨x477, ex477, hF⟩ := gb_ltE hF
                                                  refine gb_topI ex477 ?_
                                                  obtain ⟨g478, hF⟩ := gb_gdE hF
                                                  obtain ⟨g479, hF⟩ := gb_gdE hF
                                                  refine gb_sld dL_law_935 (gb_kE g478) (gb_inE g479) ?_
                                                  obtain ⟨g480, hF⟩ := gb_gdE hF
                                                  obtain ⟨x481, h482, cx481, hF⟩ := gb_bdE hF
                                                  refine gb_cV (As := [.int (gb_I h gb_SC x477.toNatClampNeg)]) (S := []) (v := some (.int x481)) (h1 := h482) (S2 := [.int x481]) cf10 dL_law_936 mtX10_count lL_112 inX10_count seX10_count (gb_kE g480) (fnX10_count_ok _ _ cx481) (by decide) rfl (Nat.le_of_ble_eq_true rfl) (Nat.le_of_ble_eq_true rfl) rfl rfl ?_
                                                  refine gb_aload_n dL_law_939 rfl rfl ?_
                                                  refine gb_aload_nS dL_law_940 rfl rfl ?_
                                                  refine gb_iload_n dL_law_941 rfl rfl ?_
                                                  refine gb_iconst (v := (1 : Int32)) dL_law_942 (by decide) ?_
                                                  refine gb_iadd dL_law_943 ?_
                                                  obtain ⟨x483, ex483, hF⟩ := gb_ltE hF
                                                  refine gb_topI ex483 ?_
                                                  obtain ⟨g484, hF⟩ := gb_gdE hF
                                                  obtain ⟨g485, hF⟩ := gb_gdE hF
                                                  refine gb_sld dL_law_944 (gb_kE g484) (gb_inE g485) ?_
                                                  obtain ⟨g486, hF⟩ := gb_gdE hF
                                                  obtain ⟨x487, h488, cx487, hF⟩ := gb_bdE hF
                                                  refine gb_cV (As := [.int (gb_I h482 gb_SC x483.toNatClampNeg)]) (S := [.int x481]) (v := some (.int x487)) (h1 := h488) (S2 := [.int x487, .int x481]) cf11 dL_law_945 mtX11_count lL_115 inX11_count seX11_count (gb_kE g486) (fnX11_count_ok _ _ cx487) (by decide) rfl (Nat.le_of_ble_eq_true rfl) (Nat.le_of_ble_eq_true rfl) rfl rfl ?_
                                                  refine gb_icmp_eq (tgt := 966) dL_law_948 (by decide) (fun c489 => ?_) (fun c489 => ?_)
                                                  · replace hF := gb_ifT c489 hF
                                                    exact gb_wk (fbL_law_966_ok hk18 v1 v2 v3 h488 r hF) (And.intro rfl (And.intro rfl (And.intro rfl (And.intro rfl trivial))))
                                                  · replace hF := gb_ifF c489 hF
                                                    refine gb_iconst (v := (0 : Int32)) dL_law_951 (by decide) ?_
                                                    cases hF
                                                    exact gb_zret dL_law_952 rfl (by decide)
                                                · replace hF := gb_ifF c476 hF
                                                  rcases Classical.em (x5 = 23) with c490 | c490
                                                  · replace hF := gb_ifT c490 hF
                                                    refine gb_tswIn (tgt := 953) (x := x5) dL_law_33 (by rw [c490]; decide) (by rw [c490]; decide) (by rw [c490]; rfl) (by decide) ?_
                                                    refine gb_aload_n dL_law_953 rfl rfl ?_
                                                    obtain ⟨g491, hF⟩ := gb_gdE hF
                                                    obtain ⟨x492, h493, cx492, hF⟩ := gb_bdE hF
                                                    refine gb_cV (As := []) (S := []) (v := some (.int x492)) (h1 := h493) (S2 := [.int x492]) cf10 dL_law_954 mtX10_status lL_116 inX10_status seX10_status (gb_kE g491) (fnX10_status_ok _ _ cx492) (by decide) rfl (Nat.le_of_ble_eq_true rfl) (Nat.le_of_ble_eq_true rfl) rfl rfl ?_
                                                    refine gb_aload_n dL_law_957 rfl rfl ?_
                                                    obtain ⟨g494, hF⟩ := gb_gdE hF
                                                    obtain ⟨x495, h496, cx495, hF⟩ := gb_bdE hF
                                                    refine gb_cV (As := []) (S := [.int x492]) (v := some (.int x495)) (h1 := h496) (S2 := [.int x495, .int x492]) cf11 dL_law_958 mtX11_status lL_119 inX11_status seX11_status (gb_kE g494) (fnX11_status_ok _ _ cx495) (by decide) rfl (Nat.le_of_ble_eq_true rfl) (Nat.le_of_ble_eq_true rfl) rfl rfl ?_
                                                    refine gb_icmp_eq (tgt := 966) dL_law_961 (by decide) (fun c497 => ?_) (fun c497 => ?_)
                                                    · replace hF := gb_ifT c497 hF
                                                      exact gb_wk (fbL_law_966_ok hk18 v1 v2 v3 h496 r hF) (And.intro rfl (And.intro rfl (And.intro rfl (And.intro rfl trivial))))
                                                    · replace hF := gb_ifF c497 hF
                                                      refine gb_iconst (v := (0 : Int32)) dL_law_964 (by decide) ?_
                                                      cases hF
                                                      exact gb_zret dL_law_965 rfl (by decide)
                                                  · replace hF := gb_ifF c490 hF
                                                    refine gb_tswOut (tgt := 966) dL_law_33 (gb_swo24 c6 c20 c28 c66 c80 c94 c102 c110 c124 c156 c206 c226 c252 c278 c304 c324 c344 c358 c384 c404 c448 c462 c476 c490) (by decide) ?_
                                                    exact gb_wk (fbL_law_966_ok hk18 v1 v2 v3 h r hF) (And.intro rfl (And.intro rfl (And.intro rfl (And.intro rfl trivial))))
def lpL_law_18 (n : Nat) (v1 : Nat) (v2 : Nat) (v3 : Int32) (h : gb_H) : Option (Int32 × gb_H) := gb_lp (σ := Nat × Nat × Int32 × gb_H) (fun k s => fbL_law_18 (fun v1 v2 v3 h => k (v1, v2, v3, h)) s.1 s.2.1 s.2.2.1 s.2.2.2) n (v1, v2, v3, h)
theorem lpL_law_18_ok  (n : Nat) (v1 : Nat) (v2 : Nat) (v3 : Int32) (h : gb_H) (r : Int32 × gb_H) (hF : lpL_law_18 n v1 v2 v3 h = some r) : gb_Ev 17 mL_law 18 [some (.retAddr 1000), some (.ref v1), some (.ref v2), some (.int v3)] [] h (gb_wI r) := by
  exact gb_lpE (σ := Nat × Nat × Int32 × gb_H) (P := fun s r => gb_Ev 17 mL_law 18 [some (.retAddr 1000), some (.ref s.1), some (.ref s.2.1), some (.int s.2.2.1)] [] s.2.2.2 (gb_wI r)) (fun k hk s r hs => fbL_law_18_ok (fun v1 v2 v3 h r e => hk (v1, v2, v3, h) r e) _ _ _ _ r hs) n (v1, v2, v3, h) r hF
def fnL_law (h : gb_H) : Option (Int32 × gb_H) :=
  gb_lt (gb_cn h) fun a1 =>
  gb_lt (gb_nw h 10 0 16) fun h2 =>
  gb_bd (fnX10_init a1 h2) fun _ h4 =>
  gb_lt (gb_cn h4) fun a5 =>
  gb_lt (gb_nw h4 11 0 57) fun h6 =>
  gb_bd (fnX11_init a5 h6) fun _ h8 =>
  lpL_law_18 gb_FU a1 a5 (0 : Int32) h8
theorem fnL_law_ok  (h : gb_H) (r : Int32 × gb_H) (hF : fnL_law h = some r) : gb_Ev 17 mL_law 0 (gb_L0 [.retAddr 1000]) [] h (gb_wI r) := by
  unfold fnL_law at hF
  refine gb_weak (L' := [some (.retAddr 1000), none, none, none]) (And.intro rfl trivial) ?_
  obtain ⟨a1, ea1, hF⟩ := gb_ltE hF
  obtain ⟨h2, eh2, hF⟩ := gb_ltE hF
  refine gb_new cf10 cL_7 df10 dL_law_0 (gb_hp eh2 (gb_topA ea1 ?_))
  refine gb_dup dL_law_3 rfl ?_
  obtain ⟨x3, h4, cx3, hF⟩ := gb_bdE hF
  refine gb_callI (As := []) (S := [.ref a1]) (h1 := h4) dL_law_4 mtX10_init rfl rfl lL_9 inX10_init (fnX10_init_ok _ _ cx3) (by decide) rfl (Nat.le_of_ble_eq_true rfl) (Nat.le_of_ble_eq_true rfl) rfl ?_
  refine gb_astore_n (L' := [some (.retAddr 1000), some (.ref a1), none, none]) dL_law_7 rfl (by decide) rfl rfl ?_
  obtain ⟨a5, ea5, hF⟩ := gb_ltE hF
  obtain ⟨h6, eh6, hF⟩ := gb_ltE hF
  refine gb_new cf11 cL_10 df11 dL_law_8 (gb_hp eh6 (gb_topA ea5 ?_))
  refine gb_dup dL_law_11 rfl ?_
  obtain ⟨x7, h8, cx7, hF⟩ := gb_bdE hF
  refine gb_callI (As := []) (S := [.ref a5]) (h1 := h8) dL_law_12 mtX11_init rfl rfl lL_12 inX11_init (fnX11_init_ok _ _ cx7) (by decide) rfl (Nat.le_of_ble_eq_true rfl) (Nat.le_of_ble_eq_true rfl) rfl ?_
  refine gb_astore_n (L' := [some (.retAddr 1000), some (.ref a1), some (.ref a5), none]) dL_law_15 rfl (by decide) rfl rfl ?_
  refine gb_iconst (v := (0 : Int32)) dL_law_16 (by decide) ?_
  refine gb_istore_n (L' := [some (.retAddr 1000), some (.ref a1), some (.ref a5), some (.int (0 : Int32))]) dL_law_17 rfl (by decide) rfl rfl ?_
  exact gb_wk (lpL_law_18_ok gb_FU a1 a5 (0 : Int32) h8 r hF) (And.intro rfl (And.intro rfl (And.intro rfl (And.intro rfl trivial))))
