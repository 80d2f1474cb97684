/-! the law's loop as a function -/
/-- RL.end [2] -/
def zf_Law_end (σ : zS) (x2 : Int32) : Option (Int32 × zS) :=
  (zf_X_end σ x2).bind fun r1 =>
  some (0, r1)
/-- RL.feed [2, 118] -/
def zf_Law_feed (N : Nat) (σ : zS) (τ : zT) (x2 : Int32) (x3 : Int32) (x4 : Int32) (x5 : Int32) (x6 : Int32) : Option (Int32 × zS × zT) :=
  (zf_X_feed N σ x2 x3 x4 x5 x6).bind fun r1 =>
  some (0, r1.2, (zx_up τ 118 0 (r1.1 : Int32).toInt64))
def zb_Law_856 (L : Nat) (k23 : Nat → Nat → zS → zT → Int32 → Option (Int32 × Nat × Nat × zS × zT)) (N : Nat) (a b : Nat) (σ : zS) (τ : zT) (v4 : Int32) : Option (Int32 × Nat × Nat × zS × zT) :=
  k23 a b σ τ (v4 + 6)
def zb_Law_245 (L : Nat) (k23 : Nat → Nat → zS → zT → Int32 → Option (Int32 × Nat × Nat × zS × zT)) (N : Nat) (a b : Nat) (σ : zS) (τ : zT) (v4 : Int32) : Option (Int32 × Nat × Nat × zS × zT) :=
  zb_Law_856 L k23 N a b σ τ v4
def zb_Law_23 (L : Nat) (N : Nat) : Nat → Nat → Nat → zS → zT → Int32 → Option (Int32 × Nat × Nat × zS × zT)
  | 0, _, _, _, _, _ => none
  | n + 1, a, b, σ, τ, v4 =>
    if ((Int32.ofNat L) - 6) < v4 then
      some (1, a, b, σ, τ)
    else
      if zx_ins v4 L = true then
        if ((σ 0 v4.toNatClampNeg) &&& 31) = 0 then
          if zx_ins (v4 + 1) L = true then
            if zx_ins (v4 + 2) L = true then
              if zx_ins (v4 + 3) L = true then
                if zx_ins (v4 + 4) L = true then
                  if zx_ins (v4 + 5) L = true then
                    if (σ 2 11) < 0 ∨ 1500 < (σ 2 11) + 20 then
                      if zx_ins (v4 + 1) L = true then
                        if zx_ins (v4 + 2) L = true then
                          if zx_ins (v4 + 3) L = true then
                            if zx_ins (v4 + 4) L = true then
                              if zx_ins (v4 + 5) L = true then
                                (zf_M_feed N σ (σ 0 (v4 + 1).toNatClampNeg) (σ 0 (v4 + 2).toNatClampNeg) (σ 0 (v4 + 3).toNatClampNeg) (σ 0 (v4 + 4).toNatClampNeg) (σ 0 (v4 + 5).toNatClampNeg)).bind fun r160 =>
                                (zf_M_thrown r160.2).bind fun r161 =>
                                if r161 = 1 then
                                  zb_Law_245 L (zb_Law_23 L N n) N (a + 1) (b + 6) r160.2 τ v4
                                else
                                  some (0, (a + 1), (b + 6), r160.2, τ)
                              else none
                            else none
                          else none
                        else none
                      else none
                    else
                      (zf_Law_feed N σ τ (σ 0 (v4 + 1).toNatClampNeg) (σ 0 (v4 + 2).toNatClampNeg) (σ 0 (v4 + 3).toNatClampNeg) (σ 0 (v4 + 4).toNatClampNeg) (σ 0 (v4 + 5).toNatClampNeg)).bind fun r154 =>
                      if zx_ins (v4 + 1) L = true then
                        if zx_ins (v4 + 2) L = true then
                          if zx_ins (v4 + 3) L = true then
                            if zx_ins (v4 + 4) L = true then
                              if zx_ins (v4 + 5) L = true then
                                (zf_M_feed N r154.2.1 (r154.2.1 0 (v4 + 1).toNatClampNeg) (r154.2.1 0 (v4 + 2).toNatClampNeg) (r154.2.1 0 (v4 + 3).toNatClampNeg) (r154.2.1 0 (v4 + 4).toNatClampNeg) (r154.2.1 0 (v4 + 5).toNatClampNeg)).bind fun r168 =>
                                (zf_M_thrown r168.2).bind fun r169 =>
                                if r169 = r154.1 then
                                  if ¬ r154.1 = 0 then
                                    zb_Law_245 L (zb_Law_23 L N n) N a b r168.2 r154.2.2 v4
                                  else
                                    if (r154.2.2 118 0) = (r168.1 : Int32).toInt64 then
                                      zb_Law_245 L (zb_Law_23 L N n) N a b r168.2 r154.2.2 v4
                                    else
                                      some (0, a, b, r168.2, r154.2.2)
                                else
                                  some (0, a, b, r168.2, r154.2.2)
                              else none
                            else none
                          else none
                        else none
                      else none
                  else none
                else none
              else none
            else none
          else none
        else
          if ((σ 0 v4.toNatClampNeg) &&& 31) = 1 then
            if zx_ins (v4 + 1) L = true then
              if (σ 0 (v4 + 1).toNatClampNeg) < 0 ∨ (σ 2 11) < (σ 0 (v4 + 1).toNatClampNeg) then
                if zx_ins (v4 + 1) L = true then
                  (zf_M_end σ (σ 0 (v4 + 1).toNatClampNeg)).bind fun r141 =>
                  (zf_M_thrown r141).bind fun r142 =>
                  if r142 = 1 then
                    zb_Law_856 L (zb_Law_23 L N n) N (a + 1) (b + 6) r141 τ v4
                  else
                    some (0, (a + 1), (b + 6), r141, τ)
                else none
              else
                (zf_Law_end σ (σ 0 (v4 + 1).toNatClampNeg)).bind fun r139 =>
                if zx_ins (v4 + 1) L = true then
                  (zf_M_end r139.2 (r139.2 0 (v4 + 1).toNatClampNeg)).bind fun r145 =>
                  (zf_M_thrown r145).bind fun r146 =>
                  if r146 = r139.1 then
                    zb_Law_856 L (zb_Law_23 L N n) N a b r145 τ v4
                  else
                    some (0, a, b, r145, τ)
                else none
            else none
          else
            if ((σ 0 v4.toNatClampNeg) &&& 31) = 2 then
              (zf_X_read N σ τ).bind fun r134 =>
              (zf_M_read N r134.2.1).bind fun r135 =>
              if r134.1 = r135.1 then
                zb_Law_856 L (zb_Law_23 L N n) N a b r135.2 r134.2.2 v4
              else
                some (0, a, b, r135.2, r134.2.2)
            else
              if ((σ 0 v4.toNatClampNeg) &&& 31) = 3 then
                (zf_X_fault σ).bind fun r131 =>
                (zf_M_fault σ).bind fun r132 =>
                if r131 = r132.1 then
                  zb_Law_856 L (zb_Law_23 L N n) N a b r132.2 τ v4
                else
                  some (0, a, b, r132.2, τ)
              else
                if ((σ 0 v4.toNatClampNeg) &&& 31) = 4 then
                  if zx_ins (v4 + 1) L = true then
                    (zf_X_count σ (σ 0 (v4 + 1).toNatClampNeg)).bind fun r127 =>
                    if zx_ins (v4 + 1) L = true then
                      (zf_M_count N σ (σ 0 (v4 + 1).toNatClampNeg)).bind fun r129 =>
                      if r127 = r129.1 then
                        zb_Law_856 L (zb_Law_23 L N n) N a b r129.2 τ v4
                      else
                        some (0, a, b, r129.2, τ)
                    else none
                  else none
                else
                  if ((σ 0 v4.toNatClampNeg) &&& 31) = 5 then
                    if zx_ins (v4 + 1) L = true then
                      if zx_ins (v4 + 2) L = true then
                        if zx_ins (v4 + 3) L = true then
                          (zf_X_step σ (σ 0 (v4 + 1).toNatClampNeg) (σ 0 (v4 + 2).toNatClampNeg) (σ 0 (v4 + 3).toNatClampNeg)).bind fun r120 =>
                          if zx_ins (v4 + 1) L = true then
                            if zx_ins (v4 + 2) L = true then
                              if zx_ins (v4 + 3) L = true then
                                (zf_M_step σ (σ 0 (v4 + 1).toNatClampNeg) (σ 0 (v4 + 2).toNatClampNeg) (σ 0 (v4 + 3).toNatClampNeg)).bind fun r124 =>
                                if r120 = r124.1 then
                                  zb_Law_856 L (zb_Law_23 L N n) N a b r124.2 τ v4
                                else
                                  some (0, a, b, r124.2, τ)
                              else none
                            else none
                          else none
                        else none
                      else none
                    else none
                  else
                    if ((σ 0 v4.toNatClampNeg) &&& 31) = 6 then
                      (zf_X_run N σ).bind fun r114 =>
                      (zf_M_run N r114.2).bind fun r115 =>
                      if r114.1 = r115.1 then
                        zb_Law_856 L (zb_Law_23 L N n) N a b r115.2 τ v4
                      else
                        some (0, a, b, r115.2, τ)
                    else
                      if ((σ 0 v4.toNatClampNeg) &&& 31) = 7 then
                        if zx_ins (v4 + 1) L = true then
                          (zf_X_found σ (σ 0 (v4 + 1).toNatClampNeg)).bind fun r110 =>
                          if zx_ins (v4 + 1) L = true then
                            (zf_M_found N σ (σ 0 (v4 + 1).toNatClampNeg)).bind fun r112 =>
                            if r110 = r112.1 then
                              zb_Law_856 L (zb_Law_23 L N n) N a b r112.2 τ v4
                            else
                              some (0, a, b, r112.2, τ)
                          else none
                        else none
                      else
                        if ((σ 0 v4.toNatClampNeg) &&& 31) = 8 then
                          if zx_ins (v4 + 1) L = true then
                            if zx_ins (v4 + 2) L = true then
                              (zf_X_show N σ (σ 0 (v4 + 1).toNatClampNeg) (σ 0 (v4 + 2).toNatClampNeg)).bind fun r104 =>
                              if zx_ins (v4 + 1) L = true then
                                if zx_ins (v4 + 2) L = true then
                                  (zf_M_show N r104.2 (r104.2 0 (v4 + 1).toNatClampNeg) (r104.2 0 (v4 + 2).toNatClampNeg)).bind fun r107 =>
                                  if r104.1 = r107.1 then
                                    zb_Law_856 L (zb_Law_23 L N n) N a b r107.2 τ v4
                                  else
                                    some (0, a, b, r107.2, τ)
                                else none
                              else none
                            else none
                          else none
                        else
                          if ((σ 0 v4.toNatClampNeg) &&& 31) = 9 then
                            (zf_X_length σ).bind fun r99 =>
                            (zf_M_length σ).bind fun r100 =>
                            if r99 = r100.1 then
                              zb_Law_856 L (zb_Law_23 L N n) N a b r100.2 τ v4
                            else
                              some (0, a, b, r100.2, τ)
                          else
                            if ((σ 0 v4.toNatClampNeg) &&& 31) = 10 then
                              if zx_ins (v4 + 1) L = true then
                                (zf_X_who σ (σ 0 (v4 + 1).toNatClampNeg)).bind fun r95 =>
                                if zx_ins (v4 + 1) L = true then
                                  (zf_M_who σ (σ 0 (v4 + 1).toNatClampNeg)).bind fun r97 =>
                                  if r95 = r97.1 then
                                    zb_Law_856 L (zb_Law_23 L N n) N a b r97.2 τ v4
                                  else
                                    some (0, a, b, r97.2, τ)
                                else none
                              else none
                            else
                              if ((σ 0 v4.toNatClampNeg) &&& 31) = 11 then
                                if zx_ins (v4 + 1) L = true then
                                  if zx_ins (v4 + 2) L = true then
                                    (zf_X_race σ (σ 0 (v4 + 1).toNatClampNeg) (σ 0 (v4 + 2).toNatClampNeg)).bind fun r89 =>
                                    if zx_ins (v4 + 1) L = true then
                                      if zx_ins (v4 + 2) L = true then
                                        (zf_M_race N σ (σ 0 (v4 + 1).toNatClampNeg) (σ 0 (v4 + 2).toNatClampNeg)).bind fun r92 =>
                                        if r89 = r92.1 then
                                          zb_Law_856 L (zb_Law_23 L N n) N a b r92.2 τ v4
                                        else
                                          some (0, a, b, r92.2, τ)
                                      else none
                                    else none
                                  else none
                                else none
                              else
                                if ((σ 0 v4.toNatClampNeg) &&& 31) = 12 then
                                  if zx_ins (v4 + 1) L = true then
                                    if zx_ins (v4 + 2) L = true then
                                      if zx_ins (v4 + 3) L = true then
                                        (zf_X_thread N σ (σ 0 (v4 + 1).toNatClampNeg) (σ 0 (v4 + 2).toNatClampNeg) (σ 0 (v4 + 3).toNatClampNeg)).bind fun r81 =>
                                        if zx_ins (v4 + 1) L = true then
                                          if zx_ins (v4 + 2) L = true then
                                            if zx_ins (v4 + 3) L = true then
                                              (zf_M_thread N r81.2 (r81.2 0 (v4 + 1).toNatClampNeg) (r81.2 0 (v4 + 2).toNatClampNeg) (r81.2 0 (v4 + 3).toNatClampNeg)).bind fun r85 =>
                                              if r81.1 = r85.1 then
                                                zb_Law_856 L (zb_Law_23 L N n) N a b r85.2 τ v4
                                              else
                                                some (0, a, b, r85.2, τ)
                                            else none
                                          else none
                                        else none
                                      else none
                                    else none
                                  else none
                                else
                                  if ((σ 0 v4.toNatClampNeg) &&& 31) = 13 then
                                    if zx_ins (v4 + 1) L = true then
                                      if zx_ins (v4 + 2) L = true then
                                        (zf_X_field N σ (σ 0 (v4 + 1).toNatClampNeg) (σ 0 (v4 + 2).toNatClampNeg)).bind fun r73 =>
                                        if zx_ins (v4 + 1) L = true then
                                          if zx_ins (v4 + 2) L = true then
                                            (zf_M_field r73.2 (r73.2 0 (v4 + 1).toNatClampNeg) (r73.2 0 (v4 + 2).toNatClampNeg)).bind fun r76 =>
                                            if r73.1 = r76.1 then
                                              zb_Law_856 L (zb_Law_23 L N n) N a b r76.2 τ v4
                                            else
                                              some (0, a, b, r76.2, τ)
                                          else none
                                        else none
                                      else none
                                    else none
                                  else
                                    if ((σ 0 v4.toNatClampNeg) &&& 31) = 14 then
                                      if zx_ins (v4 + 1) L = true then
                                        if zx_ins (v4 + 2) L = true then
                                          (zf_X_owner N σ (σ 0 (v4 + 1).toNatClampNeg) (σ 0 (v4 + 2).toNatClampNeg)).bind fun r66 =>
                                          if zx_ins (v4 + 1) L = true then
                                            if zx_ins (v4 + 2) L = true then
                                              (zf_M_owner r66.2 (r66.2 0 (v4 + 1).toNatClampNeg) (r66.2 0 (v4 + 2).toNatClampNeg)).bind fun r69 =>
                                              if r66.1 = r69.1 then
                                                zb_Law_856 L (zb_Law_23 L N n) N a b r69.2 τ v4
                                              else
                                                some (0, a, b, r69.2, τ)
                                            else none
                                          else none
                                        else none
                                      else none
                                    else
                                      if ((σ 0 v4.toNatClampNeg) &&& 31) = 15 then
                                        if zx_ins (v4 + 1) L = true then
                                          (zf_X_stuck N σ (σ 0 (v4 + 1).toNatClampNeg)).bind fun r60 =>
                                          if zx_ins (v4 + 1) L = true then
                                            (zf_M_stuck N r60.2 (r60.2 0 (v4 + 1).toNatClampNeg)).bind fun r62 =>
                                            if r60.1 = r62.1 then
                                              zb_Law_856 L (zb_Law_23 L N n) N a b r62.2 τ v4
                                            else
                                              some (0, a, b, r62.2, τ)
                                          else none
                                        else none
                                      else
                                        if ((σ 0 v4.toNatClampNeg) &&& 31) = 16 then
                                          if zx_ins (v4 + 1) L = true then
                                            (zf_X_whole N σ (σ 0 (v4 + 1).toNatClampNeg)).bind fun r55 =>
                                            if zx_ins (v4 + 1) L = true then
                                              (zf_M_whole N r55.2 (r55.2 0 (v4 + 1).toNatClampNeg)).bind fun r57 =>
                                              if r55.1 = r57.1 then
                                                zb_Law_856 L (zb_Law_23 L N n) N a b r57.2 τ v4
                                              else
                                                some (0, a, b, r57.2, τ)
                                            else none
                                          else none
                                        else
                                          if ((σ 0 v4.toNatClampNeg) &&& 31) = 17 then
                                            (zf_X_doubts N σ).bind fun r51 =>
                                            (zf_M_doubts N r51.2).bind fun r52 =>
                                            if r51.1 = r52.1 then
                                              zb_Law_856 L (zb_Law_23 L N n) N a b r52.2 τ v4
                                            else
                                              some (0, a, b, r52.2, τ)
                                          else
                                            if ((σ 0 v4.toNatClampNeg) &&& 31) = 18 then
                                              if zx_ins (v4 + 1) L = true then
                                                if zx_ins (v4 + 2) L = true then
                                                  (zf_X_doubt N σ (σ 0 (v4 + 1).toNatClampNeg) (σ 0 (v4 + 2).toNatClampNeg)).bind fun r46 =>
                                                  if zx_ins (v4 + 1) L = true then
                                                    if zx_ins (v4 + 2) L = true then
                                                      (zf_M_doubt N r46.2 (r46.2 0 (v4 + 1).toNatClampNeg) (r46.2 0 (v4 + 2).toNatClampNeg)).bind fun r49 =>
                                                      if r46.1 = r49.1 then
                                                        zb_Law_856 L (zb_Law_23 L N n) N a b r49.2 τ v4
                                                      else
                                                        some (0, a, b, r49.2, τ)
                                                    else none
                                                  else none
                                                else none
                                              else none
                                            else
                                              if ((σ 0 v4.toNatClampNeg) &&& 31) = 19 then
                                                if zx_ins (v4 + 1) L = true then
                                                  if zx_ins (v4 + 2) L = true then
                                                    if zx_ins (v4 + 3) L = true then
                                                      if zx_ins (v4 + 4) L = true then
                                                        (zf_X_meet N σ (σ 0 (v4 + 1).toNatClampNeg) (σ 0 (v4 + 2).toNatClampNeg) (σ 0 (v4 + 3).toNatClampNeg) (σ 0 (v4 + 4).toNatClampNeg)).bind fun r37 =>
                                                        if zx_ins (v4 + 1) L = true then
                                                          if zx_ins (v4 + 2) L = true then
                                                            if zx_ins (v4 + 3) L = true then
                                                              if zx_ins (v4 + 4) L = true then
                                                                (zf_M_meet N r37.2 (r37.2 0 (v4 + 1).toNatClampNeg) (r37.2 0 (v4 + 2).toNatClampNeg) (r37.2 0 (v4 + 3).toNatClampNeg) (r37.2 0 (v4 + 4).toNatClampNeg)).bind fun r42 =>
                                                                if r37.1 = r42.1 then
                                                                  zb_Law_856 L (zb_Law_23 L N n) N a b r42.2 τ v4
                                                                else
                                                                  some (0, a, b, r42.2, τ)
                                                              else none
                                                            else none
                                                          else none
                                                        else none
                                                      else none
                                                    else none
                                                  else none
                                                else none
                                              else
                                                if ((σ 0 v4.toNatClampNeg) &&& 31) = 20 then
                                                  if zx_ins (v4 + 1) L = true then
                                                    (zf_X_guards N σ (σ 0 (v4 + 1).toNatClampNeg)).bind fun r29 =>
                                                    if zx_ins (v4 + 1) L = true then
                                                      (zf_M_guards N σ (σ 0 (v4 + 1).toNatClampNeg)).bind fun r31 =>
                                                      if r29 = r31.1 then
                                                        zb_Law_856 L (zb_Law_23 L N n) N a b r31.2 τ v4
                                                      else
                                                        some (0, a, b, r31.2, τ)
                                                    else none
                                                  else none
                                                else
                                                  if ((σ 0 v4.toNatClampNeg) &&& 31) = 21 then
                                                    (zf_X_rings N σ).bind fun r25 =>
                                                    (zf_M_rings N r25.2).bind fun r26 =>
                                                    if r25.1 = r26.1 then
                                                      zb_Law_856 L (zb_Law_23 L N n) N a b r26.2 τ v4
                                                    else
                                                      some (0, a, b, r26.2, τ)
                                                  else
                                                    zb_Law_856 L (zb_Law_23 L N n) N a b σ τ v4
      else none
set_option maxRecDepth 20000 in
theorem zt_Law_end {a b L : Nat} {σ : zS} {τ : zT} {x2 : Int32} {r : Int32 × zS} (H : zf_Law_end σ x2 = some r) : zx_go 1 266 0 [some (.ref 2), some (.int x2), none] [] ((119, a, b), zx_pk (zK L) 119, σ, τ, zR) = some (some (.int r.1), ((119, a, b), zx_pk (zK L) 119, r.2, τ, zR)) := by
  unfold zf_Law_end at H
  rw [zs_aload_n (ls := [some (.ref 2), some (.int x2), none]) zd_266_0 rfl]
  rw [zs_iload_n (ls := [some (.ref 2), some (.int x2), none]) zd_266_1 rfl]
  obtain ⟨r1, hr1, H⟩ := Option.bind_eq_some_iff.mp H
  rw [zp_callVv (st := [.int x2, .ref 2]) (as := [.ref 2, .int x2]) (rest := []) (e := 0) zd_266_2 rfl (by decide +kernel) (by decide) rfl rfl (Nat.le_of_ble_eq_true rfl) (zx_rcb_ok rfl (show 2 < 119 by decide)) (Nat.le_of_ble_eq_true rfl) rfl (by decide) (zt_X_end hr1)]
  rw [zs_goto (t := 11) zd_266_5 rfl]
  rw [zs_iconst (z := 0) zd_266_11 (by decide)]
  have H := Option.some.inj H
  subst H
  exact zs_ireturn zd_266_12 (by decide +kernel)
set_option maxRecDepth 20000 in
theorem zt_Law_feed {a b L N : Nat} {σ : zS} {τ : zT} {x2 : Int32} {x3 : Int32} {x4 : Int32} {x5 : Int32} {x6 : Int32} {r : Int32 × zS × zT} (H : zf_Law_feed N σ τ x2 x3 x4 x5 x6 = some r) : zx_go 2 265 0 [some (.ref 2), some (.int x2), some (.int x3), some (.int x4), some (.int x5), some (.int x6), some (.ref 118), none] [] ((119, a, b), zx_pk (zK L) 119, σ, τ, zR) = some (some (.int r.1), ((119, a, b), zx_pk (zK L) 119, r.2.1, r.2.2, zR)) := by
  unfold zf_Law_feed at H
  rw [zs_aload (ls := [some (.ref 2), some (.int x2), some (.int x3), some (.int x4), some (.int x5), some (.int x6), some (.ref 118), none]) zd_265_0 rfl]
  rw [zs_iconst (z := 0) zd_265_2 (by decide)]
  rw [zs_aload_n (ls := [some (.ref 2), some (.int x2), some (.int x3), some (.int x4), some (.int x5), some (.int x6), some (.ref 118), none]) zd_265_3 rfl]
  rw [zs_iload_n (ls := [some (.ref 2), some (.int x2), some (.int x3), some (.int x4), some (.int x5), some (.int x6), some (.ref 118), none]) zd_265_4 rfl]
  rw [zs_iload_n (ls := [some (.ref 2), some (.int x2), some (.int x3), some (.int x4), some (.int x5), some (.int x6), some (.ref 118), none]) zd_265_5 rfl]
  rw [zs_iload_n (ls := [some (.ref 2), some (.int x2), some (.int x3), some (.int x4), some (.int x5), some (.int x6), some (.ref 118), none]) zd_265_6 rfl]
  rw [zs_iload (ls := [some (.ref 2), some (.int x2), some (.int x3), some (.int x4), some (.int x5), some (.int x6), some (.ref 118), none]) zd_265_7 rfl]
  rw [zs_iload (ls := [some (.ref 2), some (.int x2), some (.int x3), some (.int x4), some (.int x5), some (.int x6), some (.ref 118), none]) zd_265_9 rfl]
  obtain ⟨r1, hr1, H⟩ := Option.bind_eq_some_iff.mp H
  rw [zp_callVi (x := r1.1) (st := [.int x6, .int x5, .int x4, .int x3, .int x2, .ref 2, .int 0, .ref 118]) (as := [.ref 2, .int x2, .int x3, .int x4, .int x5, .int x6]) (rest := [.int 0, .ref 118]) (e := 1) zd_265_11 rfl (by decide +kernel) (by decide) rfl rfl (Nat.le_of_ble_eq_true rfl) (zx_rcb_ok rfl (show 2 < 119 by decide)) (Nat.le_of_ble_eq_true rfl) rfl (by decide) (zt_X_feed hr1)]
  rw [zp_i2l (x := r1.1) (z := (r1.1 : Int32).toInt64) zd_265_14 rfl]
  rw [zp_lastore (n := 119) (K := zx_pk (zK L) 119) (q := 118) (m := 1) (i := 0) (k := 0) (x := (r1.1 : Int32).toInt64) (z := (r1.1 : Int32).toInt64) zd_265_15 rfl ⟨by decide, by decide⟩ (by decide) (by decide) rfl]
  rw [zs_goto (t := 23) zd_265_16 rfl]
  rw [zs_iconst (z := 0) zd_265_23 (by decide)]
  have H := Option.some.inj H
  subst H
  exact zs_ireturn zd_265_24 (by decide +kernel)
set_option maxRecDepth 20000 in
theorem zt_Law_856 {a b L N : Nat} {k23 : Nat → Nat → zS → zT → Int32 → Option (Int32 × Nat × Nat × zS × zT)} (hk23 : ∀ {a b : Nat} {σ : zS} {τ : zT} {v4 : Int32} {o5 : Option Value} {o6 : Option Value} {r : Int32 × Nat × Nat × zS × zT}, k23 a b σ τ v4 = some r → zx_go 40 264 23 [some (.ref 0), some (.ref 2), some (.ref 82), some (.ref 118), some (.int v4), o5, o6] [] ((119, a, b), zx_pk (zK L) 119, σ, τ, zR) = some (some (.int r.1), ((119, r.2.1, r.2.2.1), zx_pk (zK L) 119, r.2.2.2.1, r.2.2.2.2, zR))) {σ : zS} {τ : zT} {v4 : Int32} {o5 : Option Value} {o6 : Option Value} {r : Int32 × Nat × Nat × zS × zT} (H : zb_Law_856 L k23 N a b σ τ v4 = some r) : zx_go 40 264 856 [some (.ref 0), some (.ref 2), some (.ref 82), some (.ref 118), some (.int v4), o5, o6] [] ((119, a, b), zx_pk (zK L) 119, σ, τ, zR) = some (some (.int r.1), ((119, r.2.1, r.2.2.1), zx_pk (zK L) 119, r.2.2.2.1, r.2.2.2.2, zR)) := by
  unfold zb_Law_856 at H
  rw [zs_iinc (ls := [some (.ref 0), some (.ref 2), some (.ref 82), some (.ref 118), some (.int v4), o5, o6]) (x := v4) (z := (v4 + 6)) (ls' := [some (.ref 0), some (.ref 2), some (.ref 82), some (.ref 118), some (.int (v4 + 6)), o5, o6]) zd_264_856 rfl rfl rfl]
  rw [zs_goto (t := 23) zd_264_859 rfl]
  exact hk23 H
set_option maxRecDepth 20000 in
theorem zt_Law_245 {a b L N : Nat} {k23 : Nat → Nat → zS → zT → Int32 → Option (Int32 × Nat × Nat × zS × zT)} (hk23 : ∀ {a b : Nat} {σ : zS} {τ : zT} {v4 : Int32} {o5 : Option Value} {o6 : Option Value} {r : Int32 × Nat × Nat × zS × zT}, k23 a b σ τ v4 = some r → zx_go 40 264 23 [some (.ref 0), some (.ref 2), some (.ref 82), some (.ref 118), some (.int v4), o5, o6] [] ((119, a, b), zx_pk (zK L) 119, σ, τ, zR) = some (some (.int r.1), ((119, r.2.1, r.2.2.1), zx_pk (zK L) 119, r.2.2.2.1, r.2.2.2.2, zR))) {σ : zS} {τ : zT} {v4 : Int32} {o5 : Option Value} {o6 : Option Value} {r : Int32 × Nat × Nat × zS × zT} (H : zb_Law_245 L k23 N a b σ τ v4 = some r) : zx_go 40 264 245 [some (.ref 0), some (.ref 2), some (.ref 82), some (.ref 118), some (.int v4), o5, o6] [] ((119, a, b), zx_pk (zK L) 119, σ, τ, zR) = some (some (.int r.1), ((119, r.2.1, r.2.2.1), zx_pk (zK L) 119, r.2.2.2.1, r.2.2.2.2, zR)) := by
  unfold zb_Law_245 at H
  rw [zs_goto (t := 856) zd_264_245 rfl]
  exact zt_Law_856 (hk23 := hk23) H
set_option maxRecDepth 20000 in
theorem zt_Law_23 {L N : Nat} : ∀ {n a b : Nat} {σ : zS} {τ : zT} {v4 : Int32} {o5 : Option Value} {o6 : Option Value} {r : Int32 × Nat × Nat × zS × zT}, zb_Law_23 L N n a b σ τ v4 = some r → zx_go 40 264 23 [some (.ref 0), some (.ref 2), some (.ref 82), some (.ref 118), some (.int v4), o5, o6] [] ((119, a, b), zx_pk (zK L) 119, σ, τ, zR) = some (some (.int r.1), ((119, r.2.1, r.2.2.1), zx_pk (zK L) 119, r.2.2.2.1, r.2.2.2.2, zR)) := by
  intro n
  induction n with
  | zero =>
    intro _ _ _ _ _ _ _ _ H
    cases H
  | succ n ih =>
    intro a b σ τ v4 o5 o6 r H
    rw [zb_Law_23] at H
    rw [zs_iload (ls := [some (.ref 0), some (.ref 2), some (.ref 82), some (.ref 118), some (.int v4), o5, o6]) zd_264_23 rfl]
    rw [zs_aload_n (ls := [some (.ref 0), some (.ref 2), some (.ref 82), some (.ref 118), some (.int v4), o5, o6]) zd_264_25 rfl]
    rw [zs_arraylength (n := 119) (K := zx_pk (zK L) 119) (q := 0) (m := L) (z := Int32.ofNat L) zd_264_26 rfl (by decide) rfl]
    rw [zs_bipush (z := 6) zd_264_27 (by decide)]
    rw [zp_isub (x := (Int32.ofNat L)) (y := 6) (z := ((Int32.ofNat L) - 6)) zd_264_29 rfl]
    by_cases c1 : ((Int32.ofNat L) - 6) < v4
    · rw [if_pos c1] at H
      rw [zp_icmp_gt_t (x := v4) (y := ((Int32.ofNat L) - 6)) (t := 862) zd_264_30 rfl c1]
      rw [zs_iconst (z := 1) zd_264_862 (by decide)]
      have H := Option.some.inj H
      subst H
      exact zs_ireturn zd_264_863 (by decide +kernel)
    · rw [if_neg c1] at H
      rw [zp_icmp_gt_f (x := v4) (y := ((Int32.ofNat L) - 6)) (t := 862) zd_264_30 rfl c1]
      rw [zs_aload_n (ls := [some (.ref 0), some (.ref 2), some (.ref 82), some (.ref 118), some (.int v4), o5, o6]) zd_264_33 rfl]
      rw [zs_iload (ls := [some (.ref 0), some (.ref 2), some (.ref 82), some (.ref 118), some (.int v4), o5, o6]) zd_264_34 rfl]
      by_cases c2 : zx_ins v4 L = true
      · rw [if_pos c2] at H
        rw [zp_iaload (n := 119) (K := zx_pk (zK L) 119) (σ := σ) (q := 0) (m := L) (i := v4) (k := v4.toNatClampNeg) (v := (σ 0 v4.toNatClampNeg)) zd_264_36 rfl (by decide) c2 rfl rfl]
        rw [zs_bipush (z := 31) zd_264_37 (by decide)]
        rw [zp_iand (x := (σ 0 v4.toNatClampNeg)) (y := 31) (z := ((σ 0 v4.toNatClampNeg) &&& 31)) zd_264_39 rfl]
        by_cases c3 : ((σ 0 v4.toNatClampNeg) &&& 31) = 0
        · rw [if_pos c3] at H
          rw [zs_table (x := ((σ 0 v4.toNatClampNeg) &&& 31)) (off := 104) (t := 144) zd_264_40 (by rw [c3]; decide) rfl]
          rw [zs_aload_n (ls := [some (.ref 0), some (.ref 2), some (.ref 82), some (.ref 118), some (.int v4), o5, o6]) zd_264_144 rfl]
          rw [zs_aload_n (ls := [some (.ref 0), some (.ref 2), some (.ref 82), some (.ref 118), some (.int v4), o5, o6]) zd_264_145 rfl]
          rw [zs_iload (ls := [some (.ref 0), some (.ref 2), some (.ref 82), some (.ref 118), some (.int v4), o5, o6]) zd_264_146 rfl]
          rw [zs_iconst (z := 1) zd_264_148 (by decide)]
          rw [zp_iadd (x := v4) (y := 1) (z := (v4 + 1)) zd_264_149 rfl]
          by_cases c148 : zx_ins (v4 + 1) L = true
          · rw [if_pos c148] at H
            rw [zp_iaload (n := 119) (K := zx_pk (zK L) 119) (σ := σ) (q := 0) (m := L) (i := (v4 + 1)) (k := (v4 + 1).toNatClampNeg) (v := (σ 0 (v4 + 1).toNatClampNeg)) zd_264_150 rfl (by decide) c148 rfl rfl]
            rw [zs_aload_n (ls := [some (.ref 0), some (.ref 2), some (.ref 82), some (.ref 118), some (.int v4), o5, o6]) zd_264_151 rfl]
            rw [zs_iload (ls := [some (.ref 0), some (.ref 2), some (.ref 82), some (.ref 118), some (.int v4), o5, o6]) zd_264_152 rfl]
            rw [zs_iconst (z := 2) zd_264_154 (by decide)]
            rw [zp_iadd (x := v4) (y := 2) (z := (v4 + 2)) zd_264_155 rfl]
            by_cases c149 : zx_ins (v4 + 2) L = true
            · rw [if_pos c149] at H
              rw [zp_iaload (n := 119) (K := zx_pk (zK L) 119) (σ := σ) (q := 0) (m := L) (i := (v4 + 2)) (k := (v4 + 2).toNatClampNeg) (v := (σ 0 (v4 + 2).toNatClampNeg)) zd_264_156 rfl (by decide) c149 rfl rfl]
              rw [zs_aload_n (ls := [some (.ref 0), some (.ref 2), some (.ref 82), some (.ref 118), some (.int v4), o5, o6]) zd_264_157 rfl]
              rw [zs_iload (ls := [some (.ref 0), some (.ref 2), some (.ref 82), some (.ref 118), some (.int v4), o5, o6]) zd_264_158 rfl]
              rw [zs_iconst (z := 3) zd_264_160 (by decide)]
              rw [zp_iadd (x := v4) (y := 3) (z := (v4 + 3)) zd_264_161 rfl]
              by_cases c150 : zx_ins (v4 + 3) L = true
              · rw [if_pos c150] at H
                rw [zp_iaload (n := 119) (K := zx_pk (zK L) 119) (σ := σ) (q := 0) (m := L) (i := (v4 + 3)) (k := (v4 + 3).toNatClampNeg) (v := (σ 0 (v4 + 3).toNatClampNeg)) zd_264_162 rfl (by decide) c150 rfl rfl]
                rw [zs_aload_n (ls := [some (.ref 0), some (.ref 2), some (.ref 82), some (.ref 118), some (.int v4), o5, o6]) zd_264_163 rfl]
                rw [zs_iload (ls := [some (.ref 0), some (.ref 2), some (.ref 82), some (.ref 118), some (.int v4), o5, o6]) zd_264_164 rfl]
                rw [zs_iconst (z := 4) zd_264_166 (by decide)]
                rw [zp_iadd (x := v4) (y := 4) (z := (v4 + 4)) zd_264_167 rfl]
                by_cases c151 : zx_ins (v4 + 4) L = true
                · rw [if_pos c151] at H
                  rw [zp_iaload (n := 119) (K := zx_pk (zK L) 119) (σ := σ) (q := 0) (m := L) (i := (v4 + 4)) (k := (v4 + 4).toNatClampNeg) (v := (σ 0 (v4 + 4).toNatClampNeg)) zd_264_168 rfl (by decide) c151 rfl rfl]
                  rw [zs_aload_n (ls := [some (.ref 0), some (.ref 2), some (.ref 82), some (.ref 118), some (.int v4), o5, o6]) zd_264_169 rfl]
                  rw [zs_iload (ls := [some (.ref 0), some (.ref 2), some (.ref 82), some (.ref 118), some (.int v4), o5, o6]) zd_264_170 rfl]
                  rw [zs_iconst (z := 5) zd_264_172 (by decide)]
                  rw [zp_iadd (x := v4) (y := 5) (z := (v4 + 5)) zd_264_173 rfl]
                  by_cases c152 : zx_ins (v4 + 5) L = true
                  · rw [if_pos c152] at H
                    rw [zp_iaload (n := 119) (K := zx_pk (zK L) 119) (σ := σ) (q := 0) (m := L) (i := (v4 + 5)) (k := (v4 + 5).toNatClampNeg) (v := (σ 0 (v4 + 5).toNatClampNeg)) zd_264_174 rfl (by decide) c152 rfl rfl]
                    rw [zs_aload_n (ls := [some (.ref 0), some (.ref 2), some (.ref 82), some (.ref 118), some (.int v4), o5, o6]) zd_264_175 rfl]
                    by_cases c153 : (σ 2 11) < 0 ∨ 1500 < (σ 2 11) + 20
                    · rw [if_pos c153] at H
                      rw [zp_lawFt (rest := []) (K := zx_pk (zK L) 119) (n := 119) (σ := σ) (v := (σ 2 11)) zd_264_176 rfl (Nat.le_of_ble_eq_true rfl) rfl (by decide) (by decide) rfl c153 (by decide)]
                      rw [zs_istore (x := 1) (ls' := [some (.ref 0), some (.ref 2), some (.ref 82), some (.ref 118), some (.int v4), some (.int 1), o6]) zd_264_179 (Nat.le_of_ble_eq_true rfl) rfl]
                      rw [zs_aload_n (ls := [some (.ref 0), some (.ref 2), some (.ref 82), some (.ref 118), some (.int v4), some (.int 1), o6]) zd_264_181 rfl]
                      rw [zs_aload_n (ls := [some (.ref 0), some (.ref 2), some (.ref 82), some (.ref 118), some (.int v4), some (.int 1), o6]) zd_264_182 rfl]
                      rw [zs_iload (ls := [some (.ref 0), some (.ref 2), some (.ref 82), some (.ref 118), some (.int v4), some (.int 1), o6]) zd_264_183 rfl]
                      rw [zs_iconst (z := 1) zd_264_185 (by decide)]
                      rw [zp_iadd (x := v4) (y := 1) (z := (v4 + 1)) zd_264_186 rfl]
                      by_cases c155 : zx_ins (v4 + 1) L = true
                      · rw [if_pos c155] at H
                        rw [zp_iaload (n := 119) (K := zx_pk (zK L) 119) (σ := σ) (q := 0) (m := L) (i := (v4 + 1)) (k := (v4 + 1).toNatClampNeg) (v := (σ 0 (v4 + 1).toNatClampNeg)) zd_264_187 rfl (by decide) c155 rfl rfl]
                        rw [zs_aload_n (ls := [some (.ref 0), some (.ref 2), some (.ref 82), some (.ref 118), some (.int v4), some (.int 1), o6]) zd_264_188 rfl]
                        rw [zs_iload (ls := [some (.ref 0), some (.ref 2), some (.ref 82), some (.ref 118), some (.int v4), some (.int 1), o6]) zd_264_189 rfl]
                        rw [zs_iconst (z := 2) zd_264_191 (by decide)]
                        rw [zp_iadd (x := v4) (y := 2) (z := (v4 + 2)) zd_264_192 rfl]
                        by_cases c156 : zx_ins (v4 + 2) L = true
                        · rw [if_pos c156] at H
                          rw [zp_iaload (n := 119) (K := zx_pk (zK L) 119) (σ := σ) (q := 0) (m := L) (i := (v4 + 2)) (k := (v4 + 2).toNatClampNeg) (v := (σ 0 (v4 + 2).toNatClampNeg)) zd_264_193 rfl (by decide) c156 rfl rfl]
                          rw [zs_aload_n (ls := [some (.ref 0), some (.ref 2), some (.ref 82), some (.ref 118), some (.int v4), some (.int 1), o6]) zd_264_194 rfl]
                          rw [zs_iload (ls := [some (.ref 0), some (.ref 2), some (.ref 82), some (.ref 118), some (.int v4), some (.int 1), o6]) zd_264_195 rfl]
                          rw [zs_iconst (z := 3) zd_264_197 (by decide)]
                          rw [zp_iadd (x := v4) (y := 3) (z := (v4 + 3)) zd_264_198 rfl]
                          by_cases c157 : zx_ins (v4 + 3) L = true
                          · rw [if_pos c157] at H
                            rw [zp_iaload (n := 119) (K := zx_pk (zK L) 119) (σ := σ) (q := 0) (m := L) (i := (v4 + 3)) (k := (v4 + 3).toNatClampNeg) (v := (σ 0 (v4 + 3).toNatClampNeg)) zd_264_199 rfl (by decide) c157 rfl rfl]
                            rw [zs_aload_n (ls := [some (.ref 0), some (.ref 2), some (.ref 82), some (.ref 118), some (.int v4), some (.int 1), o6]) zd_264_200 rfl]
                            rw [zs_iload (ls := [some (.ref 0), some (.ref 2), some (.ref 82), some (.ref 118), some (.int v4), some (.int 1), o6]) zd_264_201 rfl]
                            rw [zs_iconst (z := 4) zd_264_203 (by decide)]
                            rw [zp_iadd (x := v4) (y := 4) (z := (v4 + 4)) zd_264_204 rfl]
                            by_cases c158 : zx_ins (v4 + 4) L = true
                            · rw [if_pos c158] at H
                              rw [zp_iaload (n := 119) (K := zx_pk (zK L) 119) (σ := σ) (q := 0) (m := L) (i := (v4 + 4)) (k := (v4 + 4).toNatClampNeg) (v := (σ 0 (v4 + 4).toNatClampNeg)) zd_264_205 rfl (by decide) c158 rfl rfl]
                              rw [zs_aload_n (ls := [some (.ref 0), some (.ref 2), some (.ref 82), some (.ref 118), some (.int v4), some (.int 1), o6]) zd_264_206 rfl]
                              rw [zs_iload (ls := [some (.ref 0), some (.ref 2), some (.ref 82), some (.ref 118), some (.int v4), some (.int 1), o6]) zd_264_207 rfl]
                              rw [zs_iconst (z := 5) zd_264_209 (by decide)]
                              rw [zp_iadd (x := v4) (y := 5) (z := (v4 + 5)) zd_264_210 rfl]
                              by_cases c159 : zx_ins (v4 + 5) L = true
                              · rw [if_pos c159] at H
                                rw [zp_iaload (n := 119) (K := zx_pk (zK L) 119) (σ := σ) (q := 0) (m := L) (i := (v4 + 5)) (k := (v4 + 5).toNatClampNeg) (v := (σ 0 (v4 + 5).toNatClampNeg)) zd_264_211 rfl (by decide) c159 rfl rfl]
                                obtain ⟨r160, hr160, H⟩ := Option.bind_eq_some_iff.mp H
                                rw [zp_callVi (x := r160.1) (st := [.int (σ 0 (v4 + 5).toNatClampNeg), .int (σ 0 (v4 + 4).toNatClampNeg), .int (σ 0 (v4 + 3).toNatClampNeg), .int (σ 0 (v4 + 2).toNatClampNeg), .int (σ 0 (v4 + 1).toNatClampNeg), .ref 82]) (as := [.ref 82, .int (σ 0 (v4 + 1).toNatClampNeg), .int (σ 0 (v4 + 2).toNatClampNeg), .int (σ 0 (v4 + 3).toNatClampNeg), .int (σ 0 (v4 + 4).toNatClampNeg), .int (σ 0 (v4 + 5).toNatClampNeg)]) (rest := []) (e := 0) zd_264_212 rfl (by decide +kernel) (by decide) rfl rfl (Nat.le_of_ble_eq_true rfl) (zx_rcb_ok rfl (show 82 < 119 by decide)) (Nat.le_of_ble_eq_true rfl) rfl (by decide) (zt_M_feed hr160)]
                                rw [zs_istore (x := r160.1) (ls' := [some (.ref 0), some (.ref 2), some (.ref 82), some (.ref 118), some (.int v4), some (.int 1), some (.int r160.1)]) zd_264_215 (Nat.le_of_ble_eq_true rfl) rfl]
                                rw [zs_aload_n (ls := [some (.ref 0), some (.ref 2), some (.ref 82), some (.ref 118), some (.int v4), some (.int 1), some (.int r160.1)]) zd_264_217 rfl]
                                obtain ⟨r161, hr161, H⟩ := Option.bind_eq_some_iff.mp H
                                rw [zp_callVi (x := r161) (st := [.ref 82]) (as := [.ref 82]) (rest := []) (e := 0) zd_264_218 rfl (by decide +kernel) (by decide) rfl rfl (Nat.le_of_ble_eq_true rfl) (zx_rcb_ok rfl (show 82 < 119 by decide)) (Nat.le_of_ble_eq_true rfl) rfl (by decide) (zt_M_thrown hr161)]
                                rw [zs_iload (ls := [some (.ref 0), some (.ref 2), some (.ref 82), some (.ref 118), some (.int v4), some (.int 1), some (.int r160.1)]) zd_264_221 rfl]
                                by_cases c162 : r161 = 1
                                · rw [if_pos c162] at H
                                  rw [zp_icmp_eq_t (x := r161) (y := 1) (t := 228) zd_264_223 rfl c162]
                                  rw [zs_iload (ls := [some (.ref 0), some (.ref 2), some (.ref 82), some (.ref 118), some (.int v4), some (.int 1), some (.int r160.1)]) zd_264_228 rfl]
                                  rw [zp_if_ne_t (x := 1) (t := 245) zd_264_230 rfl (by decide)]
                                  exact zt_Law_245 (hk23 := ih) H
                                · rw [if_neg c162] at H
                                  rw [zp_icmp_eq_f (x := r161) (y := 1) (t := 228) zd_264_223 rfl c162]
                                  rw [zs_iconst (z := 0) zd_264_226 (by decide)]
                                  have H := Option.some.inj H
                                  subst H
                                  exact zs_ireturn zd_264_227 (by decide +kernel)
                              · rw [if_neg c159] at H
                                cases H
                            · rw [if_neg c158] at H
                              cases H
                          · rw [if_neg c157] at H
                            cases H
                        · rw [if_neg c156] at H
                          cases H
                      · rw [if_neg c155] at H
                        cases H
                    · rw [if_neg c153] at H
                      obtain ⟨r154, hr154, H⟩ := Option.bind_eq_some_iff.mp H
                      rw [zp_lawF (rest := []) (r := r154.1) (e := 2) (σ := σ) (v := (σ 2 11)) zd_264_176 rfl (Nat.le_of_ble_eq_true rfl) rfl c153 rfl (by decide) (zt_Law_feed hr154)]
                      rw [zs_istore (x := r154.1) (ls' := [some (.ref 0), some (.ref 2), some (.ref 82), some (.ref 118), some (.int v4), some (.int r154.1), o6]) zd_264_179 (Nat.le_of_ble_eq_true rfl) rfl]
                      rw [zs_aload_n (ls := [some (.ref 0), some (.ref 2), some (.ref 82), some (.ref 118), some (.int v4), some (.int r154.1), o6]) zd_264_181 rfl]
                      rw [zs_aload_n (ls := [some (.ref 0), some (.ref 2), some (.ref 82), some (.ref 118), some (.int v4), some (.int r154.1), o6]) zd_264_182 rfl]
                      rw [zs_iload (ls := [some (.ref 0), some (.ref 2), some (.ref 82), some (.ref 118), some (.int v4), some (.int r154.1), o6]) zd_264_183 rfl]
                      rw [zs_iconst (z := 1) zd_264_185 (by decide)]
                      rw [zp_iadd (x := v4) (y := 1) (z := (v4 + 1)) zd_264_186 rfl]
                      by_cases c163 : zx_ins (v4 + 1) L = true
                      · rw [if_pos c163] at H
                        rw [zp_iaload (n := 119) (K := zx_pk (zK L) 119) (σ := r154.2.1) (q := 0) (m := L) (i := (v4 + 1)) (k := (v4 + 1).toNatClampNeg) (v := (r154.2.1 0 (v4 + 1).toNatClampNeg)) zd_264_187 rfl (by decide) c163 rfl rfl]
                        rw [zs_aload_n (ls := [some (.ref 0), some (.ref 2), some (.ref 82), some (.ref 118), some (.int v4), some (.int r154.1), o6]) zd_264_188 rfl]
                        rw [zs_iload (ls := [some (.ref 0), some (.ref 2), some (.ref 82), some (.ref 118), some (.int v4), some (.int r154.1), o6]) zd_264_189 rfl]
                        rw [zs_iconst (z := 2) zd_264_191 (by decide)]
                        rw [zp_iadd (x := v4) (y := 2) (z := (v4 + 2)) zd_264_192 rfl]
                        by_cases c164 : zx_ins (v4 + 2) L = true
                        · rw [if_pos c164] at H
                          rw [zp_iaload (n := 119) (K := zx_pk (zK L) 119) (σ := r154.2.1) (q := 0) (m := L) (i := (v4 + 2)) (k := (v4 + 2).toNatClampNeg) (v := (r154.2.1 0 (v4 + 2).toNatClampNeg)) zd_264_193 rfl (by decide) c164 rfl rfl]
                          rw [zs_aload_n (ls := [some (.ref 0), some (.ref 2), some (.ref 82), some (.ref 118), some (.int v4), some (.int r154.1), o6]) zd_264_194 rfl]
                          rw [zs_iload (ls := [some (.ref 0), some (.ref 2), some (.ref 82), some (.ref 118), some (.int v4), some (.int r154.1), o6]) zd_264_195 rfl]
                          rw [zs_iconst (z := 3) zd_264_197 (by decide)]
                          rw [zp_iadd (x := v4) (y := 3) (z := (v4 + 3)) zd_264_198 rfl]
                          by_cases c165 : zx_ins (v4 + 3) L = true
                          · rw [if_pos c165] at H
                            rw [zp_iaload (n := 119) (K := zx_pk (zK L) 119) (σ := r154.2.1) (q := 0) (m := L) (i := (v4 + 3)) (k := (v4 + 3).toNatClampNeg) (v := (r154.2.1 0 (v4 + 3).toNatClampNeg)) zd_264_199 rfl (by decide) c165 rfl rfl]
                            rw [zs_aload_n (ls := [some (.ref 0), some (.ref 2), some (.ref 82), some (.ref 118), some (.int v4), some (.int r154.1), o6]) zd_264_200 rfl]
                            rw [zs_iload (ls := [some (.ref 0), some (.ref 2), some (.ref 82), some (.ref 118), some (.int v4), some (.int r154.1), o6]) zd_264_201 rfl]
                            rw [zs_iconst (z := 4) zd_264_203 (by decide)]
                            rw [zp_iadd (x := v4) (y := 4) (z := (v4 + 4)) zd_264_204 rfl]
                            by_cases c166 : zx_ins (v4 + 4) L = true
                            · rw [if_pos c166] at H
                              rw [zp_iaload (n := 119) (K := zx_pk (zK L) 119) (σ := r154.2.1) (q := 0) (m := L) (i := (v4 + 4)) (k := (v4 + 4).toNatClampNeg) (v := (r154.2.1 0 (v4 + 4).toNatClampNeg)) zd_264_205 rfl (by decide) c166 rfl rfl]
                              rw [zs_aload_n (ls := [some (.ref 0), some (.ref 2), some (.ref 82), some (.ref 118), some (.int v4), some (.int r154.1), o6]) zd_264_206 rfl]
                              rw [zs_iload (ls := [some (.ref 0), some (.ref 2), some (.ref 82), some (.ref 118), some (.int v4), some (.int r154.1), o6]) zd_264_207 rfl]
                              rw [zs_iconst (z := 5) zd_264_209 (by decide)]
                              rw [zp_iadd (x := v4) (y := 5) (z := (v4 + 5)) zd_264_210 rfl]
                              by_cases c167 : zx_ins (v4 + 5) L = true
                              · rw [if_pos c167] at H
                                rw [zp_iaload (n := 119) (K := zx_pk (zK L) 119) (σ := r154.2.1) (q := 0) (m := L) (i := (v4 + 5)) (k := (v4 + 5).toNatClampNeg) (v := (r154.2.1 0 (v4 + 5).toNatClampNeg)) zd_264_211 rfl (by decide) c167 rfl rfl]
                                obtain ⟨r168, hr168, H⟩ := Option.bind_eq_some_iff.mp H
                                rw [zp_callVi (x := r168.1) (st := [.int (r154.2.1 0 (v4 + 5).toNatClampNeg), .int (r154.2.1 0 (v4 + 4).toNatClampNeg), .int (r154.2.1 0 (v4 + 3).toNatClampNeg), .int (r154.2.1 0 (v4 + 2).toNatClampNeg), .int (r154.2.1 0 (v4 + 1).toNatClampNeg), .ref 82]) (as := [.ref 82, .int (r154.2.1 0 (v4 + 1).toNatClampNeg), .int (r154.2.1 0 (v4 + 2).toNatClampNeg), .int (r154.2.1 0 (v4 + 3).toNatClampNeg), .int (r154.2.1 0 (v4 + 4).toNatClampNeg), .int (r154.2.1 0 (v4 + 5).toNatClampNeg)]) (rest := []) (e := 0) zd_264_212 rfl (by decide +kernel) (by decide) rfl rfl (Nat.le_of_ble_eq_true rfl) (zx_rcb_ok rfl (show 82 < 119 by decide)) (Nat.le_of_ble_eq_true rfl) rfl (by decide) (zt_M_feed hr168)]
                                rw [zs_istore (x := r168.1) (ls' := [some (.ref 0), some (.ref 2), some (.ref 82), some (.ref 118), some (.int v4), some (.int r154.1), some (.int r168.1)]) zd_264_215 (Nat.le_of_ble_eq_true rfl) rfl]
                                rw [zs_aload_n (ls := [some (.ref 0), some (.ref 2), some (.ref 82), some (.ref 118), some (.int v4), some (.int r154.1), some (.int r168.1)]) zd_264_217 rfl]
                                obtain ⟨r169, hr169, H⟩ := Option.bind_eq_some_iff.mp H
                                rw [zp_callVi (x := r169) (st := [.ref 82]) (as := [.ref 82]) (rest := []) (e := 0) zd_264_218 rfl (by decide +kernel) (by decide) rfl rfl (Nat.le_of_ble_eq_true rfl) (zx_rcb_ok rfl (show 82 < 119 by decide)) (Nat.le_of_ble_eq_true rfl) rfl (by decide) (zt_M_thrown hr169)]
                                rw [zs_iload (ls := [some (.ref 0), some (.ref 2), some (.ref 82), some (.ref 118), some (.int v4), some (.int r154.1), some (.int r168.1)]) zd_264_221 rfl]
                                by_cases c170 : r169 = r154.1
                                · rw [if_pos c170] at H
                                  rw [zp_icmp_eq_t (x := r169) (y := r154.1) (t := 228) zd_264_223 rfl c170]
                                  rw [zs_iload (ls := [some (.ref 0), some (.ref 2), some (.ref 82), some (.ref 118), some (.int v4), some (.int r154.1), some (.int r168.1)]) zd_264_228 rfl]
                                  by_cases c171 : ¬ r154.1 = 0
                                  · rw [if_pos c171] at H
                                    rw [zp_if_ne_t (x := r154.1) (t := 245) zd_264_230 rfl c171]
                                    exact zt_Law_245 (hk23 := ih) H
                                  · rw [if_neg c171] at H
                                    rw [zp_if_ne_f (x := r154.1) (t := 245) zd_264_230 rfl c171]
                                    rw [zs_aload_n (ls := [some (.ref 0), some (.ref 2), some (.ref 82), some (.ref 118), some (.int v4), some (.int r154.1), some (.int r168.1)]) zd_264_233 rfl]
                                    rw [zs_iconst (z := 0) zd_264_234 (by decide)]
                                    rw [zp_laload (n := 119) (K := zx_pk (zK L) 119) (τ := r154.2.2) (q := 118) (m := 1) (i := 0) (k := 0) (v := (r154.2.2 118 0)) zd_264_235 rfl (by decide) (by decide) (by decide) rfl]
                                    rw [zs_iload (ls := [some (.ref 0), some (.ref 2), some (.ref 82), some (.ref 118), some (.int v4), some (.int r154.1), some (.int r168.1)]) zd_264_236 rfl]
                                    rw [zp_i2l (x := r168.1) (z := (r168.1 : Int32).toInt64) zd_264_238 rfl]
                                    rw [zp_lcmp (x := (r154.2.2 118 0)) (y := (r168.1 : Int32).toInt64) (z := (lg_cmp (r154.2.2 118 0) (r168.1 : Int32).toInt64)) zd_264_239 rfl]
                                    by_cases c172 : (r154.2.2 118 0) = (r168.1 : Int32).toInt64
                                    · rw [if_pos c172] at H
                                      rw [zp_if_eq_t (x := (lg_cmp (r154.2.2 118 0) (r168.1 : Int32).toInt64)) (t := 245) zd_264_240 rfl (zJ_lc.mp c172)]
                                      exact zt_Law_245 (hk23 := ih) H
                                    · rw [if_neg c172] at H
                                      rw [zp_if_eq_f (x := (lg_cmp (r154.2.2 118 0) (r168.1 : Int32).toInt64)) (t := 245) zd_264_240 rfl (fun q => c172 (zJ_lc.mpr q))]
                                      rw [zs_iconst (z := 0) zd_264_243 (by decide)]
                                      have H := Option.some.inj H
                                      subst H
                                      exact zs_ireturn zd_264_244 (by decide +kernel)
                                · rw [if_neg c170] at H
                                  rw [zp_icmp_eq_f (x := r169) (y := r154.1) (t := 228) zd_264_223 rfl c170]
                                  rw [zs_iconst (z := 0) zd_264_226 (by decide)]
                                  have H := Option.some.inj H
                                  subst H
                                  exact zs_ireturn zd_264_227 (by decide +kernel)
                              · rw [if_neg c167] at H
                                cases H
                            · rw [if_neg c166] at H
                              cases H
                          · rw [if_neg c165] at H
                            cases H
                        · rw [if_neg c164] at H
                          cases H
                      · rw [if_neg c163] at H
                        cases H
                  · rw [if_neg c152] at H
                    cases H
                · rw [if_neg c151] at H
                  cases H
              · rw [if_neg c150] at H
                cases H
            · rw [if_neg c149] at H
              cases H
          · rw [if_neg c148] at H
            cases H
        · rw [if_neg c3] at H
          by_cases c4 : ((σ 0 v4.toNatClampNeg) &&& 31) = 1
          · rw [if_pos c4] at H
            rw [zs_table (x := ((σ 0 v4.toNatClampNeg) &&& 31)) (off := 208) (t := 248) zd_264_40 (by rw [c4]; decide) rfl]
            rw [zs_aload_n (ls := [some (.ref 0), some (.ref 2), some (.ref 82), some (.ref 118), some (.int v4), o5, o6]) zd_264_248 rfl]
            rw [zs_aload_n (ls := [some (.ref 0), some (.ref 2), some (.ref 82), some (.ref 118), some (.int v4), o5, o6]) zd_264_249 rfl]
            rw [zs_iload (ls := [some (.ref 0), some (.ref 2), some (.ref 82), some (.ref 118), some (.int v4), o5, o6]) zd_264_250 rfl]
            rw [zs_iconst (z := 1) zd_264_252 (by decide)]
            rw [zp_iadd (x := v4) (y := 1) (z := (v4 + 1)) zd_264_253 rfl]
            by_cases c137 : zx_ins (v4 + 1) L = true
            · rw [if_pos c137] at H
              rw [zp_iaload (n := 119) (K := zx_pk (zK L) 119) (σ := σ) (q := 0) (m := L) (i := (v4 + 1)) (k := (v4 + 1).toNatClampNeg) (v := (σ 0 (v4 + 1).toNatClampNeg)) zd_264_254 rfl (by decide) c137 rfl rfl]
              by_cases c138 : (σ 0 (v4 + 1).toNatClampNeg) < 0 ∨ (σ 2 11) < (σ 0 (v4 + 1).toNatClampNeg)
              · rw [if_pos c138] at H
                rw [zp_lawEt (rest := []) (K := zx_pk (zK L) 119) (n := 119) (σ := σ) (v := (σ 2 11)) zd_264_255 rfl (Nat.le_of_ble_eq_true rfl) rfl (by decide) (by decide) rfl c138 (by decide)]
                rw [zs_istore (x := 1) (ls' := [some (.ref 0), some (.ref 2), some (.ref 82), some (.ref 118), some (.int v4), some (.int 1), o6]) zd_264_258 (Nat.le_of_ble_eq_true rfl) rfl]
                rw [zs_aload_n (ls := [some (.ref 0), some (.ref 2), some (.ref 82), some (.ref 118), some (.int v4), some (.int 1), o6]) zd_264_260 rfl]
                rw [zs_aload_n (ls := [some (.ref 0), some (.ref 2), some (.ref 82), some (.ref 118), some (.int v4), some (.int 1), o6]) zd_264_261 rfl]
                rw [zs_iload (ls := [some (.ref 0), some (.ref 2), some (.ref 82), some (.ref 118), some (.int v4), some (.int 1), o6]) zd_264_262 rfl]
                rw [zs_iconst (z := 1) zd_264_264 (by decide)]
                rw [zp_iadd (x := v4) (y := 1) (z := (v4 + 1)) zd_264_265 rfl]
                by_cases c140 : zx_ins (v4 + 1) L = true
                · rw [if_pos c140] at H
                  rw [zp_iaload (n := 119) (K := zx_pk (zK L) 119) (σ := σ) (q := 0) (m := L) (i := (v4 + 1)) (k := (v4 + 1).toNatClampNeg) (v := (σ 0 (v4 + 1).toNatClampNeg)) zd_264_266 rfl (by decide) c140 rfl rfl]
                  obtain ⟨r141, hr141, H⟩ := Option.bind_eq_some_iff.mp H
                  rw [zp_callVv (st := [.int (σ 0 (v4 + 1).toNatClampNeg), .ref 82]) (as := [.ref 82, .int (σ 0 (v4 + 1).toNatClampNeg)]) (rest := []) (e := 1) zd_264_267 rfl (by decide +kernel) (by decide) rfl rfl (Nat.le_of_ble_eq_true rfl) (zx_rcb_ok rfl (show 82 < 119 by decide)) (Nat.le_of_ble_eq_true rfl) rfl (by decide) (zt_M_end hr141)]
                  rw [zs_aload_n (ls := [some (.ref 0), some (.ref 2), some (.ref 82), some (.ref 118), some (.int v4), some (.int 1), o6]) zd_264_270 rfl]
                  obtain ⟨r142, hr142, H⟩ := Option.bind_eq_some_iff.mp H
                  rw [zp_callVi (x := r142) (st := [.ref 82]) (as := [.ref 82]) (rest := []) (e := 0) zd_264_271 rfl (by decide +kernel) (by decide) rfl rfl (Nat.le_of_ble_eq_true rfl) (zx_rcb_ok rfl (show 82 < 119 by decide)) (Nat.le_of_ble_eq_true rfl) rfl (by decide) (zt_M_thrown hr142)]
                  rw [zs_iload (ls := [some (.ref 0), some (.ref 2), some (.ref 82), some (.ref 118), some (.int v4), some (.int 1), o6]) zd_264_274 rfl]
                  by_cases c143 : r142 = 1
                  · rw [if_pos c143] at H
                    rw [zp_icmp_eq_t (x := r142) (y := 1) (t := 281) zd_264_276 rfl c143]
                    rw [zs_goto (t := 856) zd_264_281 rfl]
                    exact zt_Law_856 (hk23 := ih) H
                  · rw [if_neg c143] at H
                    rw [zp_icmp_eq_f (x := r142) (y := 1) (t := 281) zd_264_276 rfl c143]
                    rw [zs_iconst (z := 0) zd_264_279 (by decide)]
                    have H := Option.some.inj H
                    subst H
                    exact zs_ireturn zd_264_280 (by decide +kernel)
                · rw [if_neg c140] at H
                  cases H
              · rw [if_neg c138] at H
                obtain ⟨r139, hr139, H⟩ := Option.bind_eq_some_iff.mp H
                rw [zp_lawE (rest := []) (r := r139.1) (e := 1) (σ := σ) (v := (σ 2 11)) zd_264_255 rfl (Nat.le_of_ble_eq_true rfl) rfl c138 rfl (by decide) (zt_Law_end hr139)]
                rw [zs_istore (x := r139.1) (ls' := [some (.ref 0), some (.ref 2), some (.ref 82), some (.ref 118), some (.int v4), some (.int r139.1), o6]) zd_264_258 (Nat.le_of_ble_eq_true rfl) rfl]
                rw [zs_aload_n (ls := [some (.ref 0), some (.ref 2), some (.ref 82), some (.ref 118), some (.int v4), some (.int r139.1), o6]) zd_264_260 rfl]
                rw [zs_aload_n (ls := [some (.ref 0), some (.ref 2), some (.ref 82), some (.ref 118), some (.int v4), some (.int r139.1), o6]) zd_264_261 rfl]
                rw [zs_iload (ls := [some (.ref 0), some (.ref 2), some (.ref 82), some (.ref 118), some (.int v4), some (.int r139.1), o6]) zd_264_262 rfl]
                rw [zs_iconst (z := 1) zd_264_264 (by decide)]
                rw [zp_iadd (x := v4) (y := 1) (z := (v4 + 1)) zd_264_265 rfl]
                by_cases c144 : zx_ins (v4 + 1) L = true
                · rw [if_pos c144] at H
                  rw [zp_iaload (n := 119) (K := zx_pk (zK L) 119) (σ := r139.2) (q := 0) (m := L) (i := (v4 + 1)) (k := (v4 + 1).toNatClampNeg) (v := (r139.2 0 (v4 + 1).toNatClampNeg)) zd_264_266 rfl (by decide) c144 rfl rfl]
                  obtain ⟨r145, hr145, H⟩ := Option.bind_eq_some_iff.mp H
                  rw [zp_callVv (st := [.int (r139.2 0 (v4 + 1).toNatClampNeg), .ref 82]) (as := [.ref 82, .int (r139.2 0 (v4 + 1).toNatClampNeg)]) (rest := []) (e := 1) zd_264_267 rfl (by decide +kernel) (by decide) rfl rfl (Nat.le_of_ble_eq_true rfl) (zx_rcb_ok rfl (show 82 < 119 by decide)) (Nat.le_of_ble_eq_true rfl) rfl (by decide) (zt_M_end hr145)]
                  rw [zs_aload_n (ls := [some (.ref 0), some (.ref 2), some (.ref 82), some (.ref 118), some (.int v4), some (.int r139.1), o6]) zd_264_270 rfl]
                  obtain ⟨r146, hr146, H⟩ := Option.bind_eq_some_iff.mp H
                  rw [zp_callVi (x := r146) (st := [.ref 82]) (as := [.ref 82]) (rest := []) (e := 0) zd_264_271 rfl (by decide +kernel) (by decide) rfl rfl (Nat.le_of_ble_eq_true rfl) (zx_rcb_ok rfl (show 82 < 119 by decide)) (Nat.le_of_ble_eq_true rfl) rfl (by decide) (zt_M_thrown hr146)]
                  rw [zs_iload (ls := [some (.ref 0), some (.ref 2), some (.ref 82), some (.ref 118), some (.int v4), some (.int r139.1), o6]) zd_264_274 rfl]
                  by_cases c147 : r146 = r139.1
                  · rw [if_pos c147] at H
                    rw [zp_icmp_eq_t (x := r146) (y := r139.1) (t := 281) zd_264_276 rfl c147]
                    rw [zs_goto (t := 856) zd_264_281 rfl]
                    exact zt_Law_856 (hk23 := ih) H
                  · rw [if_neg c147] at H
                    rw [zp_icmp_eq_f (x := r146) (y := r139.1) (t := 281) zd_264_276 rfl c147]
                    rw [zs_iconst (z := 0) zd_264_279 (by decide)]
                    have H := Option.some.inj H
                    subst H
                    exact zs_ireturn zd_264_280 (by decide +kernel)
                · rw [if_neg c144] at H
                  cases H
            · rw [if_neg c137] at H
              cases H
          · rw [if_neg c4] at H
            by_cases c5 : ((σ 0 v4.toNatClampNeg) &&& 31) = 2
            · rw [if_pos c5] at H
              rw [zs_table (x := ((σ 0 v4.toNatClampNeg) &&& 31)) (off := 244) (t := 284) zd_264_40 (by rw [c5]; decide) rfl]
              rw [zs_aload_n (ls := [some (.ref 0), some (.ref 2), some (.ref 82), some (.ref 118), some (.int v4), o5, o6]) zd_264_284 rfl]
              obtain ⟨r134, hr134, H⟩ := Option.bind_eq_some_iff.mp H
              rw [zp_callVi (x := r134.1) (st := [.ref 2]) (as := [.ref 2]) (rest := []) (e := 7) zd_264_285 rfl (by decide +kernel) (by decide) rfl rfl (Nat.le_of_ble_eq_true rfl) (zx_rcb_ok rfl (show 2 < 119 by decide)) (Nat.le_of_ble_eq_true rfl) rfl (by decide) (zt_X_read hr134)]
              rw [zs_aload_n (ls := [some (.ref 0), some (.ref 2), some (.ref 82), some (.ref 118), some (.int v4), o5, o6]) zd_264_288 rfl]
              obtain ⟨r135, hr135, H⟩ := Option.bind_eq_some_iff.mp H
              rw [zp_callVi (x := r135.1) (st := [.ref 82, .int r134.1]) (as := [.ref 82]) (rest := [.int r134.1]) (e := 7) zd_264_289 rfl (by decide +kernel) (by decide) rfl rfl (Nat.le_of_ble_eq_true rfl) (zx_rcb_ok rfl (show 82 < 119 by decide)) (Nat.le_of_ble_eq_true rfl) rfl (by decide) (zt_M_read hr135)]
              by_cases c136 : r134.1 = r135.1
              · rw [if_pos c136] at H
                rw [zp_icmp_eq_t (x := r134.1) (y := r135.1) (t := 856) zd_264_292 rfl c136]
                exact zt_Law_856 (hk23 := ih) H
              · rw [if_neg c136] at H
                rw [zp_icmp_eq_f (x := r134.1) (y := r135.1) (t := 856) zd_264_292 rfl c136]
                rw [zs_iconst (z := 0) zd_264_295 (by decide)]
                have H := Option.some.inj H
                subst H
                exact zs_ireturn zd_264_296 (by decide +kernel)
            · rw [if_neg c5] at H
              by_cases c6 : ((σ 0 v4.toNatClampNeg) &&& 31) = 3
              · rw [if_pos c6] at H
                rw [zs_table (x := ((σ 0 v4.toNatClampNeg) &&& 31)) (off := 257) (t := 297) zd_264_40 (by rw [c6]; decide) rfl]
                rw [zs_aload_n (ls := [some (.ref 0), some (.ref 2), some (.ref 82), some (.ref 118), some (.int v4), o5, o6]) zd_264_297 rfl]
                obtain ⟨r131, hr131, H⟩ := Option.bind_eq_some_iff.mp H
                rw [zp_callVi (x := r131) (st := [.ref 2]) (as := [.ref 2]) (rest := []) (e := 0) zd_264_298 rfl (by decide +kernel) (by decide) rfl rfl (Nat.le_of_ble_eq_true rfl) (zx_rcb_ok rfl (show 2 < 119 by decide)) (Nat.le_of_ble_eq_true rfl) rfl (by decide) (zt_X_fault hr131)]
                rw [zs_aload_n (ls := [some (.ref 0), some (.ref 2), some (.ref 82), some (.ref 118), some (.int v4), o5, o6]) zd_264_301 rfl]
                obtain ⟨r132, hr132, H⟩ := Option.bind_eq_some_iff.mp H
                rw [zp_callVi (x := r132.1) (st := [.ref 82, .int r131]) (as := [.ref 82]) (rest := [.int r131]) (e := 0) zd_264_302 rfl (by decide +kernel) (by decide) rfl rfl (Nat.le_of_ble_eq_true rfl) (zx_rcb_ok rfl (show 82 < 119 by decide)) (Nat.le_of_ble_eq_true rfl) rfl (by decide) (zt_M_fault hr132)]
                by_cases c133 : r131 = r132.1
                · rw [if_pos c133] at H
                  rw [zp_icmp_eq_t (x := r131) (y := r132.1) (t := 856) zd_264_305 rfl c133]
                  exact zt_Law_856 (hk23 := ih) H
                · rw [if_neg c133] at H
                  rw [zp_icmp_eq_f (x := r131) (y := r132.1) (t := 856) zd_264_305 rfl c133]
                  rw [zs_iconst (z := 0) zd_264_308 (by decide)]
                  have H := Option.some.inj H
                  subst H
                  exact zs_ireturn zd_264_309 (by decide +kernel)
              · rw [if_neg c6] at H
                by_cases c7 : ((σ 0 v4.toNatClampNeg) &&& 31) = 4
                · rw [if_pos c7] at H
                  rw [zs_table (x := ((σ 0 v4.toNatClampNeg) &&& 31)) (off := 270) (t := 310) zd_264_40 (by rw [c7]; decide) rfl]
                  rw [zs_aload_n (ls := [some (.ref 0), some (.ref 2), some (.ref 82), some (.ref 118), some (.int v4), o5, o6]) zd_264_310 rfl]
                  rw [zs_aload_n (ls := [some (.ref 0), some (.ref 2), some (.ref 82), some (.ref 118), some (.int v4), o5, o6]) zd_264_311 rfl]
                  rw [zs_iload (ls := [some (.ref 0), some (.ref 2), some (.ref 82), some (.ref 118), some (.int v4), o5, o6]) zd_264_312 rfl]
                  rw [zs_iconst (z := 1) zd_264_314 (by decide)]
                  rw [zp_iadd (x := v4) (y := 1) (z := (v4 + 1)) zd_264_315 rfl]
                  by_cases c126 : zx_ins (v4 + 1) L = true
                  · rw [if_pos c126] at H
                    rw [zp_iaload (n := 119) (K := zx_pk (zK L) 119) (σ := σ) (q := 0) (m := L) (i := (v4 + 1)) (k := (v4 + 1).toNatClampNeg) (v := (σ 0 (v4 + 1).toNatClampNeg)) zd_264_316 rfl (by decide) c126 rfl rfl]
                    obtain ⟨r127, hr127, H⟩ := Option.bind_eq_some_iff.mp H
                    rw [zp_callVi (x := r127) (st := [.int (σ 0 (v4 + 1).toNatClampNeg), .ref 2]) (as := [.ref 2, .int (σ 0 (v4 + 1).toNatClampNeg)]) (rest := []) (e := 0) zd_264_317 rfl (by decide +kernel) (by decide) rfl rfl (Nat.le_of_ble_eq_true rfl) (zx_rcb_ok rfl (show 2 < 119 by decide)) (Nat.le_of_ble_eq_true rfl) rfl (by decide) (zt_X_count hr127)]
                    rw [zs_aload_n (ls := [some (.ref 0), some (.ref 2), some (.ref 82), some (.ref 118), some (.int v4), o5, o6]) zd_264_320 rfl]
                    rw [zs_aload_n (ls := [some (.ref 0), some (.ref 2), some (.ref 82), some (.ref 118), some (.int v4), o5, o6]) zd_264_321 rfl]
                    rw [zs_iload (ls := [some (.ref 0), some (.ref 2), some (.ref 82), some (.ref 118), some (.int v4), o5, o6]) zd_264_322 rfl]
                    rw [zs_iconst (z := 1) zd_264_324 (by decide)]
                    rw [zp_iadd (x := v4) (y := 1) (z := (v4 + 1)) zd_264_325 rfl]
                    by_cases c128 : zx_ins (v4 + 1) L = true
                    · rw [if_pos c128] at H
                      rw [zp_iaload (n := 119) (K := zx_pk (zK L) 119) (σ := σ) (q := 0) (m := L) (i := (v4 + 1)) (k := (v4 + 1).toNatClampNeg) (v := (σ 0 (v4 + 1).toNatClampNeg)) zd_264_326 rfl (by decide) c128 rfl rfl]
                      obtain ⟨r129, hr129, H⟩ := Option.bind_eq_some_iff.mp H
                      rw [zp_callVi (x := r129.1) (st := [.int (σ 0 (v4 + 1).toNatClampNeg), .ref 82, .int r127]) (as := [.ref 82, .int (σ 0 (v4 + 1).toNatClampNeg)]) (rest := [.int r127]) (e := 1) zd_264_327 rfl (by decide +kernel) (by decide) rfl rfl (Nat.le_of_ble_eq_true rfl) (zx_rcb_ok rfl (show 82 < 119 by decide)) (Nat.le_of_ble_eq_true rfl) rfl (by decide) (zt_M_count hr129)]
                      by_cases c130 : r127 = r129.1
                      · rw [if_pos c130] at H
                        rw [zp_icmp_eq_t (x := r127) (y := r129.1) (t := 856) zd_264_330 rfl c130]
                        exact zt_Law_856 (hk23 := ih) H
                      · rw [if_neg c130] at H
                        rw [zp_icmp_eq_f (x := r127) (y := r129.1) (t := 856) zd_264_330 rfl c130]
                        rw [zs_iconst (z := 0) zd_264_333 (by decide)]
                        have H := Option.some.inj H
                        subst H
                        exact zs_ireturn zd_264_334 (by decide +kernel)
                    · rw [if_neg c128] at H
                      cases H
                  · rw [if_neg c126] at H
                    cases H
                · rw [if_neg c7] at H
                  by_cases c8 : ((σ 0 v4.toNatClampNeg) &&& 31) = 5
                  · rw [if_pos c8] at H
                    rw [zs_table (x := ((σ 0 v4.toNatClampNeg) &&& 31)) (off := 295) (t := 335) zd_264_40 (by rw [c8]; decide) rfl]
                    rw [zs_aload_n (ls := [some (.ref 0), some (.ref 2), some (.ref 82), some (.ref 118), some (.int v4), o5, o6]) zd_264_335 rfl]
                    rw [zs_aload_n (ls := [some (.ref 0), some (.ref 2), some (.ref 82), some (.ref 118), some (.int v4), o5, o6]) zd_264_336 rfl]
                    rw [zs_iload (ls := [some (.ref 0), some (.ref 2), some (.ref 82), some (.ref 118), some (.int v4), o5, o6]) zd_264_337 rfl]
                    rw [zs_iconst (z := 1) zd_264_339 (by decide)]
                    rw [zp_iadd (x := v4) (y := 1) (z := (v4 + 1)) zd_264_340 rfl]
                    by_cases c117 : zx_ins (v4 + 1) L = true
                    · rw [if_pos c117] at H
                      rw [zp_iaload (n := 119) (K := zx_pk (zK L) 119) (σ := σ) (q := 0) (m := L) (i := (v4 + 1)) (k := (v4 + 1).toNatClampNeg) (v := (σ 0 (v4 + 1).toNatClampNeg)) zd_264_341 rfl (by decide) c117 rfl rfl]
                      rw [zs_aload_n (ls := [some (.ref 0), some (.ref 2), some (.ref 82), some (.ref 118), some (.int v4), o5, o6]) zd_264_342 rfl]
                      rw [zs_iload (ls := [some (.ref 0), some (.ref 2), some (.ref 82), some (.ref 118), some (.int v4), o5, o6]) zd_264_343 rfl]
                      rw [zs_iconst (z := 2) zd_264_345 (by decide)]
                      rw [zp_iadd (x := v4) (y := 2) (z := (v4 + 2)) zd_264_346 rfl]
                      by_cases c118 : zx_ins (v4 + 2) L = true
                      · rw [if_pos c118] at H
                        rw [zp_iaload (n := 119) (K := zx_pk (zK L) 119) (σ := σ) (q := 0) (m := L) (i := (v4 + 2)) (k := (v4 + 2).toNatClampNeg) (v := (σ 0 (v4 + 2).toNatClampNeg)) zd_264_347 rfl (by decide) c118 rfl rfl]
                        rw [zs_aload_n (ls := [some (.ref 0), some (.ref 2), some (.ref 82), some (.ref 118), some (.int v4), o5, o6]) zd_264_348 rfl]
                        rw [zs_iload (ls := [some (.ref 0), some (.ref 2), some (.ref 82), some (.ref 118), some (.int v4), o5, o6]) zd_264_349 rfl]
                        rw [zs_iconst (z := 3) zd_264_351 (by decide)]
                        rw [zp_iadd (x := v4) (y := 3) (z := (v4 + 3)) zd_264_352 rfl]
                        by_cases c119 : zx_ins (v4 + 3) L = true
                        · rw [if_pos c119] at H
                          rw [zp_iaload (n := 119) (K := zx_pk (zK L) 119) (σ := σ) (q := 0) (m := L) (i := (v4 + 3)) (k := (v4 + 3).toNatClampNeg) (v := (σ 0 (v4 + 3).toNatClampNeg)) zd_264_353 rfl (by decide) c119 rfl rfl]
                          obtain ⟨r120, hr120, H⟩ := Option.bind_eq_some_iff.mp H
                          rw [zp_callVi (x := r120) (st := [.int (σ 0 (v4 + 3).toNatClampNeg), .int (σ 0 (v4 + 2).toNatClampNeg), .int (σ 0 (v4 + 1).toNatClampNeg), .ref 2]) (as := [.ref 2, .int (σ 0 (v4 + 1).toNatClampNeg), .int (σ 0 (v4 + 2).toNatClampNeg), .int (σ 0 (v4 + 3).toNatClampNeg)]) (rest := []) (e := 1) zd_264_354 rfl (by decide +kernel) (by decide) rfl rfl (Nat.le_of_ble_eq_true rfl) (zx_rcb_ok rfl (show 2 < 119 by decide)) (Nat.le_of_ble_eq_true rfl) rfl (by decide) (zt_X_step hr120)]
                          rw [zs_aload_n (ls := [some (.ref 0), some (.ref 2), some (.ref 82), some (.ref 118), some (.int v4), o5, o6]) zd_264_357 rfl]
                          rw [zs_aload_n (ls := [some (.ref 0), some (.ref 2), some (.ref 82), some (.ref 118), some (.int v4), o5, o6]) zd_264_358 rfl]
                          rw [zs_iload (ls := [some (.ref 0), some (.ref 2), some (.ref 82), some (.ref 118), some (.int v4), o5, o6]) zd_264_359 rfl]
                          rw [zs_iconst (z := 1) zd_264_361 (by decide)]
                          rw [zp_iadd (x := v4) (y := 1) (z := (v4 + 1)) zd_264_362 rfl]
                          by_cases c121 : zx_ins (v4 + 1) L = true
                          · rw [if_pos c121] at H
                            rw [zp_iaload (n := 119) (K := zx_pk (zK L) 119) (σ := σ) (q := 0) (m := L) (i := (v4 + 1)) (k := (v4 + 1).toNatClampNeg) (v := (σ 0 (v4 + 1).toNatClampNeg)) zd_264_363 rfl (by decide) c121 rfl rfl]
                            rw [zs_aload_n (ls := [some (.ref 0), some (.ref 2), some (.ref 82), some (.ref 118), some (.int v4), o5, o6]) zd_264_364 rfl]
                            rw [zs_iload (ls := [some (.ref 0), some (.ref 2), some (.ref 82), some (.ref 118), some (.int v4), o5, o6]) zd_264_365 rfl]
                            rw [zs_iconst (z := 2) zd_264_367 (by decide)]
                            rw [zp_iadd (x := v4) (y := 2) (z := (v4 + 2)) zd_264_368 rfl]
                            by_cases c122 : zx_ins (v4 + 2) L = true
                            · rw [if_pos c122] at H
                              rw [zp_iaload (n := 119) (K := zx_pk (zK L) 119) (σ := σ) (q := 0) (m := L) (i := (v4 + 2)) (k := (v4 + 2).toNatClampNeg) (v := (σ 0 (v4 + 2).toNatClampNeg)) zd_264_369 rfl (by decide) c122 rfl rfl]
                              rw [zs_aload_n (ls := [some (.ref 0), some (.ref 2), some (.ref 82), some (.ref 118), some (.int v4), o5, o6]) zd_264_370 rfl]
                              rw [zs_iload (ls := [some (.ref 0), some (.ref 2), some (.ref 82), some (.ref 118), some (.int v4), o5, o6]) zd_264_371 rfl]
                              rw [zs_iconst (z := 3) zd_264_373 (by decide)]
                              rw [zp_iadd (x := v4) (y := 3) (z := (v4 + 3)) zd_264_374 rfl]
                              by_cases c123 : zx_ins (v4 + 3) L = true
                              · rw [if_pos c123] at H
                                rw [zp_iaload (n := 119) (K := zx_pk (zK L) 119) (σ := σ) (q := 0) (m := L) (i := (v4 + 3)) (k := (v4 + 3).toNatClampNeg) (v := (σ 0 (v4 + 3).toNatClampNeg)) zd_264_375 rfl (by decide) c123 rfl rfl]
                                obtain ⟨r124, hr124, H⟩ := Option.bind_eq_some_iff.mp H
                                rw [zp_callVi (x := r124.1) (st := [.int (σ 0 (v4 + 3).toNatClampNeg), .int (σ 0 (v4 + 2).toNatClampNeg), .int (σ 0 (v4 + 1).toNatClampNeg), .ref 82, .int r120]) (as := [.ref 82, .int (σ 0 (v4 + 1).toNatClampNeg), .int (σ 0 (v4 + 2).toNatClampNeg), .int (σ 0 (v4 + 3).toNatClampNeg)]) (rest := [.int r120]) (e := 2) zd_264_376 rfl (by decide +kernel) (by decide) rfl rfl (Nat.le_of_ble_eq_true rfl) (zx_rcb_ok rfl (show 82 < 119 by decide)) (Nat.le_of_ble_eq_true rfl) rfl (by decide) (zt_M_step hr124)]
                                by_cases c125 : r120 = r124.1
                                · rw [if_pos c125] at H
                                  rw [zp_icmp_eq_t (x := r120) (y := r124.1) (t := 856) zd_264_379 rfl c125]
                                  exact zt_Law_856 (hk23 := ih) H
                                · rw [if_neg c125] at H
                                  rw [zp_icmp_eq_f (x := r120) (y := r124.1) (t := 856) zd_264_379 rfl c125]
                                  rw [zs_iconst (z := 0) zd_264_382 (by decide)]
                                  have H := Option.some.inj H
                                  subst H
                                  exact zs_ireturn zd_264_383 (by decide +kernel)
                              · rw [if_neg c123] at H
                                cases H
                            · rw [if_neg c122] at H
                              cases H
                          · rw [if_neg c121] at H
                            cases H
                        · rw [if_neg c119] at H
                          cases H
                      · rw [if_neg c118] at H
                        cases H
                    · rw [if_neg c117] at H
                      cases H
                  · rw [if_neg c8] at H
                    by_cases c9 : ((σ 0 v4.toNatClampNeg) &&& 31) = 6
                    · rw [if_pos c9] at H
                      rw [zs_table (x := ((σ 0 v4.toNatClampNeg) &&& 31)) (off := 344) (t := 384) zd_264_40 (by rw [c9]; decide) rfl]
                      rw [zs_aload_n (ls := [some (.ref 0), some (.ref 2), some (.ref 82), some (.ref 118), some (.int v4), o5, o6]) zd_264_384 rfl]
                      obtain ⟨r114, hr114, H⟩ := Option.bind_eq_some_iff.mp H
                      rw [zp_callVi (x := r114.1) (st := [.ref 2]) (as := [.ref 2]) (rest := []) (e := 6) zd_264_385 rfl (by decide +kernel) (by decide) rfl rfl (Nat.le_of_ble_eq_true rfl) (zx_rcb_ok rfl (show 2 < 119 by decide)) (Nat.le_of_ble_eq_true rfl) rfl (by decide) (zt_X_run hr114)]
                      rw [zs_aload_n (ls := [some (.ref 0), some (.ref 2), some (.ref 82), some (.ref 118), some (.int v4), o5, o6]) zd_264_388 rfl]
                      obtain ⟨r115, hr115, H⟩ := Option.bind_eq_some_iff.mp H
                      rw [zp_callVi (x := r115.1) (st := [.ref 82, .int r114.1]) (as := [.ref 82]) (rest := [.int r114.1]) (e := 4) zd_264_389 rfl (by decide +kernel) (by decide) rfl rfl (Nat.le_of_ble_eq_true rfl) (zx_rcb_ok rfl (show 82 < 119 by decide)) (Nat.le_of_ble_eq_true rfl) rfl (by decide) (zt_M_run hr115)]
                      by_cases c116 : r114.1 = r115.1
                      · rw [if_pos c116] at H
                        rw [zp_icmp_eq_t (x := r114.1) (y := r115.1) (t := 856) zd_264_392 rfl c116]
                        exact zt_Law_856 (hk23 := ih) H
                      · rw [if_neg c116] at H
                        rw [zp_icmp_eq_f (x := r114.1) (y := r115.1) (t := 856) zd_264_392 rfl c116]
                        rw [zs_iconst (z := 0) zd_264_395 (by decide)]
                        have H := Option.some.inj H
                        subst H
                        exact zs_ireturn zd_264_396 (by decide +kernel)
                    · rw [if_neg c9] at H
                      by_cases c10 : ((σ 0 v4.toNatClampNeg) &&& 31) = 7
                      · rw [if_pos c10] at H
                        rw [zs_table (x := ((σ 0 v4.toNatClampNeg) &&& 31)) (off := 357) (t := 397) zd_264_40 (by rw [c10]; decide) rfl]
                        rw [zs_aload_n (ls := [some (.ref 0), some (.ref 2), some (.ref 82), some (.ref 118), some (.int v4), o5, o6]) zd_264_397 rfl]
                        rw [zs_aload_n (ls := [some (.ref 0), some (.ref 2), some (.ref 82), some (.ref 118), some (.int v4), o5, o6]) zd_264_398 rfl]
                        rw [zs_iload (ls := [some (.ref 0), some (.ref 2), some (.ref 82), some (.ref 118), some (.int v4), o5, o6]) zd_264_399 rfl]
                        rw [zs_iconst (z := 1) zd_264_401 (by decide)]
                        rw [zp_iadd (x := v4) (y := 1) (z := (v4 + 1)) zd_264_402 rfl]
                        by_cases c109 : zx_ins (v4 + 1) L = true
                        · rw [if_pos c109] at H
                          rw [zp_iaload (n := 119) (K := zx_pk (zK L) 119) (σ := σ) (q := 0) (m := L) (i := (v4 + 1)) (k := (v4 + 1).toNatClampNeg) (v := (σ 0 (v4 + 1).toNatClampNeg)) zd_264_403 rfl (by decide) c109 rfl rfl]
                          obtain ⟨r110, hr110, H⟩ := Option.bind_eq_some_iff.mp H
                          rw [zp_callVi (x := r110) (st := [.int (σ 0 (v4 + 1).toNatClampNeg), .ref 2]) (as := [.ref 2, .int (σ 0 (v4 + 1).toNatClampNeg)]) (rest := []) (e := 0) zd_264_404 rfl (by decide +kernel) (by decide) rfl rfl (Nat.le_of_ble_eq_true rfl) (zx_rcb_ok rfl (show 2 < 119 by decide)) (Nat.le_of_ble_eq_true rfl) rfl (by decide) (zt_X_found hr110)]
                          rw [zs_aload_n (ls := [some (.ref 0), some (.ref 2), some (.ref 82), some (.ref 118), some (.int v4), o5, o6]) zd_264_407 rfl]
                          rw [zs_aload_n (ls := [some (.ref 0), some (.ref 2), some (.ref 82), some (.ref 118), some (.int v4), o5, o6]) zd_264_408 rfl]
                          rw [zs_iload (ls := [some (.ref 0), some (.ref 2), some (.ref 82), some (.ref 118), some (.int v4), o5, o6]) zd_264_409 rfl]
                          rw [zs_iconst (z := 1) zd_264_411 (by decide)]
                          rw [zp_iadd (x := v4) (y := 1) (z := (v4 + 1)) zd_264_412 rfl]
                          by_cases c111 : zx_ins (v4 + 1) L = true
                          · rw [if_pos c111] at H
                            rw [zp_iaload (n := 119) (K := zx_pk (zK L) 119) (σ := σ) (q := 0) (m := L) (i := (v4 + 1)) (k := (v4 + 1).toNatClampNeg) (v := (σ 0 (v4 + 1).toNatClampNeg)) zd_264_413 rfl (by decide) c111 rfl rfl]
                            obtain ⟨r112, hr112, H⟩ := Option.bind_eq_some_iff.mp H
                            rw [zp_callVi (x := r112.1) (st := [.int (σ 0 (v4 + 1).toNatClampNeg), .ref 82, .int r110]) (as := [.ref 82, .int (σ 0 (v4 + 1).toNatClampNeg)]) (rest := [.int r110]) (e := 3) zd_264_414 rfl (by decide +kernel) (by decide) rfl rfl (Nat.le_of_ble_eq_true rfl) (zx_rcb_ok rfl (show 82 < 119 by decide)) (Nat.le_of_ble_eq_true rfl) rfl (by decide) (zt_M_found hr112)]
                            by_cases c113 : r110 = r112.1
                            · rw [if_pos c113] at H
                              rw [zp_icmp_eq_t (x := r110) (y := r112.1) (t := 856) zd_264_417 rfl c113]
                              exact zt_Law_856 (hk23 := ih) H
                            · rw [if_neg c113] at H
                              rw [zp_icmp_eq_f (x := r110) (y := r112.1) (t := 856) zd_264_417 rfl c113]
                              rw [zs_iconst (z := 0) zd_264_420 (by decide)]
                              have H := Option.some.inj H
                              subst H
                              exact zs_ireturn zd_264_421 (by decide +kernel)
                          · rw [if_neg c111] at H
                            cases H
                        · rw [if_neg c109] at H
                          cases H
                      · rw [if_neg c10] at H
                        by_cases c11 : ((σ 0 v4.toNatClampNeg) &&& 31) = 8
                        · rw [if_pos c11] at H
                          rw [zs_table (x := ((σ 0 v4.toNatClampNeg) &&& 31)) (off := 382) (t := 422) zd_264_40 (by rw [c11]; decide) rfl]
                          rw [zs_aload_n (ls := [some (.ref 0), some (.ref 2), some (.ref 82), some (.ref 118), some (.int v4), o5, o6]) zd_264_422 rfl]
                          rw [zs_aload_n (ls := [some (.ref 0), some (.ref 2), some (.ref 82), some (.ref 118), some (.int v4), o5, o6]) zd_264_423 rfl]
                          rw [zs_iload (ls := [some (.ref 0), some (.ref 2), some (.ref 82), some (.ref 118), some (.int v4), o5, o6]) zd_264_424 rfl]
                          rw [zs_iconst (z := 1) zd_264_426 (by decide)]
                          rw [zp_iadd (x := v4) (y := 1) (z := (v4 + 1)) zd_264_427 rfl]
                          by_cases c102 : zx_ins (v4 + 1) L = true
                          · rw [if_pos c102] at H
                            rw [zp_iaload (n := 119) (K := zx_pk (zK L) 119) (σ := σ) (q := 0) (m := L) (i := (v4 + 1)) (k := (v4 + 1).toNatClampNeg) (v := (σ 0 (v4 + 1).toNatClampNeg)) zd_264_428 rfl (by decide) c102 rfl rfl]
                            rw [zs_aload_n (ls := [some (.ref 0), some (.ref 2), some (.ref 82), some (.ref 118), some (.int v4), o5, o6]) zd_264_429 rfl]
                            rw [zs_iload (ls := [some (.ref 0), some (.ref 2), some (.ref 82), some (.ref 118), some (.int v4), o5, o6]) zd_264_430 rfl]
                            rw [zs_iconst (z := 2) zd_264_432 (by decide)]
                            rw [zp_iadd (x := v4) (y := 2) (z := (v4 + 2)) zd_264_433 rfl]
                            by_cases c103 : zx_ins (v4 + 2) L = true
                            · rw [if_pos c103] at H
                              rw [zp_iaload (n := 119) (K := zx_pk (zK L) 119) (σ := σ) (q := 0) (m := L) (i := (v4 + 2)) (k := (v4 + 2).toNatClampNeg) (v := (σ 0 (v4 + 2).toNatClampNeg)) zd_264_434 rfl (by decide) c103 rfl rfl]
                              obtain ⟨r104, hr104, H⟩ := Option.bind_eq_some_iff.mp H
                              rw [zp_callVi (x := r104.1) (st := [.int (σ 0 (v4 + 2).toNatClampNeg), .int (σ 0 (v4 + 1).toNatClampNeg), .ref 2]) (as := [.ref 2, .int (σ 0 (v4 + 1).toNatClampNeg), .int (σ 0 (v4 + 2).toNatClampNeg)]) (rest := []) (e := 2) zd_264_435 rfl (by decide +kernel) (by decide) rfl rfl (Nat.le_of_ble_eq_true rfl) (zx_rcb_ok rfl (show 2 < 119 by decide)) (Nat.le_of_ble_eq_true rfl) rfl (by decide) (zt_X_show hr104)]
                              rw [zs_aload_n (ls := [some (.ref 0), some (.ref 2), some (.ref 82), some (.ref 118), some (.int v4), o5, o6]) zd_264_438 rfl]
                              rw [zs_aload_n (ls := [some (.ref 0), some (.ref 2), some (.ref 82), some (.ref 118), some (.int v4), o5, o6]) zd_264_439 rfl]
                              rw [zs_iload (ls := [some (.ref 0), some (.ref 2), some (.ref 82), some (.ref 118), some (.int v4), o5, o6]) zd_264_440 rfl]
                              rw [zs_iconst (z := 1) zd_264_442 (by decide)]
                              rw [zp_iadd (x := v4) (y := 1) (z := (v4 + 1)) zd_264_443 rfl]
                              by_cases c105 : zx_ins (v4 + 1) L = true
                              · rw [if_pos c105] at H
                                rw [zp_iaload (n := 119) (K := zx_pk (zK L) 119) (σ := r104.2) (q := 0) (m := L) (i := (v4 + 1)) (k := (v4 + 1).toNatClampNeg) (v := (r104.2 0 (v4 + 1).toNatClampNeg)) zd_264_444 rfl (by decide) c105 rfl rfl]
                                rw [zs_aload_n (ls := [some (.ref 0), some (.ref 2), some (.ref 82), some (.ref 118), some (.int v4), o5, o6]) zd_264_445 rfl]
                                rw [zs_iload (ls := [some (.ref 0), some (.ref 2), some (.ref 82), some (.ref 118), some (.int v4), o5, o6]) zd_264_446 rfl]
                                rw [zs_iconst (z := 2) zd_264_448 (by decide)]
                                rw [zp_iadd (x := v4) (y := 2) (z := (v4 + 2)) zd_264_449 rfl]
                                by_cases c106 : zx_ins (v4 + 2) L = true
                                · rw [if_pos c106] at H
                                  rw [zp_iaload (n := 119) (K := zx_pk (zK L) 119) (σ := r104.2) (q := 0) (m := L) (i := (v4 + 2)) (k := (v4 + 2).toNatClampNeg) (v := (r104.2 0 (v4 + 2).toNatClampNeg)) zd_264_450 rfl (by decide) c106 rfl rfl]
                                  obtain ⟨r107, hr107, H⟩ := Option.bind_eq_some_iff.mp H
                                  rw [zp_callVi (x := r107.1) (st := [.int (r104.2 0 (v4 + 2).toNatClampNeg), .int (r104.2 0 (v4 + 1).toNatClampNeg), .ref 82, .int r104.1]) (as := [.ref 82, .int (r104.2 0 (v4 + 1).toNatClampNeg), .int (r104.2 0 (v4 + 2).toNatClampNeg)]) (rest := [.int r104.1]) (e := 3) zd_264_451 rfl (by decide +kernel) (by decide) rfl rfl (Nat.le_of_ble_eq_true rfl) (zx_rcb_ok rfl (show 82 < 119 by decide)) (Nat.le_of_ble_eq_true rfl) rfl (by decide) (zt_M_show hr107)]
                                  by_cases c108 : r104.1 = r107.1
                                  · rw [if_pos c108] at H
                                    rw [zp_icmp_eq_t (x := r104.1) (y := r107.1) (t := 856) zd_264_454 rfl c108]
                                    exact zt_Law_856 (hk23 := ih) H
                                  · rw [if_neg c108] at H
                                    rw [zp_icmp_eq_f (x := r104.1) (y := r107.1) (t := 856) zd_264_454 rfl c108]
                                    rw [zs_iconst (z := 0) zd_264_457 (by decide)]
                                    have H := Option.some.inj H
                                    subst H
                                    exact zs_ireturn zd_264_458 (by decide +kernel)
                                · rw [if_neg c106] at H
                                  cases H
                              · rw [if_neg c105] at H
                                cases H
                            · rw [if_neg c103] at H
                              cases H
                          · rw [if_neg c102] at H
                            cases H
                        · rw [if_neg c11] at H
                          by_cases c12 : ((σ 0 v4.toNatClampNeg) &&& 31) = 9
                          · rw [if_pos c12] at H
                            rw [zs_table (x := ((σ 0 v4.toNatClampNeg) &&& 31)) (off := 419) (t := 459) zd_264_40 (by rw [c12]; decide) rfl]
                            rw [zs_aload_n (ls := [some (.ref 0), some (.ref 2), some (.ref 82), some (.ref 118), some (.int v4), o5, o6]) zd_264_459 rfl]
                            obtain ⟨r99, hr99, H⟩ := Option.bind_eq_some_iff.mp H
                            rw [zp_callVi (x := r99) (st := [.ref 2]) (as := [.ref 2]) (rest := []) (e := 0) zd_264_460 rfl (by decide +kernel) (by decide) rfl rfl (Nat.le_of_ble_eq_true rfl) (zx_rcb_ok rfl (show 2 < 119 by decide)) (Nat.le_of_ble_eq_true rfl) rfl (by decide) (zt_X_length hr99)]
                            rw [zs_aload_n (ls := [some (.ref 0), some (.ref 2), some (.ref 82), some (.ref 118), some (.int v4), o5, o6]) zd_264_463 rfl]
                            obtain ⟨r100, hr100, H⟩ := Option.bind_eq_some_iff.mp H
                            rw [zp_callVi (x := r100.1) (st := [.ref 82, .int r99]) (as := [.ref 82]) (rest := [.int r99]) (e := 0) zd_264_464 rfl (by decide +kernel) (by decide) rfl rfl (Nat.le_of_ble_eq_true rfl) (zx_rcb_ok rfl (show 82 < 119 by decide)) (Nat.le_of_ble_eq_true rfl) rfl (by decide) (zt_M_length hr100)]
                            by_cases c101 : r99 = r100.1
                            · rw [if_pos c101] at H
                              rw [zp_icmp_eq_t (x := r99) (y := r100.1) (t := 856) zd_264_467 rfl c101]
                              exact zt_Law_856 (hk23 := ih) H
                            · rw [if_neg c101] at H
                              rw [zp_icmp_eq_f (x := r99) (y := r100.1) (t := 856) zd_264_467 rfl c101]
                              rw [zs_iconst (z := 0) zd_264_470 (by decide)]
                              have H := Option.some.inj H
                              subst H
                              exact zs_ireturn zd_264_471 (by decide +kernel)
                          · rw [if_neg c12] at H
                            by_cases c13 : ((σ 0 v4.toNatClampNeg) &&& 31) = 10
                            · rw [if_pos c13] at H
                              rw [zs_table (x := ((σ 0 v4.toNatClampNeg) &&& 31)) (off := 432) (t := 472) zd_264_40 (by rw [c13]; decide) rfl]
                              rw [zs_aload_n (ls := [some (.ref 0), some (.ref 2), some (.ref 82), some (.ref 118), some (.int v4), o5, o6]) zd_264_472 rfl]
                              rw [zs_aload_n (ls := [some (.ref 0), some (.ref 2), some (.ref 82), some (.ref 118), some (.int v4), o5, o6]) zd_264_473 rfl]
                              rw [zs_iload (ls := [some (.ref 0), some (.ref 2), some (.ref 82), some (.ref 118), some (.int v4), o5, o6]) zd_264_474 rfl]
                              rw [zs_iconst (z := 1) zd_264_476 (by decide)]
                              rw [zp_iadd (x := v4) (y := 1) (z := (v4 + 1)) zd_264_477 rfl]
                              by_cases c94 : zx_ins (v4 + 1) L = true
                              · rw [if_pos c94] at H
                                rw [zp_iaload (n := 119) (K := zx_pk (zK L) 119) (σ := σ) (q := 0) (m := L) (i := (v4 + 1)) (k := (v4 + 1).toNatClampNeg) (v := (σ 0 (v4 + 1).toNatClampNeg)) zd_264_478 rfl (by decide) c94 rfl rfl]
                                obtain ⟨r95, hr95, H⟩ := Option.bind_eq_some_iff.mp H
                                rw [zp_callVi (x := r95) (st := [.int (σ 0 (v4 + 1).toNatClampNeg), .ref 2]) (as := [.ref 2, .int (σ 0 (v4 + 1).toNatClampNeg)]) (rest := []) (e := 0) zd_264_479 rfl (by decide +kernel) (by decide) rfl rfl (Nat.le_of_ble_eq_true rfl) (zx_rcb_ok rfl (show 2 < 119 by decide)) (Nat.le_of_ble_eq_true rfl) rfl (by decide) (zt_X_who hr95)]
                                rw [zs_aload_n (ls := [some (.ref 0), some (.ref 2), some (.ref 82), some (.ref 118), some (.int v4), o5, o6]) zd_264_482 rfl]
                                rw [zs_aload_n (ls := [some (.ref 0), some (.ref 2), some (.ref 82), some (.ref 118), some (.int v4), o5, o6]) zd_264_483 rfl]
                                rw [zs_iload (ls := [some (.ref 0), some (.ref 2), some (.ref 82), some (.ref 118), some (.int v4), o5, o6]) zd_264_484 rfl]
                                rw [zs_iconst (z := 1) zd_264_486 (by decide)]
                                rw [zp_iadd (x := v4) (y := 1) (z := (v4 + 1)) zd_264_487 rfl]
                                by_cases c96 : zx_ins (v4 + 1) L = true
                                · rw [if_pos c96] at H
                                  rw [zp_iaload (n := 119) (K := zx_pk (zK L) 119) (σ := σ) (q := 0) (m := L) (i := (v4 + 1)) (k := (v4 + 1).toNatClampNeg) (v := (σ 0 (v4 + 1).toNatClampNeg)) zd_264_488 rfl (by decide) c96 rfl rfl]
                                  obtain ⟨r97, hr97, H⟩ := Option.bind_eq_some_iff.mp H
                                  rw [zp_callVi (x := r97.1) (st := [.int (σ 0 (v4 + 1).toNatClampNeg), .ref 82, .int r95]) (as := [.ref 82, .int (σ 0 (v4 + 1).toNatClampNeg)]) (rest := [.int r95]) (e := 1) zd_264_489 rfl (by decide +kernel) (by decide) rfl rfl (Nat.le_of_ble_eq_true rfl) (zx_rcb_ok rfl (show 82 < 119 by decide)) (Nat.le_of_ble_eq_true rfl) rfl (by decide) (zt_M_who hr97)]
                                  by_cases c98 : r95 = r97.1
                                  · rw [if_pos c98] at H
                                    rw [zp_icmp_eq_t (x := r95) (y := r97.1) (t := 856) zd_264_492 rfl c98]
                                    exact zt_Law_856 (hk23 := ih) H
                                  · rw [if_neg c98] at H
                                    rw [zp_icmp_eq_f (x := r95) (y := r97.1) (t := 856) zd_264_492 rfl c98]
                                    rw [zs_iconst (z := 0) zd_264_495 (by decide)]
                                    have H := Option.some.inj H
                                    subst H
                                    exact zs_ireturn zd_264_496 (by decide +kernel)
                                · rw [if_neg c96] at H
                                  cases H
                              · rw [if_neg c94] at H
                                cases H
                            · rw [if_neg c13] at H
                              by_cases c14 : ((σ 0 v4.toNatClampNeg) &&& 31) = 11
                              · rw [if_pos c14] at H
                                rw [zs_table (x := ((σ 0 v4.toNatClampNeg) &&& 31)) (off := 457) (t := 497) zd_264_40 (by rw [c14]; decide) rfl]
                                rw [zs_aload_n (ls := [some (.ref 0), some (.ref 2), some (.ref 82), some (.ref 118), some (.int v4), o5, o6]) zd_264_497 rfl]
                                rw [zs_aload_n (ls := [some (.ref 0), some (.ref 2), some (.ref 82), some (.ref 118), some (.int v4), o5, o6]) zd_264_498 rfl]
                                rw [zs_iload (ls := [some (.ref 0), some (.ref 2), some (.ref 82), some (.ref 118), some (.int v4), o5, o6]) zd_264_499 rfl]
                                rw [zs_iconst (z := 1) zd_264_501 (by decide)]
                                rw [zp_iadd (x := v4) (y := 1) (z := (v4 + 1)) zd_264_502 rfl]
                                by_cases c87 : zx_ins (v4 + 1) L = true
                                · rw [if_pos c87] at H
                                  rw [zp_iaload (n := 119) (K := zx_pk (zK L) 119) (σ := σ) (q := 0) (m := L) (i := (v4 + 1)) (k := (v4 + 1).toNatClampNeg) (v := (σ 0 (v4 + 1).toNatClampNeg)) zd_264_503 rfl (by decide) c87 rfl rfl]
                                  rw [zs_aload_n (ls := [some (.ref 0), some (.ref 2), some (.ref 82), some (.ref 118), some (.int v4), o5, o6]) zd_264_504 rfl]
                                  rw [zs_iload (ls := [some (.ref 0), some (.ref 2), some (.ref 82), some (.ref 118), some (.int v4), o5, o6]) zd_264_505 rfl]
                                  rw [zs_iconst (z := 2) zd_264_507 (by decide)]
                                  rw [zp_iadd (x := v4) (y := 2) (z := (v4 + 2)) zd_264_508 rfl]
                                  by_cases c88 : zx_ins (v4 + 2) L = true
                                  · rw [if_pos c88] at H
                                    rw [zp_iaload (n := 119) (K := zx_pk (zK L) 119) (σ := σ) (q := 0) (m := L) (i := (v4 + 2)) (k := (v4 + 2).toNatClampNeg) (v := (σ 0 (v4 + 2).toNatClampNeg)) zd_264_509 rfl (by decide) c88 rfl rfl]
                                    obtain ⟨r89, hr89, H⟩ := Option.bind_eq_some_iff.mp H
                                    rw [zp_callVi (x := r89) (st := [.int (σ 0 (v4 + 2).toNatClampNeg), .int (σ 0 (v4 + 1).toNatClampNeg), .ref 2]) (as := [.ref 2, .int (σ 0 (v4 + 1).toNatClampNeg), .int (σ 0 (v4 + 2).toNatClampNeg)]) (rest := []) (e := 1) zd_264_510 rfl (by decide +kernel) (by decide) rfl rfl (Nat.le_of_ble_eq_true rfl) (zx_rcb_ok rfl (show 2 < 119 by decide)) (Nat.le_of_ble_eq_true rfl) rfl (by decide) (zt_X_race hr89)]
                                    rw [zs_aload_n (ls := [some (.ref 0), some (.ref 2), some (.ref 82), some (.ref 118), some (.int v4), o5, o6]) zd_264_513 rfl]
                                    rw [zs_aload_n (ls := [some (.ref 0), some (.ref 2), some (.ref 82), some (.ref 118), some (.int v4), o5, o6]) zd_264_514 rfl]
                                    rw [zs_iload (ls := [some (.ref 0), some (.ref 2), some (.ref 82), some (.ref 118), some (.int v4), o5, o6]) zd_264_515 rfl]
                                    rw [zs_iconst (z := 1) zd_264_517 (by decide)]
                                    rw [zp_iadd (x := v4) (y := 1) (z := (v4 + 1)) zd_264_518 rfl]
                                    by_cases c90 : zx_ins (v4 + 1) L = true
                                    · rw [if_pos c90] at H
                                      rw [zp_iaload (n := 119) (K := zx_pk (zK L) 119) (σ := σ) (q := 0) (m := L) (i := (v4 + 1)) (k := (v4 + 1).toNatClampNeg) (v := (σ 0 (v4 + 1).toNatClampNeg)) zd_264_519 rfl (by decide) c90 rfl rfl]
                                      rw [zs_aload_n (ls := [some (.ref 0), some (.ref 2), some (.ref 82), some (.ref 118), some (.int v4), o5, o6]) zd_264_520 rfl]
                                      rw [zs_iload (ls := [some (.ref 0), some (.ref 2), some (.ref 82), some (.ref 118), some (.int v4), o5, o6]) zd_264_521 rfl]
                                      rw [zs_iconst (z := 2) zd_264_523 (by decide)]
                                      rw [zp_iadd (x := v4) (y := 2) (z := (v4 + 2)) zd_264_524 rfl]
                                      by_cases c91 : zx_ins (v4 + 2) L = true
                                      · rw [if_pos c91] at H
                                        rw [zp_iaload (n := 119) (K := zx_pk (zK L) 119) (σ := σ) (q := 0) (m := L) (i := (v4 + 2)) (k := (v4 + 2).toNatClampNeg) (v := (σ 0 (v4 + 2).toNatClampNeg)) zd_264_525 rfl (by decide) c91 rfl rfl]
                                        obtain ⟨r92, hr92, H⟩ := Option.bind_eq_some_iff.mp H
                                        rw [zp_callVi (x := r92.1) (st := [.int (σ 0 (v4 + 2).toNatClampNeg), .int (σ 0 (v4 + 1).toNatClampNeg), .ref 82, .int r89]) (as := [.ref 82, .int (σ 0 (v4 + 1).toNatClampNeg), .int (σ 0 (v4 + 2).toNatClampNeg)]) (rest := [.int r89]) (e := 1) zd_264_526 rfl (by decide +kernel) (by decide) rfl rfl (Nat.le_of_ble_eq_true rfl) (zx_rcb_ok rfl (show 82 < 119 by decide)) (Nat.le_of_ble_eq_true rfl) rfl (by decide) (zt_M_race hr92)]
                                        by_cases c93 : r89 = r92.1
                                        · rw [if_pos c93] at H
                                          rw [zp_icmp_eq_t (x := r89) (y := r92.1) (t := 856) zd_264_529 rfl c93]
                                          exact zt_Law_856 (hk23 := ih) H
                                        · rw [if_neg c93] at H
                                          rw [zp_icmp_eq_f (x := r89) (y := r92.1) (t := 856) zd_264_529 rfl c93]
                                          rw [zs_iconst (z := 0) zd_264_532 (by decide)]
                                          have H := Option.some.inj H
                                          subst H
                                          exact zs_ireturn zd_264_533 (by decide +kernel)
                                      · rw [if_neg c91] at H
                                        cases H
                                    · rw [if_neg c90] at H
                                      cases H
                                  · rw [if_neg c88] at H
                                    cases H
                                · rw [if_neg c87] at H
                                  cases H
                              · rw [if_neg c14] at H
                                by_cases c15 : ((σ 0 v4.toNatClampNeg) &&& 31) = 12
                                · rw [if_pos c15] at H
                                  rw [zs_table (x := ((σ 0 v4.toNatClampNeg) &&& 31)) (off := 494) (t := 534) zd_264_40 (by rw [c15]; decide) rfl]
                                  rw [zs_aload_n (ls := [some (.ref 0), some (.ref 2), some (.ref 82), some (.ref 118), some (.int v4), o5, o6]) zd_264_534 rfl]
                                  rw [zs_aload_n (ls := [some (.ref 0), some (.ref 2), some (.ref 82), some (.ref 118), some (.int v4), o5, o6]) zd_264_535 rfl]
                                  rw [zs_iload (ls := [some (.ref 0), some (.ref 2), some (.ref 82), some (.ref 118), some (.int v4), o5, o6]) zd_264_536 rfl]
                                  rw [zs_iconst (z := 1) zd_264_538 (by decide)]
                                  rw [zp_iadd (x := v4) (y := 1) (z := (v4 + 1)) zd_264_539 rfl]
                                  by_cases c78 : zx_ins (v4 + 1) L = true
                                  · rw [if_pos c78] at H
                                    rw [zp_iaload (n := 119) (K := zx_pk (zK L) 119) (σ := σ) (q := 0) (m := L) (i := (v4 + 1)) (k := (v4 + 1).toNatClampNeg) (v := (σ 0 (v4 + 1).toNatClampNeg)) zd_264_540 rfl (by decide) c78 rfl rfl]
                                    rw [zs_aload_n (ls := [some (.ref 0), some (.ref 2), some (.ref 82), some (.ref 118), some (.int v4), o5, o6]) zd_264_541 rfl]
                                    rw [zs_iload (ls := [some (.ref 0), some (.ref 2), some (.ref 82), some (.ref 118), some (.int v4), o5, o6]) zd_264_542 rfl]
                                    rw [zs_iconst (z := 2) zd_264_544 (by decide)]
                                    rw [zp_iadd (x := v4) (y := 2) (z := (v4 + 2)) zd_264_545 rfl]
                                    by_cases c79 : zx_ins (v4 + 2) L = true
                                    · rw [if_pos c79] at H
                                      rw [zp_iaload (n := 119) (K := zx_pk (zK L) 119) (σ := σ) (q := 0) (m := L) (i := (v4 + 2)) (k := (v4 + 2).toNatClampNeg) (v := (σ 0 (v4 + 2).toNatClampNeg)) zd_264_546 rfl (by decide) c79 rfl rfl]
                                      rw [zs_aload_n (ls := [some (.ref 0), some (.ref 2), some (.ref 82), some (.ref 118), some (.int v4), o5, o6]) zd_264_547 rfl]
                                      rw [zs_iload (ls := [some (.ref 0), some (.ref 2), some (.ref 82), some (.ref 118), some (.int v4), o5, o6]) zd_264_548 rfl]
                                      rw [zs_iconst (z := 3) zd_264_550 (by decide)]
                                      rw [zp_iadd (x := v4) (y := 3) (z := (v4 + 3)) zd_264_551 rfl]
                                      by_cases c80 : zx_ins (v4 + 3) L = true
                                      · rw [if_pos c80] at H
                                        rw [zp_iaload (n := 119) (K := zx_pk (zK L) 119) (σ := σ) (q := 0) (m := L) (i := (v4 + 3)) (k := (v4 + 3).toNatClampNeg) (v := (σ 0 (v4 + 3).toNatClampNeg)) zd_264_552 rfl (by decide) c80 rfl rfl]
                                        obtain ⟨r81, hr81, H⟩ := Option.bind_eq_some_iff.mp H
                                        rw [zp_callVi (x := r81.1) (st := [.int (σ 0 (v4 + 3).toNatClampNeg), .int (σ 0 (v4 + 2).toNatClampNeg), .int (σ 0 (v4 + 1).toNatClampNeg), .ref 2]) (as := [.ref 2, .int (σ 0 (v4 + 1).toNatClampNeg), .int (σ 0 (v4 + 2).toNatClampNeg), .int (σ 0 (v4 + 3).toNatClampNeg)]) (rest := []) (e := 4) zd_264_553 rfl (by decide +kernel) (by decide) rfl rfl (Nat.le_of_ble_eq_true rfl) (zx_rcb_ok rfl (show 2 < 119 by decide)) (Nat.le_of_ble_eq_true rfl) rfl (by decide) (zt_X_thread hr81)]
                                        rw [zs_aload_n (ls := [some (.ref 0), some (.ref 2), some (.ref 82), some (.ref 118), some (.int v4), o5, o6]) zd_264_556 rfl]
                                        rw [zs_aload_n (ls := [some (.ref 0), some (.ref 2), some (.ref 82), some (.ref 118), some (.int v4), o5, o6]) zd_264_557 rfl]
                                        rw [zs_iload (ls := [some (.ref 0), some (.ref 2), some (.ref 82), some (.ref 118), some (.int v4), o5, o6]) zd_264_558 rfl]
                                        rw [zs_iconst (z := 1) zd_264_560 (by decide)]
                                        rw [zp_iadd (x := v4) (y := 1) (z := (v4 + 1)) zd_264_561 rfl]
                                        by_cases c82 : zx_ins (v4 + 1) L = true
                                        · rw [if_pos c82] at H
                                          rw [zp_iaload (n := 119) (K := zx_pk (zK L) 119) (σ := r81.2) (q := 0) (m := L) (i := (v4 + 1)) (k := (v4 + 1).toNatClampNeg) (v := (r81.2 0 (v4 + 1).toNatClampNeg)) zd_264_562 rfl (by decide) c82 rfl rfl]
                                          rw [zs_aload_n (ls := [some (.ref 0), some (.ref 2), some (.ref 82), some (.ref 118), some (.int v4), o5, o6]) zd_264_563 rfl]
                                          rw [zs_iload (ls := [some (.ref 0), some (.ref 2), some (.ref 82), some (.ref 118), some (.int v4), o5, o6]) zd_264_564 rfl]
                                          rw [zs_iconst (z := 2) zd_264_566 (by decide)]
                                          rw [zp_iadd (x := v4) (y := 2) (z := (v4 + 2)) zd_264_567 rfl]
                                          by_cases c83 : zx_ins (v4 + 2) L = true
                                          · rw [if_pos c83] at H
                                            rw [zp_iaload (n := 119) (K := zx_pk (zK L) 119) (σ := r81.2) (q := 0) (m := L) (i := (v4 + 2)) (k := (v4 + 2).toNatClampNeg) (v := (r81.2 0 (v4 + 2).toNatClampNeg)) zd_264_568 rfl (by decide) c83 rfl rfl]
                                            rw [zs_aload_n (ls := [some (.ref 0), some (.ref 2), some (.ref 82), some (.ref 118), some (.int v4), o5, o6]) zd_264_569 rfl]
                                            rw [zs_iload (ls := [some (.ref 0), some (.ref 2), some (.ref 82), some (.ref 118), some (.int v4), o5, o6]) zd_264_570 rfl]
                                            rw [zs_iconst (z := 3) zd_264_572 (by decide)]
                                            rw [zp_iadd (x := v4) (y := 3) (z := (v4 + 3)) zd_264_573 rfl]
                                            by_cases c84 : zx_ins (v4 + 3) L = true
                                            · rw [if_pos c84] at H
                                              rw [zp_iaload (n := 119) (K := zx_pk (zK L) 119) (σ := r81.2) (q := 0) (m := L) (i := (v4 + 3)) (k := (v4 + 3).toNatClampNeg) (v := (r81.2 0 (v4 + 3).toNatClampNeg)) zd_264_574 rfl (by decide) c84 rfl rfl]
                                              obtain ⟨r85, hr85, H⟩ := Option.bind_eq_some_iff.mp H
                                              rw [zp_callVi (x := r85.1) (st := [.int (r81.2 0 (v4 + 3).toNatClampNeg), .int (r81.2 0 (v4 + 2).toNatClampNeg), .int (r81.2 0 (v4 + 1).toNatClampNeg), .ref 82, .int r81.1]) (as := [.ref 82, .int (r81.2 0 (v4 + 1).toNatClampNeg), .int (r81.2 0 (v4 + 2).toNatClampNeg), .int (r81.2 0 (v4 + 3).toNatClampNeg)]) (rest := [.int r81.1]) (e := 3) zd_264_575 rfl (by decide +kernel) (by decide) rfl rfl (Nat.le_of_ble_eq_true rfl) (zx_rcb_ok rfl (show 82 < 119 by decide)) (Nat.le_of_ble_eq_true rfl) rfl (by decide) (zt_M_thread hr85)]
                                              by_cases c86 : r81.1 = r85.1
                                              · rw [if_pos c86] at H
                                                rw [zp_icmp_eq_t (x := r81.1) (y := r85.1) (t := 856) zd_264_578 rfl c86]
                                                exact zt_Law_856 (hk23 := ih) H
                                              · rw [if_neg c86] at H
                                                rw [zp_icmp_eq_f (x := r81.1) (y := r85.1) (t := 856) zd_264_578 rfl c86]
                                                rw [zs_iconst (z := 0) zd_264_581 (by decide)]
                                                have H := Option.some.inj H
                                                subst H
                                                exact zs_ireturn zd_264_582 (by decide +kernel)
                                            · rw [if_neg c84] at H
                                              cases H
                                          · rw [if_neg c83] at H
                                            cases H
                                        · rw [if_neg c82] at H
                                          cases H
                                      · rw [if_neg c80] at H
                                        cases H
                                    · rw [if_neg c79] at H
                                      cases H
                                  · rw [if_neg c78] at H
                                    cases H
                                · rw [if_neg c15] at H
                                  by_cases c16 : ((σ 0 v4.toNatClampNeg) &&& 31) = 13
                                  · rw [if_pos c16] at H
                                    rw [zs_table (x := ((σ 0 v4.toNatClampNeg) &&& 31)) (off := 543) (t := 583) zd_264_40 (by rw [c16]; decide) rfl]
                                    rw [zs_aload_n (ls := [some (.ref 0), some (.ref 2), some (.ref 82), some (.ref 118), some (.int v4), o5, o6]) zd_264_583 rfl]
                                    rw [zs_aload_n (ls := [some (.ref 0), some (.ref 2), some (.ref 82), some (.ref 118), some (.int v4), o5, o6]) zd_264_584 rfl]
                                    rw [zs_iload (ls := [some (.ref 0), some (.ref 2), some (.ref 82), some (.ref 118), some (.int v4), o5, o6]) zd_264_585 rfl]
                                    rw [zs_iconst (z := 1) zd_264_587 (by decide)]
                                    rw [zp_iadd (x := v4) (y := 1) (z := (v4 + 1)) zd_264_588 rfl]
                                    by_cases c71 : zx_ins (v4 + 1) L = true
                                    · rw [if_pos c71] at H
                                      rw [zp_iaload (n := 119) (K := zx_pk (zK L) 119) (σ := σ) (q := 0) (m := L) (i := (v4 + 1)) (k := (v4 + 1).toNatClampNeg) (v := (σ 0 (v4 + 1).toNatClampNeg)) zd_264_589 rfl (by decide) c71 rfl rfl]
                                      rw [zs_aload_n (ls := [some (.ref 0), some (.ref 2), some (.ref 82), some (.ref 118), some (.int v4), o5, o6]) zd_264_590 rfl]
                                      rw [zs_iload (ls := [some (.ref 0), some (.ref 2), some (.ref 82), some (.ref 118), some (.int v4), o5, o6]) zd_264_591 rfl]
                                      rw [zs_iconst (z := 2) zd_264_593 (by decide)]
                                      rw [zp_iadd (x := v4) (y := 2) (z := (v4 + 2)) zd_264_594 rfl]
                                      by_cases c72 : zx_ins (v4 + 2) L = true
                                      · rw [if_pos c72] at H
                                        rw [zp_iaload (n := 119) (K := zx_pk (zK L) 119) (σ := σ) (q := 0) (m := L) (i := (v4 + 2)) (k := (v4 + 2).toNatClampNeg) (v := (σ 0 (v4 + 2).toNatClampNeg)) zd_264_595 rfl (by decide) c72 rfl rfl]
                                        obtain ⟨r73, hr73, H⟩ := Option.bind_eq_some_iff.mp H
                                        rw [zp_callVi (x := r73.1) (st := [.int (σ 0 (v4 + 2).toNatClampNeg), .int (σ 0 (v4 + 1).toNatClampNeg), .ref 2]) (as := [.ref 2, .int (σ 0 (v4 + 1).toNatClampNeg), .int (σ 0 (v4 + 2).toNatClampNeg)]) (rest := []) (e := 4) zd_264_596 rfl (by decide +kernel) (by decide) rfl rfl (Nat.le_of_ble_eq_true rfl) (zx_rcb_ok rfl (show 2 < 119 by decide)) (Nat.le_of_ble_eq_true rfl) rfl (by decide) (zt_X_field hr73)]
                                        rw [zs_aload_n (ls := [some (.ref 0), some (.ref 2), some (.ref 82), some (.ref 118), some (.int v4), o5, o6]) zd_264_599 rfl]
                                        rw [zs_aload_n (ls := [some (.ref 0), some (.ref 2), some (.ref 82), some (.ref 118), some (.int v4), o5, o6]) zd_264_600 rfl]
                                        rw [zs_iload (ls := [some (.ref 0), some (.ref 2), some (.ref 82), some (.ref 118), some (.int v4), o5, o6]) zd_264_601 rfl]
                                        rw [zs_iconst (z := 1) zd_264_603 (by decide)]
                                        rw [zp_iadd (x := v4) (y := 1) (z := (v4 + 1)) zd_264_604 rfl]
                                        by_cases c74 : zx_ins (v4 + 1) L = true
                                        · rw [if_pos c74] at H
                                          rw [zp_iaload (n := 119) (K := zx_pk (zK L) 119) (σ := r73.2) (q := 0) (m := L) (i := (v4 + 1)) (k := (v4 + 1).toNatClampNeg) (v := (r73.2 0 (v4 + 1).toNatClampNeg)) zd_264_605 rfl (by decide) c74 rfl rfl]
                                          rw [zs_aload_n (ls := [some (.ref 0), some (.ref 2), some (.ref 82), some (.ref 118), some (.int v4), o5, o6]) zd_264_606 rfl]
                                          rw [zs_iload (ls := [some (.ref 0), some (.ref 2), some (.ref 82), some (.ref 118), some (.int v4), o5, o6]) zd_264_607 rfl]
                                          rw [zs_iconst (z := 2) zd_264_609 (by decide)]
                                          rw [zp_iadd (x := v4) (y := 2) (z := (v4 + 2)) zd_264_610 rfl]
                                          by_cases c75 : zx_ins (v4 + 2) L = true
                                          · rw [if_pos c75] at H
                                            rw [zp_iaload (n := 119) (K := zx_pk (zK L) 119) (σ := r73.2) (q := 0) (m := L) (i := (v4 + 2)) (k := (v4 + 2).toNatClampNeg) (v := (r73.2 0 (v4 + 2).toNatClampNeg)) zd_264_611 rfl (by decide) c75 rfl rfl]
                                            obtain ⟨r76, hr76, H⟩ := Option.bind_eq_some_iff.mp H
                                            rw [zp_callVi (x := r76.1) (st := [.int (r73.2 0 (v4 + 2).toNatClampNeg), .int (r73.2 0 (v4 + 1).toNatClampNeg), .ref 82, .int r73.1]) (as := [.ref 82, .int (r73.2 0 (v4 + 1).toNatClampNeg), .int (r73.2 0 (v4 + 2).toNatClampNeg)]) (rest := [.int r73.1]) (e := 2) zd_264_612 rfl (by decide +kernel) (by decide) rfl rfl (Nat.le_of_ble_eq_true rfl) (zx_rcb_ok rfl (show 82 < 119 by decide)) (Nat.le_of_ble_eq_true rfl) rfl (by decide) (zt_M_field hr76)]
                                            by_cases c77 : r73.1 = r76.1
                                            · rw [if_pos c77] at H
                                              rw [zp_icmp_eq_t (x := r73.1) (y := r76.1) (t := 856) zd_264_615 rfl c77]
                                              exact zt_Law_856 (hk23 := ih) H
                                            · rw [if_neg c77] at H
                                              rw [zp_icmp_eq_f (x := r73.1) (y := r76.1) (t := 856) zd_264_615 rfl c77]
                                              rw [zs_iconst (z := 0) zd_264_618 (by decide)]
                                              have H := Option.some.inj H
                                              subst H
                                              exact zs_ireturn zd_264_619 (by decide +kernel)
                                          · rw [if_neg c75] at H
                                            cases H
                                        · rw [if_neg c74] at H
                                          cases H
                                      · rw [if_neg c72] at H
                                        cases H
                                    · rw [if_neg c71] at H
                                      cases H
                                  · rw [if_neg c16] at H
                                    by_cases c17 : ((σ 0 v4.toNatClampNeg) &&& 31) = 14
                                    · rw [if_pos c17] at H
                                      rw [zs_table (x := ((σ 0 v4.toNatClampNeg) &&& 31)) (off := 580) (t := 620) zd_264_40 (by rw [c17]; decide) rfl]
                                      rw [zs_aload_n (ls := [some (.ref 0), some (.ref 2), some (.ref 82), some (.ref 118), some (.int v4), o5, o6]) zd_264_620 rfl]
                                      rw [zs_aload_n (ls := [some (.ref 0), some (.ref 2), some (.ref 82), some (.ref 118), some (.int v4), o5, o6]) zd_264_621 rfl]
                                      rw [zs_iload (ls := [some (.ref 0), some (.ref 2), some (.ref 82), some (.ref 118), some (.int v4), o5, o6]) zd_264_622 rfl]
                                      rw [zs_iconst (z := 1) zd_264_624 (by decide)]
                                      rw [zp_iadd (x := v4) (y := 1) (z := (v4 + 1)) zd_264_625 rfl]
                                      by_cases c64 : zx_ins (v4 + 1) L = true
                                      · rw [if_pos c64] at H
                                        rw [zp_iaload (n := 119) (K := zx_pk (zK L) 119) (σ := σ) (q := 0) (m := L) (i := (v4 + 1)) (k := (v4 + 1).toNatClampNeg) (v := (σ 0 (v4 + 1).toNatClampNeg)) zd_264_626 rfl (by decide) c64 rfl rfl]
                                        rw [zs_aload_n (ls := [some (.ref 0), some (.ref 2), some (.ref 82), some (.ref 118), some (.int v4), o5, o6]) zd_264_627 rfl]
                                        rw [zs_iload (ls := [some (.ref 0), some (.ref 2), some (.ref 82), some (.ref 118), some (.int v4), o5, o6]) zd_264_628 rfl]
                                        rw [zs_iconst (z := 2) zd_264_630 (by decide)]
                                        rw [zp_iadd (x := v4) (y := 2) (z := (v4 + 2)) zd_264_631 rfl]
                                        by_cases c65 : zx_ins (v4 + 2) L = true
                                        · rw [if_pos c65] at H
                                          rw [zp_iaload (n := 119) (K := zx_pk (zK L) 119) (σ := σ) (q := 0) (m := L) (i := (v4 + 2)) (k := (v4 + 2).toNatClampNeg) (v := (σ 0 (v4 + 2).toNatClampNeg)) zd_264_632 rfl (by decide) c65 rfl rfl]
                                          obtain ⟨r66, hr66, H⟩ := Option.bind_eq_some_iff.mp H
                                          rw [zp_callVi (x := r66.1) (st := [.int (σ 0 (v4 + 2).toNatClampNeg), .int (σ 0 (v4 + 1).toNatClampNeg), .ref 2]) (as := [.ref 2, .int (σ 0 (v4 + 1).toNatClampNeg), .int (σ 0 (v4 + 2).toNatClampNeg)]) (rest := []) (e := 4) zd_264_633 rfl (by decide +kernel) (by decide) rfl rfl (Nat.le_of_ble_eq_true rfl) (zx_rcb_ok rfl (show 2 < 119 by decide)) (Nat.le_of_ble_eq_true rfl) rfl (by decide) (zt_X_owner hr66)]
                                          rw [zs_aload_n (ls := [some (.ref 0), some (.ref 2), some (.ref 82), some (.ref 118), some (.int v4), o5, o6]) zd_264_636 rfl]
                                          rw [zs_aload_n (ls := [some (.ref 0), some (.ref 2), some (.ref 82), some (.ref 118), some (.int v4), o5, o6]) zd_264_637 rfl]
                                          rw [zs_iload (ls := [some (.ref 0), some (.ref 2), some (.ref 82), some (.ref 118), some (.int v4), o5, o6]) zd_264_638 rfl]
                                          rw [zs_iconst (z := 1) zd_264_640 (by decide)]
                                          rw [zp_iadd (x := v4) (y := 1) (z := (v4 + 1)) zd_264_641 rfl]
                                          by_cases c67 : zx_ins (v4 + 1) L = true
                                          · rw [if_pos c67] at H
                                            rw [zp_iaload (n := 119) (K := zx_pk (zK L) 119) (σ := r66.2) (q := 0) (m := L) (i := (v4 + 1)) (k := (v4 + 1).toNatClampNeg) (v := (r66.2 0 (v4 + 1).toNatClampNeg)) zd_264_642 rfl (by decide) c67 rfl rfl]
                                            rw [zs_aload_n (ls := [some (.ref 0), some (.ref 2), some (.ref 82), some (.ref 118), some (.int v4), o5, o6]) zd_264_643 rfl]
                                            rw [zs_iload (ls := [some (.ref 0), some (.ref 2), some (.ref 82), some (.ref 118), some (.int v4), o5, o6]) zd_264_644 rfl]
                                            rw [zs_iconst (z := 2) zd_264_646 (by decide)]
                                            rw [zp_iadd (x := v4) (y := 2) (z := (v4 + 2)) zd_264_647 rfl]
                                            by_cases c68 : zx_ins (v4 + 2) L = true
                                            · rw [if_pos c68] at H
                                              rw [zp_iaload (n := 119) (K := zx_pk (zK L) 119) (σ := r66.2) (q := 0) (m := L) (i := (v4 + 2)) (k := (v4 + 2).toNatClampNeg) (v := (r66.2 0 (v4 + 2).toNatClampNeg)) zd_264_648 rfl (by decide) c68 rfl rfl]
                                              obtain ⟨r69, hr69, H⟩ := Option.bind_eq_some_iff.mp H
                                              rw [zp_callVi (x := r69.1) (st := [.int (r66.2 0 (v4 + 2).toNatClampNeg), .int (r66.2 0 (v4 + 1).toNatClampNeg), .ref 82, .int r66.1]) (as := [.ref 82, .int (r66.2 0 (v4 + 1).toNatClampNeg), .int (r66.2 0 (v4 + 2).toNatClampNeg)]) (rest := [.int r66.1]) (e := 2) zd_264_649 rfl (by decide +kernel) (by decide) rfl rfl (Nat.le_of_ble_eq_true rfl) (zx_rcb_ok rfl (show 82 < 119 by decide)) (Nat.le_of_ble_eq_true rfl) rfl (by decide) (zt_M_owner hr69)]
                                              by_cases c70 : r66.1 = r69.1
                                              · rw [if_pos c70] at H
                                                rw [zp_icmp_eq_t (x := r66.1) (y := r69.1) (t := 856) zd_264_652 rfl c70]
                                                exact zt_Law_856 (hk23 := ih) H
                                              · rw [if_neg c70] at H
                                                rw [zp_icmp_eq_f (x := r66.1) (y := r69.1) (t := 856) zd_264_652 rfl c70]
                                                rw [zs_iconst (z := 0) zd_264_655 (by decide)]
                                                have H := Option.some.inj H
                                                subst H
                                                exact zs_ireturn zd_264_656 (by decide +kernel)
                                            · rw [if_neg c68] at H
                                              cases H
                                          · rw [if_neg c67] at H
                                            cases H
                                        · rw [if_neg c65] at H
                                          cases H
                                      · rw [if_neg c64] at H
                                        cases H
                                    · rw [if_neg c17] at H
                                      by_cases c18 : ((σ 0 v4.toNatClampNeg) &&& 31) = 15
                                      · rw [if_pos c18] at H
                                        rw [zs_table (x := ((σ 0 v4.toNatClampNeg) &&& 31)) (off := 617) (t := 657) zd_264_40 (by rw [c18]; decide) rfl]
                                        rw [zs_aload_n (ls := [some (.ref 0), some (.ref 2), some (.ref 82), some (.ref 118), some (.int v4), o5, o6]) zd_264_657 rfl]
                                        rw [zs_aload_n (ls := [some (.ref 0), some (.ref 2), some (.ref 82), some (.ref 118), some (.int v4), o5, o6]) zd_264_658 rfl]
                                        rw [zs_iload (ls := [some (.ref 0), some (.ref 2), some (.ref 82), some (.ref 118), some (.int v4), o5, o6]) zd_264_659 rfl]
                                        rw [zs_iconst (z := 1) zd_264_661 (by decide)]
                                        rw [zp_iadd (x := v4) (y := 1) (z := (v4 + 1)) zd_264_662 rfl]
                                        by_cases c59 : zx_ins (v4 + 1) L = true
                                        · rw [if_pos c59] at H
                                          rw [zp_iaload (n := 119) (K := zx_pk (zK L) 119) (σ := σ) (q := 0) (m := L) (i := (v4 + 1)) (k := (v4 + 1).toNatClampNeg) (v := (σ 0 (v4 + 1).toNatClampNeg)) zd_264_663 rfl (by decide) c59 rfl rfl]
                                          obtain ⟨r60, hr60, H⟩ := Option.bind_eq_some_iff.mp H
                                          rw [zp_callVi (x := r60.1) (st := [.int (σ 0 (v4 + 1).toNatClampNeg), .ref 2]) (as := [.ref 2, .int (σ 0 (v4 + 1).toNatClampNeg)]) (rest := []) (e := 4) zd_264_664 rfl (by decide +kernel) (by decide) rfl rfl (Nat.le_of_ble_eq_true rfl) (zx_rcb_ok rfl (show 2 < 119 by decide)) (Nat.le_of_ble_eq_true rfl) rfl (by decide) (zt_X_stuck hr60)]
                                          rw [zs_aload_n (ls := [some (.ref 0), some (.ref 2), some (.ref 82), some (.ref 118), some (.int v4), o5, o6]) zd_264_667 rfl]
                                          rw [zs_aload_n (ls := [some (.ref 0), some (.ref 2), some (.ref 82), some (.ref 118), some (.int v4), o5, o6]) zd_264_668 rfl]
                                          rw [zs_iload (ls := [some (.ref 0), some (.ref 2), some (.ref 82), some (.ref 118), some (.int v4), o5, o6]) zd_264_669 rfl]
                                          rw [zs_iconst (z := 1) zd_264_671 (by decide)]
                                          rw [zp_iadd (x := v4) (y := 1) (z := (v4 + 1)) zd_264_672 rfl]
                                          by_cases c61 : zx_ins (v4 + 1) L = true
                                          · rw [if_pos c61] at H
                                            rw [zp_iaload (n := 119) (K := zx_pk (zK L) 119) (σ := r60.2) (q := 0) (m := L) (i := (v4 + 1)) (k := (v4 + 1).toNatClampNeg) (v := (r60.2 0 (v4 + 1).toNatClampNeg)) zd_264_673 rfl (by decide) c61 rfl rfl]
                                            obtain ⟨r62, hr62, H⟩ := Option.bind_eq_some_iff.mp H
                                            rw [zp_callVi (x := r62.1) (st := [.int (r60.2 0 (v4 + 1).toNatClampNeg), .ref 82, .int r60.1]) (as := [.ref 82, .int (r60.2 0 (v4 + 1).toNatClampNeg)]) (rest := [.int r60.1]) (e := 3) zd_264_674 rfl (by decide +kernel) (by decide) rfl rfl (Nat.le_of_ble_eq_true rfl) (zx_rcb_ok rfl (show 82 < 119 by decide)) (Nat.le_of_ble_eq_true rfl) rfl (by decide) (zt_M_stuck hr62)]
                                            by_cases c63 : r60.1 = r62.1
                                            · rw [if_pos c63] at H
                                              rw [zp_icmp_eq_t (x := r60.1) (y := r62.1) (t := 856) zd_264_677 rfl c63]
                                              exact zt_Law_856 (hk23 := ih) H
                                            · rw [if_neg c63] at H
                                              rw [zp_icmp_eq_f (x := r60.1) (y := r62.1) (t := 856) zd_264_677 rfl c63]
                                              rw [zs_iconst (z := 0) zd_264_680 (by decide)]
                                              have H := Option.some.inj H
                                              subst H
                                              exact zs_ireturn zd_264_681 (by decide +kernel)
                                          · rw [if_neg c61] at H
                                            cases H
                                        · rw [if_neg c59] at H
                                          cases H
                                      · rw [if_neg c18] at H
                                        by_cases c19 : ((σ 0 v4.toNatClampNeg) &&& 31) = 16
                                        · rw [if_pos c19] at H
                                          rw [zs_table (x := ((σ 0 v4.toNatClampNeg) &&& 31)) (off := 642) (t := 682) zd_264_40 (by rw [c19]; decide) rfl]
                                          rw [zs_aload_n (ls := [some (.ref 0), some (.ref 2), some (.ref 82), some (.ref 118), some (.int v4), o5, o6]) zd_264_682 rfl]
                                          rw [zs_aload_n (ls := [some (.ref 0), some (.ref 2), some (.ref 82), some (.ref 118), some (.int v4), o5, o6]) zd_264_683 rfl]
                                          rw [zs_iload (ls := [some (.ref 0), some (.ref 2), some (.ref 82), some (.ref 118), some (.int v4), o5, o6]) zd_264_684 rfl]
                                          rw [zs_iconst (z := 1) zd_264_686 (by decide)]
                                          rw [zp_iadd (x := v4) (y := 1) (z := (v4 + 1)) zd_264_687 rfl]
                                          by_cases c54 : zx_ins (v4 + 1) L = true
                                          · rw [if_pos c54] at H
                                            rw [zp_iaload (n := 119) (K := zx_pk (zK L) 119) (σ := σ) (q := 0) (m := L) (i := (v4 + 1)) (k := (v4 + 1).toNatClampNeg) (v := (σ 0 (v4 + 1).toNatClampNeg)) zd_264_688 rfl (by decide) c54 rfl rfl]
                                            obtain ⟨r55, hr55, H⟩ := Option.bind_eq_some_iff.mp H
                                            rw [zp_callVi (x := r55.1) (st := [.int (σ 0 (v4 + 1).toNatClampNeg), .ref 2]) (as := [.ref 2, .int (σ 0 (v4 + 1).toNatClampNeg)]) (rest := []) (e := 6) zd_264_689 rfl (by decide +kernel) (by decide) rfl rfl (Nat.le_of_ble_eq_true rfl) (zx_rcb_ok rfl (show 2 < 119 by decide)) (Nat.le_of_ble_eq_true rfl) rfl (by decide) (zt_X_whole hr55)]
                                            rw [zs_aload_n (ls := [some (.ref 0), some (.ref 2), some (.ref 82), some (.ref 118), some (.int v4), o5, o6]) zd_264_692 rfl]
                                            rw [zs_aload_n (ls := [some (.ref 0), some (.ref 2), some (.ref 82), some (.ref 118), some (.int v4), o5, o6]) zd_264_693 rfl]
                                            rw [zs_iload (ls := [some (.ref 0), some (.ref 2), some (.ref 82), some (.ref 118), some (.int v4), o5, o6]) zd_264_694 rfl]
                                            rw [zs_iconst (z := 1) zd_264_696 (by decide)]
                                            rw [zp_iadd (x := v4) (y := 1) (z := (v4 + 1)) zd_264_697 rfl]
                                            by_cases c56 : zx_ins (v4 + 1) L = true
                                            · rw [if_pos c56] at H
                                              rw [zp_iaload (n := 119) (K := zx_pk (zK L) 119) (σ := r55.2) (q := 0) (m := L) (i := (v4 + 1)) (k := (v4 + 1).toNatClampNeg) (v := (r55.2 0 (v4 + 1).toNatClampNeg)) zd_264_698 rfl (by decide) c56 rfl rfl]
                                              obtain ⟨r57, hr57, H⟩ := Option.bind_eq_some_iff.mp H
                                              rw [zp_callVi (x := r57.1) (st := [.int (r55.2 0 (v4 + 1).toNatClampNeg), .ref 82, .int r55.1]) (as := [.ref 82, .int (r55.2 0 (v4 + 1).toNatClampNeg)]) (rest := [.int r55.1]) (e := 4) zd_264_699 rfl (by decide +kernel) (by decide) rfl rfl (Nat.le_of_ble_eq_true rfl) (zx_rcb_ok rfl (show 82 < 119 by decide)) (Nat.le_of_ble_eq_true rfl) rfl (by decide) (zt_M_whole hr57)]
                                              by_cases c58 : r55.1 = r57.1
                                              · rw [if_pos c58] at H
                                                rw [zp_icmp_eq_t (x := r55.1) (y := r57.1) (t := 856) zd_264_702 rfl c58]
                                                exact zt_Law_856 (hk23 := ih) H
                                              · rw [if_neg c58] at H
                                                rw [zp_icmp_eq_f (x := r55.1) (y := r57.1) (t := 856) zd_264_702 rfl c58]
                                                rw [zs_iconst (z := 0) zd_264_705 (by decide)]
                                                have H := Option.some.inj H
                                                subst H
                                                exact zs_ireturn zd_264_706 (by decide +kernel)
                                            · rw [if_neg c56] at H
                                              cases H
                                          · rw [if_neg c54] at H
                                            cases H
                                        · rw [if_neg c19] at H
                                          by_cases c20 : ((σ 0 v4.toNatClampNeg) &&& 31) = 17
                                          · rw [if_pos c20] at H
                                            rw [zs_table (x := ((σ 0 v4.toNatClampNeg) &&& 31)) (off := 667) (t := 707) zd_264_40 (by rw [c20]; decide) rfl]
                                            rw [zs_aload_n (ls := [some (.ref 0), some (.ref 2), some (.ref 82), some (.ref 118), some (.int v4), o5, o6]) zd_264_707 rfl]
                                            obtain ⟨r51, hr51, H⟩ := Option.bind_eq_some_iff.mp H
                                            rw [zp_callVi (x := r51.1) (st := [.ref 2]) (as := [.ref 2]) (rest := []) (e := 33) zd_264_708 rfl (by decide +kernel) (by decide) rfl rfl (Nat.le_of_ble_eq_true rfl) (zx_rcb_ok rfl (show 2 < 119 by decide)) (Nat.le_of_ble_eq_true rfl) rfl (by decide) (zt_X_doubts hr51)]
                                            rw [zs_aload_n (ls := [some (.ref 0), some (.ref 2), some (.ref 82), some (.ref 118), some (.int v4), o5, o6]) zd_264_711 rfl]
                                            obtain ⟨r52, hr52, H⟩ := Option.bind_eq_some_iff.mp H
                                            rw [zp_callVi (x := r52.1) (st := [.ref 82, .int r51.1]) (as := [.ref 82]) (rest := [.int r51.1]) (e := 6) zd_264_712 rfl (by decide +kernel) (by decide) rfl rfl (Nat.le_of_ble_eq_true rfl) (zx_rcb_ok rfl (show 82 < 119 by decide)) (Nat.le_of_ble_eq_true rfl) rfl (by decide) (zt_M_doubts hr52)]
                                            by_cases c53 : r51.1 = r52.1
                                            · rw [if_pos c53] at H
                                              rw [zp_icmp_eq_t (x := r51.1) (y := r52.1) (t := 856) zd_264_715 rfl c53]
                                              exact zt_Law_856 (hk23 := ih) H
                                            · rw [if_neg c53] at H
                                              rw [zp_icmp_eq_f (x := r51.1) (y := r52.1) (t := 856) zd_264_715 rfl c53]
                                              rw [zs_iconst (z := 0) zd_264_718 (by decide)]
                                              have H := Option.some.inj H
                                              subst H
                                              exact zs_ireturn zd_264_719 (by decide +kernel)
                                          · rw [if_neg c20] at H
                                            by_cases c21 : ((σ 0 v4.toNatClampNeg) &&& 31) = 18
                                            · rw [if_pos c21] at H
                                              rw [zs_table (x := ((σ 0 v4.toNatClampNeg) &&& 31)) (off := 680) (t := 720) zd_264_40 (by rw [c21]; decide) rfl]
                                              rw [zs_aload_n (ls := [some (.ref 0), some (.ref 2), some (.ref 82), some (.ref 118), some (.int v4), o5, o6]) zd_264_720 rfl]
                                              rw [zs_aload_n (ls := [some (.ref 0), some (.ref 2), some (.ref 82), some (.ref 118), some (.int v4), o5, o6]) zd_264_721 rfl]
                                              rw [zs_iload (ls := [some (.ref 0), some (.ref 2), some (.ref 82), some (.ref 118), some (.int v4), o5, o6]) zd_264_722 rfl]
                                              rw [zs_iconst (z := 1) zd_264_724 (by decide)]
                                              rw [zp_iadd (x := v4) (y := 1) (z := (v4 + 1)) zd_264_725 rfl]
                                              by_cases c44 : zx_ins (v4 + 1) L = true
                                              · rw [if_pos c44] at H
                                                rw [zp_iaload (n := 119) (K := zx_pk (zK L) 119) (σ := σ) (q := 0) (m := L) (i := (v4 + 1)) (k := (v4 + 1).toNatClampNeg) (v := (σ 0 (v4 + 1).toNatClampNeg)) zd_264_726 rfl (by decide) c44 rfl rfl]
                                                rw [zs_aload_n (ls := [some (.ref 0), some (.ref 2), some (.ref 82), some (.ref 118), some (.int v4), o5, o6]) zd_264_727 rfl]
                                                rw [zs_iload (ls := [some (.ref 0), some (.ref 2), some (.ref 82), some (.ref 118), some (.int v4), o5, o6]) zd_264_728 rfl]
                                                rw [zs_iconst (z := 2) zd_264_730 (by decide)]
                                                rw [zp_iadd (x := v4) (y := 2) (z := (v4 + 2)) zd_264_731 rfl]
                                                by_cases c45 : zx_ins (v4 + 2) L = true
                                                · rw [if_pos c45] at H
                                                  rw [zp_iaload (n := 119) (K := zx_pk (zK L) 119) (σ := σ) (q := 0) (m := L) (i := (v4 + 2)) (k := (v4 + 2).toNatClampNeg) (v := (σ 0 (v4 + 2).toNatClampNeg)) zd_264_732 rfl (by decide) c45 rfl rfl]
                                                  obtain ⟨r46, hr46, H⟩ := Option.bind_eq_some_iff.mp H
                                                  rw [zp_callVi (x := r46.1) (st := [.int (σ 0 (v4 + 2).toNatClampNeg), .int (σ 0 (v4 + 1).toNatClampNeg), .ref 2]) (as := [.ref 2, .int (σ 0 (v4 + 1).toNatClampNeg), .int (σ 0 (v4 + 2).toNatClampNeg)]) (rest := []) (e := 33) zd_264_733 rfl (by decide +kernel) (by decide) rfl rfl (Nat.le_of_ble_eq_true rfl) (zx_rcb_ok rfl (show 2 < 119 by decide)) (Nat.le_of_ble_eq_true rfl) rfl (by decide) (zt_X_doubt hr46)]
                                                  rw [zs_aload_n (ls := [some (.ref 0), some (.ref 2), some (.ref 82), some (.ref 118), some (.int v4), o5, o6]) zd_264_736 rfl]
                                                  rw [zs_aload_n (ls := [some (.ref 0), some (.ref 2), some (.ref 82), some (.ref 118), some (.int v4), o5, o6]) zd_264_737 rfl]
                                                  rw [zs_iload (ls := [some (.ref 0), some (.ref 2), some (.ref 82), some (.ref 118), some (.int v4), o5, o6]) zd_264_738 rfl]
                                                  rw [zs_iconst (z := 1) zd_264_740 (by decide)]
                                                  rw [zp_iadd (x := v4) (y := 1) (z := (v4 + 1)) zd_264_741 rfl]
                                                  by_cases c47 : zx_ins (v4 + 1) L = true
                                                  · rw [if_pos c47] at H
                                                    rw [zp_iaload (n := 119) (K := zx_pk (zK L) 119) (σ := r46.2) (q := 0) (m := L) (i := (v4 + 1)) (k := (v4 + 1).toNatClampNeg) (v := (r46.2 0 (v4 + 1).toNatClampNeg)) zd_264_742 rfl (by decide) c47 rfl rfl]
                                                    rw [zs_aload_n (ls := [some (.ref 0), some (.ref 2), some (.ref 82), some (.ref 118), some (.int v4), o5, o6]) zd_264_743 rfl]
                                                    rw [zs_iload (ls := [some (.ref 0), some (.ref 2), some (.ref 82), some (.ref 118), some (.int v4), o5, o6]) zd_264_744 rfl]
                                                    rw [zs_iconst (z := 2) zd_264_746 (by decide)]
                                                    rw [zp_iadd (x := v4) (y := 2) (z := (v4 + 2)) zd_264_747 rfl]
                                                    by_cases c48 : zx_ins (v4 + 2) L = true
                                                    · rw [if_pos c48] at H
                                                      rw [zp_iaload (n := 119) (K := zx_pk (zK L) 119) (σ := r46.2) (q := 0) (m := L) (i := (v4 + 2)) (k := (v4 + 2).toNatClampNeg) (v := (r46.2 0 (v4 + 2).toNatClampNeg)) zd_264_748 rfl (by decide) c48 rfl rfl]
                                                      obtain ⟨r49, hr49, H⟩ := Option.bind_eq_some_iff.mp H
                                                      rw [zp_callVi (x := r49.1) (st := [.int (r46.2 0 (v4 + 2).toNatClampNeg), .int (r46.2 0 (v4 + 1).toNatClampNeg), .ref 82, .int r46.1]) (as := [.ref 82, .int (r46.2 0 (v4 + 1).toNatClampNeg), .int (r46.2 0 (v4 + 2).toNatClampNeg)]) (rest := [.int r46.1]) (e := 6) zd_264_749 rfl (by decide +kernel) (by decide) rfl rfl (Nat.le_of_ble_eq_true rfl) (zx_rcb_ok rfl (show 82 < 119 by decide)) (Nat.le_of_ble_eq_true rfl) rfl (by decide) (zt_M_doubt hr49)]
                                                      by_cases c50 : r46.1 = r49.1
                                                      · rw [if_pos c50] at H
                                                        rw [zp_icmp_eq_t (x := r46.1) (y := r49.1) (t := 856) zd_264_752 rfl c50]
                                                        exact zt_Law_856 (hk23 := ih) H
                                                      · rw [if_neg c50] at H
                                                        rw [zp_icmp_eq_f (x := r46.1) (y := r49.1) (t := 856) zd_264_752 rfl c50]
                                                        rw [zs_iconst (z := 0) zd_264_755 (by decide)]
                                                        have H := Option.some.inj H
                                                        subst H
                                                        exact zs_ireturn zd_264_756 (by decide +kernel)
                                                    · rw [if_neg c48] at H
                                                      cases H
                                                  · rw [if_neg c47] at H
                                                    cases H
                                                · rw [if_neg c45] at H
                                                  cases H
                                              · rw [if_neg c44] at H
                                                cases H
                                            · rw [if_neg c21] at H
                                              by_cases c22 : ((σ 0 v4.toNatClampNeg) &&& 31) = 19
                                              · rw [if_pos c22] at H
                                                rw [zs_table (x := ((σ 0 v4.toNatClampNeg) &&& 31)) (off := 717) (t := 757) zd_264_40 (by rw [c22]; decide) rfl]
                                                rw [zs_aload_n (ls := [some (.ref 0), some (.ref 2), some (.ref 82), some (.ref 118), some (.int v4), o5, o6]) zd_264_757 rfl]
                                                rw [zs_aload_n (ls := [some (.ref 0), some (.ref 2), some (.ref 82), some (.ref 118), some (.int v4), o5, o6]) zd_264_758 rfl]
                                                rw [zs_iload (ls := [some (.ref 0), some (.ref 2), some (.ref 82), some (.ref 118), some (.int v4), o5, o6]) zd_264_759 rfl]
                                                rw [zs_iconst (z := 1) zd_264_761 (by decide)]
                                                rw [zp_iadd (x := v4) (y := 1) (z := (v4 + 1)) zd_264_762 rfl]
                                                by_cases c33 : zx_ins (v4 + 1) L = true
                                                · rw [if_pos c33] at H
                                                  rw [zp_iaload (n := 119) (K := zx_pk (zK L) 119) (σ := σ) (q := 0) (m := L) (i := (v4 + 1)) (k := (v4 + 1).toNatClampNeg) (v := (σ 0 (v4 + 1).toNatClampNeg)) zd_264_763 rfl (by decide) c33 rfl rfl]
                                                  rw [zs_aload_n (ls := [some (.ref 0), some (.ref 2), some (.ref 82), some (.ref 118), some (.int v4), o5, o6]) zd_264_764 rfl]
                                                  rw [zs_iload (ls := [some (.ref 0), some (.ref 2), some (.ref 82), some (.ref 118), some (.int v4), o5, o6]) zd_264_765 rfl]
                                                  rw [zs_iconst (z := 2) zd_264_767 (by decide)]
                                                  rw [zp_iadd (x := v4) (y := 2) (z := (v4 + 2)) zd_264_768 rfl]
                                                  by_cases c34 : zx_ins (v4 + 2) L = true
                                                  · rw [if_pos c34] at H
                                                    rw [zp_iaload (n := 119) (K := zx_pk (zK L) 119) (σ := σ) (q := 0) (m := L) (i := (v4 + 2)) (k := (v4 + 2).toNatClampNeg) (v := (σ 0 (v4 + 2).toNatClampNeg)) zd_264_769 rfl (by decide) c34 rfl rfl]
                                                    rw [zs_aload_n (ls := [some (.ref 0), some (.ref 2), some (.ref 82), some (.ref 118), some (.int v4), o5, o6]) zd_264_770 rfl]
                                                    rw [zs_iload (ls := [some (.ref 0), some (.ref 2), some (.ref 82), some (.ref 118), some (.int v4), o5, o6]) zd_264_771 rfl]
                                                    rw [zs_iconst (z := 3) zd_264_773 (by decide)]
                                                    rw [zp_iadd (x := v4) (y := 3) (z := (v4 + 3)) zd_264_774 rfl]
                                                    by_cases c35 : zx_ins (v4 + 3) L = true
                                                    · rw [if_pos c35] at H
                                                      rw [zp_iaload (n := 119) (K := zx_pk (zK L) 119) (σ := σ) (q := 0) (m := L) (i := (v4 + 3)) (k := (v4 + 3).toNatClampNeg) (v := (σ 0 (v4 + 3).toNatClampNeg)) zd_264_775 rfl (by decide) c35 rfl rfl]
                                                      rw [zs_aload_n (ls := [some (.ref 0), some (.ref 2), some (.ref 82), some (.ref 118), some (.int v4), o5, o6]) zd_264_776 rfl]
                                                      rw [zs_iload (ls := [some (.ref 0), some (.ref 2), some (.ref 82), some (.ref 118), some (.int v4), o5, o6]) zd_264_777 rfl]
                                                      rw [zs_iconst (z := 4) zd_264_779 (by decide)]
                                                      rw [zp_iadd (x := v4) (y := 4) (z := (v4 + 4)) zd_264_780 rfl]
                                                      by_cases c36 : zx_ins (v4 + 4) L = true
                                                      · rw [if_pos c36] at H
                                                        rw [zp_iaload (n := 119) (K := zx_pk (zK L) 119) (σ := σ) (q := 0) (m := L) (i := (v4 + 4)) (k := (v4 + 4).toNatClampNeg) (v := (σ 0 (v4 + 4).toNatClampNeg)) zd_264_781 rfl (by decide) c36 rfl rfl]
                                                        obtain ⟨r37, hr37, H⟩ := Option.bind_eq_some_iff.mp H
                                                        rw [zp_callVi (x := r37.1) (st := [.int (σ 0 (v4 + 4).toNatClampNeg), .int (σ 0 (v4 + 3).toNatClampNeg), .int (σ 0 (v4 + 2).toNatClampNeg), .int (σ 0 (v4 + 1).toNatClampNeg), .ref 2]) (as := [.ref 2, .int (σ 0 (v4 + 1).toNatClampNeg), .int (σ 0 (v4 + 2).toNatClampNeg), .int (σ 0 (v4 + 3).toNatClampNeg), .int (σ 0 (v4 + 4).toNatClampNeg)]) (rest := []) (e := 33) zd_264_782 rfl (by decide +kernel) (by decide) rfl rfl (Nat.le_of_ble_eq_true rfl) (zx_rcb_ok rfl (show 2 < 119 by decide)) (Nat.le_of_ble_eq_true rfl) rfl (by decide) (zt_X_meet hr37)]
                                                        rw [zs_aload_n (ls := [some (.ref 0), some (.ref 2), some (.ref 82), some (.ref 118), some (.int v4), o5, o6]) zd_264_785 rfl]
                                                        rw [zs_aload_n (ls := [some (.ref 0), some (.ref 2), some (.ref 82), some (.ref 118), some (.int v4), o5, o6]) zd_264_786 rfl]
                                                        rw [zs_iload (ls := [some (.ref 0), some (.ref 2), some (.ref 82), some (.ref 118), some (.int v4), o5, o6]) zd_264_787 rfl]
                                                        rw [zs_iconst (z := 1) zd_264_789 (by decide)]
                                                        rw [zp_iadd (x := v4) (y := 1) (z := (v4 + 1)) zd_264_790 rfl]
                                                        by_cases c38 : zx_ins (v4 + 1) L = true
                                                        · rw [if_pos c38] at H
                                                          rw [zp_iaload (n := 119) (K := zx_pk (zK L) 119) (σ := r37.2) (q := 0) (m := L) (i := (v4 + 1)) (k := (v4 + 1).toNatClampNeg) (v := (r37.2 0 (v4 + 1).toNatClampNeg)) zd_264_791 rfl (by decide) c38 rfl rfl]
                                                          rw [zs_aload_n (ls := [some (.ref 0), some (.ref 2), some (.ref 82), some (.ref 118), some (.int v4), o5, o6]) zd_264_792 rfl]
                                                          rw [zs_iload (ls := [some (.ref 0), some (.ref 2), some (.ref 82), some (.ref 118), some (.int v4), o5, o6]) zd_264_793 rfl]
                                                          rw [zs_iconst (z := 2) zd_264_795 (by decide)]
                                                          rw [zp_iadd (x := v4) (y := 2) (z := (v4 + 2)) zd_264_796 rfl]
                                                          by_cases c39 : zx_ins (v4 + 2) L = true
                                                          · rw [if_pos c39] at H
                                                            rw [zp_iaload (n := 119) (K := zx_pk (zK L) 119) (σ := r37.2) (q := 0) (m := L) (i := (v4 + 2)) (k := (v4 + 2).toNatClampNeg) (v := (r37.2 0 (v4 + 2).toNatClampNeg)) zd_264_797 rfl (by decide) c39 rfl rfl]
                                                            rw [zs_aload_n (ls := [some (.ref 0), some (.ref 2), some (.ref 82), some (.ref 118), some (.int v4), o5, o6]) zd_264_798 rfl]
                                                            rw [zs_iload (ls := [some (.ref 0), some (.ref 2), some (.ref 82), some (.ref 118), some (.int v4), o5, o6]) zd_264_799 rfl]
                                                            rw [zs_iconst (z := 3) zd_264_801 (by decide)]
                                                            rw [zp_iadd (x := v4) (y := 3) (z := (v4 + 3)) zd_264_802 rfl]
                                                            by_cases c40 : zx_ins (v4 + 3) L = true
                                                            · rw [if_pos c40] at H
                                                              rw [zp_iaload (n := 119) (K := zx_pk (zK L) 119) (σ := r37.2) (q := 0) (m := L) (i := (v4 + 3)) (k := (v4 + 3).toNatClampNeg) (v := (r37.2 0 (v4 + 3).toNatClampNeg)) zd_264_803 rfl (by decide) c40 rfl rfl]
                                                              rw [zs_aload_n (ls := [some (.ref 0), some (.ref 2), some (.ref 82), some (.ref 118), some (.int v4), o5, o6]) zd_264_804 rfl]
                                                              rw [zs_iload (ls := [some (.ref 0), some (.ref 2), some (.ref 82), some (.ref 118), some (.int v4), o5, o6]) zd_264_805 rfl]
                                                              rw [zs_iconst (z := 4) zd_264_807 (by decide)]
                                                              rw [zp_iadd (x := v4) (y := 4) (z := (v4 + 4)) zd_264_808 rfl]
                                                              by_cases c41 : zx_ins (v4 + 4) L = true
                                                              · rw [if_pos c41] at H
                                                                rw [zp_iaload (n := 119) (K := zx_pk (zK L) 119) (σ := r37.2) (q := 0) (m := L) (i := (v4 + 4)) (k := (v4 + 4).toNatClampNeg) (v := (r37.2 0 (v4 + 4).toNatClampNeg)) zd_264_809 rfl (by decide) c41 rfl rfl]
                                                                obtain ⟨r42, hr42, H⟩ := Option.bind_eq_some_iff.mp H
                                                                rw [zp_callVi (x := r42.1) (st := [.int (r37.2 0 (v4 + 4).toNatClampNeg), .int (r37.2 0 (v4 + 3).toNatClampNeg), .int (r37.2 0 (v4 + 2).toNatClampNeg), .int (r37.2 0 (v4 + 1).toNatClampNeg), .ref 82, .int r37.1]) (as := [.ref 82, .int (r37.2 0 (v4 + 1).toNatClampNeg), .int (r37.2 0 (v4 + 2).toNatClampNeg), .int (r37.2 0 (v4 + 3).toNatClampNeg), .int (r37.2 0 (v4 + 4).toNatClampNeg)]) (rest := [.int r37.1]) (e := 4) zd_264_810 rfl (by decide +kernel) (by decide) rfl rfl (Nat.le_of_ble_eq_true rfl) (zx_rcb_ok rfl (show 82 < 119 by decide)) (Nat.le_of_ble_eq_true rfl) rfl (by decide) (zt_M_meet hr42)]
                                                                by_cases c43 : r37.1 = r42.1
                                                                · rw [if_pos c43] at H
                                                                  rw [zp_icmp_eq_t (x := r37.1) (y := r42.1) (t := 856) zd_264_813 rfl c43]
                                                                  exact zt_Law_856 (hk23 := ih) H
                                                                · rw [if_neg c43] at H
                                                                  rw [zp_icmp_eq_f (x := r37.1) (y := r42.1) (t := 856) zd_264_813 rfl c43]
                                                                  rw [zs_iconst (z := 0) zd_264_816 (by decide)]
                                                                  have H := Option.some.inj H
                                                                  subst H
                                                                  exact zs_ireturn zd_264_817 (by decide +kernel)
                                                              · rw [if_neg c41] at H
                                                                cases H
                                                            · rw [if_neg c40] at H
                                                              cases H
                                                          · rw [if_neg c39] at H
                                                            cases H
                                                        · rw [if_neg c38] at H
                                                          cases H
                                                      · rw [if_neg c36] at H
                                                        cases H
                                                    · rw [if_neg c35] at H
                                                      cases H
                                                  · rw [if_neg c34] at H
                                                    cases H
                                                · rw [if_neg c33] at H
                                                  cases H
                                              · rw [if_neg c22] at H
                                                by_cases c23 : ((σ 0 v4.toNatClampNeg) &&& 31) = 20
                                                · rw [if_pos c23] at H
                                                  rw [zs_table (x := ((σ 0 v4.toNatClampNeg) &&& 31)) (off := 778) (t := 818) zd_264_40 (by rw [c23]; decide) rfl]
                                                  rw [zs_aload_n (ls := [some (.ref 0), some (.ref 2), some (.ref 82), some (.ref 118), some (.int v4), o5, o6]) zd_264_818 rfl]
                                                  rw [zs_aload_n (ls := [some (.ref 0), some (.ref 2), some (.ref 82), some (.ref 118), some (.int v4), o5, o6]) zd_264_819 rfl]
                                                  rw [zs_iload (ls := [some (.ref 0), some (.ref 2), some (.ref 82), some (.ref 118), some (.int v4), o5, o6]) zd_264_820 rfl]
                                                  rw [zs_iconst (z := 1) zd_264_822 (by decide)]
                                                  rw [zp_iadd (x := v4) (y := 1) (z := (v4 + 1)) zd_264_823 rfl]
                                                  by_cases c28 : zx_ins (v4 + 1) L = true
                                                  · rw [if_pos c28] at H
                                                    rw [zp_iaload (n := 119) (K := zx_pk (zK L) 119) (σ := σ) (q := 0) (m := L) (i := (v4 + 1)) (k := (v4 + 1).toNatClampNeg) (v := (σ 0 (v4 + 1).toNatClampNeg)) zd_264_824 rfl (by decide) c28 rfl rfl]
                                                    obtain ⟨r29, hr29, H⟩ := Option.bind_eq_some_iff.mp H
                                                    rw [zp_callVi (x := r29) (st := [.int (σ 0 (v4 + 1).toNatClampNeg), .ref 2]) (as := [.ref 2, .int (σ 0 (v4 + 1).toNatClampNeg)]) (rest := []) (e := 2) zd_264_825 rfl (by decide +kernel) (by decide) rfl rfl (Nat.le_of_ble_eq_true rfl) (zx_rcb_ok rfl (show 2 < 119 by decide)) (Nat.le_of_ble_eq_true rfl) rfl (by decide) (zt_X_guards hr29)]
                                                    rw [zs_aload_n (ls := [some (.ref 0), some (.ref 2), some (.ref 82), some (.ref 118), some (.int v4), o5, o6]) zd_264_828 rfl]
                                                    rw [zs_aload_n (ls := [some (.ref 0), some (.ref 2), some (.ref 82), some (.ref 118), some (.int v4), o5, o6]) zd_264_829 rfl]
                                                    rw [zs_iload (ls := [some (.ref 0), some (.ref 2), some (.ref 82), some (.ref 118), some (.int v4), o5, o6]) zd_264_830 rfl]
                                                    rw [zs_iconst (z := 1) zd_264_832 (by decide)]
                                                    rw [zp_iadd (x := v4) (y := 1) (z := (v4 + 1)) zd_264_833 rfl]
                                                    by_cases c30 : zx_ins (v4 + 1) L = true
                                                    · rw [if_pos c30] at H
                                                      rw [zp_iaload (n := 119) (K := zx_pk (zK L) 119) (σ := σ) (q := 0) (m := L) (i := (v4 + 1)) (k := (v4 + 1).toNatClampNeg) (v := (σ 0 (v4 + 1).toNatClampNeg)) zd_264_834 rfl (by decide) c30 rfl rfl]
                                                      obtain ⟨r31, hr31, H⟩ := Option.bind_eq_some_iff.mp H
                                                      rw [zp_callVi (x := r31.1) (st := [.int (σ 0 (v4 + 1).toNatClampNeg), .ref 82, .int r29]) (as := [.ref 82, .int (σ 0 (v4 + 1).toNatClampNeg)]) (rest := [.int r29]) (e := 1) zd_264_835 rfl (by decide +kernel) (by decide) rfl rfl (Nat.le_of_ble_eq_true rfl) (zx_rcb_ok rfl (show 82 < 119 by decide)) (Nat.le_of_ble_eq_true rfl) rfl (by decide) (zt_M_guards hr31)]
                                                      by_cases c32 : r29 = r31.1
                                                      · rw [if_pos c32] at H
                                                        rw [zp_icmp_eq_t (x := r29) (y := r31.1) (t := 856) zd_264_838 rfl c32]
                                                        exact zt_Law_856 (hk23 := ih) H
                                                      · rw [if_neg c32] at H
                                                        rw [zp_icmp_eq_f (x := r29) (y := r31.1) (t := 856) zd_264_838 rfl c32]
                                                        rw [zs_iconst (z := 0) zd_264_841 (by decide)]
                                                        have H := Option.some.inj H
                                                        subst H
                                                        exact zs_ireturn zd_264_842 (by decide +kernel)
                                                    · rw [if_neg c30] at H
                                                      cases H
                                                  · rw [if_neg c28] at H
                                                    cases H
                                                · rw [if_neg c23] at H
                                                  by_cases c24 : ((σ 0 v4.toNatClampNeg) &&& 31) = 21
                                                  · rw [if_pos c24] at H
                                                    rw [zs_table (x := ((σ 0 v4.toNatClampNeg) &&& 31)) (off := 803) (t := 843) zd_264_40 (by rw [c24]; decide) rfl]
                                                    rw [zs_aload_n (ls := [some (.ref 0), some (.ref 2), some (.ref 82), some (.ref 118), some (.int v4), o5, o6]) zd_264_843 rfl]
                                                    obtain ⟨r25, hr25, H⟩ := Option.bind_eq_some_iff.mp H
                                                    rw [zp_callVi (x := r25.1) (st := [.ref 2]) (as := [.ref 2]) (rest := []) (e := 33) zd_264_844 rfl (by decide +kernel) (by decide) rfl rfl (Nat.le_of_ble_eq_true rfl) (zx_rcb_ok rfl (show 2 < 119 by decide)) (Nat.le_of_ble_eq_true rfl) rfl (by decide) (zt_X_rings hr25)]
                                                    rw [zs_aload_n (ls := [some (.ref 0), some (.ref 2), some (.ref 82), some (.ref 118), some (.int v4), o5, o6]) zd_264_847 rfl]
                                                    obtain ⟨r26, hr26, H⟩ := Option.bind_eq_some_iff.mp H
                                                    rw [zp_callVi (x := r26.1) (st := [.ref 82, .int r25.1]) (as := [.ref 82]) (rest := [.int r25.1]) (e := 5) zd_264_848 rfl (by decide +kernel) (by decide) rfl rfl (Nat.le_of_ble_eq_true rfl) (zx_rcb_ok rfl (show 82 < 119 by decide)) (Nat.le_of_ble_eq_true rfl) rfl (by decide) (zt_M_rings hr26)]
                                                    by_cases c27 : r25.1 = r26.1
                                                    · rw [if_pos c27] at H
                                                      rw [zp_icmp_eq_t (x := r25.1) (y := r26.1) (t := 856) zd_264_851 rfl c27]
                                                      exact zt_Law_856 (hk23 := ih) H
                                                    · rw [if_neg c27] at H
                                                      rw [zp_icmp_eq_f (x := r25.1) (y := r26.1) (t := 856) zd_264_851 rfl c27]
                                                      rw [zs_iconst (z := 0) zd_264_854 (by decide)]
                                                      have H := Option.some.inj H
                                                      subst H
                                                      exact zs_ireturn zd_264_855 (by decide +kernel)
                                                  · rw [if_neg c24] at H
                                                    rw [zs_table (x := ((σ 0 v4.toNatClampNeg) &&& 31)) (off := 816) (t := 856) zd_264_40 (if_pos (by have e : ∀ z : Int32, ¬ ((σ 0 v4.toNatClampNeg) &&& 31) = z → ¬ (((σ 0 v4.toNatClampNeg) &&& 31) : Int32).toInt = z.toInt := fun z h q => h (Int32.toInt_inj.mp q); have q0 := e 0 c3; have q1 := e 1 c4; have q2 := e 2 c5; have q3 := e 3 c6; have q4 := e 4 c7; have q5 := e 5 c8; have q6 := e 6 c9; have q7 := e 7 c10; have q8 := e 8 c11; have q9 := e 9 c12; have q10 := e 10 c13; have q11 := e 11 c14; have q12 := e 12 c15; have q13 := e 13 c16; have q14 := e 14 c17; have q15 := e 15 c18; have q16 := e 16 c19; have q17 := e 17 c20; have q18 := e 18 c21; have q19 := e 19 c22; have q20 := e 20 c23; have q21 := e 21 c24; simp only [show (0 : Int32).toInt = 0 from rfl, show (1 : Int32).toInt = 1 from rfl, show (10 : Int32).toInt = 10 from rfl, show (11 : Int32).toInt = 11 from rfl, show (12 : Int32).toInt = 12 from rfl, show (13 : Int32).toInt = 13 from rfl, show (14 : Int32).toInt = 14 from rfl, show (15 : Int32).toInt = 15 from rfl, show (16 : Int32).toInt = 16 from rfl, show (17 : Int32).toInt = 17 from rfl, show (18 : Int32).toInt = 18 from rfl, show (19 : Int32).toInt = 19 from rfl, show (2 : Int32).toInt = 2 from rfl, show (20 : Int32).toInt = 20 from rfl, show (21 : Int32).toInt = 21 from rfl, show (3 : Int32).toInt = 3 from rfl, show (4 : Int32).toInt = 4 from rfl, show (5 : Int32).toInt = 5 from rfl, show (6 : Int32).toInt = 6 from rfl, show (7 : Int32).toInt = 7 from rfl, show (8 : Int32).toInt = 8 from rfl, show (9 : Int32).toInt = 9 from rfl] at q0 q1 q2 q3 q4 q5 q6 q7 q8 q9 q10 q11 q12 q13 q14 q15 q16 q17 q18 q19 q20 q21; omega)) rfl]
                                                    exact zt_Law_856 (hk23 := ih) H
      · rw [if_neg c2] at H
        cases H
