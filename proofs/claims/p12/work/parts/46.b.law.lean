/-! the law's loop as a function -/
/-- RL.end [2] -/
def zf_Law_end (σ : zS) (x2 : Int32) : Option (Int32 × zS) :=
  (zf_X_end σ x2).bind fun r1 =>
  some (0, r1)
/-- RL.feed [2, 118] -/
def zf_Law_feed (N : Nat) (σ : zS) (τ : zT) (x2 : Int32) (x3 : Int32) (x4 : Int32) (x5 : Int32) (x6 : Int32) : Option (Int32 × zS × zT) :=
  (zf_X_feed N σ x2 x3 x4 x5 x6).bind fun r1 =>
  some (0, r1.2, (zx_up τ 118 0 (r1.1 : Int32).toInt64))
def zb_Law_817 (L : Nat) (k23 : Nat → Nat → zS → zT → Int32 → Option (Int32 × Nat × Nat × zS × zT)) (N : Nat) (a b : Nat) (σ : zS) (τ : zT) (v4 : Int32) : Option (Int32 × Nat × Nat × zS × zT) :=
  k23 a b σ τ (v4 + 6)
def zb_Law_23 (L : Nat) (N : Nat) : Nat → Nat → Nat → zS → zT → Int32 → Option (Int32 × Nat × Nat × zS × zT)
  | 0, _, _, _, _, _ => none
  | n + 1, a, b, σ, τ, v4 =>
    if ((Int32.ofNat L) - 6) < v4 then
      some (1, a, b, σ, τ)
    else
      if zx_ins v4 L = true then
        if ((σ 0 v4.toNatClampNeg) &&& 31) = 0 then
          if zx_ins (v4 + 1) L = true then
            if zx_ins (v4 + 2) L = true then
              if zx_ins (v4 + 3) L = true then
                if zx_ins (v4 + 4) L = true then
                  if zx_ins (v4 + 5) L = true then
                    if (σ 2 11) < 0 ∨ 1500 < (σ 2 11) + 20 then
                      if zx_ins (v4 + 1) L = true then
                        if zx_ins (v4 + 2) L = true then
                          if zx_ins (v4 + 3) L = true then
                            if zx_ins (v4 + 4) L = true then
                              if zx_ins (v4 + 5) L = true then
                                (zf_M_feed N σ (σ 0 (v4 + 1).toNatClampNeg) (σ 0 (v4 + 2).toNatClampNeg) (σ 0 (v4 + 3).toNatClampNeg) (σ 0 (v4 + 4).toNatClampNeg) (σ 0 (v4 + 5).toNatClampNeg)).bind fun r137 =>
                                zb_Law_817 L (zb_Law_23 L N n) N (a + 1) (b + 6) r137.2 τ v4
                              else none
                            else none
                          else none
                        else none
                      else none
                    else
                      (zf_Law_feed N σ τ (σ 0 (v4 + 1).toNatClampNeg) (σ 0 (v4 + 2).toNatClampNeg) (σ 0 (v4 + 3).toNatClampNeg) (σ 0 (v4 + 4).toNatClampNeg) (σ 0 (v4 + 5).toNatClampNeg)).bind fun r131 =>
                      if zx_ins (v4 + 1) L = true then
                        if zx_ins (v4 + 2) L = true then
                          if zx_ins (v4 + 3) L = true then
                            if zx_ins (v4 + 4) L = true then
                              if zx_ins (v4 + 5) L = true then
                                (zf_M_feed N r131.2.1 (r131.2.1 0 (v4 + 1).toNatClampNeg) (r131.2.1 0 (v4 + 2).toNatClampNeg) (r131.2.1 0 (v4 + 3).toNatClampNeg) (r131.2.1 0 (v4 + 4).toNatClampNeg) (r131.2.1 0 (v4 + 5).toNatClampNeg)).bind fun r143 =>
                                zb_Law_817 L (zb_Law_23 L N n) N a b r143.2 r131.2.2 v4
                              else none
                            else none
                          else none
                        else none
                      else none
                  else none
                else none
              else none
            else none
          else none
        else
          if ((σ 0 v4.toNatClampNeg) &&& 31) = 1 then
            if zx_ins (v4 + 1) L = true then
              if (σ 0 (v4 + 1).toNatClampNeg) < 0 ∨ (σ 2 11) < (σ 0 (v4 + 1).toNatClampNeg) then
                if zx_ins (v4 + 1) L = true then
                  (zf_M_end σ (σ 0 (v4 + 1).toNatClampNeg)).bind fun r122 =>
                  zb_Law_817 L (zb_Law_23 L N n) N (a + 1) (b + 6) r122 τ v4
                else none
              else
                (zf_Law_end σ (σ 0 (v4 + 1).toNatClampNeg)).bind fun r120 =>
                if zx_ins (v4 + 1) L = true then
                  (zf_M_end r120.2 (r120.2 0 (v4 + 1).toNatClampNeg)).bind fun r124 =>
                  zb_Law_817 L (zb_Law_23 L N n) N a b r124 τ v4
                else none
            else none
          else
            if ((σ 0 v4.toNatClampNeg) &&& 31) = 2 then
              (zf_X_read N σ τ).bind fun r116 =>
              (zf_M_read N r116.2.1).bind fun r117 =>
              zb_Law_817 L (zb_Law_23 L N n) N a b r117.2 r116.2.2 v4
            else
              if ((σ 0 v4.toNatClampNeg) &&& 31) = 3 then
                (zf_X_fault σ).bind fun r114 =>
                (zf_M_fault σ).bind fun r115 =>
                zb_Law_817 L (zb_Law_23 L N n) N a b r115.2 τ v4
              else
                if ((σ 0 v4.toNatClampNeg) &&& 31) = 4 then
                  if zx_ins (v4 + 1) L = true then
                    (zf_X_count σ (σ 0 (v4 + 1).toNatClampNeg)).bind fun r111 =>
                    if zx_ins (v4 + 1) L = true then
                      (zf_M_count N σ (σ 0 (v4 + 1).toNatClampNeg)).bind fun r113 =>
                      zb_Law_817 L (zb_Law_23 L N n) N a b r113.2 τ v4
                    else none
                  else none
                else
                  if ((σ 0 v4.toNatClampNeg) &&& 31) = 5 then
                    if zx_ins (v4 + 1) L = true then
                      if zx_ins (v4 + 2) L = true then
                        if zx_ins (v4 + 3) L = true then
                          (zf_X_step σ (σ 0 (v4 + 1).toNatClampNeg) (σ 0 (v4 + 2).toNatClampNeg) (σ 0 (v4 + 3).toNatClampNeg)).bind fun r105 =>
                          if zx_ins (v4 + 1) L = true then
                            if zx_ins (v4 + 2) L = true then
                              if zx_ins (v4 + 3) L = true then
                                (zf_M_step σ (σ 0 (v4 + 1).toNatClampNeg) (σ 0 (v4 + 2).toNatClampNeg) (σ 0 (v4 + 3).toNatClampNeg)).bind fun r109 =>
                                zb_Law_817 L (zb_Law_23 L N n) N a b r109.2 τ v4
                              else none
                            else none
                          else none
                        else none
                      else none
                    else none
                  else
                    if ((σ 0 v4.toNatClampNeg) &&& 31) = 6 then
                      (zf_X_run N σ).bind fun r100 =>
                      (zf_M_run N r100.2).bind fun r101 =>
                      zb_Law_817 L (zb_Law_23 L N n) N a b r101.2 τ v4
                    else
                      if ((σ 0 v4.toNatClampNeg) &&& 31) = 7 then
                        if zx_ins (v4 + 1) L = true then
                          (zf_X_found σ (σ 0 (v4 + 1).toNatClampNeg)).bind fun r97 =>
                          if zx_ins (v4 + 1) L = true then
                            (zf_M_found N σ (σ 0 (v4 + 1).toNatClampNeg)).bind fun r99 =>
                            zb_Law_817 L (zb_Law_23 L N n) N a b r99.2 τ v4
                          else none
                        else none
                      else
                        if ((σ 0 v4.toNatClampNeg) &&& 31) = 8 then
                          if zx_ins (v4 + 1) L = true then
                            if zx_ins (v4 + 2) L = true then
                              (zf_X_show N σ (σ 0 (v4 + 1).toNatClampNeg) (σ 0 (v4 + 2).toNatClampNeg)).bind fun r92 =>
                              if zx_ins (v4 + 1) L = true then
                                if zx_ins (v4 + 2) L = true then
                                  (zf_M_show N r92.2 (r92.2 0 (v4 + 1).toNatClampNeg) (r92.2 0 (v4 + 2).toNatClampNeg)).bind fun r95 =>
                                  zb_Law_817 L (zb_Law_23 L N n) N a b r95.2 τ v4
                                else none
                              else none
                            else none
                          else none
                        else
                          if ((σ 0 v4.toNatClampNeg) &&& 31) = 9 then
                            (zf_X_length σ).bind fun r88 =>
                            (zf_M_length σ).bind fun r89 =>
                            zb_Law_817 L (zb_Law_23 L N n) N a b r89.2 τ v4
                          else
                            if ((σ 0 v4.toNatClampNeg) &&& 31) = 10 then
                              if zx_ins (v4 + 1) L = true then
                                (zf_X_who σ (σ 0 (v4 + 1).toNatClampNeg)).bind fun r84 =>
                                if zx_ins (v4 + 1) L = true then
                                  (zf_M_who σ (σ 0 (v4 + 1).toNatClampNeg)).bind fun r86 =>
                                  if r84 = r86.1 then
                                    zb_Law_817 L (zb_Law_23 L N n) N a b r86.2 τ v4
                                  else
                                    some (0, a, b, r86.2, τ)
                                else none
                              else none
                            else
                              if ((σ 0 v4.toNatClampNeg) &&& 31) = 11 then
                                if zx_ins (v4 + 1) L = true then
                                  if zx_ins (v4 + 2) L = true then
                                    (zf_X_race σ (σ 0 (v4 + 1).toNatClampNeg) (σ 0 (v4 + 2).toNatClampNeg)).bind fun r79 =>
                                    if zx_ins (v4 + 1) L = true then
                                      if zx_ins (v4 + 2) L = true then
                                        (zf_M_race N σ (σ 0 (v4 + 1).toNatClampNeg) (σ 0 (v4 + 2).toNatClampNeg)).bind fun r82 =>
                                        zb_Law_817 L (zb_Law_23 L N n) N a b r82.2 τ v4
                                      else none
                                    else none
                                  else none
                                else none
                              else
                                if ((σ 0 v4.toNatClampNeg) &&& 31) = 12 then
                                  if zx_ins (v4 + 1) L = true then
                                    if zx_ins (v4 + 2) L = true then
                                      if zx_ins (v4 + 3) L = true then
                                        (zf_X_thread N σ (σ 0 (v4 + 1).toNatClampNeg) (σ 0 (v4 + 2).toNatClampNeg) (σ 0 (v4 + 3).toNatClampNeg)).bind fun r72 =>
                                        if zx_ins (v4 + 1) L = true then
                                          if zx_ins (v4 + 2) L = true then
                                            if zx_ins (v4 + 3) L = true then
                                              (zf_M_thread N r72.2 (r72.2 0 (v4 + 1).toNatClampNeg) (r72.2 0 (v4 + 2).toNatClampNeg) (r72.2 0 (v4 + 3).toNatClampNeg)).bind fun r76 =>
                                              zb_Law_817 L (zb_Law_23 L N n) N a b r76.2 τ v4
                                            else none
                                          else none
                                        else none
                                      else none
                                    else none
                                  else none
                                else
                                  if ((σ 0 v4.toNatClampNeg) &&& 31) = 13 then
                                    if zx_ins (v4 + 1) L = true then
                                      if zx_ins (v4 + 2) L = true then
                                        (zf_X_field N σ (σ 0 (v4 + 1).toNatClampNeg) (σ 0 (v4 + 2).toNatClampNeg)).bind fun r65 =>
                                        if zx_ins (v4 + 1) L = true then
                                          if zx_ins (v4 + 2) L = true then
                                            (zf_M_field r65.2 (r65.2 0 (v4 + 1).toNatClampNeg) (r65.2 0 (v4 + 2).toNatClampNeg)).bind fun r68 =>
                                            zb_Law_817 L (zb_Law_23 L N n) N a b r68.2 τ v4
                                          else none
                                        else none
                                      else none
                                    else none
                                  else
                                    if ((σ 0 v4.toNatClampNeg) &&& 31) = 14 then
                                      if zx_ins (v4 + 1) L = true then
                                        if zx_ins (v4 + 2) L = true then
                                          (zf_X_owner N σ (σ 0 (v4 + 1).toNatClampNeg) (σ 0 (v4 + 2).toNatClampNeg)).bind fun r59 =>
                                          if zx_ins (v4 + 1) L = true then
                                            if zx_ins (v4 + 2) L = true then
                                              (zf_M_owner r59.2 (r59.2 0 (v4 + 1).toNatClampNeg) (r59.2 0 (v4 + 2).toNatClampNeg)).bind fun r62 =>
                                              zb_Law_817 L (zb_Law_23 L N n) N a b r62.2 τ v4
                                            else none
                                          else none
                                        else none
                                      else none
                                    else
                                      if ((σ 0 v4.toNatClampNeg) &&& 31) = 15 then
                                        if zx_ins (v4 + 1) L = true then
                                          (zf_X_stuck N σ (σ 0 (v4 + 1).toNatClampNeg)).bind fun r54 =>
                                          if zx_ins (v4 + 1) L = true then
                                            (zf_M_stuck N r54.2 (r54.2 0 (v4 + 1).toNatClampNeg)).bind fun r56 =>
                                            zb_Law_817 L (zb_Law_23 L N n) N a b r56.2 τ v4
                                          else none
                                        else none
                                      else
                                        if ((σ 0 v4.toNatClampNeg) &&& 31) = 16 then
                                          if zx_ins (v4 + 1) L = true then
                                            (zf_X_whole N σ (σ 0 (v4 + 1).toNatClampNeg)).bind fun r50 =>
                                            if zx_ins (v4 + 1) L = true then
                                              (zf_M_whole N r50.2 (r50.2 0 (v4 + 1).toNatClampNeg)).bind fun r52 =>
                                              zb_Law_817 L (zb_Law_23 L N n) N a b r52.2 τ v4
                                            else none
                                          else none
                                        else
                                          if ((σ 0 v4.toNatClampNeg) &&& 31) = 17 then
                                            (zf_X_doubts N σ).bind fun r47 =>
                                            (zf_M_doubts N r47.2).bind fun r48 =>
                                            zb_Law_817 L (zb_Law_23 L N n) N a b r48.2 τ v4
                                          else
                                            if ((σ 0 v4.toNatClampNeg) &&& 31) = 18 then
                                              if zx_ins (v4 + 1) L = true then
                                                if zx_ins (v4 + 2) L = true then
                                                  (zf_X_doubt N σ (σ 0 (v4 + 1).toNatClampNeg) (σ 0 (v4 + 2).toNatClampNeg)).bind fun r43 =>
                                                  if zx_ins (v4 + 1) L = true then
                                                    if zx_ins (v4 + 2) L = true then
                                                      (zf_M_doubt N r43.2 (r43.2 0 (v4 + 1).toNatClampNeg) (r43.2 0 (v4 + 2).toNatClampNeg)).bind fun r46 =>
                                                      zb_Law_817 L (zb_Law_23 L N n) N a b r46.2 τ v4
                                                    else none
                                                  else none
                                                else none
                                              else none
                                            else
                                              if ((σ 0 v4.toNatClampNeg) &&& 31) = 19 then
                                                if zx_ins (v4 + 1) L = true then
                                                  if zx_ins (v4 + 2) L = true then
                                                    if zx_ins (v4 + 3) L = true then
                                                      if zx_ins (v4 + 4) L = true then
                                                        (zf_X_meet N σ (σ 0 (v4 + 1).toNatClampNeg) (σ 0 (v4 + 2).toNatClampNeg) (σ 0 (v4 + 3).toNatClampNeg) (σ 0 (v4 + 4).toNatClampNeg)).bind fun r35 =>
                                                        if zx_ins (v4 + 1) L = true then
                                                          if zx_ins (v4 + 2) L = true then
                                                            if zx_ins (v4 + 3) L = true then
                                                              if zx_ins (v4 + 4) L = true then
                                                                (zf_M_meet N r35.2 (r35.2 0 (v4 + 1).toNatClampNeg) (r35.2 0 (v4 + 2).toNatClampNeg) (r35.2 0 (v4 + 3).toNatClampNeg) (r35.2 0 (v4 + 4).toNatClampNeg)).bind fun r40 =>
                                                                zb_Law_817 L (zb_Law_23 L N n) N a b r40.2 τ v4
                                                              else none
                                                            else none
                                                          else none
                                                        else none
                                                      else none
                                                    else none
                                                  else none
                                                else none
                                              else
                                                if ((σ 0 v4.toNatClampNeg) &&& 31) = 20 then
                                                  if zx_ins (v4 + 1) L = true then
                                                    (zf_X_guards N σ (σ 0 (v4 + 1).toNatClampNeg)).bind fun r28 =>
                                                    if zx_ins (v4 + 1) L = true then
                                                      (zf_M_guards N σ (σ 0 (v4 + 1).toNatClampNeg)).bind fun r30 =>
                                                      zb_Law_817 L (zb_Law_23 L N n) N a b r30.2 τ v4
                                                    else none
                                                  else none
                                                else
                                                  if ((σ 0 v4.toNatClampNeg) &&& 31) = 21 then
                                                    (zf_X_rings N σ).bind fun r25 =>
                                                    (zf_M_rings N r25.2).bind fun r26 =>
                                                    zb_Law_817 L (zb_Law_23 L N n) N a b r26.2 τ v4
                                                  else
                                                    zb_Law_817 L (zb_Law_23 L N n) N a b σ τ v4
      else none
set_option maxRecDepth 20000 in
theorem zt_Law_end {a b L : Nat} {σ : zS} {τ : zT} {x2 : Int32} {r : Int32 × zS} (H : zf_Law_end σ x2 = some r) : zx_go 1 266 0 [some (.ref 2), some (.int x2), none] [] ((119, a, b), zx_pk (zK L) 119, σ, τ, zR) = some (some (.int r.1), ((119, a, b), zx_pk (zK L) 119, r.2, τ, zR)) := by
  unfold zf_Law_end at H
  rw [zs_aload_n (ls := [some (.ref 2), some (.int x2), none]) zd_266_0 rfl]
  rw [zs_iload_n (ls := [some (.ref 2), some (.int x2), none]) zd_266_1 rfl]
  obtain ⟨r1, hr1, H⟩ := Option.bind_eq_some_iff.mp H
  rw [zp_callVv (st := [.int x2, .ref 2]) (as := [.ref 2, .int x2]) (rest := []) (e := 0) zd_266_2 rfl (by decide +kernel) (by decide) rfl rfl (Nat.le_of_ble_eq_true rfl) (zx_rcb_ok rfl (show 2 < 119 by decide)) (Nat.le_of_ble_eq_true rfl) rfl (by decide) (zt_X_end hr1)]
  rw [zs_goto (t := 11) zd_266_5 rfl]
  rw [zs_iconst (z := 0) zd_266_11 (by decide)]
  have H := Option.some.inj H
  subst H
  exact zs_ireturn zd_266_12 (by decide +kernel)
set_option maxRecDepth 20000 in
theorem zt_Law_feed {a b L N : Nat} {σ : zS} {τ : zT} {x2 : Int32} {x3 : Int32} {x4 : Int32} {x5 : Int32} {x6 : Int32} {r : Int32 × zS × zT} (H : zf_Law_feed N σ τ x2 x3 x4 x5 x6 = some r) : zx_go 2 265 0 [some (.ref 2), some (.int x2), some (.int x3), some (.int x4), some (.int x5), some (.int x6), some (.ref 118), none] [] ((119, a, b), zx_pk (zK L) 119, σ, τ, zR) = some (some (.int r.1), ((119, a, b), zx_pk (zK L) 119, r.2.1, r.2.2, zR)) := by
  unfold zf_Law_feed at H
  rw [zs_aload (ls := [some (.ref 2), some (.int x2), some (.int x3), some (.int x4), some (.int x5), some (.int x6), some (.ref 118), none]) zd_265_0 rfl]
  rw [zs_iconst (z := 0) zd_265_2 (by decide)]
  rw [zs_aload_n (ls := [some (.ref 2), some (.int x2), some (.int x3), some (.int x4), some (.int x5), some (.int x6), some (.ref 118), none]) zd_265_3 rfl]
  rw [zs_iload_n (ls := [some (.ref 2), some (.int x2), some (.int x3), some (.int x4), some (.int x5), some (.int x6), some (.ref 118), none]) zd_265_4 rfl]
  rw [zs_iload_n (ls := [some (.ref 2), some (.int x2), some (.int x3), some (.int x4), some (.int x5), some (.int x6), some (.ref 118), none]) zd_265_5 rfl]
  rw [zs_iload_n (ls := [some (.ref 2), some (.int x2), some (.int x3), some (.int x4), some (.int x5), some (.int x6), some (.ref 118), none]) zd_265_6 rfl]
  rw [zs_iload (ls := [some (.ref 2), some (.int x2), some (.int x3), some (.int x4), some (.int x5), some (.int x6), some (.ref 118), none]) zd_265_7 rfl]
  rw [zs_iload (ls := [some (.ref 2), some (.int x2), some (.int x3), some (.int x4), some (.int x5), some (.int x6), some (.ref 118), none]) zd_265_9 rfl]
  obtain ⟨r1, hr1, H⟩ := Option.bind_eq_some_iff.mp H
  rw [zp_callVi (x := r1.1) (st := [.int x6, .int x5, .int x4, .int x3, .int x2, .ref 2, .int 0, .ref 118]) (as := [.ref 2, .int x2, .int x3, .int x4, .int x5, .int x6]) (rest := [.int 0, .ref 118]) (e := 1) zd_265_11 rfl (by decide +kernel) (by decide) rfl rfl (Nat.le_of_ble_eq_true rfl) (zx_rcb_ok rfl (show 2 < 119 by decide)) (Nat.le_of_ble_eq_true rfl) rfl (by decide) (zt_X_feed hr1)]
  rw [zp_i2l (x := r1.1) (z := (r1.1 : Int32).toInt64) zd_265_14 rfl]
  rw [zp_lastore (n := 119) (K := zx_pk (zK L) 119) (q := 118) (m := 1) (i := 0) (k := 0) (x := (r1.1 : Int32).toInt64) (z := (r1.1 : Int32).toInt64) zd_265_15 rfl ⟨by decide, by decide⟩ (by decide) (by decide) rfl]
  rw [zs_goto (t := 23) zd_265_16 rfl]
  rw [zs_iconst (z := 0) zd_265_23 (by decide)]
  have H := Option.some.inj H
  subst H
  exact zs_ireturn zd_265_24 (by decide +kernel)
set_option maxRecDepth 20000 in
theorem zt_Law_817 {a b L N : Nat} {k23 : Nat → Nat → zS → zT → Int32 → Option (Int32 × Nat × Nat × zS × zT)} (hk23 : ∀ {a b : Nat} {σ : zS} {τ : zT} {v4 : Int32} {o5 : Option Value} {o6 : Option Value} {r : Int32 × Nat × Nat × zS × zT}, k23 a b σ τ v4 = some r → zx_go 40 264 23 [some (.ref 0), some (.ref 2), some (.ref 82), some (.ref 118), some (.int v4), o5, o6] [] ((119, a, b), zx_pk (zK L) 119, σ, τ, zR) = some (some (.int r.1), ((119, r.2.1, r.2.2.1), zx_pk (zK L) 119, r.2.2.2.1, r.2.2.2.2, zR))) {σ : zS} {τ : zT} {v4 : Int32} {o5 : Option Value} {o6 : Option Value} {r : Int32 × Nat × Nat × zS × zT} (H : zb_Law_817 L k23 N a b σ τ v4 = some r) : zx_go 40 264 817 [some (.ref 0), some (.ref 2), some (.ref 82), some (.ref 118), some (.int v4), o5, o6] [] ((119, a, b), zx_pk (zK L) 119, σ, τ, zR) = some (some (.int r.1), ((119, r.2.1, r.2.2.1), zx_pk (zK L) 119, r.2.2.2.1, r.2.2.2.2, zR)) := by
  unfold zb_Law_817 at H
  rw [zs_iinc (ls := [some (.ref 0), some (.ref 2), some (.ref 82), some (.ref 118), some (.int v4), o5, o6]) (x := v4) (z := (v4 + 6)) (ls' := [some (.ref 0), some (.ref 2), some (.ref 82), some (.ref 118), some (.int (v4 + 6)), o5, o6]) zd_264_817 rfl rfl rfl]
  rw [zs_goto (t := 23) zd_264_820 rfl]
  exact hk23 H
set_option maxRecDepth 20000 in
theorem zt_Law_23 {L N : Nat} : ∀ {n a b : Nat} {σ : zS} {τ : zT} {v4 : Int32} {o5 : Option Value} {o6 : Option Value} {r : Int32 × Nat × Nat × zS × zT}, zb_Law_23 L N n a b σ τ v4 = some r → zx_go 40 264 23 [some (.ref 0), some (.ref 2), some (.ref 82), some (.ref 118), some (.int v4), o5, o6] [] ((119, a, b), zx_pk (zK L) 119, σ, τ, zR) = some (some (.int r.1), ((119, r.2.1, r.2.2.1), zx_pk (zK L) 119, r.2.2.2.1, r.2.2.2.2, zR)) := by
  intro n
  induction n with
  | zero =>
    intro _ _ _ _ _ _ _ _ H
    cases H
  | succ n ih =>
    intro a b σ τ v4 o5 o6 r H
    rw [zb_Law_23] at H
    rw [zs_iload (ls := [some (.ref 0), some (.ref 2), some (.ref 82), some (.ref 118), some (.int v4), o5, o6]) zd_264_23 rfl]
    rw [zs_aload_n (ls := [some (.ref 0), some (.ref 2), some (.ref 82), some (.ref 118), some (.int v4), o5, o6]) zd_264_25 rfl]
    rw [zs_arraylength (n := 119) (K := zx_pk (zK L) 119) (q := 0) (m := L) (z := Int32.ofNat L) zd_264_26 rfl (by decide) rfl]
    rw [zs_bipush (z := 6) zd_264_27 (by decide)]
    rw [zp_isub (x := (Int32.ofNat L)) (y := 6) (z := ((Int32.ofNat L) - 6)) zd_264_29 rfl]
    by_cases c1 : ((Int32.ofNat L) - 6) < v4
    · rw [if_pos c1] at H
      rw [zp_icmp_gt_t (x := v4) (y := ((Int32.ofNat L) - 6)) (t := 823) zd_264_30 rfl c1]
      rw [zs_iconst (z := 1) zd_264_823 (by decide)]
      have H := Option.some.inj H
      subst H
      exact zs_ireturn zd_264_824 (by decide +kernel)
    · rw [if_neg c1] at H
      rw [zp_icmp_gt_f (x := v4) (y := ((Int32.ofNat L) - 6)) (t := 823) zd_264_30 rfl c1]
      rw [zs_aload_n (ls := [some (.ref 0), some (.ref 2), some (.ref 82), some (.ref 118), some (.int v4), o5, o6]) zd_264_33 rfl]
      rw [zs_iload (ls := [some (.ref 0), some (.ref 2), some (.ref 82), some (.ref 118), some (.int v4), o5, o6]) zd_264_34 rfl]
      by_cases c2 : zx_ins v4 L = true
      · rw [if_pos c2] at H
        rw [zp_iaload (n := 119) (K := zx_pk (zK L) 119) (σ := σ) (q := 0) (m := L) (i := v4) (k := v4.toNatClampNeg) (v := (σ 0 v4.toNatClampNeg)) zd_264_36 rfl (by decide) c2 rfl rfl]
        rw [zs_bipush (z := 31) zd_264_37 (by decide)]
        rw [zp_iand (x := (σ 0 v4.toNatClampNeg)) (y := 31) (z := ((σ 0 v4.toNatClampNeg) &&& 31)) zd_264_39 rfl]
        by_cases c3 : ((σ 0 v4.toNatClampNeg) &&& 31) = 0
        · rw [if_pos c3] at H
          rw [zs_table (x := ((σ 0 v4.toNatClampNeg) &&& 31)) (off := 104) (t := 144) zd_264_40 (by rw [c3]; decide) rfl]
          rw [zs_aload_n (ls := [some (.ref 0), some (.ref 2), some (.ref 82), some (.ref 118), some (.int v4), o5, o6]) zd_264_144 rfl]
          rw [zs_aload_n (ls := [some (.ref 0), some (.ref 2), some (.ref 82), some (.ref 118), some (.int v4), o5, o6]) zd_264_145 rfl]
          rw [zs_iload (ls := [some (.ref 0), some (.ref 2), some (.ref 82), some (.ref 118), some (.int v4), o5, o6]) zd_264_146 rfl]
          rw [zs_iconst (z := 1) zd_264_148 (by decide)]
          rw [zp_iadd (x := v4) (y := 1) (z := (v4 + 1)) zd_264_149 rfl]
          by_cases c125 : zx_ins (v4 + 1) L = true
          · rw [if_pos c125] at H
            rw [zp_iaload (n := 119) (K := zx_pk (zK L) 119) (σ := σ) (q := 0) (m := L) (i := (v4 + 1)) (k := (v4 + 1).toNatClampNeg) (v := (σ 0 (v4 + 1).toNatClampNeg)) zd_264_150 rfl (by decide) c125 rfl rfl]
            rw [zs_aload_n (ls := [some (.ref 0), some (.ref 2), some (.ref 82), some (.ref 118), some (.int v4), o5, o6]) zd_264_151 rfl]
            rw [zs_iload (ls := [some (.ref 0), some (.ref 2), some (.ref 82), some (.ref 118), some (.int v4), o5, o6]) zd_264_152 rfl]
            rw [zs_iconst (z := 2) zd_264_154 (by decide)]
            rw [zp_iadd (x := v4) (y := 2) (z := (v4 + 2)) zd_264_155 rfl]
            by_cases c126 : zx_ins (v4 + 2) L = true
            · rw [if_pos c126] at H
              rw [zp_iaload (n := 119) (K := zx_pk (zK L) 119) (σ := σ) (q := 0) (m := L) (i := (v4 + 2)) (k := (v4 + 2).toNatClampNeg) (v := (σ 0 (v4 + 2).toNatClampNeg)) zd_264_156 rfl (by decide) c126 rfl rfl]
              rw [zs_aload_n (ls := [some (.ref 0), some (.ref 2), some (.ref 82), some (.ref 118), some (.int v4), o5, o6]) zd_264_157 rfl]
              rw [zs_iload (ls := [some (.ref 0), some (.ref 2), some (.ref 82), some (.ref 118), some (.int v4), o5, o6]) zd_264_158 rfl]
              rw [zs_iconst (z := 3) zd_264_160 (by decide)]
              rw [zp_iadd (x := v4) (y := 3) (z := (v4 + 3)) zd_264_161 rfl]
              by_cases c127 : zx_ins (v4 + 3) L = true
              · rw [if_pos c127] at H
                rw [zp_iaload (n := 119) (K := zx_pk (zK L) 119) (σ := σ) (q := 0) (m := L) (i := (v4 + 3)) (k := (v4 + 3).toNatClampNeg) (v := (σ 0 (v4 + 3).toNatClampNeg)) zd_264_162 rfl (by decide) c127 rfl rfl]
                rw [zs_aload_n (ls := [some (.ref 0), some (.ref 2), some (.ref 82), some (.ref 118), some (.int v4), o5, o6]) zd_264_163 rfl]
                rw [zs_iload (ls := [some (.ref 0), some (.ref 2), some (.ref 82), some (.ref 118), some (.int v4), o5, o6]) zd_264_164 rfl]
                rw [zs_iconst (z := 4) zd_264_166 (by decide)]
                rw [zp_iadd (x := v4) (y := 4) (z := (v4 + 4)) zd_264_167 rfl]
                by_cases c128 : zx_ins (v4 + 4) L = true
                · rw [if_pos c128] at H
                  rw [zp_iaload (n := 119) (K := zx_pk (zK L) 119) (σ := σ) (q := 0) (m := L) (i := (v4 + 4)) (k := (v4 + 4).toNatClampNeg) (v := (σ 0 (v4 + 4).toNatClampNeg)) zd_264_168 rfl (by decide) c128 rfl rfl]
                  rw [zs_aload_n (ls := [some (.ref 0), some (.ref 2), some (.ref 82), some (.ref 118), some (.int v4), o5, o6]) zd_264_169 rfl]
                  rw [zs_iload (ls := [some (.ref 0), some (.ref 2), some (.ref 82), some (.ref 118), some (.int v4), o5, o6]) zd_264_170 rfl]
                  rw [zs_iconst (z := 5) zd_264_172 (by decide)]
                  rw [zp_iadd (x := v4) (y := 5) (z := (v4 + 5)) zd_264_173 rfl]
                  by_cases c129 : zx_ins (v4 + 5) L = true
                  · rw [if_pos c129] at H
                    rw [zp_iaload (n := 119) (K := zx_pk (zK L) 119) (σ := σ) (q := 0) (m := L) (i := (v4 + 5)) (k := (v4 + 5).toNatClampNeg) (v := (σ 0 (v4 + 5).toNatClampNeg)) zd_264_174 rfl (by decide) c129 rfl rfl]
                    rw [zs_aload_n (ls := [some (.ref 0), some (.ref 2), some (.ref 82), some (.ref 118), some (.int v4), o5, o6]) zd_264_175 rfl]
                    by_cases c130 : (σ 2 11) < 0 ∨ 1500 < (σ 2 11) + 20
                    · rw [if_pos c130] at H
                      rw [zp_lawFt (rest := []) (K := zx_pk (zK L) 119) (n := 119) (σ := σ) (v := (σ 2 11)) zd_264_176 rfl (Nat.le_of_ble_eq_true rfl) rfl (by decide) (by decide) rfl c130 (by decide)]
                      rw [zs_istore (x := 1) (ls' := [some (.ref 0), some (.ref 2), some (.ref 82), some (.ref 118), some (.int v4), some (.int 1), o6]) zd_264_179 (Nat.le_of_ble_eq_true rfl) rfl]
                      rw [zs_aload_n (ls := [some (.ref 0), some (.ref 2), some (.ref 82), some (.ref 118), some (.int v4), some (.int 1), o6]) zd_264_181 rfl]
                      rw [zs_aload_n (ls := [some (.ref 0), some (.ref 2), some (.ref 82), some (.ref 118), some (.int v4), some (.int 1), o6]) zd_264_182 rfl]
                      rw [zs_iload (ls := [some (.ref 0), some (.ref 2), some (.ref 82), some (.ref 118), some (.int v4), some (.int 1), o6]) zd_264_183 rfl]
                      rw [zs_iconst (z := 1) zd_264_185 (by decide)]
                      rw [zp_iadd (x := v4) (y := 1) (z := (v4 + 1)) zd_264_186 rfl]
                      by_cases c132 : zx_ins (v4 + 1) L = true
                      · rw [if_pos c132] at H
                        rw [zp_iaload (n := 119) (K := zx_pk (zK L) 119) (σ := σ) (q := 0) (m := L) (i := (v4 + 1)) (k := (v4 + 1).toNatClampNeg) (v := (σ 0 (v4 + 1).toNatClampNeg)) zd_264_187 rfl (by decide) c132 rfl rfl]
                        rw [zs_aload_n (ls := [some (.ref 0), some (.ref 2), some (.ref 82), some (.ref 118), some (.int v4), some (.int 1), o6]) zd_264_188 rfl]
                        rw [zs_iload (ls := [some (.ref 0), some (.ref 2), some (.ref 82), some (.ref 118), some (.int v4), some (.int 1), o6]) zd_264_189 rfl]
                        rw [zs_iconst (z := 2) zd_264_191 (by decide)]
                        rw [zp_iadd (x := v4) (y := 2) (z := (v4 + 2)) zd_264_192 rfl]
                        by_cases c133 : zx_ins (v4 + 2) L = true
                        · rw [if_pos c133] at H
                          rw [zp_iaload (n := 119) (K := zx_pk (zK L) 119) (σ := σ) (q := 0) (m := L) (i := (v4 + 2)) (k := (v4 + 2).toNatClampNeg) (v := (σ 0 (v4 + 2).toNatClampNeg)) zd_264_193 rfl (by decide) c133 rfl rfl]
                          rw [zs_aload_n (ls := [some (.ref 0), some (.ref 2), some (.ref 82), some (.ref 118), some (.int v4), some (.int 1), o6]) zd_264_194 rfl]
                          rw [zs_iload (ls := [some (.ref 0), some (.ref 2), some (.ref 82), some (.ref 118), some (.int v4), some (.int 1), o6]) zd_264_195 rfl]
                          rw [zs_iconst (z := 3) zd_264_197 (by decide)]
                          rw [zp_iadd (x := v4) (y := 3) (z := (v4 + 3)) zd_264_198 rfl]
                          by_cases c134 : zx_ins (v4 + 3) L = true
                          · rw [if_pos c134] at H
                            rw [zp_iaload (n := 119) (K := zx_pk (zK L) 119) (σ := σ) (q := 0) (m := L) (i := (v4 + 3)) (k := (v4 + 3).toNatClampNeg) (v := (σ 0 (v4 + 3).toNatClampNeg)) zd_264_199 rfl (by decide) c134 rfl rfl]
                            rw [zs_aload_n (ls := [some (.ref 0), some (.ref 2), some (.ref 82), some (.ref 118), some (.int v4), some (.int 1), o6]) zd_264_200 rfl]
                            rw [zs_iload (ls := [some (.ref 0), some (.ref 2), some (.ref 82), some (.ref 118), some (.int v4), some (.int 1), o6]) zd_264_201 rfl]
                            rw [zs_iconst (z := 4) zd_264_203 (by decide)]
                            rw [zp_iadd (x := v4) (y := 4) (z := (v4 + 4)) zd_264_204 rfl]
                            by_cases c135 : zx_ins (v4 + 4) L = true
                            · rw [if_pos c135] at H
                              rw [zp_iaload (n := 119) (K := zx_pk (zK L) 119) (σ := σ) (q := 0) (m := L) (i := (v4 + 4)) (k := (v4 + 4).toNatClampNeg) (v := (σ 0 (v4 + 4).toNatClampNeg)) zd_264_205 rfl (by decide) c135 rfl rfl]
                              rw [zs_aload_n (ls := [some (.ref 0), some (.ref 2), some (.ref 82), some (.ref 118), some (.int v4), some (.int 1), o6]) zd_264_206 rfl]
                              rw [zs_iload (ls := [some (.ref 0), some (.ref 2), some (.ref 82), some (.ref 118), some (.int v4), some (.int 1), o6]) zd_264_207 rfl]
                              rw [zs_iconst (z := 5) zd_264_209 (by decide)]
                              rw [zp_iadd (x := v4) (y := 5) (z := (v4 + 5)) zd_264_210 rfl]
                              by_cases c136 : zx_ins (v4 + 5) L = true
                              · rw [if_pos c136] at H
                                rw [zp_iaload (n := 119) (K := zx_pk (zK L) 119) (σ := σ) (q := 0) (m := L) (i := (v4 + 5)) (k := (v4 + 5).toNatClampNeg) (v := (σ 0 (v4 + 5).toNatClampNeg)) zd_264_211 rfl (by decide) c136 rfl rfl]
                                obtain ⟨r137, hr137, H⟩ := Option.bind_eq_some_iff.mp H
                                rw [zp_callVi (x := r137.1) (st := [.int (σ 0 (v4 + 5).toNatClampNeg), .int (σ 0 (v4 + 4).toNatClampNeg), .int (σ 0 (v4 + 3).toNatClampNeg), .int (σ 0 (v4 + 2).toNatClampNeg), .int (σ 0 (v4 + 1).toNatClampNeg), .ref 82]) (as := [.ref 82, .int (σ 0 (v4 + 1).toNatClampNeg), .int (σ 0 (v4 + 2).toNatClampNeg), .int (σ 0 (v4 + 3).toNatClampNeg), .int (σ 0 (v4 + 4).toNatClampNeg), .int (σ 0 (v4 + 5).toNatClampNeg)]) (rest := []) (e := 0) zd_264_212 rfl (by decide +kernel) (by decide) rfl rfl (Nat.le_of_ble_eq_true rfl) (zx_rcb_ok rfl (show 82 < 119 by decide)) (Nat.le_of_ble_eq_true rfl) rfl (by decide) (zt_M_feed hr137)]
                                rw [zs_istore (x := r137.1) (ls' := [some (.ref 0), some (.ref 2), some (.ref 82), some (.ref 118), some (.int v4), some (.int 1), some (.int r137.1)]) zd_264_215 (Nat.le_of_ble_eq_true rfl) rfl]
                                rw [zs_goto (t := 817) zd_264_217 rfl]
                                exact zt_Law_817 (hk23 := ih) H
                              · rw [if_neg c136] at H
                                cases H
                            · rw [if_neg c135] at H
                              cases H
                          · rw [if_neg c134] at H
                            cases H
                        · rw [if_neg c133] at H
                          cases H
                      · rw [if_neg c132] at H
                        cases H
                    · rw [if_neg c130] at H
                      obtain ⟨r131, hr131, H⟩ := Option.bind_eq_some_iff.mp H
                      rw [zp_lawF (rest := []) (r := r131.1) (e := 2) (σ := σ) (v := (σ 2 11)) zd_264_176 rfl (Nat.le_of_ble_eq_true rfl) rfl c130 rfl (by decide) (zt_Law_feed hr131)]
                      rw [zs_istore (x := r131.1) (ls' := [some (.ref 0), some (.ref 2), some (.ref 82), some (.ref 118), some (.int v4), some (.int r131.1), o6]) zd_264_179 (Nat.le_of_ble_eq_true rfl) rfl]
                      rw [zs_aload_n (ls := [some (.ref 0), some (.ref 2), some (.ref 82), some (.ref 118), some (.int v4), some (.int r131.1), o6]) zd_264_181 rfl]
                      rw [zs_aload_n (ls := [some (.ref 0), some (.ref 2), some (.ref 82), some (.ref 118), some (.int v4), some (.int r131.1), o6]) zd_264_182 rfl]
                      rw [zs_iload (ls := [some (.ref 0), some (.ref 2), some (.ref 82), some (.ref 118), some (.int v4), some (.int r131.1), o6]) zd_264_183 rfl]
                      rw [zs_iconst (z := 1) zd_264_185 (by decide)]
                      rw [zp_iadd (x := v4) (y := 1) (z := (v4 + 1)) zd_264_186 rfl]
                      by_cases c138 : zx_ins (v4 + 1) L = true
                      · rw [if_pos c138] at H
                        rw [zp_iaload (n := 119) (K := zx_pk (zK L) 119) (σ := r131.2.1) (q := 0) (m := L) (i := (v4 + 1)) (k := (v4 + 1).toNatClampNeg) (v := (r131.2.1 0 (v4 + 1).toNatClampNeg)) zd_264_187 rfl (by decide) c138 rfl rfl]
                        rw [zs_aload_n (ls := [some (.ref 0), some (.ref 2), some (.ref 82), some (.ref 118), some (.int v4), some (.int r131.1), o6]) zd_264_188 rfl]
                        rw [zs_iload (ls := [some (.ref 0), some (.ref 2), some (.ref 82), some (.ref 118), some (.int v4), some (.int r131.1), o6]) zd_264_189 rfl]
                        rw [zs_iconst (z := 2) zd_264_191 (by decide)]
                        rw [zp_iadd (x := v4) (y := 2) (z := (v4 + 2)) zd_264_192 rfl]
                        by_cases c139 : zx_ins (v4 + 2) L = true
                        · rw [if_pos c139] at H
                          rw [zp_iaload (n := 119) (K := zx_pk (zK L) 119) (σ := r131.2.1) (q := 0) (m := L) (i := (v4 + 2)) (k := (v4 + 2).toNatClampNeg) (v := (r131.2.1 0 (v4 + 2).toNatClampNeg)) zd_264_193 rfl (by decide) c139 rfl rfl]
                          rw [zs_aload_n (ls := [some (.ref 0), some (.ref 2), some (.ref 82), some (.ref 118), some (.int v4), some (.int r131.1), o6]) zd_264_194 rfl]
                          rw [zs_iload (ls := [some (.ref 0), some (.ref 2), some (.ref 82), some (.ref 118), some (.int v4), some (.int r131.1), o6]) zd_264_195 rfl]
                          rw [zs_iconst (z := 3) zd_264_197 (by decide)]
                          rw [zp_iadd (x := v4) (y := 3) (z := (v4 + 3)) zd_264_198 rfl]
                          by_cases c140 : zx_ins (v4 + 3) L = true
                          · rw [if_pos c140] at H
                            rw [zp_iaload (n := 119) (K := zx_pk (zK L) 119) (σ := r131.2.1) (q := 0) (m := L) (i := (v4 + 3)) (k := (v4 + 3).toNatClampNeg) (v := (r131.2.1 0 (v4 + 3).toNatClampNeg)) zd_264_199 rfl (by decide) c140 rfl rfl]
                            rw [zs_aload_n (ls := [some (.ref 0), some (.ref 2), some (.ref 82), some (.ref 118), some (.int v4), some (.int r131.1), o6]) zd_264_200 rfl]
                            rw [zs_iload (ls := [some (.ref 0), some (.ref 2), some (.ref 82), some (.ref 118), some (.int v4), some (.int r131.1), o6]) zd_264_201 rfl]
                            rw [zs_iconst (z := 4) zd_264_203 (by decide)]
                            rw [zp_iadd (x := v4) (y := 4) (z := (v4 + 4)) zd_264_204 rfl]
                            by_cases c141 : zx_ins (v4 + 4) L = true
                            · rw [if_pos c141] at H
                              rw [zp_iaload (n := 119) (K := zx_pk (zK L) 119) (σ := r131.2.1) (q := 0) (m := L) (i := (v4 + 4)) (k := (v4 + 4).toNatClampNeg) (v := (r131.2.1 0 (v4 + 4).toNatClampNeg)) zd_264_205 rfl (by decide) c141 rfl rfl]
                              rw [zs_aload_n (ls := [some (.ref 0), some (.ref 2), some (.ref 82), some (.ref 118), some (.int v4), some (.int r131.1), o6]) zd_264_206 rfl]
                              rw [zs_iload (ls := [some (.ref 0), some (.ref 2), some (.ref 82), some (.ref 118), some (.int v4), some (.int r131.1), o6]) zd_264_207 rfl]
                              rw [zs_iconst (z := 5) zd_264_209 (by decide)]
                              rw [zp_iadd (x := v4) (y := 5) (z := (v4 + 5)) zd_264_210 rfl]
                              by_cases c142 : zx_ins (v4 + 5) L = true
                              · rw [if_pos c142] at H
                                rw [zp_iaload (n := 119) (K := zx_pk (zK L) 119) (σ := r131.2.1) (q := 0) (m := L) (i := (v4 + 5)) (k := (v4 + 5).toNatClampNeg) (v := (r131.2.1 0 (v4 + 5).toNatClampNeg)) zd_264_211 rfl (by decide) c142 rfl rfl]
                                obtain ⟨r143, hr143, H⟩ := Option.bind_eq_some_iff.mp H
                                rw [zp_callVi (x := r143.1) (st := [.int (r131.2.1 0 (v4 + 5).toNatClampNeg), .int (r131.2.1 0 (v4 + 4).toNatClampNeg), .int (r131.2.1 0 (v4 + 3).toNatClampNeg), .int (r131.2.1 0 (v4 + 2).toNatClampNeg), .int (r131.2.1 0 (v4 + 1).toNatClampNeg), .ref 82]) (as := [.ref 82, .int (r131.2.1 0 (v4 + 1).toNatClampNeg), .int (r131.2.1 0 (v4 + 2).toNatClampNeg), .int (r131.2.1 0 (v4 + 3).toNatClampNeg), .int (r131.2.1 0 (v4 + 4).toNatClampNeg), .int (r131.2.1 0 (v4 + 5).toNatClampNeg)]) (rest := []) (e := 0) zd_264_212 rfl (by decide +kernel) (by decide) rfl rfl (Nat.le_of_ble_eq_true rfl) (zx_rcb_ok rfl (show 82 < 119 by decide)) (Nat.le_of_ble_eq_true rfl) rfl (by decide) (zt_M_feed hr143)]
                                rw [zs_istore (x := r143.1) (ls' := [some (.ref 0), some (.ref 2), some (.ref 82), some (.ref 118), some (.int v4), some (.int r131.1), some (.int r143.1)]) zd_264_215 (Nat.le_of_ble_eq_true rfl) rfl]
                                rw [zs_goto (t := 817) zd_264_217 rfl]
                                exact zt_Law_817 (hk23 := ih) H
                              · rw [if_neg c142] at H
                                cases H
                            · rw [if_neg c141] at H
                              cases H
                          · rw [if_neg c140] at H
                            cases H
                        · rw [if_neg c139] at H
                          cases H
                      · rw [if_neg c138] at H
                        cases H
                  · rw [if_neg c129] at H
                    cases H
                · rw [if_neg c128] at H
                  cases H
              · rw [if_neg c127] at H
                cases H
            · rw [if_neg c126] at H
              cases H
          · rw [if_neg c125] at H
            cases H
        · rw [if_neg c3] at H
          by_cases c4 : ((σ 0 v4.toNatClampNeg) &&& 31) = 1
          · rw [if_pos c4] at H
            rw [zs_table (x := ((σ 0 v4.toNatClampNeg) &&& 31)) (off := 180) (t := 220) zd_264_40 (by rw [c4]; decide) rfl]
            rw [zs_aload_n (ls := [some (.ref 0), some (.ref 2), some (.ref 82), some (.ref 118), some (.int v4), o5, o6]) zd_264_220 rfl]
            rw [zs_aload_n (ls := [some (.ref 0), some (.ref 2), some (.ref 82), some (.ref 118), some (.int v4), o5, o6]) zd_264_221 rfl]
            rw [zs_iload (ls := [some (.ref 0), some (.ref 2), some (.ref 82), some (.ref 118), some (.int v4), o5, o6]) zd_264_222 rfl]
            rw [zs_iconst (z := 1) zd_264_224 (by decide)]
            rw [zp_iadd (x := v4) (y := 1) (z := (v4 + 1)) zd_264_225 rfl]
            by_cases c118 : zx_ins (v4 + 1) L = true
            · rw [if_pos c118] at H
              rw [zp_iaload (n := 119) (K := zx_pk (zK L) 119) (σ := σ) (q := 0) (m := L) (i := (v4 + 1)) (k := (v4 + 1).toNatClampNeg) (v := (σ 0 (v4 + 1).toNatClampNeg)) zd_264_226 rfl (by decide) c118 rfl rfl]
              by_cases c119 : (σ 0 (v4 + 1).toNatClampNeg) < 0 ∨ (σ 2 11) < (σ 0 (v4 + 1).toNatClampNeg)
              · rw [if_pos c119] at H
                rw [zp_lawEt (rest := []) (K := zx_pk (zK L) 119) (n := 119) (σ := σ) (v := (σ 2 11)) zd_264_227 rfl (Nat.le_of_ble_eq_true rfl) rfl (by decide) (by decide) rfl c119 (by decide)]
                rw [zs_istore (x := 1) (ls' := [some (.ref 0), some (.ref 2), some (.ref 82), some (.ref 118), some (.int v4), some (.int 1), o6]) zd_264_230 (Nat.le_of_ble_eq_true rfl) rfl]
                rw [zs_aload_n (ls := [some (.ref 0), some (.ref 2), some (.ref 82), some (.ref 118), some (.int v4), some (.int 1), o6]) zd_264_232 rfl]
                rw [zs_aload_n (ls := [some (.ref 0), some (.ref 2), some (.ref 82), some (.ref 118), some (.int v4), some (.int 1), o6]) zd_264_233 rfl]
                rw [zs_iload (ls := [some (.ref 0), some (.ref 2), some (.ref 82), some (.ref 118), some (.int v4), some (.int 1), o6]) zd_264_234 rfl]
                rw [zs_iconst (z := 1) zd_264_236 (by decide)]
                rw [zp_iadd (x := v4) (y := 1) (z := (v4 + 1)) zd_264_237 rfl]
                by_cases c121 : zx_ins (v4 + 1) L = true
                · rw [if_pos c121] at H
                  rw [zp_iaload (n := 119) (K := zx_pk (zK L) 119) (σ := σ) (q := 0) (m := L) (i := (v4 + 1)) (k := (v4 + 1).toNatClampNeg) (v := (σ 0 (v4 + 1).toNatClampNeg)) zd_264_238 rfl (by decide) c121 rfl rfl]
                  obtain ⟨r122, hr122, H⟩ := Option.bind_eq_some_iff.mp H
                  rw [zp_callVv (st := [.int (σ 0 (v4 + 1).toNatClampNeg), .ref 82]) (as := [.ref 82, .int (σ 0 (v4 + 1).toNatClampNeg)]) (rest := []) (e := 1) zd_264_239 rfl (by decide +kernel) (by decide) rfl rfl (Nat.le_of_ble_eq_true rfl) (zx_rcb_ok rfl (show 82 < 119 by decide)) (Nat.le_of_ble_eq_true rfl) rfl (by decide) (zt_M_end hr122)]
                  rw [zs_goto (t := 817) zd_264_242 rfl]
                  exact zt_Law_817 (hk23 := ih) H
                · rw [if_neg c121] at H
                  cases H
              · rw [if_neg c119] at H
                obtain ⟨r120, hr120, H⟩ := Option.bind_eq_some_iff.mp H
                rw [zp_lawE (rest := []) (r := r120.1) (e := 1) (σ := σ) (v := (σ 2 11)) zd_264_227 rfl (Nat.le_of_ble_eq_true rfl) rfl c119 rfl (by decide) (zt_Law_end hr120)]
                rw [zs_istore (x := r120.1) (ls' := [some (.ref 0), some (.ref 2), some (.ref 82), some (.ref 118), some (.int v4), some (.int r120.1), o6]) zd_264_230 (Nat.le_of_ble_eq_true rfl) rfl]
                rw [zs_aload_n (ls := [some (.ref 0), some (.ref 2), some (.ref 82), some (.ref 118), some (.int v4), some (.int r120.1), o6]) zd_264_232 rfl]
                rw [zs_aload_n (ls := [some (.ref 0), some (.ref 2), some (.ref 82), some (.ref 118), some (.int v4), some (.int r120.1), o6]) zd_264_233 rfl]
                rw [zs_iload (ls := [some (.ref 0), some (.ref 2), some (.ref 82), some (.ref 118), some (.int v4), some (.int r120.1), o6]) zd_264_234 rfl]
                rw [zs_iconst (z := 1) zd_264_236 (by decide)]
                rw [zp_iadd (x := v4) (y := 1) (z := (v4 + 1)) zd_264_237 rfl]
                by_cases c123 : zx_ins (v4 + 1) L = true
                · rw [if_pos c123] at H
                  rw [zp_iaload (n := 119) (K := zx_pk (zK L) 119) (σ := r120.2) (q := 0) (m := L) (i := (v4 + 1)) (k := (v4 + 1).toNatClampNeg) (v := (r120.2 0 (v4 + 1).toNatClampNeg)) zd_264_238 rfl (by decide) c123 rfl rfl]
                  obtain ⟨r124, hr124, H⟩ := Option.bind_eq_some_iff.mp H
                  rw [zp_callVv (st := [.int (r120.2 0 (v4 + 1).toNatClampNeg), .ref 82]) (as := [.ref 82, .int (r120.2 0 (v4 + 1).toNatClampNeg)]) (rest := []) (e := 1) zd_264_239 rfl (by decide +kernel) (by decide) rfl rfl (Nat.le_of_ble_eq_true rfl) (zx_rcb_ok rfl (show 82 < 119 by decide)) (Nat.le_of_ble_eq_true rfl) rfl (by decide) (zt_M_end hr124)]
                  rw [zs_goto (t := 817) zd_264_242 rfl]
                  exact zt_Law_817 (hk23 := ih) H
                · rw [if_neg c123] at H
                  cases H
            · rw [if_neg c118] at H
              cases H
          · rw [if_neg c4] at H
            by_cases c5 : ((σ 0 v4.toNatClampNeg) &&& 31) = 2
            · rw [if_pos c5] at H
              rw [zs_table (x := ((σ 0 v4.toNatClampNeg) &&& 31)) (off := 205) (t := 245) zd_264_40 (by rw [c5]; decide) rfl]
              rw [zs_aload_n (ls := [some (.ref 0), some (.ref 2), some (.ref 82), some (.ref 118), some (.int v4), o5, o6]) zd_264_245 rfl]
              obtain ⟨r116, hr116, H⟩ := Option.bind_eq_some_iff.mp H
              rw [zp_callVi (x := r116.1) (st := [.ref 2]) (as := [.ref 2]) (rest := []) (e := 7) zd_264_246 rfl (by decide +kernel) (by decide) rfl rfl (Nat.le_of_ble_eq_true rfl) (zx_rcb_ok rfl (show 2 < 119 by decide)) (Nat.le_of_ble_eq_true rfl) rfl (by decide) (zt_X_read hr116)]
              rw [zs_pop (a := .int r116.1) zd_264_249 rfl]
              rw [zs_aload_n (ls := [some (.ref 0), some (.ref 2), some (.ref 82), some (.ref 118), some (.int v4), o5, o6]) zd_264_250 rfl]
              obtain ⟨r117, hr117, H⟩ := Option.bind_eq_some_iff.mp H
              rw [zp_callVi (x := r117.1) (st := [.ref 82]) (as := [.ref 82]) (rest := []) (e := 7) zd_264_251 rfl (by decide +kernel) (by decide) rfl rfl (Nat.le_of_ble_eq_true rfl) (zx_rcb_ok rfl (show 82 < 119 by decide)) (Nat.le_of_ble_eq_true rfl) rfl (by decide) (zt_M_read hr117)]
              rw [zs_pop (a := .int r117.1) zd_264_254 rfl]
              rw [zs_goto (t := 817) zd_264_255 rfl]
              exact zt_Law_817 (hk23 := ih) H
            · rw [if_neg c5] at H
              by_cases c6 : ((σ 0 v4.toNatClampNeg) &&& 31) = 3
              · rw [if_pos c6] at H
                rw [zs_table (x := ((σ 0 v4.toNatClampNeg) &&& 31)) (off := 218) (t := 258) zd_264_40 (by rw [c6]; decide) rfl]
                rw [zs_aload_n (ls := [some (.ref 0), some (.ref 2), some (.ref 82), some (.ref 118), some (.int v4), o5, o6]) zd_264_258 rfl]
                obtain ⟨r114, hr114, H⟩ := Option.bind_eq_some_iff.mp H
                rw [zp_callVi (x := r114) (st := [.ref 2]) (as := [.ref 2]) (rest := []) (e := 0) zd_264_259 rfl (by decide +kernel) (by decide) rfl rfl (Nat.le_of_ble_eq_true rfl) (zx_rcb_ok rfl (show 2 < 119 by decide)) (Nat.le_of_ble_eq_true rfl) rfl (by decide) (zt_X_fault hr114)]
                rw [zs_pop (a := .int r114) zd_264_262 rfl]
                rw [zs_aload_n (ls := [some (.ref 0), some (.ref 2), some (.ref 82), some (.ref 118), some (.int v4), o5, o6]) zd_264_263 rfl]
                obtain ⟨r115, hr115, H⟩ := Option.bind_eq_some_iff.mp H
                rw [zp_callVi (x := r115.1) (st := [.ref 82]) (as := [.ref 82]) (rest := []) (e := 0) zd_264_264 rfl (by decide +kernel) (by decide) rfl rfl (Nat.le_of_ble_eq_true rfl) (zx_rcb_ok rfl (show 82 < 119 by decide)) (Nat.le_of_ble_eq_true rfl) rfl (by decide) (zt_M_fault hr115)]
                rw [zs_pop (a := .int r115.1) zd_264_267 rfl]
                rw [zs_goto (t := 817) zd_264_268 rfl]
                exact zt_Law_817 (hk23 := ih) H
              · rw [if_neg c6] at H
                by_cases c7 : ((σ 0 v4.toNatClampNeg) &&& 31) = 4
                · rw [if_pos c7] at H
                  rw [zs_table (x := ((σ 0 v4.toNatClampNeg) &&& 31)) (off := 231) (t := 271) zd_264_40 (by rw [c7]; decide) rfl]
                  rw [zs_aload_n (ls := [some (.ref 0), some (.ref 2), some (.ref 82), some (.ref 118), some (.int v4), o5, o6]) zd_264_271 rfl]
                  rw [zs_aload_n (ls := [some (.ref 0), some (.ref 2), some (.ref 82), some (.ref 118), some (.int v4), o5, o6]) zd_264_272 rfl]
                  rw [zs_iload (ls := [some (.ref 0), some (.ref 2), some (.ref 82), some (.ref 118), some (.int v4), o5, o6]) zd_264_273 rfl]
                  rw [zs_iconst (z := 1) zd_264_275 (by decide)]
                  rw [zp_iadd (x := v4) (y := 1) (z := (v4 + 1)) zd_264_276 rfl]
                  by_cases c110 : zx_ins (v4 + 1) L = true
                  · rw [if_pos c110] at H
                    rw [zp_iaload (n := 119) (K := zx_pk (zK L) 119) (σ := σ) (q := 0) (m := L) (i := (v4 + 1)) (k := (v4 + 1).toNatClampNeg) (v := (σ 0 (v4 + 1).toNatClampNeg)) zd_264_277 rfl (by decide) c110 rfl rfl]
                    obtain ⟨r111, hr111, H⟩ := Option.bind_eq_some_iff.mp H
                    rw [zp_callVi (x := r111) (st := [.int (σ 0 (v4 + 1).toNatClampNeg), .ref 2]) (as := [.ref 2, .int (σ 0 (v4 + 1).toNatClampNeg)]) (rest := []) (e := 0) zd_264_278 rfl (by decide +kernel) (by decide) rfl rfl (Nat.le_of_ble_eq_true rfl) (zx_rcb_ok rfl (show 2 < 119 by decide)) (Nat.le_of_ble_eq_true rfl) rfl (by decide) (zt_X_count hr111)]
                    rw [zs_pop (a := .int r111) zd_264_281 rfl]
                    rw [zs_aload_n (ls := [some (.ref 0), some (.ref 2), some (.ref 82), some (.ref 118), some (.int v4), o5, o6]) zd_264_282 rfl]
                    rw [zs_aload_n (ls := [some (.ref 0), some (.ref 2), some (.ref 82), some (.ref 118), some (.int v4), o5, o6]) zd_264_283 rfl]
                    rw [zs_iload (ls := [some (.ref 0), some (.ref 2), some (.ref 82), some (.ref 118), some (.int v4), o5, o6]) zd_264_284 rfl]
                    rw [zs_iconst (z := 1) zd_264_286 (by decide)]
                    rw [zp_iadd (x := v4) (y := 1) (z := (v4 + 1)) zd_264_287 rfl]
                    by_cases c112 : zx_ins (v4 + 1) L = true
                    · rw [if_pos c112] at H
                      rw [zp_iaload (n := 119) (K := zx_pk (zK L) 119) (σ := σ) (q := 0) (m := L) (i := (v4 + 1)) (k := (v4 + 1).toNatClampNeg) (v := (σ 0 (v4 + 1).toNatClampNeg)) zd_264_288 rfl (by decide) c112 rfl rfl]
                      obtain ⟨r113, hr113, H⟩ := Option.bind_eq_some_iff.mp H
                      rw [zp_callVi (x := r113.1) (st := [.int (σ 0 (v4 + 1).toNatClampNeg), .ref 82]) (as := [.ref 82, .int (σ 0 (v4 + 1).toNatClampNeg)]) (rest := []) (e := 1) zd_264_289 rfl (by decide +kernel) (by decide) rfl rfl (Nat.le_of_ble_eq_true rfl) (zx_rcb_ok rfl (show 82 < 119 by decide)) (Nat.le_of_ble_eq_true rfl) rfl (by decide) (zt_M_count hr113)]
                      rw [zs_pop (a := .int r113.1) zd_264_292 rfl]
                      rw [zs_goto (t := 817) zd_264_293 rfl]
                      exact zt_Law_817 (hk23 := ih) H
                    · rw [if_neg c112] at H
                      cases H
                  · rw [if_neg c110] at H
                    cases H
                · rw [if_neg c7] at H
                  by_cases c8 : ((σ 0 v4.toNatClampNeg) &&& 31) = 5
                  · rw [if_pos c8] at H
                    rw [zs_table (x := ((σ 0 v4.toNatClampNeg) &&& 31)) (off := 256) (t := 296) zd_264_40 (by rw [c8]; decide) rfl]
                    rw [zs_aload_n (ls := [some (.ref 0), some (.ref 2), some (.ref 82), some (.ref 118), some (.int v4), o5, o6]) zd_264_296 rfl]
                    rw [zs_aload_n (ls := [some (.ref 0), some (.ref 2), some (.ref 82), some (.ref 118), some (.int v4), o5, o6]) zd_264_297 rfl]
                    rw [zs_iload (ls := [some (.ref 0), some (.ref 2), some (.ref 82), some (.ref 118), some (.int v4), o5, o6]) zd_264_298 rfl]
                    rw [zs_iconst (z := 1) zd_264_300 (by decide)]
                    rw [zp_iadd (x := v4) (y := 1) (z := (v4 + 1)) zd_264_301 rfl]
                    by_cases c102 : zx_ins (v4 + 1) L = true
                    · rw [if_pos c102] at H
                      rw [zp_iaload (n := 119) (K := zx_pk (zK L) 119) (σ := σ) (q := 0) (m := L) (i := (v4 + 1)) (k := (v4 + 1).toNatClampNeg) (v := (σ 0 (v4 + 1).toNatClampNeg)) zd_264_302 rfl (by decide) c102 rfl rfl]
                      rw [zs_aload_n (ls := [some (.ref 0), some (.ref 2), some (.ref 82), some (.ref 118), some (.int v4), o5, o6]) zd_264_303 rfl]
                      rw [zs_iload (ls := [some (.ref 0), some (.ref 2), some (.ref 82), some (.ref 118), some (.int v4), o5, o6]) zd_264_304 rfl]
                      rw [zs_iconst (z := 2) zd_264_306 (by decide)]
                      rw [zp_iadd (x := v4) (y := 2) (z := (v4 + 2)) zd_264_307 rfl]
                      by_cases c103 : zx_ins (v4 + 2) L = true
                      · rw [if_pos c103] at H
                        rw [zp_iaload (n := 119) (K := zx_pk (zK L) 119) (σ := σ) (q := 0) (m := L) (i := (v4 + 2)) (k := (v4 + 2).toNatClampNeg) (v := (σ 0 (v4 + 2).toNatClampNeg)) zd_264_308 rfl (by decide) c103 rfl rfl]
                        rw [zs_aload_n (ls := [some (.ref 0), some (.ref 2), some (.ref 82), some (.ref 118), some (.int v4), o5, o6]) zd_264_309 rfl]
                        rw [zs_iload (ls := [some (.ref 0), some (.ref 2), some (.ref 82), some (.ref 118), some (.int v4), o5, o6]) zd_264_310 rfl]
                        rw [zs_iconst (z := 3) zd_264_312 (by decide)]
                        rw [zp_iadd (x := v4) (y := 3) (z := (v4 + 3)) zd_264_313 rfl]
                        by_cases c104 : zx_ins (v4 + 3) L = true
                        · rw [if_pos c104] at H
                          rw [zp_iaload (n := 119) (K := zx_pk (zK L) 119) (σ := σ) (q := 0) (m := L) (i := (v4 + 3)) (k := (v4 + 3).toNatClampNeg) (v := (σ 0 (v4 + 3).toNatClampNeg)) zd_264_314 rfl (by decide) c104 rfl rfl]
                          obtain ⟨r105, hr105, H⟩ := Option.bind_eq_some_iff.mp H
                          rw [zp_callVi (x := r105) (st := [.int (σ 0 (v4 + 3).toNatClampNeg), .int (σ 0 (v4 + 2).toNatClampNeg), .int (σ 0 (v4 + 1).toNatClampNeg), .ref 2]) (as := [.ref 2, .int (σ 0 (v4 + 1).toNatClampNeg), .int (σ 0 (v4 + 2).toNatClampNeg), .int (σ 0 (v4 + 3).toNatClampNeg)]) (rest := []) (e := 1) zd_264_315 rfl (by decide +kernel) (by decide) rfl rfl (Nat.le_of_ble_eq_true rfl) (zx_rcb_ok rfl (show 2 < 119 by decide)) (Nat.le_of_ble_eq_true rfl) rfl (by decide) (zt_X_step hr105)]
                          rw [zs_pop (a := .int r105) zd_264_318 rfl]
                          rw [zs_aload_n (ls := [some (.ref 0), some (.ref 2), some (.ref 82), some (.ref 118), some (.int v4), o5, o6]) zd_264_319 rfl]
                          rw [zs_aload_n (ls := [some (.ref 0), some (.ref 2), some (.ref 82), some (.ref 118), some (.int v4), o5, o6]) zd_264_320 rfl]
                          rw [zs_iload (ls := [some (.ref 0), some (.ref 2), some (.ref 82), some (.ref 118), some (.int v4), o5, o6]) zd_264_321 rfl]
                          rw [zs_iconst (z := 1) zd_264_323 (by decide)]
                          rw [zp_iadd (x := v4) (y := 1) (z := (v4 + 1)) zd_264_324 rfl]
                          by_cases c106 : zx_ins (v4 + 1) L = true
                          · rw [if_pos c106] at H
                            rw [zp_iaload (n := 119) (K := zx_pk (zK L) 119) (σ := σ) (q := 0) (m := L) (i := (v4 + 1)) (k := (v4 + 1).toNatClampNeg) (v := (σ 0 (v4 + 1).toNatClampNeg)) zd_264_325 rfl (by decide) c106 rfl rfl]
                            rw [zs_aload_n (ls := [some (.ref 0), some (.ref 2), some (.ref 82), some (.ref 118), some (.int v4), o5, o6]) zd_264_326 rfl]
                            rw [zs_iload (ls := [some (.ref 0), some (.ref 2), some (.ref 82), some (.ref 118), some (.int v4), o5, o6]) zd_264_327 rfl]
                            rw [zs_iconst (z := 2) zd_264_329 (by decide)]
                            rw [zp_iadd (x := v4) (y := 2) (z := (v4 + 2)) zd_264_330 rfl]
                            by_cases c107 : zx_ins (v4 + 2) L = true
                            · rw [if_pos c107] at H
                              rw [zp_iaload (n := 119) (K := zx_pk (zK L) 119) (σ := σ) (q := 0) (m := L) (i := (v4 + 2)) (k := (v4 + 2).toNatClampNeg) (v := (σ 0 (v4 + 2).toNatClampNeg)) zd_264_331 rfl (by decide) c107 rfl rfl]
                              rw [zs_aload_n (ls := [some (.ref 0), some (.ref 2), some (.ref 82), some (.ref 118), some (.int v4), o5, o6]) zd_264_332 rfl]
                              rw [zs_iload (ls := [some (.ref 0), some (.ref 2), some (.ref 82), some (.ref 118), some (.int v4), o5, o6]) zd_264_333 rfl]
                              rw [zs_iconst (z := 3) zd_264_335 (by decide)]
                              rw [zp_iadd (x := v4) (y := 3) (z := (v4 + 3)) zd_264_336 rfl]
                              by_cases c108 : zx_ins (v4 + 3) L = true
                              · rw [if_pos c108] at H
                                rw [zp_iaload (n := 119) (K := zx_pk (zK L) 119) (σ := σ) (q := 0) (m := L) (i := (v4 + 3)) (k := (v4 + 3).toNatClampNeg) (v := (σ 0 (v4 + 3).toNatClampNeg)) zd_264_337 rfl (by decide) c108 rfl rfl]
                                obtain ⟨r109, hr109, H⟩ := Option.bind_eq_some_iff.mp H
                                rw [zp_callVi (x := r109.1) (st := [.int (σ 0 (v4 + 3).toNatClampNeg), .int (σ 0 (v4 + 2).toNatClampNeg), .int (σ 0 (v4 + 1).toNatClampNeg), .ref 82]) (as := [.ref 82, .int (σ 0 (v4 + 1).toNatClampNeg), .int (σ 0 (v4 + 2).toNatClampNeg), .int (σ 0 (v4 + 3).toNatClampNeg)]) (rest := []) (e := 2) zd_264_338 rfl (by decide +kernel) (by decide) rfl rfl (Nat.le_of_ble_eq_true rfl) (zx_rcb_ok rfl (show 82 < 119 by decide)) (Nat.le_of_ble_eq_true rfl) rfl (by decide) (zt_M_step hr109)]
                                rw [zs_pop (a := .int r109.1) zd_264_341 rfl]
                                rw [zs_goto (t := 817) zd_264_342 rfl]
                                exact zt_Law_817 (hk23 := ih) H
                              · rw [if_neg c108] at H
                                cases H
                            · rw [if_neg c107] at H
                              cases H
                          · rw [if_neg c106] at H
                            cases H
                        · rw [if_neg c104] at H
                          cases H
                      · rw [if_neg c103] at H
                        cases H
                    · rw [if_neg c102] at H
                      cases H
                  · rw [if_neg c8] at H
                    by_cases c9 : ((σ 0 v4.toNatClampNeg) &&& 31) = 6
                    · rw [if_pos c9] at H
                      rw [zs_table (x := ((σ 0 v4.toNatClampNeg) &&& 31)) (off := 305) (t := 345) zd_264_40 (by rw [c9]; decide) rfl]
                      rw [zs_aload_n (ls := [some (.ref 0), some (.ref 2), some (.ref 82), some (.ref 118), some (.int v4), o5, o6]) zd_264_345 rfl]
                      obtain ⟨r100, hr100, H⟩ := Option.bind_eq_some_iff.mp H
                      rw [zp_callVi (x := r100.1) (st := [.ref 2]) (as := [.ref 2]) (rest := []) (e := 6) zd_264_346 rfl (by decide +kernel) (by decide) rfl rfl (Nat.le_of_ble_eq_true rfl) (zx_rcb_ok rfl (show 2 < 119 by decide)) (Nat.le_of_ble_eq_true rfl) rfl (by decide) (zt_X_run hr100)]
                      rw [zs_pop (a := .int r100.1) zd_264_349 rfl]
                      rw [zs_aload_n (ls := [some (.ref 0), some (.ref 2), some (.ref 82), some (.ref 118), some (.int v4), o5, o6]) zd_264_350 rfl]
                      obtain ⟨r101, hr101, H⟩ := Option.bind_eq_some_iff.mp H
                      rw [zp_callVi (x := r101.1) (st := [.ref 82]) (as := [.ref 82]) (rest := []) (e := 4) zd_264_351 rfl (by decide +kernel) (by decide) rfl rfl (Nat.le_of_ble_eq_true rfl) (zx_rcb_ok rfl (show 82 < 119 by decide)) (Nat.le_of_ble_eq_true rfl) rfl (by decide) (zt_M_run hr101)]
                      rw [zs_pop (a := .int r101.1) zd_264_354 rfl]
                      rw [zs_goto (t := 817) zd_264_355 rfl]
                      exact zt_Law_817 (hk23 := ih) H
                    · rw [if_neg c9] at H
                      by_cases c10 : ((σ 0 v4.toNatClampNeg) &&& 31) = 7
                      · rw [if_pos c10] at H
                        rw [zs_table (x := ((σ 0 v4.toNatClampNeg) &&& 31)) (off := 318) (t := 358) zd_264_40 (by rw [c10]; decide) rfl]
                        rw [zs_aload_n (ls := [some (.ref 0), some (.ref 2), some (.ref 82), some (.ref 118), some (.int v4), o5, o6]) zd_264_358 rfl]
                        rw [zs_aload_n (ls := [some (.ref 0), some (.ref 2), some (.ref 82), some (.ref 118), some (.int v4), o5, o6]) zd_264_359 rfl]
                        rw [zs_iload (ls := [some (.ref 0), some (.ref 2), some (.ref 82), some (.ref 118), some (.int v4), o5, o6]) zd_264_360 rfl]
                        rw [zs_iconst (z := 1) zd_264_362 (by decide)]
                        rw [zp_iadd (x := v4) (y := 1) (z := (v4 + 1)) zd_264_363 rfl]
                        by_cases c96 : zx_ins (v4 + 1) L = true
                        · rw [if_pos c96] at H
                          rw [zp_iaload (n := 119) (K := zx_pk (zK L) 119) (σ := σ) (q := 0) (m := L) (i := (v4 + 1)) (k := (v4 + 1).toNatClampNeg) (v := (σ 0 (v4 + 1).toNatClampNeg)) zd_264_364 rfl (by decide) c96 rfl rfl]
                          obtain ⟨r97, hr97, H⟩ := Option.bind_eq_some_iff.mp H
                          rw [zp_callVi (x := r97) (st := [.int (σ 0 (v4 + 1).toNatClampNeg), .ref 2]) (as := [.ref 2, .int (σ 0 (v4 + 1).toNatClampNeg)]) (rest := []) (e := 0) zd_264_365 rfl (by decide +kernel) (by decide) rfl rfl (Nat.le_of_ble_eq_true rfl) (zx_rcb_ok rfl (show 2 < 119 by decide)) (Nat.le_of_ble_eq_true rfl) rfl (by decide) (zt_X_found hr97)]
                          rw [zs_pop (a := .int r97) zd_264_368 rfl]
                          rw [zs_aload_n (ls := [some (.ref 0), some (.ref 2), some (.ref 82), some (.ref 118), some (.int v4), o5, o6]) zd_264_369 rfl]
                          rw [zs_aload_n (ls := [some (.ref 0), some (.ref 2), some (.ref 82), some (.ref 118), some (.int v4), o5, o6]) zd_264_370 rfl]
                          rw [zs_iload (ls := [some (.ref 0), some (.ref 2), some (.ref 82), some (.ref 118), some (.int v4), o5, o6]) zd_264_371 rfl]
                          rw [zs_iconst (z := 1) zd_264_373 (by decide)]
                          rw [zp_iadd (x := v4) (y := 1) (z := (v4 + 1)) zd_264_374 rfl]
                          by_cases c98 : zx_ins (v4 + 1) L = true
                          · rw [if_pos c98] at H
                            rw [zp_iaload (n := 119) (K := zx_pk (zK L) 119) (σ := σ) (q := 0) (m := L) (i := (v4 + 1)) (k := (v4 + 1).toNatClampNeg) (v := (σ 0 (v4 + 1).toNatClampNeg)) zd_264_375 rfl (by decide) c98 rfl rfl]
                            obtain ⟨r99, hr99, H⟩ := Option.bind_eq_some_iff.mp H
                            rw [zp_callVi (x := r99.1) (st := [.int (σ 0 (v4 + 1).toNatClampNeg), .ref 82]) (as := [.ref 82, .int (σ 0 (v4 + 1).toNatClampNeg)]) (rest := []) (e := 3) zd_264_376 rfl (by decide +kernel) (by decide) rfl rfl (Nat.le_of_ble_eq_true rfl) (zx_rcb_ok rfl (show 82 < 119 by decide)) (Nat.le_of_ble_eq_true rfl) rfl (by decide) (zt_M_found hr99)]
                            rw [zs_pop (a := .int r99.1) zd_264_379 rfl]
                            rw [zs_goto (t := 817) zd_264_380 rfl]
                            exact zt_Law_817 (hk23 := ih) H
                          · rw [if_neg c98] at H
                            cases H
                        · rw [if_neg c96] at H
                          cases H
                      · rw [if_neg c10] at H
                        by_cases c11 : ((σ 0 v4.toNatClampNeg) &&& 31) = 8
                        · rw [if_pos c11] at H
                          rw [zs_table (x := ((σ 0 v4.toNatClampNeg) &&& 31)) (off := 343) (t := 383) zd_264_40 (by rw [c11]; decide) rfl]
                          rw [zs_aload_n (ls := [some (.ref 0), some (.ref 2), some (.ref 82), some (.ref 118), some (.int v4), o5, o6]) zd_264_383 rfl]
                          rw [zs_aload_n (ls := [some (.ref 0), some (.ref 2), some (.ref 82), some (.ref 118), some (.int v4), o5, o6]) zd_264_384 rfl]
                          rw [zs_iload (ls := [some (.ref 0), some (.ref 2), some (.ref 82), some (.ref 118), some (.int v4), o5, o6]) zd_264_385 rfl]
                          rw [zs_iconst (z := 1) zd_264_387 (by decide)]
                          rw [zp_iadd (x := v4) (y := 1) (z := (v4 + 1)) zd_264_388 rfl]
                          by_cases c90 : zx_ins (v4 + 1) L = true
                          · rw [if_pos c90] at H
                            rw [zp_iaload (n := 119) (K := zx_pk (zK L) 119) (σ := σ) (q := 0) (m := L) (i := (v4 + 1)) (k := (v4 + 1).toNatClampNeg) (v := (σ 0 (v4 + 1).toNatClampNeg)) zd_264_389 rfl (by decide) c90 rfl rfl]
                            rw [zs_aload_n (ls := [some (.ref 0), some (.ref 2), some (.ref 82), some (.ref 118), some (.int v4), o5, o6]) zd_264_390 rfl]
                            rw [zs_iload (ls := [some (.ref 0), some (.ref 2), some (.ref 82), some (.ref 118), some (.int v4), o5, o6]) zd_264_391 rfl]
                            rw [zs_iconst (z := 2) zd_264_393 (by decide)]
                            rw [zp_iadd (x := v4) (y := 2) (z := (v4 + 2)) zd_264_394 rfl]
                            by_cases c91 : zx_ins (v4 + 2) L = true
                            · rw [if_pos c91] at H
                              rw [zp_iaload (n := 119) (K := zx_pk (zK L) 119) (σ := σ) (q := 0) (m := L) (i := (v4 + 2)) (k := (v4 + 2).toNatClampNeg) (v := (σ 0 (v4 + 2).toNatClampNeg)) zd_264_395 rfl (by decide) c91 rfl rfl]
                              obtain ⟨r92, hr92, H⟩ := Option.bind_eq_some_iff.mp H
                              rw [zp_callVi (x := r92.1) (st := [.int (σ 0 (v4 + 2).toNatClampNeg), .int (σ 0 (v4 + 1).toNatClampNeg), .ref 2]) (as := [.ref 2, .int (σ 0 (v4 + 1).toNatClampNeg), .int (σ 0 (v4 + 2).toNatClampNeg)]) (rest := []) (e := 2) zd_264_396 rfl (by decide +kernel) (by decide) rfl rfl (Nat.le_of_ble_eq_true rfl) (zx_rcb_ok rfl (show 2 < 119 by decide)) (Nat.le_of_ble_eq_true rfl) rfl (by decide) (zt_X_show hr92)]
                              rw [zs_pop (a := .int r92.1) zd_264_399 rfl]
                              rw [zs_aload_n (ls := [some (.ref 0), some (.ref 2), some (.ref 82), some (.ref 118), some (.int v4), o5, o6]) zd_264_400 rfl]
                              rw [zs_aload_n (ls := [some (.ref 0), some (.ref 2), some (.ref 82), some (.ref 118), some (.int v4), o5, o6]) zd_264_401 rfl]
                              rw [zs_iload (ls := [some (.ref 0), some (.ref 2), some (.ref 82), some (.ref 118), some (.int v4), o5, o6]) zd_264_402 rfl]
                              rw [zs_iconst (z := 1) zd_264_404 (by decide)]
                              rw [zp_iadd (x := v4) (y := 1) (z := (v4 + 1)) zd_264_405 rfl]
                              by_cases c93 : zx_ins (v4 + 1) L = true
                              · rw [if_pos c93] at H
                                rw [zp_iaload (n := 119) (K := zx_pk (zK L) 119) (σ := r92.2) (q := 0) (m := L) (i := (v4 + 1)) (k := (v4 + 1).toNatClampNeg) (v := (r92.2 0 (v4 + 1).toNatClampNeg)) zd_264_406 rfl (by decide) c93 rfl rfl]
                                rw [zs_aload_n (ls := [some (.ref 0), some (.ref 2), some (.ref 82), some (.ref 118), some (.int v4), o5, o6]) zd_264_407 rfl]
                                rw [zs_iload (ls := [some (.ref 0), some (.ref 2), some (.ref 82), some (.ref 118), some (.int v4), o5, o6]) zd_264_408 rfl]
                                rw [zs_iconst (z := 2) zd_264_410 (by decide)]
                                rw [zp_iadd (x := v4) (y := 2) (z := (v4 + 2)) zd_264_411 rfl]
                                by_cases c94 : zx_ins (v4 + 2) L = true
                                · rw [if_pos c94] at H
                                  rw [zp_iaload (n := 119) (K := zx_pk (zK L) 119) (σ := r92.2) (q := 0) (m := L) (i := (v4 + 2)) (k := (v4 + 2).toNatClampNeg) (v := (r92.2 0 (v4 + 2).toNatClampNeg)) zd_264_412 rfl (by decide) c94 rfl rfl]
                                  obtain ⟨r95, hr95, H⟩ := Option.bind_eq_some_iff.mp H
                                  rw [zp_callVi (x := r95.1) (st := [.int (r92.2 0 (v4 + 2).toNatClampNeg), .int (r92.2 0 (v4 + 1).toNatClampNeg), .ref 82]) (as := [.ref 82, .int (r92.2 0 (v4 + 1).toNatClampNeg), .int (r92.2 0 (v4 + 2).toNatClampNeg)]) (rest := []) (e := 3) zd_264_413 rfl (by decide +kernel) (by decide) rfl rfl (Nat.le_of_ble_eq_true rfl) (zx_rcb_ok rfl (show 82 < 119 by decide)) (Nat.le_of_ble_eq_true rfl) rfl (by decide) (zt_M_show hr95)]
                                  rw [zs_pop (a := .int r95.1) zd_264_416 rfl]
                                  rw [zs_goto (t := 817) zd_264_417 rfl]
                                  exact zt_Law_817 (hk23 := ih) H
                                · rw [if_neg c94] at H
                                  cases H
                              · rw [if_neg c93] at H
                                cases H
                            · rw [if_neg c91] at H
                              cases H
                          · rw [if_neg c90] at H
                            cases H
                        · rw [if_neg c11] at H
                          by_cases c12 : ((σ 0 v4.toNatClampNeg) &&& 31) = 9
                          · rw [if_pos c12] at H
                            rw [zs_table (x := ((σ 0 v4.toNatClampNeg) &&& 31)) (off := 380) (t := 420) zd_264_40 (by rw [c12]; decide) rfl]
                            rw [zs_aload_n (ls := [some (.ref 0), some (.ref 2), some (.ref 82), some (.ref 118), some (.int v4), o5, o6]) zd_264_420 rfl]
                            obtain ⟨r88, hr88, H⟩ := Option.bind_eq_some_iff.mp H
                            rw [zp_callVi (x := r88) (st := [.ref 2]) (as := [.ref 2]) (rest := []) (e := 0) zd_264_421 rfl (by decide +kernel) (by decide) rfl rfl (Nat.le_of_ble_eq_true rfl) (zx_rcb_ok rfl (show 2 < 119 by decide)) (Nat.le_of_ble_eq_true rfl) rfl (by decide) (zt_X_length hr88)]
                            rw [zs_pop (a := .int r88) zd_264_424 rfl]
                            rw [zs_aload_n (ls := [some (.ref 0), some (.ref 2), some (.ref 82), some (.ref 118), some (.int v4), o5, o6]) zd_264_425 rfl]
                            obtain ⟨r89, hr89, H⟩ := Option.bind_eq_some_iff.mp H
                            rw [zp_callVi (x := r89.1) (st := [.ref 82]) (as := [.ref 82]) (rest := []) (e := 0) zd_264_426 rfl (by decide +kernel) (by decide) rfl rfl (Nat.le_of_ble_eq_true rfl) (zx_rcb_ok rfl (show 82 < 119 by decide)) (Nat.le_of_ble_eq_true rfl) rfl (by decide) (zt_M_length hr89)]
                            rw [zs_pop (a := .int r89.1) zd_264_429 rfl]
                            rw [zs_goto (t := 817) zd_264_430 rfl]
                            exact zt_Law_817 (hk23 := ih) H
                          · rw [if_neg c12] at H
                            by_cases c13 : ((σ 0 v4.toNatClampNeg) &&& 31) = 10
                            · rw [if_pos c13] at H
                              rw [zs_table (x := ((σ 0 v4.toNatClampNeg) &&& 31)) (off := 393) (t := 433) zd_264_40 (by rw [c13]; decide) rfl]
                              rw [zs_aload_n (ls := [some (.ref 0), some (.ref 2), some (.ref 82), some (.ref 118), some (.int v4), o5, o6]) zd_264_433 rfl]
                              rw [zs_aload_n (ls := [some (.ref 0), some (.ref 2), some (.ref 82), some (.ref 118), some (.int v4), o5, o6]) zd_264_434 rfl]
                              rw [zs_iload (ls := [some (.ref 0), some (.ref 2), some (.ref 82), some (.ref 118), some (.int v4), o5, o6]) zd_264_435 rfl]
                              rw [zs_iconst (z := 1) zd_264_437 (by decide)]
                              rw [zp_iadd (x := v4) (y := 1) (z := (v4 + 1)) zd_264_438 rfl]
                              by_cases c83 : zx_ins (v4 + 1) L = true
                              · rw [if_pos c83] at H
                                rw [zp_iaload (n := 119) (K := zx_pk (zK L) 119) (σ := σ) (q := 0) (m := L) (i := (v4 + 1)) (k := (v4 + 1).toNatClampNeg) (v := (σ 0 (v4 + 1).toNatClampNeg)) zd_264_439 rfl (by decide) c83 rfl rfl]
                                obtain ⟨r84, hr84, H⟩ := Option.bind_eq_some_iff.mp H
                                rw [zp_callVi (x := r84) (st := [.int (σ 0 (v4 + 1).toNatClampNeg), .ref 2]) (as := [.ref 2, .int (σ 0 (v4 + 1).toNatClampNeg)]) (rest := []) (e := 0) zd_264_440 rfl (by decide +kernel) (by decide) rfl rfl (Nat.le_of_ble_eq_true rfl) (zx_rcb_ok rfl (show 2 < 119 by decide)) (Nat.le_of_ble_eq_true rfl) rfl (by decide) (zt_X_who hr84)]
                                rw [zs_aload_n (ls := [some (.ref 0), some (.ref 2), some (.ref 82), some (.ref 118), some (.int v4), o5, o6]) zd_264_443 rfl]
                                rw [zs_aload_n (ls := [some (.ref 0), some (.ref 2), some (.ref 82), some (.ref 118), some (.int v4), o5, o6]) zd_264_444 rfl]
                                rw [zs_iload (ls := [some (.ref 0), some (.ref 2), some (.ref 82), some (.ref 118), some (.int v4), o5, o6]) zd_264_445 rfl]
                                rw [zs_iconst (z := 1) zd_264_447 (by decide)]
                                rw [zp_iadd (x := v4) (y := 1) (z := (v4 + 1)) zd_264_448 rfl]
                                by_cases c85 : zx_ins (v4 + 1) L = true
                                · rw [if_pos c85] at H
                                  rw [zp_iaload (n := 119) (K := zx_pk (zK L) 119) (σ := σ) (q := 0) (m := L) (i := (v4 + 1)) (k := (v4 + 1).toNatClampNeg) (v := (σ 0 (v4 + 1).toNatClampNeg)) zd_264_449 rfl (by decide) c85 rfl rfl]
                                  obtain ⟨r86, hr86, H⟩ := Option.bind_eq_some_iff.mp H
                                  rw [zp_callVi (x := r86.1) (st := [.int (σ 0 (v4 + 1).toNatClampNeg), .ref 82, .int r84]) (as := [.ref 82, .int (σ 0 (v4 + 1).toNatClampNeg)]) (rest := [.int r84]) (e := 1) zd_264_450 rfl (by decide +kernel) (by decide) rfl rfl (Nat.le_of_ble_eq_true rfl) (zx_rcb_ok rfl (show 82 < 119 by decide)) (Nat.le_of_ble_eq_true rfl) rfl (by decide) (zt_M_who hr86)]
                                  by_cases c87 : r84 = r86.1
                                  · rw [if_pos c87] at H
                                    rw [zp_icmp_eq_t (x := r84) (y := r86.1) (t := 817) zd_264_453 rfl c87]
                                    exact zt_Law_817 (hk23 := ih) H
                                  · rw [if_neg c87] at H
                                    rw [zp_icmp_eq_f (x := r84) (y := r86.1) (t := 817) zd_264_453 rfl c87]
                                    rw [zs_iconst (z := 0) zd_264_456 (by decide)]
                                    have H := Option.some.inj H
                                    subst H
                                    exact zs_ireturn zd_264_457 (by decide +kernel)
                                · rw [if_neg c85] at H
                                  cases H
                              · rw [if_neg c83] at H
                                cases H
                            · rw [if_neg c13] at H
                              by_cases c14 : ((σ 0 v4.toNatClampNeg) &&& 31) = 11
                              · rw [if_pos c14] at H
                                rw [zs_table (x := ((σ 0 v4.toNatClampNeg) &&& 31)) (off := 418) (t := 458) zd_264_40 (by rw [c14]; decide) rfl]
                                rw [zs_aload_n (ls := [some (.ref 0), some (.ref 2), some (.ref 82), some (.ref 118), some (.int v4), o5, o6]) zd_264_458 rfl]
                                rw [zs_aload_n (ls := [some (.ref 0), some (.ref 2), some (.ref 82), some (.ref 118), some (.int v4), o5, o6]) zd_264_459 rfl]
                                rw [zs_iload (ls := [some (.ref 0), some (.ref 2), some (.ref 82), some (.ref 118), some (.int v4), o5, o6]) zd_264_460 rfl]
                                rw [zs_iconst (z := 1) zd_264_462 (by decide)]
                                rw [zp_iadd (x := v4) (y := 1) (z := (v4 + 1)) zd_264_463 rfl]
                                by_cases c77 : zx_ins (v4 + 1) L = true
                                · rw [if_pos c77] at H
                                  rw [zp_iaload (n := 119) (K := zx_pk (zK L) 119) (σ := σ) (q := 0) (m := L) (i := (v4 + 1)) (k := (v4 + 1).toNatClampNeg) (v := (σ 0 (v4 + 1).toNatClampNeg)) zd_264_464 rfl (by decide) c77 rfl rfl]
                                  rw [zs_aload_n (ls := [some (.ref 0), some (.ref 2), some (.ref 82), some (.ref 118), some (.int v4), o5, o6]) zd_264_465 rfl]
                                  rw [zs_iload (ls := [some (.ref 0), some (.ref 2), some (.ref 82), some (.ref 118), some (.int v4), o5, o6]) zd_264_466 rfl]
                                  rw [zs_iconst (z := 2) zd_264_468 (by decide)]
                                  rw [zp_iadd (x := v4) (y := 2) (z := (v4 + 2)) zd_264_469 rfl]
                                  by_cases c78 : zx_ins (v4 + 2) L = true
                                  · rw [if_pos c78] at H
                                    rw [zp_iaload (n := 119) (K := zx_pk (zK L) 119) (σ := σ) (q := 0) (m := L) (i := (v4 + 2)) (k := (v4 + 2).toNatClampNeg) (v := (σ 0 (v4 + 2).toNatClampNeg)) zd_264_470 rfl (by decide) c78 rfl rfl]
                                    obtain ⟨r79, hr79, H⟩ := Option.bind_eq_some_iff.mp H
                                    rw [zp_callVi (x := r79) (st := [.int (σ 0 (v4 + 2).toNatClampNeg), .int (σ 0 (v4 + 1).toNatClampNeg), .ref 2]) (as := [.ref 2, .int (σ 0 (v4 + 1).toNatClampNeg), .int (σ 0 (v4 + 2).toNatClampNeg)]) (rest := []) (e := 1) zd_264_471 rfl (by decide +kernel) (by decide) rfl rfl (Nat.le_of_ble_eq_true rfl) (zx_rcb_ok rfl (show 2 < 119 by decide)) (Nat.le_of_ble_eq_true rfl) rfl (by decide) (zt_X_race hr79)]
                                    rw [zs_pop (a := .int r79) zd_264_474 rfl]
                                    rw [zs_aload_n (ls := [some (.ref 0), some (.ref 2), some (.ref 82), some (.ref 118), some (.int v4), o5, o6]) zd_264_475 rfl]
                                    rw [zs_aload_n (ls := [some (.ref 0), some (.ref 2), some (.ref 82), some (.ref 118), some (.int v4), o5, o6]) zd_264_476 rfl]
                                    rw [zs_iload (ls := [some (.ref 0), some (.ref 2), some (.ref 82), some (.ref 118), some (.int v4), o5, o6]) zd_264_477 rfl]
                                    rw [zs_iconst (z := 1) zd_264_479 (by decide)]
                                    rw [zp_iadd (x := v4) (y := 1) (z := (v4 + 1)) zd_264_480 rfl]
                                    by_cases c80 : zx_ins (v4 + 1) L = true
                                    · rw [if_pos c80] at H
                                      rw [zp_iaload (n := 119) (K := zx_pk (zK L) 119) (σ := σ) (q := 0) (m := L) (i := (v4 + 1)) (k := (v4 + 1).toNatClampNeg) (v := (σ 0 (v4 + 1).toNatClampNeg)) zd_264_481 rfl (by decide) c80 rfl rfl]
                                      rw [zs_aload_n (ls := [some (.ref 0), some (.ref 2), some (.ref 82), some (.ref 118), some (.int v4), o5, o6]) zd_264_482 rfl]
                                      rw [zs_iload (ls := [some (.ref 0), some (.ref 2), some (.ref 82), some (.ref 118), some (.int v4), o5, o6]) zd_264_483 rfl]
                                      rw [zs_iconst (z := 2) zd_264_485 (by decide)]
                                      rw [zp_iadd (x := v4) (y := 2) (z := (v4 + 2)) zd_264_486 rfl]
                                      by_cases c81 : zx_ins (v4 + 2) L = true
                                      · rw [if_pos c81] at H
                                        rw [zp_iaload (n := 119) (K := zx_pk (zK L) 119) (σ := σ) (q := 0) (m := L) (i := (v4 + 2)) (k := (v4 + 2).toNatClampNeg) (v := (σ 0 (v4 + 2).toNatClampNeg)) zd_264_487 rfl (by decide) c81 rfl rfl]
                                        obtain ⟨r82, hr82, H⟩ := Option.bind_eq_some_iff.mp H
                                        rw [zp_callVi (x := r82.1) (st := [.int (σ 0 (v4 + 2).toNatClampNeg), .int (σ 0 (v4 + 1).toNatClampNeg), .ref 82]) (as := [.ref 82, .int (σ 0 (v4 + 1).toNatClampNeg), .int (σ 0 (v4 + 2).toNatClampNeg)]) (rest := []) (e := 1) zd_264_488 rfl (by decide +kernel) (by decide) rfl rfl (Nat.le_of_ble_eq_true rfl) (zx_rcb_ok rfl (show 82 < 119 by decide)) (Nat.le_of_ble_eq_true rfl) rfl (by decide) (zt_M_race hr82)]
                                        rw [zs_pop (a := .int r82.1) zd_264_491 rfl]
                                        rw [zs_goto (t := 817) zd_264_492 rfl]
                                        exact zt_Law_817 (hk23 := ih) H
                                      · rw [if_neg c81] at H
                                        cases H
                                    · rw [if_neg c80] at H
                                      cases H
                                  · rw [if_neg c78] at H
                                    cases H
                                · rw [if_neg c77] at H
                                  cases H
                              · rw [if_neg c14] at H
                                by_cases c15 : ((σ 0 v4.toNatClampNeg) &&& 31) = 12
                                · rw [if_pos c15] at H
                                  rw [zs_table (x := ((σ 0 v4.toNatClampNeg) &&& 31)) (off := 455) (t := 495) zd_264_40 (by rw [c15]; decide) rfl]
                                  rw [zs_aload_n (ls := [some (.ref 0), some (.ref 2), some (.ref 82), some (.ref 118), some (.int v4), o5, o6]) zd_264_495 rfl]
                                  rw [zs_aload_n (ls := [some (.ref 0), some (.ref 2), some (.ref 82), some (.ref 118), some (.int v4), o5, o6]) zd_264_496 rfl]
                                  rw [zs_iload (ls := [some (.ref 0), some (.ref 2), some (.ref 82), some (.ref 118), some (.int v4), o5, o6]) zd_264_497 rfl]
                                  rw [zs_iconst (z := 1) zd_264_499 (by decide)]
                                  rw [zp_iadd (x := v4) (y := 1) (z := (v4 + 1)) zd_264_500 rfl]
                                  by_cases c69 : zx_ins (v4 + 1) L = true
                                  · rw [if_pos c69] at H
                                    rw [zp_iaload (n := 119) (K := zx_pk (zK L) 119) (σ := σ) (q := 0) (m := L) (i := (v4 + 1)) (k := (v4 + 1).toNatClampNeg) (v := (σ 0 (v4 + 1).toNatClampNeg)) zd_264_501 rfl (by decide) c69 rfl rfl]
                                    rw [zs_aload_n (ls := [some (.ref 0), some (.ref 2), some (.ref 82), some (.ref 118), some (.int v4), o5, o6]) zd_264_502 rfl]
                                    rw [zs_iload (ls := [some (.ref 0), some (.ref 2), some (.ref 82), some (.ref 118), some (.int v4), o5, o6]) zd_264_503 rfl]
                                    rw [zs_iconst (z := 2) zd_264_505 (by decide)]
                                    rw [zp_iadd (x := v4) (y := 2) (z := (v4 + 2)) zd_264_506 rfl]
                                    by_cases c70 : zx_ins (v4 + 2) L = true
                                    · rw [if_pos c70] at H
                                      rw [zp_iaload (n := 119) (K := zx_pk (zK L) 119) (σ := σ) (q := 0) (m := L) (i := (v4 + 2)) (k := (v4 + 2).toNatClampNeg) (v := (σ 0 (v4 + 2).toNatClampNeg)) zd_264_507 rfl (by decide) c70 rfl rfl]
                                      rw [zs_aload_n (ls := [some (.ref 0), some (.ref 2), some (.ref 82), some (.ref 118), some (.int v4), o5, o6]) zd_264_508 rfl]
                                      rw [zs_iload (ls := [some (.ref 0), some (.ref 2), some (.ref 82), some (.ref 118), some (.int v4), o5, o6]) zd_264_509 rfl]
                                      rw [zs_iconst (z := 3) zd_264_511 (by decide)]
                                      rw [zp_iadd (x := v4) (y := 3) (z := (v4 + 3)) zd_264_512 rfl]
                                      by_cases c71 : zx_ins (v4 + 3) L = true
                                      · rw [if_pos c71] at H
                                        rw [zp_iaload (n := 119) (K := zx_pk (zK L) 119) (σ := σ) (q := 0) (m := L) (i := (v4 + 3)) (k := (v4 + 3).toNatClampNeg) (v := (σ 0 (v4 + 3).toNatClampNeg)) zd_264_513 rfl (by decide) c71 rfl rfl]
                                        obtain ⟨r72, hr72, H⟩ := Option.bind_eq_some_iff.mp H
                                        rw [zp_callVi (x := r72.1) (st := [.int (σ 0 (v4 + 3).toNatClampNeg), .int (σ 0 (v4 + 2).toNatClampNeg), .int (σ 0 (v4 + 1).toNatClampNeg), .ref 2]) (as := [.ref 2, .int (σ 0 (v4 + 1).toNatClampNeg), .int (σ 0 (v4 + 2).toNatClampNeg), .int (σ 0 (v4 + 3).toNatClampNeg)]) (rest := []) (e := 4) zd_264_514 rfl (by decide +kernel) (by decide) rfl rfl (Nat.le_of_ble_eq_true rfl) (zx_rcb_ok rfl (show 2 < 119 by decide)) (Nat.le_of_ble_eq_true rfl) rfl (by decide) (zt_X_thread hr72)]
                                        rw [zs_pop (a := .int r72.1) zd_264_517 rfl]
                                        rw [zs_aload_n (ls := [some (.ref 0), some (.ref 2), some (.ref 82), some (.ref 118), some (.int v4), o5, o6]) zd_264_518 rfl]
                                        rw [zs_aload_n (ls := [some (.ref 0), some (.ref 2), some (.ref 82), some (.ref 118), some (.int v4), o5, o6]) zd_264_519 rfl]
                                        rw [zs_iload (ls := [some (.ref 0), some (.ref 2), some (.ref 82), some (.ref 118), some (.int v4), o5, o6]) zd_264_520 rfl]
                                        rw [zs_iconst (z := 1) zd_264_522 (by decide)]
                                        rw [zp_iadd (x := v4) (y := 1) (z := (v4 + 1)) zd_264_523 rfl]
                                        by_cases c73 : zx_ins (v4 + 1) L = true
                                        · rw [if_pos c73] at H
                                          rw [zp_iaload (n := 119) (K := zx_pk (zK L) 119) (σ := r72.2) (q := 0) (m := L) (i := (v4 + 1)) (k := (v4 + 1).toNatClampNeg) (v := (r72.2 0 (v4 + 1).toNatClampNeg)) zd_264_524 rfl (by decide) c73 rfl rfl]
                                          rw [zs_aload_n (ls := [some (.ref 0), some (.ref 2), some (.ref 82), some (.ref 118), some (.int v4), o5, o6]) zd_264_525 rfl]
                                          rw [zs_iload (ls := [some (.ref 0), some (.ref 2), some (.ref 82), some (.ref 118), some (.int v4), o5, o6]) zd_264_526 rfl]
                                          rw [zs_iconst (z := 2) zd_264_528 (by decide)]
                                          rw [zp_iadd (x := v4) (y := 2) (z := (v4 + 2)) zd_264_529 rfl]
                                          by_cases c74 : zx_ins (v4 + 2) L = true
                                          · rw [if_pos c74] at H
                                            rw [zp_iaload (n := 119) (K := zx_pk (zK L) 119) (σ := r72.2) (q := 0) (m := L) (i := (v4 + 2)) (k := (v4 + 2).toNatClampNeg) (v := (r72.2 0 (v4 + 2).toNatClampNeg)) zd_264_530 rfl (by decide) c74 rfl rfl]
                                            rw [zs_aload_n (ls := [some (.ref 0), some (.ref 2), some (.ref 82), some (.ref 118), some (.int v4), o5, o6]) zd_264_531 rfl]
                                            rw [zs_iload (ls := [some (.ref 0), some (.ref 2), some (.ref 82), some (.ref 118), some (.int v4), o5, o6]) zd_264_532 rfl]
                                            rw [zs_iconst (z := 3) zd_264_534 (by decide)]
                                            rw [zp_iadd (x := v4) (y := 3) (z := (v4 + 3)) zd_264_535 rfl]
                                            by_cases c75 : zx_ins (v4 + 3) L = true
                                            · rw [if_pos c75] at H
                                              rw [zp_iaload (n := 119) (K := zx_pk (zK L) 119) (σ := r72.2) (q := 0) (m := L) (i := (v4 + 3)) (k := (v4 + 3).toNatClampNeg) (v := (r72.2 0 (v4 + 3).toNatClampNeg)) zd_264_536 rfl (by decide) c75 rfl rfl]
                                              obtain ⟨r76, hr76, H⟩ := Option.bind_eq_some_iff.mp H
                                              rw [zp_callVi (x := r76.1) (st := [.int (r72.2 0 (v4 + 3).toNatClampNeg), .int (r72.2 0 (v4 + 2).toNatClampNeg), .int (r72.2 0 (v4 + 1).toNatClampNeg), .ref 82]) (as := [.ref 82, .int (r72.2 0 (v4 + 1).toNatClampNeg), .int (r72.2 0 (v4 + 2).toNatClampNeg), .int (r72.2 0 (v4 + 3).toNatClampNeg)]) (rest := []) (e := 3) zd_264_537 rfl (by decide +kernel) (by decide) rfl rfl (Nat.le_of_ble_eq_true rfl) (zx_rcb_ok rfl (show 82 < 119 by decide)) (Nat.le_of_ble_eq_true rfl) rfl (by decide) (zt_M_thread hr76)]
                                              rw [zs_pop (a := .int r76.1) zd_264_540 rfl]
                                              rw [zs_goto (t := 817) zd_264_541 rfl]
                                              exact zt_Law_817 (hk23 := ih) H
                                            · rw [if_neg c75] at H
                                              cases H
                                          · rw [if_neg c74] at H
                                            cases H
                                        · rw [if_neg c73] at H
                                          cases H
                                      · rw [if_neg c71] at H
                                        cases H
                                    · rw [if_neg c70] at H
                                      cases H
                                  · rw [if_neg c69] at H
                                    cases H
                                · rw [if_neg c15] at H
                                  by_cases c16 : ((σ 0 v4.toNatClampNeg) &&& 31) = 13
                                  · rw [if_pos c16] at H
                                    rw [zs_table (x := ((σ 0 v4.toNatClampNeg) &&& 31)) (off := 504) (t := 544) zd_264_40 (by rw [c16]; decide) rfl]
                                    rw [zs_aload_n (ls := [some (.ref 0), some (.ref 2), some (.ref 82), some (.ref 118), some (.int v4), o5, o6]) zd_264_544 rfl]
                                    rw [zs_aload_n (ls := [some (.ref 0), some (.ref 2), some (.ref 82), some (.ref 118), some (.int v4), o5, o6]) zd_264_545 rfl]
                                    rw [zs_iload (ls := [some (.ref 0), some (.ref 2), some (.ref 82), some (.ref 118), some (.int v4), o5, o6]) zd_264_546 rfl]
                                    rw [zs_iconst (z := 1) zd_264_548 (by decide)]
                                    rw [zp_iadd (x := v4) (y := 1) (z := (v4 + 1)) zd_264_549 rfl]
                                    by_cases c63 : zx_ins (v4 + 1) L = true
                                    · rw [if_pos c63] at H
                                      rw [zp_iaload (n := 119) (K := zx_pk (zK L) 119) (σ := σ) (q := 0) (m := L) (i := (v4 + 1)) (k := (v4 + 1).toNatClampNeg) (v := (σ 0 (v4 + 1).toNatClampNeg)) zd_264_550 rfl (by decide) c63 rfl rfl]
                                      rw [zs_aload_n (ls := [some (.ref 0), some (.ref 2), some (.ref 82), some (.ref 118), some (.int v4), o5, o6]) zd_264_551 rfl]
                                      rw [zs_iload (ls := [some (.ref 0), some (.ref 2), some (.ref 82), some (.ref 118), some (.int v4), o5, o6]) zd_264_552 rfl]
                                      rw [zs_iconst (z := 2) zd_264_554 (by decide)]
                                      rw [zp_iadd (x := v4) (y := 2) (z := (v4 + 2)) zd_264_555 rfl]
                                      by_cases c64 : zx_ins (v4 + 2) L = true
                                      · rw [if_pos c64] at H
                                        rw [zp_iaload (n := 119) (K := zx_pk (zK L) 119) (σ := σ) (q := 0) (m := L) (i := (v4 + 2)) (k := (v4 + 2).toNatClampNeg) (v := (σ 0 (v4 + 2).toNatClampNeg)) zd_264_556 rfl (by decide) c64 rfl rfl]
                                        obtain ⟨r65, hr65, H⟩ := Option.bind_eq_some_iff.mp H
                                        rw [zp_callVi (x := r65.1) (st := [.int (σ 0 (v4 + 2).toNatClampNeg), .int (σ 0 (v4 + 1).toNatClampNeg), .ref 2]) (as := [.ref 2, .int (σ 0 (v4 + 1).toNatClampNeg), .int (σ 0 (v4 + 2).toNatClampNeg)]) (rest := []) (e := 4) zd_264_557 rfl (by decide +kernel) (by decide) rfl rfl (Nat.le_of_ble_eq_true rfl) (zx_rcb_ok rfl (show 2 < 119 by decide)) (Nat.le_of_ble_eq_true rfl) rfl (by decide) (zt_X_field hr65)]
                                        rw [zs_pop (a := .int r65.1) zd_264_560 rfl]
                                        rw [zs_aload_n (ls := [some (.ref 0), some (.ref 2), some (.ref 82), some (.ref 118), some (.int v4), o5, o6]) zd_264_561 rfl]
                                        rw [zs_aload_n (ls := [some (.ref 0), some (.ref 2), some (.ref 82), some (.ref 118), some (.int v4), o5, o6]) zd_264_562 rfl]
                                        rw [zs_iload (ls := [some (.ref 0), some (.ref 2), some (.ref 82), some (.ref 118), some (.int v4), o5, o6]) zd_264_563 rfl]
                                        rw [zs_iconst (z := 1) zd_264_565 (by decide)]
                                        rw [zp_iadd (x := v4) (y := 1) (z := (v4 + 1)) zd_264_566 rfl]
                                        by_cases c66 : zx_ins (v4 + 1) L = true
                                        · rw [if_pos c66] at H
                                          rw [zp_iaload (n := 119) (K := zx_pk (zK L) 119) (σ := r65.2) (q := 0) (m := L) (i := (v4 + 1)) (k := (v4 + 1).toNatClampNeg) (v := (r65.2 0 (v4 + 1).toNatClampNeg)) zd_264_567 rfl (by decide) c66 rfl rfl]
                                          rw [zs_aload_n (ls := [some (.ref 0), some (.ref 2), some (.ref 82), some (.ref 118), some (.int v4), o5, o6]) zd_264_568 rfl]
                                          rw [zs_iload (ls := [some (.ref 0), some (.ref 2), some (.ref 82), some (.ref 118), some (.int v4), o5, o6]) zd_264_569 rfl]
                                          rw [zs_iconst (z := 2) zd_264_571 (by decide)]
                                          rw [zp_iadd (x := v4) (y := 2) (z := (v4 + 2)) zd_264_572 rfl]
                                          by_cases c67 : zx_ins (v4 + 2) L = true
                                          · rw [if_pos c67] at H
                                            rw [zp_iaload (n := 119) (K := zx_pk (zK L) 119) (σ := r65.2) (q := 0) (m := L) (i := (v4 + 2)) (k := (v4 + 2).toNatClampNeg) (v := (r65.2 0 (v4 + 2).toNatClampNeg)) zd_264_573 rfl (by decide) c67 rfl rfl]
                                            obtain ⟨r68, hr68, H⟩ := Option.bind_eq_some_iff.mp H
                                            rw [zp_callVi (x := r68.1) (st := [.int (r65.2 0 (v4 + 2).toNatClampNeg), .int (r65.2 0 (v4 + 1).toNatClampNeg), .ref 82]) (as := [.ref 82, .int (r65.2 0 (v4 + 1).toNatClampNeg), .int (r65.2 0 (v4 + 2).toNatClampNeg)]) (rest := []) (e := 2) zd_264_574 rfl (by decide +kernel) (by decide) rfl rfl (Nat.le_of_ble_eq_true rfl) (zx_rcb_ok rfl (show 82 < 119 by decide)) (Nat.le_of_ble_eq_true rfl) rfl (by decide) (zt_M_field hr68)]
                                            rw [zs_pop (a := .int r68.1) zd_264_577 rfl]
                                            rw [zs_goto (t := 817) zd_264_578 rfl]
                                            exact zt_Law_817 (hk23 := ih) H
                                          · rw [if_neg c67] at H
                                            cases H
                                        · rw [if_neg c66] at H
                                          cases H
                                      · rw [if_neg c64] at H
                                        cases H
                                    · rw [if_neg c63] at H
                                      cases H
                                  · rw [if_neg c16] at H
                                    by_cases c17 : ((σ 0 v4.toNatClampNeg) &&& 31) = 14
                                    · rw [if_pos c17] at H
                                      rw [zs_table (x := ((σ 0 v4.toNatClampNeg) &&& 31)) (off := 541) (t := 581) zd_264_40 (by rw [c17]; decide) rfl]
                                      rw [zs_aload_n (ls := [some (.ref 0), some (.ref 2), some (.ref 82), some (.ref 118), some (.int v4), o5, o6]) zd_264_581 rfl]
                                      rw [zs_aload_n (ls := [some (.ref 0), some (.ref 2), some (.ref 82), some (.ref 118), some (.int v4), o5, o6]) zd_264_582 rfl]
                                      rw [zs_iload (ls := [some (.ref 0), some (.ref 2), some (.ref 82), some (.ref 118), some (.int v4), o5, o6]) zd_264_583 rfl]
                                      rw [zs_iconst (z := 1) zd_264_585 (by decide)]
                                      rw [zp_iadd (x := v4) (y := 1) (z := (v4 + 1)) zd_264_586 rfl]
                                      by_cases c57 : zx_ins (v4 + 1) L = true
                                      · rw [if_pos c57] at H
                                        rw [zp_iaload (n := 119) (K := zx_pk (zK L) 119) (σ := σ) (q := 0) (m := L) (i := (v4 + 1)) (k := (v4 + 1).toNatClampNeg) (v := (σ 0 (v4 + 1).toNatClampNeg)) zd_264_587 rfl (by decide) c57 rfl rfl]
                                        rw [zs_aload_n (ls := [some (.ref 0), some (.ref 2), some (.ref 82), some (.ref 118), some (.int v4), o5, o6]) zd_264_588 rfl]
                                        rw [zs_iload (ls := [some (.ref 0), some (.ref 2), some (.ref 82), some (.ref 118), some (.int v4), o5, o6]) zd_264_589 rfl]
                                        rw [zs_iconst (z := 2) zd_264_591 (by decide)]
                                        rw [zp_iadd (x := v4) (y := 2) (z := (v4 + 2)) zd_264_592 rfl]
                                        by_cases c58 : zx_ins (v4 + 2) L = true
                                        · rw [if_pos c58] at H
                                          rw [zp_iaload (n := 119) (K := zx_pk (zK L) 119) (σ := σ) (q := 0) (m := L) (i := (v4 + 2)) (k := (v4 + 2).toNatClampNeg) (v := (σ 0 (v4 + 2).toNatClampNeg)) zd_264_593 rfl (by decide) c58 rfl rfl]
                                          obtain ⟨r59, hr59, H⟩ := Option.bind_eq_some_iff.mp H
                                          rw [zp_callVi (x := r59.1) (st := [.int (σ 0 (v4 + 2).toNatClampNeg), .int (σ 0 (v4 + 1).toNatClampNeg), .ref 2]) (as := [.ref 2, .int (σ 0 (v4 + 1).toNatClampNeg), .int (σ 0 (v4 + 2).toNatClampNeg)]) (rest := []) (e := 4) zd_264_594 rfl (by decide +kernel) (by decide) rfl rfl (Nat.le_of_ble_eq_true rfl) (zx_rcb_ok rfl (show 2 < 119 by decide)) (Nat.le_of_ble_eq_true rfl) rfl (by decide) (zt_X_owner hr59)]
                                          rw [zs_pop (a := .int r59.1) zd_264_597 rfl]
                                          rw [zs_aload_n (ls := [some (.ref 0), some (.ref 2), some (.ref 82), some (.ref 118), some (.int v4), o5, o6]) zd_264_598 rfl]
                                          rw [zs_aload_n (ls := [some (.ref 0), some (.ref 2), some (.ref 82), some (.ref 118), some (.int v4), o5, o6]) zd_264_599 rfl]
                                          rw [zs_iload (ls := [some (.ref 0), some (.ref 2), some (.ref 82), some (.ref 118), some (.int v4), o5, o6]) zd_264_600 rfl]
                                          rw [zs_iconst (z := 1) zd_264_602 (by decide)]
                                          rw [zp_iadd (x := v4) (y := 1) (z := (v4 + 1)) zd_264_603 rfl]
                                          by_cases c60 : zx_ins (v4 + 1) L = true
                                          · rw [if_pos c60] at H
                                            rw [zp_iaload (n := 119) (K := zx_pk (zK L) 119) (σ := r59.2) (q := 0) (m := L) (i := (v4 + 1)) (k := (v4 + 1).toNatClampNeg) (v := (r59.2 0 (v4 + 1).toNatClampNeg)) zd_264_604 rfl (by decide) c60 rfl rfl]
                                            rw [zs_aload_n (ls := [some (.ref 0), some (.ref 2), some (.ref 82), some (.ref 118), some (.int v4), o5, o6]) zd_264_605 rfl]
                                            rw [zs_iload (ls := [some (.ref 0), some (.ref 2), some (.ref 82), some (.ref 118), some (.int v4), o5, o6]) zd_264_606 rfl]
                                            rw [zs_iconst (z := 2) zd_264_608 (by decide)]
                                            rw [zp_iadd (x := v4) (y := 2) (z := (v4 + 2)) zd_264_609 rfl]
                                            by_cases c61 : zx_ins (v4 + 2) L = true
                                            · rw [if_pos c61] at H
                                              rw [zp_iaload (n := 119) (K := zx_pk (zK L) 119) (σ := r59.2) (q := 0) (m := L) (i := (v4 + 2)) (k := (v4 + 2).toNatClampNeg) (v := (r59.2 0 (v4 + 2).toNatClampNeg)) zd_264_610 rfl (by decide) c61 rfl rfl]
                                              obtain ⟨r62, hr62, H⟩ := Option.bind_eq_some_iff.mp H
                                              rw [zp_callVi (x := r62.1) (st := [.int (r59.2 0 (v4 + 2).toNatClampNeg), .int (r59.2 0 (v4 + 1).toNatClampNeg), .ref 82]) (as := [.ref 82, .int (r59.2 0 (v4 + 1).toNatClampNeg), .int (r59.2 0 (v4 + 2).toNatClampNeg)]) (rest := []) (e := 2) zd_264_611 rfl (by decide +kernel) (by decide) rfl rfl (Nat.le_of_ble_eq_true rfl) (zx_rcb_ok rfl (show 82 < 119 by decide)) (Nat.le_of_ble_eq_true rfl) rfl (by decide) (zt_M_owner hr62)]
                                              rw [zs_pop (a := .int r62.1) zd_264_614 rfl]
                                              rw [zs_goto (t := 817) zd_264_615 rfl]
                                              exact zt_Law_817 (hk23 := ih) H
                                            · rw [if_neg c61] at H
                                              cases H
                                          · rw [if_neg c60] at H
                                            cases H
                                        · rw [if_neg c58] at H
                                          cases H
                                      · rw [if_neg c57] at H
                                        cases H
                                    · rw [if_neg c17] at H
                                      by_cases c18 : ((σ 0 v4.toNatClampNeg) &&& 31) = 15
                                      · rw [if_pos c18] at H
                                        rw [zs_table (x := ((σ 0 v4.toNatClampNeg) &&& 31)) (off := 578) (t := 618) zd_264_40 (by rw [c18]; decide) rfl]
                                        rw [zs_aload_n (ls := [some (.ref 0), some (.ref 2), some (.ref 82), some (.ref 118), some (.int v4), o5, o6]) zd_264_618 rfl]
                                        rw [zs_aload_n (ls := [some (.ref 0), some (.ref 2), some (.ref 82), some (.ref 118), some (.int v4), o5, o6]) zd_264_619 rfl]
                                        rw [zs_iload (ls := [some (.ref 0), some (.ref 2), some (.ref 82), some (.ref 118), some (.int v4), o5, o6]) zd_264_620 rfl]
                                        rw [zs_iconst (z := 1) zd_264_622 (by decide)]
                                        rw [zp_iadd (x := v4) (y := 1) (z := (v4 + 1)) zd_264_623 rfl]
                                        by_cases c53 : zx_ins (v4 + 1) L = true
                                        · rw [if_pos c53] at H
                                          rw [zp_iaload (n := 119) (K := zx_pk (zK L) 119) (σ := σ) (q := 0) (m := L) (i := (v4 + 1)) (k := (v4 + 1).toNatClampNeg) (v := (σ 0 (v4 + 1).toNatClampNeg)) zd_264_624 rfl (by decide) c53 rfl rfl]
                                          obtain ⟨r54, hr54, H⟩ := Option.bind_eq_some_iff.mp H
                                          rw [zp_callVi (x := r54.1) (st := [.int (σ 0 (v4 + 1).toNatClampNeg), .ref 2]) (as := [.ref 2, .int (σ 0 (v4 + 1).toNatClampNeg)]) (rest := []) (e := 4) zd_264_625 rfl (by decide +kernel) (by decide) rfl rfl (Nat.le_of_ble_eq_true rfl) (zx_rcb_ok rfl (show 2 < 119 by decide)) (Nat.le_of_ble_eq_true rfl) rfl (by decide) (zt_X_stuck hr54)]
                                          rw [zs_pop (a := .int r54.1) zd_264_628 rfl]
                                          rw [zs_aload_n (ls := [some (.ref 0), some (.ref 2), some (.ref 82), some (.ref 118), some (.int v4), o5, o6]) zd_264_629 rfl]
                                          rw [zs_aload_n (ls := [some (.ref 0), some (.ref 2), some (.ref 82), some (.ref 118), some (.int v4), o5, o6]) zd_264_630 rfl]
                                          rw [zs_iload (ls := [some (.ref 0), some (.ref 2), some (.ref 82), some (.ref 118), some (.int v4), o5, o6]) zd_264_631 rfl]
                                          rw [zs_iconst (z := 1) zd_264_633 (by decide)]
                                          rw [zp_iadd (x := v4) (y := 1) (z := (v4 + 1)) zd_264_634 rfl]
                                          by_cases c55 : zx_ins (v4 + 1) L = true
                                          · rw [if_pos c55] at H
                                            rw [zp_iaload (n := 119) (K := zx_pk (zK L) 119) (σ := r54.2) (q := 0) (m := L) (i := (v4 + 1)) (k := (v4 + 1).toNatClampNeg) (v := (r54.2 0 (v4 + 1).toNatClampNeg)) zd_264_635 rfl (by decide) c55 rfl rfl]
                                            obtain ⟨r56, hr56, H⟩ := Option.bind_eq_some_iff.mp H
                                            rw [zp_callVi (x := r56.1) (st := [.int (r54.2 0 (v4 + 1).toNatClampNeg), .ref 82]) (as := [.ref 82, .int (r54.2 0 (v4 + 1).toNatClampNeg)]) (rest := []) (e := 3) zd_264_636 rfl (by decide +kernel) (by decide) rfl rfl (Nat.le_of_ble_eq_true rfl) (zx_rcb_ok rfl (show 82 < 119 by decide)) (Nat.le_of_ble_eq_true rfl) rfl (by decide) (zt_M_stuck hr56)]
                                            rw [zs_pop (a := .int r56.1) zd_264_639 rfl]
                                            rw [zs_goto (t := 817) zd_264_640 rfl]
                                            exact zt_Law_817 (hk23 := ih) H
                                          · rw [if_neg c55] at H
                                            cases H
                                        · rw [if_neg c53] at H
                                          cases H
                                      · rw [if_neg c18] at H
                                        by_cases c19 : ((σ 0 v4.toNatClampNeg) &&& 31) = 16
                                        · rw [if_pos c19] at H
                                          rw [zs_table (x := ((σ 0 v4.toNatClampNeg) &&& 31)) (off := 603) (t := 643) zd_264_40 (by rw [c19]; decide) rfl]
                                          rw [zs_aload_n (ls := [some (.ref 0), some (.ref 2), some (.ref 82), some (.ref 118), some (.int v4), o5, o6]) zd_264_643 rfl]
                                          rw [zs_aload_n (ls := [some (.ref 0), some (.ref 2), some (.ref 82), some (.ref 118), some (.int v4), o5, o6]) zd_264_644 rfl]
                                          rw [zs_iload (ls := [some (.ref 0), some (.ref 2), some (.ref 82), some (.ref 118), some (.int v4), o5, o6]) zd_264_645 rfl]
                                          rw [zs_iconst (z := 1) zd_264_647 (by decide)]
                                          rw [zp_iadd (x := v4) (y := 1) (z := (v4 + 1)) zd_264_648 rfl]
                                          by_cases c49 : zx_ins (v4 + 1) L = true
                                          · rw [if_pos c49] at H
                                            rw [zp_iaload (n := 119) (K := zx_pk (zK L) 119) (σ := σ) (q := 0) (m := L) (i := (v4 + 1)) (k := (v4 + 1).toNatClampNeg) (v := (σ 0 (v4 + 1).toNatClampNeg)) zd_264_649 rfl (by decide) c49 rfl rfl]
                                            obtain ⟨r50, hr50, H⟩ := Option.bind_eq_some_iff.mp H
                                            rw [zp_callVi (x := r50.1) (st := [.int (σ 0 (v4 + 1).toNatClampNeg), .ref 2]) (as := [.ref 2, .int (σ 0 (v4 + 1).toNatClampNeg)]) (rest := []) (e := 6) zd_264_650 rfl (by decide +kernel) (by decide) rfl rfl (Nat.le_of_ble_eq_true rfl) (zx_rcb_ok rfl (show 2 < 119 by decide)) (Nat.le_of_ble_eq_true rfl) rfl (by decide) (zt_X_whole hr50)]
                                            rw [zs_pop (a := .int r50.1) zd_264_653 rfl]
                                            rw [zs_aload_n (ls := [some (.ref 0), some (.ref 2), some (.ref 82), some (.ref 118), some (.int v4), o5, o6]) zd_264_654 rfl]
                                            rw [zs_aload_n (ls := [some (.ref 0), some (.ref 2), some (.ref 82), some (.ref 118), some (.int v4), o5, o6]) zd_264_655 rfl]
                                            rw [zs_iload (ls := [some (.ref 0), some (.ref 2), some (.ref 82), some (.ref 118), some (.int v4), o5, o6]) zd_264_656 rfl]
                                            rw [zs_iconst (z := 1) zd_264_658 (by decide)]
                                            rw [zp_iadd (x := v4) (y := 1) (z := (v4 + 1)) zd_264_659 rfl]
                                            by_cases c51 : zx_ins (v4 + 1) L = true
                                            · rw [if_pos c51] at H
                                              rw [zp_iaload (n := 119) (K := zx_pk (zK L) 119) (σ := r50.2) (q := 0) (m := L) (i := (v4 + 1)) (k := (v4 + 1).toNatClampNeg) (v := (r50.2 0 (v4 + 1).toNatClampNeg)) zd_264_660 rfl (by decide) c51 rfl rfl]
                                              obtain ⟨r52, hr52, H⟩ := Option.bind_eq_some_iff.mp H
                                              rw [zp_callVi (x := r52.1) (st := [.int (r50.2 0 (v4 + 1).toNatClampNeg), .ref 82]) (as := [.ref 82, .int (r50.2 0 (v4 + 1).toNatClampNeg)]) (rest := []) (e := 4) zd_264_661 rfl (by decide +kernel) (by decide) rfl rfl (Nat.le_of_ble_eq_true rfl) (zx_rcb_ok rfl (show 82 < 119 by decide)) (Nat.le_of_ble_eq_true rfl) rfl (by decide) (zt_M_whole hr52)]
                                              rw [zs_pop (a := .int r52.1) zd_264_664 rfl]
                                              rw [zs_goto (t := 817) zd_264_665 rfl]
                                              exact zt_Law_817 (hk23 := ih) H
                                            · rw [if_neg c51] at H
                                              cases H
                                          · rw [if_neg c49] at H
                                            cases H
                                        · rw [if_neg c19] at H
                                          by_cases c20 : ((σ 0 v4.toNatClampNeg) &&& 31) = 17
                                          · rw [if_pos c20] at H
                                            rw [zs_table (x := ((σ 0 v4.toNatClampNeg) &&& 31)) (off := 628) (t := 668) zd_264_40 (by rw [c20]; decide) rfl]
                                            rw [zs_aload_n (ls := [some (.ref 0), some (.ref 2), some (.ref 82), some (.ref 118), some (.int v4), o5, o6]) zd_264_668 rfl]
                                            obtain ⟨r47, hr47, H⟩ := Option.bind_eq_some_iff.mp H
                                            rw [zp_callVi (x := r47.1) (st := [.ref 2]) (as := [.ref 2]) (rest := []) (e := 33) zd_264_669 rfl (by decide +kernel) (by decide) rfl rfl (Nat.le_of_ble_eq_true rfl) (zx_rcb_ok rfl (show 2 < 119 by decide)) (Nat.le_of_ble_eq_true rfl) rfl (by decide) (zt_X_doubts hr47)]
                                            rw [zs_pop (a := .int r47.1) zd_264_672 rfl]
                                            rw [zs_aload_n (ls := [some (.ref 0), some (.ref 2), some (.ref 82), some (.ref 118), some (.int v4), o5, o6]) zd_264_673 rfl]
                                            obtain ⟨r48, hr48, H⟩ := Option.bind_eq_some_iff.mp H
                                            rw [zp_callVi (x := r48.1) (st := [.ref 82]) (as := [.ref 82]) (rest := []) (e := 6) zd_264_674 rfl (by decide +kernel) (by decide) rfl rfl (Nat.le_of_ble_eq_true rfl) (zx_rcb_ok rfl (show 82 < 119 by decide)) (Nat.le_of_ble_eq_true rfl) rfl (by decide) (zt_M_doubts hr48)]
                                            rw [zs_pop (a := .int r48.1) zd_264_677 rfl]
                                            rw [zs_goto (t := 817) zd_264_678 rfl]
                                            exact zt_Law_817 (hk23 := ih) H
                                          · rw [if_neg c20] at H
                                            by_cases c21 : ((σ 0 v4.toNatClampNeg) &&& 31) = 18
                                            · rw [if_pos c21] at H
                                              rw [zs_table (x := ((σ 0 v4.toNatClampNeg) &&& 31)) (off := 641) (t := 681) zd_264_40 (by rw [c21]; decide) rfl]
                                              rw [zs_aload_n (ls := [some (.ref 0), some (.ref 2), some (.ref 82), some (.ref 118), some (.int v4), o5, o6]) zd_264_681 rfl]
                                              rw [zs_aload_n (ls := [some (.ref 0), some (.ref 2), some (.ref 82), some (.ref 118), some (.int v4), o5, o6]) zd_264_682 rfl]
                                              rw [zs_iload (ls := [some (.ref 0), some (.ref 2), some (.ref 82), some (.ref 118), some (.int v4), o5, o6]) zd_264_683 rfl]
                                              rw [zs_iconst (z := 1) zd_264_685 (by decide)]
                                              rw [zp_iadd (x := v4) (y := 1) (z := (v4 + 1)) zd_264_686 rfl]
                                              by_cases c41 : zx_ins (v4 + 1) L = true
                                              · rw [if_pos c41] at H
                                                rw [zp_iaload (n := 119) (K := zx_pk (zK L) 119) (σ := σ) (q := 0) (m := L) (i := (v4 + 1)) (k := (v4 + 1).toNatClampNeg) (v := (σ 0 (v4 + 1).toNatClampNeg)) zd_264_687 rfl (by decide) c41 rfl rfl]
                                                rw [zs_aload_n (ls := [some (.ref 0), some (.ref 2), some (.ref 82), some (.ref 118), some (.int v4), o5, o6]) zd_264_688 rfl]
                                                rw [zs_iload (ls := [some (.ref 0), some (.ref 2), some (.ref 82), some (.ref 118), some (.int v4), o5, o6]) zd_264_689 rfl]
                                                rw [zs_iconst (z := 2) zd_264_691 (by decide)]
                                                rw [zp_iadd (x := v4) (y := 2) (z := (v4 + 2)) zd_264_692 rfl]
                                                by_cases c42 : zx_ins (v4 + 2) L = true
                                                · rw [if_pos c42] at H
                                                  rw [zp_iaload (n := 119) (K := zx_pk (zK L) 119) (σ := σ) (q := 0) (m := L) (i := (v4 + 2)) (k := (v4 + 2).toNatClampNeg) (v := (σ 0 (v4 + 2).toNatClampNeg)) zd_264_693 rfl (by decide) c42 rfl rfl]
                                                  obtain ⟨r43, hr43, H⟩ := Option.bind_eq_some_iff.mp H
                                                  rw [zp_callVi (x := r43.1) (st := [.int (σ 0 (v4 + 2).toNatClampNeg), .int (σ 0 (v4 + 1).toNatClampNeg), .ref 2]) (as := [.ref 2, .int (σ 0 (v4 + 1).toNatClampNeg), .int (σ 0 (v4 + 2).toNatClampNeg)]) (rest := []) (e := 33) zd_264_694 rfl (by decide +kernel) (by decide) rfl rfl (Nat.le_of_ble_eq_true rfl) (zx_rcb_ok rfl (show 2 < 119 by decide)) (Nat.le_of_ble_eq_true rfl) rfl (by decide) (zt_X_doubt hr43)]
                                                  rw [zs_pop (a := .int r43.1) zd_264_697 rfl]
                                                  rw [zs_aload_n (ls := [some (.ref 0), some (.ref 2), some (.ref 82), some (.ref 118), some (.int v4), o5, o6]) zd_264_698 rfl]
                                                  rw [zs_aload_n (ls := [some (.ref 0), some (.ref 2), some (.ref 82), some (.ref 118), some (.int v4), o5, o6]) zd_264_699 rfl]
                                                  rw [zs_iload (ls := [some (.ref 0), some (.ref 2), some (.ref 82), some (.ref 118), some (.int v4), o5, o6]) zd_264_700 rfl]
                                                  rw [zs_iconst (z := 1) zd_264_702 (by decide)]
                                                  rw [zp_iadd (x := v4) (y := 1) (z := (v4 + 1)) zd_264_703 rfl]
                                                  by_cases c44 : zx_ins (v4 + 1) L = true
                                                  · rw [if_pos c44] at H
                                                    rw [zp_iaload (n := 119) (K := zx_pk (zK L) 119) (σ := r43.2) (q := 0) (m := L) (i := (v4 + 1)) (k := (v4 + 1).toNatClampNeg) (v := (r43.2 0 (v4 + 1).toNatClampNeg)) zd_264_704 rfl (by decide) c44 rfl rfl]
                                                    rw [zs_aload_n (ls := [some (.ref 0), some (.ref 2), some (.ref 82), some (.ref 118), some (.int v4), o5, o6]) zd_264_705 rfl]
                                                    rw [zs_iload (ls := [some (.ref 0), some (.ref 2), some (.ref 82), some (.ref 118), some (.int v4), o5, o6]) zd_264_706 rfl]
                                                    rw [zs_iconst (z := 2) zd_264_708 (by decide)]
                                                    rw [zp_iadd (x := v4) (y := 2) (z := (v4 + 2)) zd_264_709 rfl]
                                                    by_cases c45 : zx_ins (v4 + 2) L = true
                                                    · rw [if_pos c45] at H
                                                      rw [zp_iaload (n := 119) (K := zx_pk (zK L) 119) (σ := r43.2) (q := 0) (m := L) (i := (v4 + 2)) (k := (v4 + 2).toNatClampNeg) (v := (r43.2 0 (v4 + 2).toNatClampNeg)) zd_264_710 rfl (by decide) c45 rfl rfl]
                                                      obtain ⟨r46, hr46, H⟩ := Option.bind_eq_some_iff.mp H
                                                      rw [zp_callVi (x := r46.1) (st := [.int (r43.2 0 (v4 + 2).toNatClampNeg), .int (r43.2 0 (v4 + 1).toNatClampNeg), .ref 82]) (as := [.ref 82, .int (r43.2 0 (v4 + 1).toNatClampNeg), .int (r43.2 0 (v4 + 2).toNatClampNeg)]) (rest := []) (e := 6) zd_264_711 rfl (by decide +kernel) (by decide) rfl rfl (Nat.le_of_ble_eq_true rfl) (zx_rcb_ok rfl (show 82 < 119 by decide)) (Nat.le_of_ble_eq_true rfl) rfl (by decide) (zt_M_doubt hr46)]
                                                      rw [zs_pop (a := .int r46.1) zd_264_714 rfl]
                                                      rw [zs_goto (t := 817) zd_264_715 rfl]
                                                      exact zt_Law_817 (hk23 := ih) H
                                                    · rw [if_neg c45] at H
                                                      cases H
                                                  · rw [if_neg c44] at H
                                                    cases H
                                                · rw [if_neg c42] at H
                                                  cases H
                                              · rw [if_neg c41] at H
                                                cases H
                                            · rw [if_neg c21] at H
                                              by_cases c22 : ((σ 0 v4.toNatClampNeg) &&& 31) = 19
                                              · rw [if_pos c22] at H
                                                rw [zs_table (x := ((σ 0 v4.toNatClampNeg) &&& 31)) (off := 678) (t := 718) zd_264_40 (by rw [c22]; decide) rfl]
                                                rw [zs_aload_n (ls := [some (.ref 0), some (.ref 2), some (.ref 82), some (.ref 118), some (.int v4), o5, o6]) zd_264_718 rfl]
                                                rw [zs_aload_n (ls := [some (.ref 0), some (.ref 2), some (.ref 82), some (.ref 118), some (.int v4), o5, o6]) zd_264_719 rfl]
                                                rw [zs_iload (ls := [some (.ref 0), some (.ref 2), some (.ref 82), some (.ref 118), some (.int v4), o5, o6]) zd_264_720 rfl]
                                                rw [zs_iconst (z := 1) zd_264_722 (by decide)]
                                                rw [zp_iadd (x := v4) (y := 1) (z := (v4 + 1)) zd_264_723 rfl]
                                                by_cases c31 : zx_ins (v4 + 1) L = true
                                                · rw [if_pos c31] at H
                                                  rw [zp_iaload (n := 119) (K := zx_pk (zK L) 119) (σ := σ) (q := 0) (m := L) (i := (v4 + 1)) (k := (v4 + 1).toNatClampNeg) (v := (σ 0 (v4 + 1).toNatClampNeg)) zd_264_724 rfl (by decide) c31 rfl rfl]
                                                  rw [zs_aload_n (ls := [some (.ref 0), some (.ref 2), some (.ref 82), some (.ref 118), some (.int v4), o5, o6]) zd_264_725 rfl]
                                                  rw [zs_iload (ls := [some (.ref 0), some (.ref 2), some (.ref 82), some (.ref 118), some (.int v4), o5, o6]) zd_264_726 rfl]
                                                  rw [zs_iconst (z := 2) zd_264_728 (by decide)]
                                                  rw [zp_iadd (x := v4) (y := 2) (z := (v4 + 2)) zd_264_729 rfl]
                                                  by_cases c32 : zx_ins (v4 + 2) L = true
                                                  · rw [if_pos c32] at H
                                                    rw [zp_iaload (n := 119) (K := zx_pk (zK L) 119) (σ := σ) (q := 0) (m := L) (i := (v4 + 2)) (k := (v4 + 2).toNatClampNeg) (v := (σ 0 (v4 + 2).toNatClampNeg)) zd_264_730 rfl (by decide) c32 rfl rfl]
                                                    rw [zs_aload_n (ls := [some (.ref 0), some (.ref 2), some (.ref 82), some (.ref 118), some (.int v4), o5, o6]) zd_264_731 rfl]
                                                    rw [zs_iload (ls := [some (.ref 0), some (.ref 2), some (.ref 82), some (.ref 118), some (.int v4), o5, o6]) zd_264_732 rfl]
                                                    rw [zs_iconst (z := 3) zd_264_734 (by decide)]
                                                    rw [zp_iadd (x := v4) (y := 3) (z := (v4 + 3)) zd_264_735 rfl]
                                                    by_cases c33 : zx_ins (v4 + 3) L = true
                                                    · rw [if_pos c33] at H
                                                      rw [zp_iaload (n := 119) (K := zx_pk (zK L) 119) (σ := σ) (q := 0) (m := L) (i := (v4 + 3)) (k := (v4 + 3).toNatClampNeg) (v := (σ 0 (v4 + 3).toNatClampNeg)) zd_264_736 rfl (by decide) c33 rfl rfl]
                                                      rw [zs_aload_n (ls := [some (.ref 0), some (.ref 2), some (.ref 82), some (.ref 118), some (.int v4), o5, o6]) zd_264_737 rfl]
                                                      rw [zs_iload (ls := [some (.ref 0), some (.ref 2), some (.ref 82), some (.ref 118), some (.int v4), o5, o6]) zd_264_738 rfl]
                                                      rw [zs_iconst (z := 4) zd_264_740 (by decide)]
                                                      rw [zp_iadd (x := v4) (y := 4) (z := (v4 + 4)) zd_264_741 rfl]
                                                      by_cases c34 : zx_ins (v4 + 4) L = true
                                                      · rw [if_pos c34] at H
                                                        rw [zp_iaload (n := 119) (K := zx_pk (zK L) 119) (σ := σ) (q := 0) (m := L) (i := (v4 + 4)) (k := (v4 + 4).toNatClampNeg) (v := (σ 0 (v4 + 4).toNatClampNeg)) zd_264_742 rfl (by decide) c34 rfl rfl]
                                                        obtain ⟨r35, hr35, H⟩ := Option.bind_eq_some_iff.mp H
                                                        rw [zp_callVi (x := r35.1) (st := [.int (σ 0 (v4 + 4).toNatClampNeg), .int (σ 0 (v4 + 3).toNatClampNeg), .int (σ 0 (v4 + 2).toNatClampNeg), .int (σ 0 (v4 + 1).toNatClampNeg), .ref 2]) (as := [.ref 2, .int (σ 0 (v4 + 1).toNatClampNeg), .int (σ 0 (v4 + 2).toNatClampNeg), .int (σ 0 (v4 + 3).toNatClampNeg), .int (σ 0 (v4 + 4).toNatClampNeg)]) (rest := []) (e := 33) zd_264_743 rfl (by decide +kernel) (by decide) rfl rfl (Nat.le_of_ble_eq_true rfl) (zx_rcb_ok rfl (show 2 < 119 by decide)) (Nat.le_of_ble_eq_true rfl) rfl (by decide) (zt_X_meet hr35)]
                                                        rw [zs_pop (a := .int r35.1) zd_264_746 rfl]
                                                        rw [zs_aload_n (ls := [some (.ref 0), some (.ref 2), some (.ref 82), some (.ref 118), some (.int v4), o5, o6]) zd_264_747 rfl]
                                                        rw [zs_aload_n (ls := [some (.ref 0), some (.ref 2), some (.ref 82), some (.ref 118), some (.int v4), o5, o6]) zd_264_748 rfl]
                                                        rw [zs_iload (ls := [some (.ref 0), some (.ref 2), some (.ref 82), some (.ref 118), some (.int v4), o5, o6]) zd_264_749 rfl]
                                                        rw [zs_iconst (z := 1) zd_264_751 (by decide)]
                                                        rw [zp_iadd (x := v4) (y := 1) (z := (v4 + 1)) zd_264_752 rfl]
                                                        by_cases c36 : zx_ins (v4 + 1) L = true
                                                        · rw [if_pos c36] at H
                                                          rw [zp_iaload (n := 119) (K := zx_pk (zK L) 119) (σ := r35.2) (q := 0) (m := L) (i := (v4 + 1)) (k := (v4 + 1).toNatClampNeg) (v := (r35.2 0 (v4 + 1).toNatClampNeg)) zd_264_753 rfl (by decide) c36 rfl rfl]
                                                          rw [zs_aload_n (ls := [some (.ref 0), some (.ref 2), some (.ref 82), some (.ref 118), some (.int v4), o5, o6]) zd_264_754 rfl]
                                                          rw [zs_iload (ls := [some (.ref 0), some (.ref 2), some (.ref 82), some (.ref 118), some (.int v4), o5, o6]) zd_264_755 rfl]
                                                          rw [zs_iconst (z := 2) zd_264_757 (by decide)]
                                                          rw [zp_iadd (x := v4) (y := 2) (z := (v4 + 2)) zd_264_758 rfl]
                                                          by_cases c37 : zx_ins (v4 + 2) L = true
                                                          · rw [if_pos c37] at H
                                                            rw [zp_iaload (n := 119) (K := zx_pk (zK L) 119) (σ := r35.2) (q := 0) (m := L) (i := (v4 + 2)) (k := (v4 + 2).toNatClampNeg) (v := (r35.2 0 (v4 + 2).toNatClampNeg)) zd_264_759 rfl (by decide) c37 rfl rfl]
                                                            rw [zs_aload_n (ls := [some (.ref 0), some (.ref 2), some (.ref 82), some (.ref 118), some (.int v4), o5, o6]) zd_264_760 rfl]
                                                            rw [zs_iload (ls := [some (.ref 0), some (.ref 2), some (.ref 82), some (.ref 118), some (.int v4), o5, o6]) zd_264_761 rfl]
                                                            rw [zs_iconst (z := 3) zd_264_763 (by decide)]
                                                            rw [zp_iadd (x := v4) (y := 3) (z := (v4 + 3)) zd_264_764 rfl]
                                                            by_cases c38 : zx_ins (v4 + 3) L = true
                                                            · rw [if_pos c38] at H
                                                              rw [zp_iaload (n := 119) (K := zx_pk (zK L) 119) (σ := r35.2) (q := 0) (m := L) (i := (v4 + 3)) (k := (v4 + 3).toNatClampNeg) (v := (r35.2 0 (v4 + 3).toNatClampNeg)) zd_264_765 rfl (by decide) c38 rfl rfl]
                                                              rw [zs_aload_n (ls := [some (.ref 0), some (.ref 2), some (.ref 82), some (.ref 118), some (.int v4), o5, o6]) zd_264_766 rfl]
                                                              rw [zs_iload (ls := [some (.ref 0), some (.ref 2), some (.ref 82), some (.ref 118), some (.int v4), o5, o6]) zd_264_767 rfl]
                                                              rw [zs_iconst (z := 4) zd_264_769 (by decide)]
                                                              rw [zp_iadd (x := v4) (y := 4) (z := (v4 + 4)) zd_264_770 rfl]
                                                              by_cases c39 : zx_ins (v4 + 4) L = true
                                                              · rw [if_pos c39] at H
                                                                rw [zp_iaload (n := 119) (K := zx_pk (zK L) 119) (σ := r35.2) (q := 0) (m := L) (i := (v4 + 4)) (k := (v4 + 4).toNatClampNeg) (v := (r35.2 0 (v4 + 4).toNatClampNeg)) zd_264_771 rfl (by decide) c39 rfl rfl]
                                                                obtain ⟨r40, hr40, H⟩ := Option.bind_eq_some_iff.mp H
                                                                rw [zp_callVi (x := r40.1) (st := [.int (r35.2 0 (v4 + 4).toNatClampNeg), .int (r35.2 0 (v4 + 3).toNatClampNeg), .int (r35.2 0 (v4 + 2).toNatClampNeg), .int (r35.2 0 (v4 + 1).toNatClampNeg), .ref 82]) (as := [.ref 82, .int (r35.2 0 (v4 + 1).toNatClampNeg), .int (r35.2 0 (v4 + 2).toNatClampNeg), .int (r35.2 0 (v4 + 3).toNatClampNeg), .int (r35.2 0 (v4 + 4).toNatClampNeg)]) (rest := []) (e := 4) zd_264_772 rfl (by decide +kernel) (by decide) rfl rfl (Nat.le_of_ble_eq_true rfl) (zx_rcb_ok rfl (show 82 < 119 by decide)) (Nat.le_of_ble_eq_true rfl) rfl (by decide) (zt_M_meet hr40)]
                                                                rw [zs_pop (a := .int r40.1) zd_264_775 rfl]
                                                                rw [zs_goto (t := 817) zd_264_776 rfl]
                                                                exact zt_Law_817 (hk23 := ih) H
                                                              · rw [if_neg c39] at H
                                                                cases H
                                                            · rw [if_neg c38] at H
                                                              cases H
                                                          · rw [if_neg c37] at H
                                                            cases H
                                                        · rw [if_neg c36] at H
                                                          cases H
                                                      · rw [if_neg c34] at H
                                                        cases H
                                                    · rw [if_neg c33] at H
                                                      cases H
                                                  · rw [if_neg c32] at H
                                                    cases H
                                                · rw [if_neg c31] at H
                                                  cases H
                                              · rw [if_neg c22] at H
                                                by_cases c23 : ((σ 0 v4.toNatClampNeg) &&& 31) = 20
                                                · rw [if_pos c23] at H
                                                  rw [zs_table (x := ((σ 0 v4.toNatClampNeg) &&& 31)) (off := 739) (t := 779) zd_264_40 (by rw [c23]; decide) rfl]
                                                  rw [zs_aload_n (ls := [some (.ref 0), some (.ref 2), some (.ref 82), some (.ref 118), some (.int v4), o5, o6]) zd_264_779 rfl]
                                                  rw [zs_aload_n (ls := [some (.ref 0), some (.ref 2), some (.ref 82), some (.ref 118), some (.int v4), o5, o6]) zd_264_780 rfl]
                                                  rw [zs_iload (ls := [some (.ref 0), some (.ref 2), some (.ref 82), some (.ref 118), some (.int v4), o5, o6]) zd_264_781 rfl]
                                                  rw [zs_iconst (z := 1) zd_264_783 (by decide)]
                                                  rw [zp_iadd (x := v4) (y := 1) (z := (v4 + 1)) zd_264_784 rfl]
                                                  by_cases c27 : zx_ins (v4 + 1) L = true
                                                  · rw [if_pos c27] at H
                                                    rw [zp_iaload (n := 119) (K := zx_pk (zK L) 119) (σ := σ) (q := 0) (m := L) (i := (v4 + 1)) (k := (v4 + 1).toNatClampNeg) (v := (σ 0 (v4 + 1).toNatClampNeg)) zd_264_785 rfl (by decide) c27 rfl rfl]
                                                    obtain ⟨r28, hr28, H⟩ := Option.bind_eq_some_iff.mp H
                                                    rw [zp_callVi (x := r28) (st := [.int (σ 0 (v4 + 1).toNatClampNeg), .ref 2]) (as := [.ref 2, .int (σ 0 (v4 + 1).toNatClampNeg)]) (rest := []) (e := 2) zd_264_786 rfl (by decide +kernel) (by decide) rfl rfl (Nat.le_of_ble_eq_true rfl) (zx_rcb_ok rfl (show 2 < 119 by decide)) (Nat.le_of_ble_eq_true rfl) rfl (by decide) (zt_X_guards hr28)]
                                                    rw [zs_pop (a := .int r28) zd_264_789 rfl]
                                                    rw [zs_aload_n (ls := [some (.ref 0), some (.ref 2), some (.ref 82), some (.ref 118), some (.int v4), o5, o6]) zd_264_790 rfl]
                                                    rw [zs_aload_n (ls := [some (.ref 0), some (.ref 2), some (.ref 82), some (.ref 118), some (.int v4), o5, o6]) zd_264_791 rfl]
                                                    rw [zs_iload (ls := [some (.ref 0), some (.ref 2), some (.ref 82), some (.ref 118), some (.int v4), o5, o6]) zd_264_792 rfl]
                                                    rw [zs_iconst (z := 1) zd_264_794 (by decide)]
                                                    rw [zp_iadd (x := v4) (y := 1) (z := (v4 + 1)) zd_264_795 rfl]
                                                    by_cases c29 : zx_ins (v4 + 1) L = true
                                                    · rw [if_pos c29] at H
                                                      rw [zp_iaload (n := 119) (K := zx_pk (zK L) 119) (σ := σ) (q := 0) (m := L) (i := (v4 + 1)) (k := (v4 + 1).toNatClampNeg) (v := (σ 0 (v4 + 1).toNatClampNeg)) zd_264_796 rfl (by decide) c29 rfl rfl]
                                                      obtain ⟨r30, hr30, H⟩ := Option.bind_eq_some_iff.mp H
                                                      rw [zp_callVi (x := r30.1) (st := [.int (σ 0 (v4 + 1).toNatClampNeg), .ref 82]) (as := [.ref 82, .int (σ 0 (v4 + 1).toNatClampNeg)]) (rest := []) (e := 1) zd_264_797 rfl (by decide +kernel) (by decide) rfl rfl (Nat.le_of_ble_eq_true rfl) (zx_rcb_ok rfl (show 82 < 119 by decide)) (Nat.le_of_ble_eq_true rfl) rfl (by decide) (zt_M_guards hr30)]
                                                      rw [zs_pop (a := .int r30.1) zd_264_800 rfl]
                                                      rw [zs_goto (t := 817) zd_264_801 rfl]
                                                      exact zt_Law_817 (hk23 := ih) H
                                                    · rw [if_neg c29] at H
                                                      cases H
                                                  · rw [if_neg c27] at H
                                                    cases H
                                                · rw [if_neg c23] at H
                                                  by_cases c24 : ((σ 0 v4.toNatClampNeg) &&& 31) = 21
                                                  · rw [if_pos c24] at H
                                                    rw [zs_table (x := ((σ 0 v4.toNatClampNeg) &&& 31)) (off := 764) (t := 804) zd_264_40 (by rw [c24]; decide) rfl]
                                                    rw [zs_aload_n (ls := [some (.ref 0), some (.ref 2), some (.ref 82), some (.ref 118), some (.int v4), o5, o6]) zd_264_804 rfl]
                                                    obtain ⟨r25, hr25, H⟩ := Option.bind_eq_some_iff.mp H
                                                    rw [zp_callVi (x := r25.1) (st := [.ref 2]) (as := [.ref 2]) (rest := []) (e := 33) zd_264_805 rfl (by decide +kernel) (by decide) rfl rfl (Nat.le_of_ble_eq_true rfl) (zx_rcb_ok rfl (show 2 < 119 by decide)) (Nat.le_of_ble_eq_true rfl) rfl (by decide) (zt_X_rings hr25)]
                                                    rw [zs_pop (a := .int r25.1) zd_264_808 rfl]
                                                    rw [zs_aload_n (ls := [some (.ref 0), some (.ref 2), some (.ref 82), some (.ref 118), some (.int v4), o5, o6]) zd_264_809 rfl]
                                                    obtain ⟨r26, hr26, H⟩ := Option.bind_eq_some_iff.mp H
                                                    rw [zp_callVi (x := r26.1) (st := [.ref 82]) (as := [.ref 82]) (rest := []) (e := 5) zd_264_810 rfl (by decide +kernel) (by decide) rfl rfl (Nat.le_of_ble_eq_true rfl) (zx_rcb_ok rfl (show 82 < 119 by decide)) (Nat.le_of_ble_eq_true rfl) rfl (by decide) (zt_M_rings hr26)]
                                                    rw [zs_pop (a := .int r26.1) zd_264_813 rfl]
                                                    rw [zs_goto (t := 817) zd_264_814 rfl]
                                                    exact zt_Law_817 (hk23 := ih) H
                                                  · rw [if_neg c24] at H
                                                    rw [zs_table (x := ((σ 0 v4.toNatClampNeg) &&& 31)) (off := 777) (t := 817) zd_264_40 (if_pos (by have e : ∀ z : Int32, ¬ ((σ 0 v4.toNatClampNeg) &&& 31) = z → ¬ (((σ 0 v4.toNatClampNeg) &&& 31) : Int32).toInt = z.toInt := fun z h q => h (Int32.toInt_inj.mp q); have q0 := e 0 c3; have q1 := e 1 c4; have q2 := e 2 c5; have q3 := e 3 c6; have q4 := e 4 c7; have q5 := e 5 c8; have q6 := e 6 c9; have q7 := e 7 c10; have q8 := e 8 c11; have q9 := e 9 c12; have q10 := e 10 c13; have q11 := e 11 c14; have q12 := e 12 c15; have q13 := e 13 c16; have q14 := e 14 c17; have q15 := e 15 c18; have q16 := e 16 c19; have q17 := e 17 c20; have q18 := e 18 c21; have q19 := e 19 c22; have q20 := e 20 c23; have q21 := e 21 c24; simp only [show (0 : Int32).toInt = 0 from rfl, show (1 : Int32).toInt = 1 from rfl, show (10 : Int32).toInt = 10 from rfl, show (11 : Int32).toInt = 11 from rfl, show (12 : Int32).toInt = 12 from rfl, show (13 : Int32).toInt = 13 from rfl, show (14 : Int32).toInt = 14 from rfl, show (15 : Int32).toInt = 15 from rfl, show (16 : Int32).toInt = 16 from rfl, show (17 : Int32).toInt = 17 from rfl, show (18 : Int32).toInt = 18 from rfl, show (19 : Int32).toInt = 19 from rfl, show (2 : Int32).toInt = 2 from rfl, show (20 : Int32).toInt = 20 from rfl, show (21 : Int32).toInt = 21 from rfl, show (3 : Int32).toInt = 3 from rfl, show (4 : Int32).toInt = 4 from rfl, show (5 : Int32).toInt = 5 from rfl, show (6 : Int32).toInt = 6 from rfl, show (7 : Int32).toInt = 7 from rfl, show (8 : Int32).toInt = 8 from rfl, show (9 : Int32).toInt = 9 from rfl] at q0 q1 q2 q3 q4 q5 q6 q7 q8 q9 q10 q11 q12 q13 q14 q15 q16 q17 q18 q19 q20 q21; omega)) rfl]
                                                    exact zt_Law_817 (hk23 := ih) H
      · rw [if_neg c2] at H
        cases H
