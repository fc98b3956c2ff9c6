set_option maxHeartbeats 8000000 in
set_option maxRecDepth 100000 in
theorem l_law_e {p : Program} {l : Launch} {e : Env} {R : Room} {s : State} {m : MethodId} {args : Array Value} {below : List Frame} {meth : Method} {c : Code} {Q : State → Prop} {K : KT} {A : Nat → Prop} {b LL : Nat} {xs : Nat → Int32} (C0 : LCx p m c s args K A b LL xs) (hl0 : l.stackTraces = false) (hRf : 12 ≤ R.frames ∧ 720 ≤ R.locals) (F : Nat) (ad : Nat → Nat) (S : TopS) (c0 : Nat) (hRc : c0 + 42 ≤ R.cells) (hRs : 6 * c0 + 252 ≤ R.slots) {o : TopS} (h : s_law_e F S = some o) (H : Heap) (locs : List Loc) (ls : Array Slot) (hP : va_P K.1 vC (wO K ad S ++ []) H) (hD : va_D A (wO K ad S ++ [])) (hS : va_S A s.heap H locs) (hl : lv_has ls 9 [(0, .ref b), (1, .ref (ad 0))]) (Kx : (∀ (H : Heap) (locs : List Loc) (ls : Array Slot), va_P K.1 vC (wO K ad o ++ []) H → va_D A (wO K ad o ++ []) → va_S A s.heap H locs → lv_has ls 9 [(0, .ref b), (1, .ref (ad 0))] → W p l e R s m args below meth c H locs (c0 + 42) (6 * c0 + 252) Q (F0 m 303 ls []))) : W p l e R s m args below meth c H locs c0 (6 * c0) Q (F0 m 8 ls []) := by
  obtain ⟨hx, hb, hml, hown, hts, hG, hG2, hZ, hX, hbl, hbA, hLL⟩ := id C0
  unfold s_law_e at h
  refine lv_aload_n (pc := 8) hx hb dL_law_8 rfl (lv_at hl 1 rfl) ?_
  refine rdA (pc := 9) (As := []) (rest := []) (r9 := []) hx hb hml hown hts hG hP (c_i_pointCount l K ad S) (wO_0 K ad _) (ci := 6) rfl g_Law_146 hd_Top_pointCount rfl ⟨by omega, by omega⟩ ⟨by omega, by omega⟩ hl rfl (Nat.le_of_ble_eq_true rfl) dL_law_9 ?_
  refine lv_if_ne (tgt := 108) (pc := 12) hx hb dL_law_12 (by decide) (fun c1 => ?_) (fun c1 => ?_)
  · have h := it_f c1 h
    cases h
  · have h := it_t c1 h
    refine lv_aload_n (pc := 15) hx hb dL_law_15 rfl (lv_at hl 1 rfl) ?_
    refine rdA (pc := 16) (As := []) (rest := []) (r9 := []) hx hb hml hown hts hG hP (c_i_triangleCount l K ad S) (wO_0 K ad _) (ci := 6) rfl g_Law_162 hd_Top_triangleCount rfl ⟨by omega, by omega⟩ ⟨by omega, by omega⟩ hl rfl (Nat.le_of_ble_eq_true rfl) dL_law_16 ?_
    refine lv_if_ne (tgt := 108) (pc := 19) hx hb dL_law_19 (by decide) (fun c2 => ?_) (fun c2 => ?_)
    · have h := it_f c2 h
      cases h
    · have h := it_t c2 h
      refine lv_aload_n (pc := 22) hx hb dL_law_22 rfl (lv_at hl 1 rfl) ?_
      refine rdA (pc := 23) (As := []) (rest := []) (r9 := []) hx hb hml hown hts hG hP (c_i_edgeCount l K ad S) (wO_0 K ad _) (ci := 6) rfl g_Law_165 hd_Top_edgeCount rfl ⟨by omega, by omega⟩ ⟨by omega, by omega⟩ hl rfl (Nat.le_of_ble_eq_true rfl) dL_law_23 ?_
      refine lv_if_ne (tgt := 108) (pc := 26) hx hb dL_law_26 (by decide) (fun c3 => ?_) (fun c3 => ?_)
      · have h := it_f c3 h
        cases h
      · have h := it_t c3 h
        refine lv_aload_n (pc := 29) hx hb dL_law_29 rfl (lv_at hl 1 rfl) ?_
        refine rdA (pc := 30) (As := []) (rest := []) (r9 := []) hx hb hml hown hts hG hP (c_i_hullSize l K ad S) (wO_0 K ad _) (ci := 6) rfl g_Law_168 hd_Top_hullSize rfl ⟨by omega, by omega⟩ ⟨by omega, by omega⟩ hl rfl (Nat.le_of_ble_eq_true rfl) dL_law_30 ?_
        refine lv_if_ne (tgt := 108) (pc := 33) hx hb dL_law_33 (by decide) (fun c4 => ?_) (fun c4 => ?_)
        · have h := it_f c4 h
          cases h
        · have h := it_t c4 h
          refine lv_aload_n (pc := 36) hx hb dL_law_36 rfl (lv_at hl 1 rfl) ?_
          obtain ⟨v5, h_v5, h⟩ := ob h
          refine lwA (na := 1) (pc := 37) (As := [.ref (ad 0)]) (rest := []) (r9 := []) hx hb hml hown hts hG2 hP hD hS hZ (c_h_mean l K hl0 ad F S h_v5) (wO_adr K ad _ _) (gSH qm_Law_206 qt_Law_mean qn_Law qc_Law_mean) (by decide +kernel) rfl ⟨by omega, by omega⟩ ⟨by omega, by omega⟩ hl rfl (Nat.le_of_ble_eq_true rfl) dL_law_37 (fun H locs hP hD hS => ?_)
          refine lv_ldc2d (v := (0xC08F480000000000 : UInt64)) (pc := 40) hx hb hown (hts _ qk_Law_93) dL_law_40 ?_
          refine lv_dcmp (pc := 43) hx hb dL_law_43 ?_
          refine lv_if_ne (tgt := 108) (pc := 44) hx hb dL_law_44 (by decide) (fun c6 => ?_) (fun c6 => ?_)
          · have h := it_f c6 h
            cases h
          · have h := it_t c6 h
            refine lv_aload_n (pc := 47) hx hb dL_law_47 rfl (lv_at hl 1 rfl) ?_
            refine lv_iconst (v := (0 : Int32)) (pc := 48) hx hb dL_law_48 (by decide) ?_
            obtain ⟨v7, h_v7, h⟩ := ob h
            refine lwA (na := 2) (pc := 49) (As := [.ref (ad 0), .int (0 : Int32)]) (rest := []) (r9 := []) hx hb hml hown hts hG2 hP hD hS hZ (c_h_square l K hl0 ad F v5.2 (0 : Int32) h_v7) (wO_adr K ad _ _) (gSH qm_Law_193 qt_Law_square qn_Law qc_Law_square) (by decide +kernel) rfl ⟨by omega, by omega⟩ ⟨by omega, by omega⟩ hl rfl (Nat.le_of_ble_eq_true rfl) dL_law_49 (fun H locs hP hD hS => ?_)
            refine lv_sipush (v := (-1002 : Int32)) (pc := 52) hx hb dL_law_52 (by decide) ?_
            refine lv_icmp_ne (tgt := 108) (pc := 55) hx hb dL_law_55 (by decide) (fun c8 => ?_) (fun c8 => ?_)
            · have h := it_f c8 h
              cases h
            · have h := it_t c8 h
              refine lv_aload_n (pc := 58) hx hb dL_law_58 rfl (lv_at hl 1 rfl) ?_
              refine lv_iconst (v := (0 : Int32)) (pc := 59) hx hb dL_law_59 (by decide) ?_
              refine lv_iconst (v := (0 : Int32)) (pc := 60) hx hb dL_law_60 (by decide) ?_
              obtain ⟨v9, h_v9, h⟩ := ob h
              refine lwA (na := 3) (pc := 61) (As := [.ref (ad 0), .int (0 : Int32), .int (0 : Int32)]) (rest := []) (r9 := []) hx hb hml hown hts hG2 hP hD hS hZ (c_h_kind l K hl0 ad F v7.2 (0 : Int32) (0 : Int32) h_v9) (wO_adr K ad _ _) (gSH qm_Law_255 qt_Law_kind qn_Law qc_Law_kind) (by decide +kernel) rfl ⟨by omega, by omega⟩ ⟨by omega, by omega⟩ hl rfl (Nat.le_of_ble_eq_true rfl) dL_law_61 (fun H locs hP hD hS => ?_)
              refine lv_if_ne (tgt := 108) (pc := 64) hx hb dL_law_64 (by decide) (fun c10 => ?_) (fun c10 => ?_)
              · have h := it_f c10 h
                cases h
              · have h := it_t c10 h
                refine lv_aload_n (pc := 67) hx hb dL_law_67 rfl (lv_at hl 1 rfl) ?_
                refine lv_iconst (v := (0 : Int32)) (pc := 68) hx hb dL_law_68 (by decide) ?_
                refine lv_iconst (v := (0 : Int32)) (pc := 69) hx hb dL_law_69 (by decide) ?_
                obtain ⟨v11, h_v11, h⟩ := ob h
                refine lwA (na := 3) (pc := 70) (As := [.ref (ad 0), .int (0 : Int32), .int (0 : Int32)]) (rest := []) (r9 := []) hx hb hml hown hts hG2 hP hD hS hZ (c_h_number l K hl0 ad F v9.2 (0 : Int32) (0 : Int32) h_v11) (wO_adr K ad _ _) (gSH qm_Law_198 qt_Law_number qn_Law qc_Law_number) (by decide +kernel) rfl ⟨by omega, by omega⟩ ⟨by omega, by omega⟩ hl rfl (Nat.le_of_ble_eq_true rfl) dL_law_70 (fun H locs hP hD hS => ?_)
                refine lv_sipush (v := (-1002 : Int32)) (pc := 73) hx hb dL_law_73 (by decide) ?_
                refine lv_icmp_ne (tgt := 108) (pc := 76) hx hb dL_law_76 (by decide) (fun c12 => ?_) (fun c12 => ?_)
                · have h := it_f c12 h
                  cases h
                · have h := it_t c12 h
                  refine lv_aload_n (pc := 79) hx hb dL_law_79 rfl (lv_at hl 1 rfl) ?_
                  obtain ⟨v13, h_v13, h⟩ := ob h
                  refine lwA (na := 1) (pc := 80) (As := [.ref (ad 0)]) (rest := []) (r9 := []) hx hb hml hown hts hG2 hP hD hS hZ (c_h_undo l K hl0 ad F v11.2 h_v13) (wO_adr K ad _ _) (gSH qm_Law_264 qt_Law_undo qn_Law qc_Law_undo) (by decide +kernel) rfl ⟨by omega, by omega⟩ ⟨by omega, by omega⟩ hl rfl (Nat.le_of_ble_eq_true rfl) dL_law_80 (fun H locs hP hD hS => ?_)
                  refine lv_sipush (v := (-1001 : Int32)) (pc := 83) hx hb dL_law_83 (by decide) ?_
                  refine lv_icmp_ne (tgt := 108) (pc := 86) hx hb dL_law_86 (by decide) (fun c14 => ?_) (fun c14 => ?_)
                  · have h := it_f c14 h
                    cases h
                  · have h := it_t c14 h
                    refine lv_aload_n (pc := 89) hx hb dL_law_89 rfl (lv_at hl 1 rfl) ?_
                    obtain ⟨v15, h_v15, h⟩ := ob h
                    refine lwA (na := 1) (pc := 90) (As := [.ref (ad 0)]) (rest := []) (r9 := []) hx hb hml hown hts hG2 hP hD hS hZ (c_h_restore l K hl0 ad F v13.2 h_v15) (wO_adr K ad _ _) (gSH qm_Law_267 qt_Law_restore qn_Law qc_Law_restore) (by decide +kernel) rfl ⟨by omega, by omega⟩ ⟨by omega, by omega⟩ hl rfl (Nat.le_of_ble_eq_true rfl) dL_law_90 (fun H locs hP hD hS => ?_)
                    refine lv_sipush (v := (-1001 : Int32)) (pc := 93) hx hb dL_law_93 (by decide) ?_
                    refine lv_icmp_ne (tgt := 108) (pc := 96) hx hb dL_law_96 (by decide) (fun c16 => ?_) (fun c16 => ?_)
                    · have h := it_f c16 h
                      cases h
                    · have h := it_t c16 h
                      refine lv_aload_n (pc := 99) hx hb dL_law_99 rfl (lv_at hl 1 rfl) ?_
                      refine lv_iconst (v := (5 : Int32)) (pc := 100) hx hb dL_law_100 (by decide) ?_
                      refine lv_iconst (v := (5 : Int32)) (pc := 101) hx hb dL_law_101 (by decide) ?_
                      obtain ⟨v17, h_v17, h⟩ := ob h
                      refine lwA (na := 3) (pc := 102) (As := [.ref (ad 0), .int (5 : Int32), .int (5 : Int32)]) (rest := []) (r9 := []) hx hb hml hown hts hG2 hP hD hS hZ (c_h_cavity l K hl0 ad F v15.2 (5 : Int32) (5 : Int32) h_v17) (wO_adr K ad _ _) (gSH qm_Law_196 qt_Law_cavity qn_Law qc_Law_cavity) (by decide +kernel) rfl ⟨by omega, by omega⟩ ⟨by omega, by omega⟩ hl rfl (Nat.le_of_ble_eq_true rfl) dL_law_102 (fun H locs hP hD hS => ?_)
                      refine lv_if_eq (tgt := 110) (pc := 105) hx hb dL_law_105 (by decide) (fun c18 => ?_) (fun c18 => ?_)
                      · have h := it_t c18 h
                        refine lv_aload_n (pc := 110) hx hb dL_law_110 rfl (lv_at hl 1 rfl) ?_
                        refine lv_iconst (v := (0 : Int32)) (pc := 111) hx hb dL_law_111 (by decide) ?_
                        refine lv_iconst (v := (0 : Int32)) (pc := 112) hx hb dL_law_112 (by decide) ?_
                        obtain ⟨v19, h_v19, h⟩ := ob h
                        refine lwA (na := 3) (pc := 113) (As := [.ref (ad 0), .int (0 : Int32), .int (0 : Int32)]) (rest := []) (r9 := []) hx hb hml hown hts hG2 hP hD hS hZ (c_h_point l K hl0 ad F v17.2 (0 : Int32) (0 : Int32) h_v19) (wO_adr K ad _ _) (gSH qm_Law_213 qt_Law_point qn_Law qc_Law_point) (by decide +kernel) rfl ⟨by omega, by omega⟩ ⟨by omega, by omega⟩ hl rfl (Nat.le_of_ble_eq_true rfl) dL_law_113 (fun H locs hP hD hS => ?_)
                        refine lv_if_ne (tgt := 301) (pc := 116) hx hb dL_law_116 (by decide) (fun c20 => ?_) (fun c20 => ?_)
                        · have h := it_f c20 h
                          cases h
                        · have h := it_t c20 h
                          refine lv_aload_n (pc := 119) hx hb dL_law_119 rfl (lv_at hl 1 rfl) ?_
                          refine lv_iconst (v := (4 : Int32)) (pc := 120) hx hb dL_law_120 (by decide) ?_
                          refine lv_iconst (v := (0 : Int32)) (pc := 121) hx hb dL_law_121 (by decide) ?_
                          obtain ⟨v21, h_v21, h⟩ := ob h
                          refine lwA (na := 3) (pc := 122) (As := [.ref (ad 0), .int (4 : Int32), .int (0 : Int32)]) (rest := []) (r9 := []) hx hb hml hown hts hG2 hP hD hS hZ (c_h_point l K hl0 ad F v19.2 (4 : Int32) (0 : Int32) h_v21) (wO_adr K ad _ _) (gSH qm_Law_213 qt_Law_point qn_Law qc_Law_point) (by decide +kernel) rfl ⟨by omega, by omega⟩ ⟨by omega, by omega⟩ hl rfl (Nat.le_of_ble_eq_true rfl) dL_law_122 (fun H locs hP hD hS => ?_)
                          refine lv_iconst (v := (1 : Int32)) (pc := 125) hx hb dL_law_125 (by decide) ?_
                          refine lv_icmp_ne (tgt := 301) (pc := 126) hx hb dL_law_126 (by decide) (fun c22 => ?_) (fun c22 => ?_)
                          · have h := it_f c22 h
                            cases h
                          · have h := it_t c22 h
                            refine lv_aload_n (pc := 129) hx hb dL_law_129 rfl (lv_at hl 1 rfl) ?_
                            refine rdA (pc := 130) (As := []) (rest := []) (r9 := []) hx hb hml hown hts hG hP (c_i_edgeCount l K ad v21.2) (wO_0 K ad _) (ci := 6) rfl g_Law_165 hd_Top_edgeCount rfl ⟨by omega, by omega⟩ ⟨by omega, by omega⟩ hl rfl (Nat.le_of_ble_eq_true rfl) dL_law_130 ?_
                            refine lv_iconst (v := (1 : Int32)) (pc := 133) hx hb dL_law_133 (by decide) ?_
                            refine lv_icmp_ne (tgt := 301) (pc := 134) hx hb dL_law_134 (by decide) (fun c23 => ?_) (fun c23 => ?_)
                            · have h := it_f c23 h
                              cases h
                            · have h := it_t c23 h
                              refine lv_aload_n (pc := 137) hx hb dL_law_137 rfl (lv_at hl 1 rfl) ?_
                              refine lv_iconst (v := (4 : Int32)) (pc := 138) hx hb dL_law_138 (by decide) ?_
                              refine lv_iconst (v := (4 : Int32)) (pc := 139) hx hb dL_law_139 (by decide) ?_
                              obtain ⟨v24, h_v24, h⟩ := ob h
                              refine lwA (na := 3) (pc := 140) (As := [.ref (ad 0), .int (4 : Int32), .int (4 : Int32)]) (rest := []) (r9 := []) hx hb hml hown hts hG2 hP hD hS hZ (c_h_point l K hl0 ad F v21.2 (4 : Int32) (4 : Int32) h_v24) (wO_adr K ad _ _) (gSH qm_Law_213 qt_Law_point qn_Law qc_Law_point) (by decide +kernel) rfl ⟨by omega, by omega⟩ ⟨by omega, by omega⟩ hl rfl (Nat.le_of_ble_eq_true rfl) dL_law_140 (fun H locs hP hD hS => ?_)
                              refine lv_iconst (v := (2 : Int32)) (pc := 143) hx hb dL_law_143 (by decide) ?_
                              refine lv_icmp_ne (tgt := 301) (pc := 144) hx hb dL_law_144 (by decide) (fun c25 => ?_) (fun c25 => ?_)
                              · have h := it_f c25 h
                                cases h
                              · have h := it_t c25 h
                                refine lv_aload_n (pc := 147) hx hb dL_law_147 rfl (lv_at hl 1 rfl) ?_
                                refine rdA (pc := 148) (As := []) (rest := []) (r9 := []) hx hb hml hown hts hG hP (c_i_triangleCount l K ad v24.2) (wO_0 K ad _) (ci := 6) rfl g_Law_162 hd_Top_triangleCount rfl ⟨by omega, by omega⟩ ⟨by omega, by omega⟩ hl rfl (Nat.le_of_ble_eq_true rfl) dL_law_148 ?_
                                refine lv_iconst (v := (1 : Int32)) (pc := 151) hx hb dL_law_151 (by decide) ?_
                                refine lv_icmp_ne (tgt := 301) (pc := 152) hx hb dL_law_152 (by decide) (fun c26 => ?_) (fun c26 => ?_)
                                · have h := it_f c26 h
                                  cases h
                                · have h := it_t c26 h
                                  refine lv_aload_n (pc := 155) hx hb dL_law_155 rfl (lv_at hl 1 rfl) ?_
                                  refine lv_iconst (v := (0 : Int32)) (pc := 156) hx hb dL_law_156 (by decide) ?_
                                  refine lv_iconst (v := (4 : Int32)) (pc := 157) hx hb dL_law_157 (by decide) ?_
                                  obtain ⟨v27, h_v27, h⟩ := ob h
                                  refine lwA (na := 3) (pc := 158) (As := [.ref (ad 0), .int (0 : Int32), .int (4 : Int32)]) (rest := []) (r9 := []) hx hb hml hown hts hG2 hP hD hS hZ (c_h_point l K hl0 ad F v24.2 (0 : Int32) (4 : Int32) h_v27) (wO_adr K ad _ _) (gSH qm_Law_213 qt_Law_point qn_Law qc_Law_point) (by decide +kernel) rfl ⟨by omega, by omega⟩ ⟨by omega, by omega⟩ hl rfl (Nat.le_of_ble_eq_true rfl) dL_law_158 (fun H locs hP hD hS => ?_)
                                  refine lv_iconst (v := (3 : Int32)) (pc := 161) hx hb dL_law_161 (by decide) ?_
                                  refine lv_icmp_ne (tgt := 301) (pc := 162) hx hb dL_law_162 (by decide) (fun c28 => ?_) (fun c28 => ?_)
                                  · have h := it_f c28 h
                                    cases h
                                  · have h := it_t c28 h
                                    refine lv_aload_n (pc := 165) hx hb dL_law_165 rfl (lv_at hl 1 rfl) ?_
                                    refine rdA (pc := 166) (As := []) (rest := []) (r9 := []) hx hb hml hown hts hG hP (c_i_triangleCount l K ad v27.2) (wO_0 K ad _) (ci := 6) rfl g_Law_162 hd_Top_triangleCount rfl ⟨by omega, by omega⟩ ⟨by omega, by omega⟩ hl rfl (Nat.le_of_ble_eq_true rfl) dL_law_166 ?_
                                    refine lv_iconst (v := (2 : Int32)) (pc := 169) hx hb dL_law_169 (by decide) ?_
                                    refine lv_icmp_ne (tgt := 301) (pc := 170) hx hb dL_law_170 (by decide) (fun c29 => ?_) (fun c29 => ?_)
                                    · have h := it_f c29 h
                                      cases h
                                    · have h := it_t c29 h
                                      refine lv_aload_n (pc := 173) hx hb dL_law_173 rfl (lv_at hl 1 rfl) ?_
                                      refine lv_iconst (v := (0 : Int32)) (pc := 174) hx hb dL_law_174 (by decide) ?_
                                      refine lv_iconst (v := (2 : Int32)) (pc := 175) hx hb dL_law_175 (by decide) ?_
                                      obtain ⟨v30, h_v30, h⟩ := ob h
                                      refine lwA (na := 3) (pc := 176) (As := [.ref (ad 0), .int (0 : Int32), .int (2 : Int32)]) (rest := []) (r9 := []) hx hb hml hown hts hG2 hP hD hS hZ (c_h_between l K hl0 ad F v27.2 (0 : Int32) (2 : Int32) h_v30) (wO_adr K ad _ _) (gSH qm_Law_240 qt_Law_between qn_Law qc_Law_between) (by decide +kernel) rfl ⟨by omega, by omega⟩ ⟨by omega, by omega⟩ hl rfl (Nat.le_of_ble_eq_true rfl) dL_law_176 (fun H locs hP hD hS => ?_)
                                      refine lv_if_lt (tgt := 301) (pc := 179) hx hb dL_law_179 (by decide) (fun c31 => ?_) (fun c31 => ?_)
                                      · have h := it_t c31 h
                                        cases h
                                      · have h := it_f c31 h
                                        refine lv_aload_n (pc := 182) hx hb dL_law_182 rfl (lv_at hl 1 rfl) ?_
                                        refine lv_iconst (v := (1 : Int32)) (pc := 183) hx hb dL_law_183 (by decide) ?_
                                        refine lv_iconst (v := (3 : Int32)) (pc := 184) hx hb dL_law_184 (by decide) ?_
                                        obtain ⟨v32, h_v32, h⟩ := ob h
                                        refine lwA (na := 3) (pc := 185) (As := [.ref (ad 0), .int (1 : Int32), .int (3 : Int32)]) (rest := []) (r9 := []) hx hb hml hown hts hG2 hP hD hS hZ (c_h_between l K hl0 ad F v30.2 (1 : Int32) (3 : Int32) h_v32) (wO_adr K ad _ _) (gSH qm_Law_240 qt_Law_between qn_Law qc_Law_between) (by decide +kernel) rfl ⟨by omega, by omega⟩ ⟨by omega, by omega⟩ hl rfl (Nat.le_of_ble_eq_true rfl) dL_law_185 (fun H locs hP hD hS => ?_)
                                        refine lv_if_ge (tgt := 301) (pc := 188) hx hb dL_law_188 (by decide) (fun c33 => ?_) (fun c33 => ?_)
                                        · have h := it_t c33 h
                                          cases h
                                        · have h := it_f c33 h
                                          refine lv_aload_n (pc := 191) hx hb dL_law_191 rfl (lv_at hl 1 rfl) ?_
                                          refine rdA (pc := 192) (As := []) (rest := []) (r9 := []) hx hb hml hown hts hG hP (c_i_hullSize l K ad v32.2) (wO_0 K ad _) (ci := 6) rfl g_Law_168 hd_Top_hullSize rfl ⟨by omega, by omega⟩ ⟨by omega, by omega⟩ hl rfl (Nat.le_of_ble_eq_true rfl) dL_law_192 ?_
                                          refine lv_iconst (v := (4 : Int32)) (pc := 195) hx hb dL_law_195 (by decide) ?_
                                          refine lv_icmp_ne (tgt := 301) (pc := 196) hx hb dL_law_196 (by decide) (fun c34 => ?_) (fun c34 => ?_)
                                          · have h := it_f c34 h
                                            cases h
                                          · have h := it_t c34 h
                                            refine lv_aload_n (pc := 199) hx hb dL_law_199 rfl (lv_at hl 1 rfl) ?_
                                            refine lv_iconst (v := (1 : Int32)) (pc := 200) hx hb dL_law_200 (by decide) ?_
                                            refine lv_iconst (v := (3 : Int32)) (pc := 201) hx hb dL_law_201 (by decide) ?_
                                            obtain ⟨v35, h_v35, h⟩ := ob h
                                            refine lwA (na := 3) (pc := 202) (As := [.ref (ad 0), .int (1 : Int32), .int (3 : Int32)]) (rest := []) (r9 := []) hx hb hml hown hts hG2 hP hD hS hZ (c_h_tie l K hl0 ad F v32.2 (1 : Int32) (3 : Int32) h_v35) (wO_adr K ad _ _) (gSH qm_Law_223 qt_Law_tie qn_Law qc_Law_tie) (by decide +kernel) rfl ⟨by omega, by omega⟩ ⟨by omega, by omega⟩ hl rfl (Nat.le_of_ble_eq_true rfl) dL_law_202 (fun H locs hP hD hS => ?_)
                                            refine lv_if_ne (tgt := 301) (pc := 205) hx hb dL_law_205 (by decide) (fun c36 => ?_) (fun c36 => ?_)
                                            · have h := it_f c36 h
                                              cases h
                                            · have h := it_t c36 h
                                              refine lv_aload_n (pc := 208) hx hb dL_law_208 rfl (lv_at hl 1 rfl) ?_
                                              refine lv_iconst (v := (1 : Int32)) (pc := 209) hx hb dL_law_209 (by decide) ?_
                                              refine lv_iconst (v := (3 : Int32)) (pc := 210) hx hb dL_law_210 (by decide) ?_
                                              obtain ⟨v37, h_v37, h⟩ := ob h
                                              refine lwA (na := 3) (pc := 211) (As := [.ref (ad 0), .int (1 : Int32), .int (3 : Int32)]) (rest := []) (r9 := []) hx hb hml hown hts hG2 hP hD hS hZ (c_h_between l K hl0 ad F v35.2 (1 : Int32) (3 : Int32) h_v37) (wO_adr K ad _ _) (gSH qm_Law_240 qt_Law_between qn_Law qc_Law_between) (by decide +kernel) rfl ⟨by omega, by omega⟩ ⟨by omega, by omega⟩ hl rfl (Nat.le_of_ble_eq_true rfl) dL_law_211 (fun H locs hP hD hS => ?_)
                                              refine lv_if_lt (tgt := 301) (pc := 214) hx hb dL_law_214 (by decide) (fun c38 => ?_) (fun c38 => ?_)
                                              · have h := it_t c38 h
                                                cases h
                                              · have h := it_f c38 h
                                                refine lv_aload_n (pc := 217) hx hb dL_law_217 rfl (lv_at hl 1 rfl) ?_
                                                obtain ⟨v39, h_v39, h⟩ := ob h
                                                refine rdA (pc := 218) (As := []) (rest := []) (r9 := []) hx hb hml hown hts hG hP (c_i_forcedConstraints l K ad v37.2 F h_v39) (wO_0 K ad _) (ci := 6) rfl g_Law_201 hd_Top_forcedConstraints rfl ⟨by omega, by omega⟩ ⟨by omega, by omega⟩ hl rfl (Nat.le_of_ble_eq_true rfl) dL_law_218 ?_
                                                refine lv_iconst (v := (1 : Int32)) (pc := 221) hx hb dL_law_221 (by decide) ?_
                                                refine lv_icmp_ne (tgt := 301) (pc := 222) hx hb dL_law_222 (by decide) (fun c40 => ?_) (fun c40 => ?_)
                                                · have h := it_f c40 h
                                                  cases h
                                                · have h := it_t c40 h
                                                  refine lv_aload_n (pc := 225) hx hb dL_law_225 rfl (lv_at hl 1 rfl) ?_
                                                  refine lv_iconst (v := (0 : Int32)) (pc := 226) hx hb dL_law_226 (by decide) ?_
                                                  obtain ⟨v41, h_v41, h⟩ := ob h
                                                  refine lwA (na := 2) (pc := 227) (As := [.ref (ad 0), .int (0 : Int32)]) (rest := []) (r9 := []) hx hb hml hown hts hG2 hP hD hS hZ (c_h_effect l K hl0 ad F v37.2 (0 : Int32) h_v41) (wO_adr K ad _ _) (gSH qm_Law_191 qt_Law_effect qn_Law qc_Law_effect) (by decide +kernel) rfl ⟨by omega, by omega⟩ ⟨by omega, by omega⟩ hl rfl (Nat.le_of_ble_eq_true rfl) dL_law_227 (fun H locs hP hD hS => ?_)
                                                  refine lv_iconst (v := (1 : Int32)) (pc := 230) hx hb dL_law_230 (by decide) ?_
                                                  refine lv_icmp_ne (tgt := 301) (pc := 231) hx hb dL_law_231 (by decide) (fun c42 => ?_) (fun c42 => ?_)
                                                  · have h := it_f c42 h
                                                    cases h
                                                  · have h := it_t c42 h
                                                    refine lv_aload_n (pc := 234) hx hb dL_law_234 rfl (lv_at hl 1 rfl) ?_
                                                    refine lv_iconst (v := (2 : Int32)) (pc := 235) hx hb dL_law_235 (by decide) ?_
                                                    refine lv_iconst (v := (2 : Int32)) (pc := 236) hx hb dL_law_236 (by decide) ?_
                                                    obtain ⟨v43, h_v43, h⟩ := ob h
                                                    refine lwA (na := 3) (pc := 237) (As := [.ref (ad 0), .int (2 : Int32), .int (2 : Int32)]) (rest := []) (r9 := []) hx hb hml hown hts hG2 hP hD hS hZ (c_h_point l K hl0 ad F v41.2 (2 : Int32) (2 : Int32) h_v43) (wO_adr K ad _ _) (gSH qm_Law_213 qt_Law_point qn_Law qc_Law_point) (by decide +kernel) rfl ⟨by omega, by omega⟩ ⟨by omega, by omega⟩ hl rfl (Nat.le_of_ble_eq_true rfl) dL_law_237 (fun H locs hP hD hS => ?_)
                                                    refine lv_sipush (v := (-1003 : Int32)) (pc := 240) hx hb dL_law_240 (by decide) ?_
                                                    refine lv_icmp_ne (tgt := 301) (pc := 243) hx hb dL_law_243 (by decide) (fun c44 => ?_) (fun c44 => ?_)
                                                    · have h := it_f c44 h
                                                      cases h
                                                    · have h := it_t c44 h
                                                      refine lv_aload_n (pc := 246) hx hb dL_law_246 rfl (lv_at hl 1 rfl) ?_
                                                      refine lv_iconst (v := (0 : Int32)) (pc := 247) hx hb dL_law_247 (by decide) ?_
                                                      obtain ⟨v45, h_v45, h⟩ := ob h
                                                      refine lwA (na := 2) (pc := 248) (As := [.ref (ad 0), .int (0 : Int32)]) (rest := []) (r9 := []) hx hb hml hown hts hG2 hP hD hS hZ (c_h_untie l K hl0 ad F v43.2 (0 : Int32) h_v45) (wO_adr K ad _ _) (gSH qm_Law_234 qt_Law_untie qn_Law qc_Law_untie) (by decide +kernel) rfl ⟨by omega, by omega⟩ ⟨by omega, by omega⟩ hl rfl (Nat.le_of_ble_eq_true rfl) dL_law_248 (fun H locs hP hD hS => ?_)
                                                      refine lv_if_ne (tgt := 301) (pc := 251) hx hb dL_law_251 (by decide) (fun c46 => ?_) (fun c46 => ?_)
                                                      · have h := it_f c46 h
                                                        cases h
                                                      · have h := it_t c46 h
                                                        refine lv_aload_n (pc := 254) hx hb dL_law_254 rfl (lv_at hl 1 rfl) ?_
                                                        refine lv_iconst (v := (2 : Int32)) (pc := 255) hx hb dL_law_255 (by decide) ?_
                                                        refine lv_iconst (v := (2 : Int32)) (pc := 256) hx hb dL_law_256 (by decide) ?_
                                                        obtain ⟨v47, h_v47, h⟩ := ob h
                                                        refine lwA (na := 3) (pc := 257) (As := [.ref (ad 0), .int (2 : Int32), .int (2 : Int32)]) (rest := []) (r9 := []) hx hb hml hown hts hG2 hP hD hS hZ (c_h_point l K hl0 ad F v45.2 (2 : Int32) (2 : Int32) h_v47) (wO_adr K ad _ _) (gSH qm_Law_213 qt_Law_point qn_Law qc_Law_point) (by decide +kernel) rfl ⟨by omega, by omega⟩ ⟨by omega, by omega⟩ hl rfl (Nat.le_of_ble_eq_true rfl) dL_law_257 (fun H locs hP hD hS => ?_)
                                                        refine lv_iconst (v := (4 : Int32)) (pc := 260) hx hb dL_law_260 (by decide) ?_
                                                        refine lv_icmp_ne (tgt := 301) (pc := 261) hx hb dL_law_261 (by decide) (fun c48 => ?_) (fun c48 => ?_)
                                                        · have h := it_f c48 h
                                                          cases h
                                                        · have h := it_t c48 h
                                                          refine lv_aload_n (pc := 264) hx hb dL_law_264 rfl (lv_at hl 1 rfl) ?_
                                                          refine rdA (pc := 265) (As := []) (rest := []) (r9 := []) hx hb hml hown hts hG hP (c_i_triangleCount l K ad v47.2) (wO_0 K ad _) (ci := 6) rfl g_Law_162 hd_Top_triangleCount rfl ⟨by omega, by omega⟩ ⟨by omega, by omega⟩ hl rfl (Nat.le_of_ble_eq_true rfl) dL_law_265 ?_
                                                          refine lv_iconst (v := (4 : Int32)) (pc := 268) hx hb dL_law_268 (by decide) ?_
                                                          refine lv_icmp_ne (tgt := 301) (pc := 269) hx hb dL_law_269 (by decide) (fun c49 => ?_) (fun c49 => ?_)
                                                          · have h := it_f c49 h
                                                            cases h
                                                          · have h := it_t c49 h
                                                            refine lv_aload_n (pc := 272) hx hb dL_law_272 rfl (lv_at hl 1 rfl) ?_
                                                            refine lv_iconst (v := (2 : Int32)) (pc := 273) hx hb dL_law_273 (by decide) ?_
                                                            obtain ⟨v50, h_v50, h⟩ := ob h
                                                            refine lwA (na := 2) (pc := 274) (As := [.ref (ad 0), .int (2 : Int32)]) (rest := []) (r9 := []) hx hb hml hown hts hG2 hP hD hS hZ (c_h_square l K hl0 ad F v47.2 (2 : Int32) h_v50) (wO_adr K ad _ _) (gSH qm_Law_193 qt_Law_square qn_Law qc_Law_square) (by decide +kernel) rfl ⟨by omega, by omega⟩ ⟨by omega, by omega⟩ hl rfl (Nat.le_of_ble_eq_true rfl) dL_law_274 (fun H locs hP hD hS => ?_)
                                                            refine lv_bipush (v := (32 : Int32)) (pc := 277) hx hb dL_law_277 (by decide) ?_
                                                            refine lv_icmp_ne (tgt := 301) (pc := 279) hx hb dL_law_279 (by decide) (fun c51 => ?_) (fun c51 => ?_)
                                                            · have h := it_f c51 h
                                                              cases h
                                                            · have h := it_t c51 h
                                                              refine lv_aload_n (pc := 282) hx hb dL_law_282 rfl (lv_at hl 1 rfl) ?_
                                                              refine lv_iconst (v := (4 : Int32)) (pc := 283) hx hb dL_law_283 (by decide) ?_
                                                              obtain ⟨v52, h_v52, h⟩ := ob h
                                                              refine lwA (na := 2) (pc := 284) (As := [.ref (ad 0), .int (4 : Int32)]) (rest := []) (r9 := []) hx hb hml hown hts hG2 hP hD hS hZ (c_h_hole l K hl0 ad F v50.2 (4 : Int32) h_v52) (wO_adr K ad _ _) (gSH qm_Law_186 qt_Law_hole qn_Law qc_Law_hole) (by decide +kernel) rfl ⟨by omega, by omega⟩ ⟨by omega, by omega⟩ hl rfl (Nat.le_of_ble_eq_true rfl) dL_law_284 (fun H locs hP hD hS => ?_)
                                                              refine lv_iconst (v := (2 : Int32)) (pc := 287) hx hb dL_law_287 (by decide) ?_
                                                              refine lv_icmp_ne (tgt := 301) (pc := 288) hx hb dL_law_288 (by decide) (fun c53 => ?_) (fun c53 => ?_)
                                                              · have h := it_f c53 h
                                                                cases h
                                                              · have h := it_t c53 h
                                                                refine lv_aload_n (pc := 291) hx hb dL_law_291 rfl (lv_at hl 1 rfl) ?_
                                                                refine lv_iconst (v := (0 : Int32)) (pc := 292) hx hb dL_law_292 (by decide) ?_
                                                                refine lv_iconst (v := (2 : Int32)) (pc := 293) hx hb dL_law_293 (by decide) ?_
                                                                obtain ⟨v54, h_v54, h⟩ := ob h
                                                                refine lwA (na := 3) (pc := 294) (As := [.ref (ad 0), .int (0 : Int32), .int (2 : Int32)]) (rest := []) (r9 := []) hx hb hml hown hts hG2 hP hD hS hZ (c_h_crossings l K hl0 ad F v52.2 (0 : Int32) (2 : Int32) h_v54) (wO_adr K ad _ _) (gSH qm_Law_261 qt_Law_crossings qn_Law qc_Law_crossings) (by decide +kernel) rfl ⟨by omega, by omega⟩ ⟨by omega, by omega⟩ hl rfl (Nat.le_of_ble_eq_true rfl) dL_law_294 (fun H locs hP hD hS => ?_)
                                                                refine lv_iconst (v := (2 : Int32)) (pc := 297) hx hb dL_law_297 (by decide) ?_
                                                                refine lv_icmp_eq (tgt := 303) (pc := 298) hx hb dL_law_298 (by decide) (fun c55 => ?_) (fun c55 => ?_)
                                                                · have h := it_t c55 h
                                                                  obtain rfl := Option.some.inj h
                                                                  refine W.widen (k := c0 + 42) (n := 6 * c0 + 252) (by omega) (by omega) ?_
                                                                  exact Kx H locs ls hP hD hS (lv_sub hl [0, 1] rfl)
                                                                · have h := it_f c55 h
                                                                  cases h
                      · have h := it_f c18 h
                        cases h
