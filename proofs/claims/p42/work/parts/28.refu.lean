set_option maxHeartbeats 8000000 in
set_option maxRecDepth 100000 in
theorem c_L_refused (l : Launch) (K : KT) (hl0 : l.stackTraces = false) (ad : Nat → Nat) (F : Nat) (S : TopS)  {o : TopS} (h : s_L_refused F S  = some o) : Mk l K 11 31905 yL_refused cL_refused 6 .boolean [.ref (ad 0)] (wO K ad S) (.int 1) (wO K ad o) := by
  refine Mk.of (by decide +kernel) rfl (Nat.le_of_ble_eq_true rfl) ?_
  unfold s_L_refused at h
  intro p e s m below meth c C0 H locs hP hD hS ls hl
  obtain ⟨⟨hx, hb, hml, hown, hts, hG, hr, hlk⟩, hG2, hZ⟩ := id C0
  have hl : lv_has ls 6 [(0, .ref (ad 0))] := hl
  have hRf : 11 ≤ (rmX 11 31905).frames ∧ 660 ≤ (rmX 11 31905).locals := ⟨Nat.le_of_ble_eq_true rfl, Nat.le_of_ble_eq_true rfl⟩
  have hRc : (rmX 11 31905).cells = 31905 := rfl
  have hRs : (rmX 11 31905).slots = 191430 := rfl
  refine lv_aload_n (pc := 0) hx hb dL_refused_0 rfl (lv_at hl 0 rfl) ?_
  obtain ⟨v1, h_v1, h⟩ := ob h
  refine mkA (na := 1) (pc := 1) (As := [.ref (ad 0)]) (rest := []) (r9 := []) hx hb hml hown hts hG2 hP hD hS hZ (c_L_asks l K hl0 ad F S h_v1) (wO_adr K ad _ _) g_Law_237 hd_Law_asks rfl ⟨by omega, by omega⟩ ⟨by omega, by omega⟩ hl rfl (Nat.le_of_ble_eq_true rfl) dL_refused_1 (fun H locs hP hD hS => ?_)
  refine lv_lstore_n (pc := 4) (lv' := [(1, .long v1.1), (0, .ref (ad 0))]) hx hb dL_refused_4 rfl hl (by decide) rfl (fun ls hl => ?_)
  refine lv_aload_n (pc := 5) hx hb dL_refused_5 rfl (lv_at hl 1 rfl) ?_
  refine rdA (pc := 6) (As := []) (rest := []) (r9 := []) hx hb hml hown hts hG hP (c_i_pointCount l K ad v1.2) (wO_0 K ad _) (ci := 6) rfl g_Law_146 hd_Top_pointCount rfl ⟨by omega, by omega⟩ ⟨by omega, by omega⟩ hl rfl (Nat.le_of_ble_eq_true rfl) dL_refused_6 ?_
  refine lv_istore_n (pc := 9) (lv' := [(3, .int (i_pointCount v1.2)), (1, .long v1.1), (0, .ref (ad 0))]) hx hb dL_refused_9 rfl hl (by decide) rfl (fun ls hl => ?_)
  refine lv_aload_n (pc := 10) hx hb dL_refused_10 rfl (lv_at hl 2 rfl) ?_
  refine rdA (pc := 11) (As := []) (rest := []) (r9 := []) hx hb hml hown hts hG hP (c_i_constraintCount l K ad v1.2) (wO_0 K ad _) (ci := 6) rfl g_Law_149 hd_Top_constraintCount rfl ⟨by omega, by omega⟩ ⟨by omega, by omega⟩ hl rfl (Nat.le_of_ble_eq_true rfl) dL_refused_11 ?_
  refine lv_istore (pc := 14) (lv' := [(4, .int (i_constraintCount v1.2)), (3, .int (i_pointCount v1.2)), (1, .long v1.1), (0, .ref (ad 0))]) hx hb dL_refused_14 hl (by decide) rfl (fun ls hl => ?_)
  refine lv_aload_n (pc := 16) hx hb dL_refused_16 rfl (lv_at hl 3 rfl) ?_
  refine lv_iconst (v := (-1 : Int32)) (pc := 17) hx hb dL_refused_17 (by decide) ?_
  refine lv_iconst (v := (0 : Int32)) (pc := 18) hx hb dL_refused_18 (by decide) ?_
  obtain ⟨v2, h_v2, h⟩ := ob h
  refine lwA (na := 3) (pc := 19) (As := [.ref (ad 0), .int (-1 : Int32), .int (0 : Int32)]) (rest := []) (r9 := []) hx hb hml hown hts hG2 hP hD hS hZ (c_h_point l K hl0 ad F v1.2 (-1 : Int32) (0 : Int32) h_v2) (wO_adr K ad _ _) (gSH qm_Law_213 qt_Law_point qn_Law qc_Law_point) (by decide +kernel) rfl ⟨by omega, by omega⟩ ⟨by omega, by omega⟩ hl rfl (Nat.le_of_ble_eq_true rfl) dL_refused_19 (fun H locs hP hD hS => ?_)
  refine lv_sipush (v := (-1001 : Int32)) (pc := 22) hx hb dL_refused_22 (by decide) ?_
  refine lv_icmp_ne (tgt := 394) (pc := 25) hx hb dL_refused_25 (by decide) (fun c3 => ?_) (fun c3 => ?_)
  · have h := it_f c3 h
    cases h
  · have h := it_t c3 h
    refine lv_aload_n (pc := 28) hx hb dL_refused_28 rfl (lv_at hl 3 rfl) ?_
    refine lv_iconst (v := (0 : Int32)) (pc := 29) hx hb dL_refused_29 (by decide) ?_
    refine lv_bipush (v := (101 : Int32)) (pc := 30) hx hb dL_refused_30 (by decide) ?_
    obtain ⟨v4, h_v4, h⟩ := ob h
    refine lwA (na := 3) (pc := 32) (As := [.ref (ad 0), .int (0 : Int32), .int (101 : Int32)]) (rest := []) (r9 := []) hx hb hml hown hts hG2 hP hD hS hZ (c_h_point l K hl0 ad F v2.2 (0 : Int32) (101 : Int32) h_v4) (wO_adr K ad _ _) (gSH qm_Law_213 qt_Law_point qn_Law qc_Law_point) (by decide +kernel) rfl ⟨by omega, by omega⟩ ⟨by omega, by omega⟩ hl rfl (Nat.le_of_ble_eq_true rfl) dL_refused_32 (fun H locs hP hD hS => ?_)
    refine lv_sipush (v := (-1001 : Int32)) (pc := 35) hx hb dL_refused_35 (by decide) ?_
    refine lv_icmp_ne (tgt := 394) (pc := 38) hx hb dL_refused_38 (by decide) (fun c5 => ?_) (fun c5 => ?_)
    · have h := it_f c5 h
      cases h
    · have h := it_t c5 h
      refine lv_aload_n (pc := 41) hx hb dL_refused_41 rfl (lv_at hl 3 rfl) ?_
      refine lv_iload_n (pc := 42) hx hb dL_refused_42 rfl (lv_at hl 1 rfl) ?_
      obtain ⟨v6, h_v6, h⟩ := ob h
      refine lwA (na := 2) (pc := 43) (As := [.ref (ad 0), .int (i_pointCount v1.2)]) (rest := []) (r9 := []) hx hb hml hown hts hG2 hP hD hS hZ (c_h_remove l K hl0 ad F v4.2 (i_pointCount v1.2) h_v6) (wO_adr K ad _ _) (gSH qm_Law_216 qt_Law_remove qn_Law qc_Law_remove) (by decide +kernel) rfl ⟨by omega, by omega⟩ ⟨by omega, by omega⟩ hl rfl (Nat.le_of_ble_eq_true rfl) dL_refused_43 (fun H locs hP hD hS => ?_)
      refine lv_sipush (v := (-1001 : Int32)) (pc := 46) hx hb dL_refused_46 (by decide) ?_
      refine lv_icmp_ne (tgt := 394) (pc := 49) hx hb dL_refused_49 (by decide) (fun c7 => ?_) (fun c7 => ?_)
      · have h := it_f c7 h
        cases h
      · have h := it_t c7 h
        refine lv_aload_n (pc := 52) hx hb dL_refused_52 rfl (lv_at hl 3 rfl) ?_
        refine lv_iconst (v := (-1 : Int32)) (pc := 53) hx hb dL_refused_53 (by decide) ?_
        obtain ⟨v8, h_v8, h⟩ := ob h
        refine lwA (na := 2) (pc := 54) (As := [.ref (ad 0), .int (-1 : Int32)]) (rest := []) (r9 := []) hx hb hml hown hts hG2 hP hD hS hZ (c_h_remove l K hl0 ad F v6.2 (-1 : Int32) h_v8) (wO_adr K ad _ _) (gSH qm_Law_216 qt_Law_remove qn_Law qc_Law_remove) (by decide +kernel) rfl ⟨by omega, by omega⟩ ⟨by omega, by omega⟩ hl rfl (Nat.le_of_ble_eq_true rfl) dL_refused_54 (fun H locs hP hD hS => ?_)
        refine lv_sipush (v := (-1001 : Int32)) (pc := 57) hx hb dL_refused_57 (by decide) ?_
        refine lv_icmp_ne (tgt := 394) (pc := 60) hx hb dL_refused_60 (by decide) (fun c9 => ?_) (fun c9 => ?_)
        · have h := it_f c9 h
          cases h
        · have h := it_t c9 h
          refine lv_aload_n (pc := 63) hx hb dL_refused_63 rfl (lv_at hl 3 rfl) ?_
          refine lv_iload_n (pc := 64) hx hb dL_refused_64 rfl (lv_at hl 1 rfl) ?_
          refine lv_iconst (v := (0 : Int32)) (pc := 65) hx hb dL_refused_65 (by decide) ?_
          refine lv_iconst (v := (0 : Int32)) (pc := 66) hx hb dL_refused_66 (by decide) ?_
          obtain ⟨v10, h_v10, h⟩ := ob h
          refine lwA (na := 4) (pc := 67) (As := [.ref (ad 0), .int (i_pointCount v1.2), .int (0 : Int32), .int (0 : Int32)]) (rest := []) (r9 := []) hx hb hml hown hts hG2 hP hD hS hZ (c_h_move l K hl0 ad F v8.2 (i_pointCount v1.2) (0 : Int32) (0 : Int32) h_v10) (wO_adr K ad _ _) (gSH qm_Law_219 qt_Law_move qn_Law qc_Law_move) (by decide +kernel) rfl ⟨by omega, by omega⟩ ⟨by omega, by omega⟩ hl rfl (Nat.le_of_ble_eq_true rfl) dL_refused_67 (fun H locs hP hD hS => ?_)
          refine lv_sipush (v := (-1001 : Int32)) (pc := 70) hx hb dL_refused_70 (by decide) ?_
          refine lv_icmp_ne (tgt := 394) (pc := 73) hx hb dL_refused_73 (by decide) (fun c11 => ?_) (fun c11 => ?_)
          · have h := it_f c11 h
            cases h
          · have h := it_t c11 h
            refine lv_aload_n (pc := 76) hx hb dL_refused_76 rfl (lv_at hl 3 rfl) ?_
            refine lv_iconst (v := (-1 : Int32)) (pc := 77) hx hb dL_refused_77 (by decide) ?_
            refine lv_iconst (v := (0 : Int32)) (pc := 78) hx hb dL_refused_78 (by decide) ?_
            obtain ⟨v12, h_v12, h⟩ := ob h
            refine lwA (na := 3) (pc := 79) (As := [.ref (ad 0), .int (-1 : Int32), .int (0 : Int32)]) (rest := []) (r9 := []) hx hb hml hown hts hG2 hP hD hS hZ (c_h_coordinate l K hl0 ad F v10.2 (-1 : Int32) (0 : Int32) h_v12) (wO_adr K ad _ _) (gSH qm_Law_152 qt_Law_coordinate qn_Law qc_Law_coordinate) (by decide +kernel) rfl ⟨by omega, by omega⟩ ⟨by omega, by omega⟩ hl rfl (Nat.le_of_ble_eq_true rfl) dL_refused_79 (fun H locs hP hD hS => ?_)
            refine lv_sipush (v := (-1001 : Int32)) (pc := 82) hx hb dL_refused_82 (by decide) ?_
            refine lv_icmp_ne (tgt := 394) (pc := 85) hx hb dL_refused_85 (by decide) (fun c13 => ?_) (fun c13 => ?_)
            · have h := it_f c13 h
              cases h
            · have h := it_t c13 h
              refine lv_aload_n (pc := 88) hx hb dL_refused_88 rfl (lv_at hl 3 rfl) ?_
              refine lv_iload_n (pc := 89) hx hb dL_refused_89 rfl (lv_at hl 1 rfl) ?_
              refine lv_iconst (v := (0 : Int32)) (pc := 90) hx hb dL_refused_90 (by decide) ?_
              obtain ⟨v14, h_v14, h⟩ := ob h
              refine lwA (na := 3) (pc := 91) (As := [.ref (ad 0), .int (i_pointCount v1.2), .int (0 : Int32)]) (rest := []) (r9 := []) hx hb hml hown hts hG2 hP hD hS hZ (c_h_tie l K hl0 ad F v12.2 (i_pointCount v1.2) (0 : Int32) h_v14) (wO_adr K ad _ _) (gSH qm_Law_223 qt_Law_tie qn_Law qc_Law_tie) (by decide +kernel) rfl ⟨by omega, by omega⟩ ⟨by omega, by omega⟩ hl rfl (Nat.le_of_ble_eq_true rfl) dL_refused_91 (fun H locs hP hD hS => ?_)
              refine lv_sipush (v := (-1001 : Int32)) (pc := 94) hx hb dL_refused_94 (by decide) ?_
              refine lv_icmp_ne (tgt := 394) (pc := 97) hx hb dL_refused_97 (by decide) (fun c15 => ?_) (fun c15 => ?_)
              · have h := it_f c15 h
                cases h
              · have h := it_t c15 h
                refine lv_aload_n (pc := 100) hx hb dL_refused_100 rfl (lv_at hl 3 rfl) ?_
                refine lv_iconst (v := (0 : Int32)) (pc := 101) hx hb dL_refused_101 (by decide) ?_
                refine lv_iconst (v := (-1 : Int32)) (pc := 102) hx hb dL_refused_102 (by decide) ?_
                obtain ⟨v16, h_v16, h⟩ := ob h
                refine lwA (na := 3) (pc := 103) (As := [.ref (ad 0), .int (0 : Int32), .int (-1 : Int32)]) (rest := []) (r9 := []) hx hb hml hown hts hG2 hP hD hS hZ (c_h_tie l K hl0 ad F v14.2 (0 : Int32) (-1 : Int32) h_v16) (wO_adr K ad _ _) (gSH qm_Law_223 qt_Law_tie qn_Law qc_Law_tie) (by decide +kernel) rfl ⟨by omega, by omega⟩ ⟨by omega, by omega⟩ hl rfl (Nat.le_of_ble_eq_true rfl) dL_refused_103 (fun H locs hP hD hS => ?_)
                refine lv_sipush (v := (-1001 : Int32)) (pc := 106) hx hb dL_refused_106 (by decide) ?_
                refine lv_icmp_ne (tgt := 394) (pc := 109) hx hb dL_refused_109 (by decide) (fun c17 => ?_) (fun c17 => ?_)
                · have h := it_f c17 h
                  cases h
                · have h := it_t c17 h
                  refine lv_aload_n (pc := 112) hx hb dL_refused_112 rfl (lv_at hl 3 rfl) ?_
                  refine lv_iload (pc := 113) hx hb dL_refused_113 (lv_at hl 0 rfl) ?_
                  obtain ⟨v18, h_v18, h⟩ := ob h
                  refine lwA (na := 2) (pc := 115) (As := [.ref (ad 0), .int (i_constraintCount v1.2)]) (rest := []) (r9 := []) hx hb hml hown hts hG2 hP hD hS hZ (c_h_untie l K hl0 ad F v16.2 (i_constraintCount v1.2) h_v18) (wO_adr K ad _ _) (gSH qm_Law_234 qt_Law_untie qn_Law qc_Law_untie) (by decide +kernel) rfl ⟨by omega, by omega⟩ ⟨by omega, by omega⟩ hl rfl (Nat.le_of_ble_eq_true rfl) dL_refused_115 (fun H locs hP hD hS => ?_)
                  refine lv_sipush (v := (-1001 : Int32)) (pc := 118) hx hb dL_refused_118 (by decide) ?_
                  refine lv_icmp_ne (tgt := 394) (pc := 121) hx hb dL_refused_121 (by decide) (fun c19 => ?_) (fun c19 => ?_)
                  · have h := it_f c19 h
                    cases h
                  · have h := it_t c19 h
                    refine lv_aload_n (pc := 124) hx hb dL_refused_124 rfl (lv_at hl 3 rfl) ?_
                    refine lv_iload (pc := 125) hx hb dL_refused_125 (lv_at hl 0 rfl) ?_
                    refine lv_iconst (v := (0 : Int32)) (pc := 127) hx hb dL_refused_127 (by decide) ?_
                    obtain ⟨v20, h_v20, h⟩ := ob h
                    refine lwA (na := 3) (pc := 128) (As := [.ref (ad 0), .int (i_constraintCount v1.2), .int (0 : Int32)]) (rest := []) (r9 := []) hx hb hml hown hts hG2 hP hD hS hZ (c_h_tied l K hl0 ad F v18.2 (i_constraintCount v1.2) (0 : Int32) h_v20) (wO_adr K ad _ _) (gSH qm_Law_155 qt_Law_tied qn_Law qc_Law_tied) (by decide +kernel) rfl ⟨by omega, by omega⟩ ⟨by omega, by omega⟩ hl rfl (Nat.le_of_ble_eq_true rfl) dL_refused_128 (fun H locs hP hD hS => ?_)
                    refine lv_sipush (v := (-1001 : Int32)) (pc := 131) hx hb dL_refused_131 (by decide) ?_
                    refine lv_icmp_ne (tgt := 394) (pc := 134) hx hb dL_refused_134 (by decide) (fun c21 => ?_) (fun c21 => ?_)
                    · have h := it_f c21 h
                      cases h
                    · have h := it_t c21 h
                      refine lv_aload_n (pc := 137) hx hb dL_refused_137 rfl (lv_at hl 3 rfl) ?_
                      obtain ⟨v22, h_v22, h⟩ := ob h
                      refine wrA (pc := 138) (As := []) (rest := []) (r9 := []) hx hb hml hown hts hG hP hD hS (c_i_readInput l K ad v20.2 F h_v22) (wO_adr K ad _ _) (wO_0 K ad _) (ci := 6) rfl g_Law_60 hd_Top_readInput rfl ⟨by omega, by omega⟩ ⟨by omega, by omega⟩ hl rfl (Nat.le_of_ble_eq_true rfl) dL_refused_138 (fun H locs hP hD hS => ?_)
                      refine lv_bipush (v := (-100 : Int32)) (pc := 141) hx hb dL_refused_141 (by decide) ?_
                      refine lv_icmp_ne (tgt := 394) (pc := 143) hx hb dL_refused_143 (by decide) (fun c23 => ?_) (fun c23 => ?_)
                      · have h := it_f c23 h
                        cases h
                      · have h := it_t c23 h
                        refine lv_aload_n (pc := 146) hx hb dL_refused_146 rfl (lv_at hl 3 rfl) ?_
                        refine lv_iconst (v := (-1 : Int32)) (pc := 147) hx hb dL_refused_147 (by decide) ?_
                        refine lv_iconst (v := (0 : Int32)) (pc := 148) hx hb dL_refused_148 (by decide) ?_
                        obtain ⟨v24, h_v24, h⟩ := ob h
                        refine lwA (na := 3) (pc := 149) (As := [.ref (ad 0), .int (-1 : Int32), .int (0 : Int32)]) (rest := []) (r9 := []) hx hb hml hown hts hG2 hP hD hS hZ (c_h_corner l K hl0 ad F v22.2 (-1 : Int32) (0 : Int32) h_v24) (wO_adr K ad _ _) (gSH qm_Law_174 qt_Law_corner qn_Law qc_Law_corner) (by decide +kernel) rfl ⟨by omega, by omega⟩ ⟨by omega, by omega⟩ hl rfl (Nat.le_of_ble_eq_true rfl) dL_refused_149 (fun H locs hP hD hS => ?_)
                        refine lv_sipush (v := (-1001 : Int32)) (pc := 152) hx hb dL_refused_152 (by decide) ?_
                        refine lv_icmp_ne (tgt := 394) (pc := 155) hx hb dL_refused_155 (by decide) (fun c25 => ?_) (fun c25 => ?_)
                        · have h := it_f c25 h
                          cases h
                        · have h := it_t c25 h
                          refine lv_aload_n (pc := 158) hx hb dL_refused_158 rfl (lv_at hl 3 rfl) ?_
                          refine lv_aload_n (pc := 159) hx hb dL_refused_159 rfl (lv_at hl 3 rfl) ?_
                          refine rdA (pc := 160) (As := []) (rest := [.ref (ad 0)]) (r9 := []) hx hb hml hown hts hG hP (c_i_triangleCount l K ad v24.2) (wO_0 K ad _) (ci := 6) rfl g_Law_162 hd_Top_triangleCount rfl ⟨by omega, by omega⟩ ⟨by omega, by omega⟩ hl rfl (Nat.le_of_ble_eq_true rfl) dL_refused_160 ?_
                          refine lv_iconst (v := (0 : Int32)) (pc := 163) hx hb dL_refused_163 (by decide) ?_
                          obtain ⟨v26, h_v26, h⟩ := ob h
                          refine lwA (na := 3) (pc := 164) (As := [.ref (ad 0), .int (i_triangleCount v24.2), .int (0 : Int32)]) (rest := []) (r9 := []) hx hb hml hown hts hG2 hP hD hS hZ (c_h_beyond l K hl0 ad F v24.2 (i_triangleCount v24.2) (0 : Int32) h_v26) (wO_adr K ad _ _) (gSH qm_Law_176 qt_Law_beyond qn_Law qc_Law_beyond) (by decide +kernel) rfl ⟨by omega, by omega⟩ ⟨by omega, by omega⟩ hl rfl (Nat.le_of_ble_eq_true rfl) dL_refused_164 (fun H locs hP hD hS => ?_)
                          refine lv_sipush (v := (-1001 : Int32)) (pc := 167) hx hb dL_refused_167 (by decide) ?_
                          refine lv_icmp_ne (tgt := 394) (pc := 170) hx hb dL_refused_170 (by decide) (fun c27 => ?_) (fun c27 => ?_)
                          · have h := it_f c27 h
                            cases h
                          · have h := it_t c27 h
                            refine lv_aload_n (pc := 173) hx hb dL_refused_173 rfl (lv_at hl 3 rfl) ?_
                            refine lv_iconst (v := (-1 : Int32)) (pc := 174) hx hb dL_refused_174 (by decide) ?_
                            refine lv_iconst (v := (0 : Int32)) (pc := 175) hx hb dL_refused_175 (by decide) ?_
                            obtain ⟨v28, h_v28, h⟩ := ob h
                            refine lwA (na := 3) (pc := 176) (As := [.ref (ad 0), .int (-1 : Int32), .int (0 : Int32)]) (rest := []) (r9 := []) hx hb hml hown hts hG2 hP hD hS hZ (c_h_end l K hl0 ad F v26.2 (-1 : Int32) (0 : Int32) h_v28) (wO_adr K ad _ _) (gSH qm_Law_178 qt_Law_end qn_Law qc_Law_end) (by decide +kernel) rfl ⟨by omega, by omega⟩ ⟨by omega, by omega⟩ hl rfl (Nat.le_of_ble_eq_true rfl) dL_refused_176 (fun H locs hP hD hS => ?_)
                            refine lv_sipush (v := (-1001 : Int32)) (pc := 179) hx hb dL_refused_179 (by decide) ?_
                            refine lv_icmp_ne (tgt := 394) (pc := 182) hx hb dL_refused_182 (by decide) (fun c29 => ?_) (fun c29 => ?_)
                            · have h := it_f c29 h
                              cases h
                            · have h := it_t c29 h
                              refine lv_aload_n (pc := 185) hx hb dL_refused_185 rfl (lv_at hl 3 rfl) ?_
                              refine lv_iload_n (pc := 186) hx hb dL_refused_186 rfl (lv_at hl 1 rfl) ?_
                              refine lv_iconst (v := (0 : Int32)) (pc := 187) hx hb dL_refused_187 (by decide) ?_
                              obtain ⟨v30, h_v30, h⟩ := ob h
                              refine lwA (na := 3) (pc := 188) (As := [.ref (ad 0), .int (i_pointCount v1.2), .int (0 : Int32)]) (rest := []) (r9 := []) hx hb hml hown hts hG2 hP hD hS hZ (c_h_between l K hl0 ad F v28.2 (i_pointCount v1.2) (0 : Int32) h_v30) (wO_adr K ad _ _) (gSH qm_Law_240 qt_Law_between qn_Law qc_Law_between) (by decide +kernel) rfl ⟨by omega, by omega⟩ ⟨by omega, by omega⟩ hl rfl (Nat.le_of_ble_eq_true rfl) dL_refused_188 (fun H locs hP hD hS => ?_)
                              refine lv_sipush (v := (-1001 : Int32)) (pc := 191) hx hb dL_refused_191 (by decide) ?_
                              refine lv_icmp_ne (tgt := 394) (pc := 194) hx hb dL_refused_194 (by decide) (fun c31 => ?_) (fun c31 => ?_)
                              · have h := it_f c31 h
                                cases h
                              · have h := it_t c31 h
                                refine lv_aload_n (pc := 197) hx hb dL_refused_197 rfl (lv_at hl 3 rfl) ?_
                                refine lv_iconst (v := (-1 : Int32)) (pc := 198) hx hb dL_refused_198 (by decide) ?_
                                obtain ⟨v32, h_v32, h⟩ := ob h
                                refine lwA (na := 2) (pc := 199) (As := [.ref (ad 0), .int (-1 : Int32)]) (rest := []) (r9 := []) hx hb hml hown hts hG2 hP hD hS hZ (c_h_degree l K hl0 ad F v30.2 (-1 : Int32) h_v32) (wO_adr K ad _ _) (gSH qm_Law_184 qt_Law_degree qn_Law qc_Law_degree) (by decide +kernel) rfl ⟨by omega, by omega⟩ ⟨by omega, by omega⟩ hl rfl (Nat.le_of_ble_eq_true rfl) dL_refused_199 (fun H locs hP hD hS => ?_)
                                refine lv_sipush (v := (-1001 : Int32)) (pc := 202) hx hb dL_refused_202 (by decide) ?_
                                refine lv_icmp_ne (tgt := 394) (pc := 205) hx hb dL_refused_205 (by decide) (fun c33 => ?_) (fun c33 => ?_)
                                · have h := it_f c33 h
                                  cases h
                                · have h := it_t c33 h
                                  refine lv_aload_n (pc := 208) hx hb dL_refused_208 rfl (lv_at hl 3 rfl) ?_
                                  refine lv_iload_n (pc := 209) hx hb dL_refused_209 rfl (lv_at hl 1 rfl) ?_
                                  refine lv_iconst (v := (0 : Int32)) (pc := 210) hx hb dL_refused_210 (by decide) ?_
                                  obtain ⟨v34, h_v34, h⟩ := ob h
                                  refine lwA (na := 3) (pc := 211) (As := [.ref (ad 0), .int (i_pointCount v1.2), .int (0 : Int32)]) (rest := []) (r9 := []) hx hb hml hown hts hG2 hP hD hS hZ (c_h_neighbour l K hl0 ad F v32.2 (i_pointCount v1.2) (0 : Int32) h_v34) (wO_adr K ad _ _) (gSH qm_Law_243 qt_Law_neighbour qn_Law qc_Law_neighbour) (by decide +kernel) rfl ⟨by omega, by omega⟩ ⟨by omega, by omega⟩ hl rfl (Nat.le_of_ble_eq_true rfl) dL_refused_211 (fun H locs hP hD hS => ?_)
                                  refine lv_sipush (v := (-1001 : Int32)) (pc := 214) hx hb dL_refused_214 (by decide) ?_
                                  refine lv_icmp_ne (tgt := 394) (pc := 217) hx hb dL_refused_217 (by decide) (fun c35 => ?_) (fun c35 => ?_)
                                  · have h := it_f c35 h
                                    cases h
                                  · have h := it_t c35 h
                                    refine lv_aload_n (pc := 220) hx hb dL_refused_220 rfl (lv_at hl 3 rfl) ?_
                                    refine lv_iconst (v := (-1 : Int32)) (pc := 221) hx hb dL_refused_221 (by decide) ?_
                                    obtain ⟨v36, h_v36, h⟩ := ob h
                                    refine lwA (na := 2) (pc := 222) (As := [.ref (ad 0), .int (-1 : Int32)]) (rest := []) (r9 := []) hx hb hml hown hts hG2 hP hD hS hZ (c_h_hull l K hl0 ad F v34.2 (-1 : Int32) h_v36) (wO_adr K ad _ _) (gSH qm_Law_188 qt_Law_hull qn_Law qc_Law_hull) (by decide +kernel) rfl ⟨by omega, by omega⟩ ⟨by omega, by omega⟩ hl rfl (Nat.le_of_ble_eq_true rfl) dL_refused_222 (fun H locs hP hD hS => ?_)
                                    refine lv_sipush (v := (-1001 : Int32)) (pc := 225) hx hb dL_refused_225 (by decide) ?_
                                    refine lv_icmp_ne (tgt := 394) (pc := 228) hx hb dL_refused_228 (by decide) (fun c37 => ?_) (fun c37 => ?_)
                                    · have h := it_f c37 h
                                      cases h
                                    · have h := it_t c37 h
                                      refine lv_aload_n (pc := 231) hx hb dL_refused_231 rfl (lv_at hl 3 rfl) ?_
                                      refine lv_iconst (v := (-1 : Int32)) (pc := 232) hx hb dL_refused_232 (by decide) ?_
                                      obtain ⟨v38, h_v38, h⟩ := ob h
                                      refine lwA (na := 2) (pc := 233) (As := [.ref (ad 0), .int (-1 : Int32)]) (rest := []) (r9 := []) hx hb hml hown hts hG2 hP hD hS hZ (c_h_area l K hl0 ad F v36.2 (-1 : Int32) h_v38) (wO_adr K ad _ _) (gSH qm_Law_171 qt_Law_area qn_Law qc_Law_area) (by decide +kernel) rfl ⟨by omega, by omega⟩ ⟨by omega, by omega⟩ hl rfl (Nat.le_of_ble_eq_true rfl) dL_refused_233 (fun H locs hP hD hS => ?_)
                                      refine lv_sipush (v := (-1001 : Int32)) (pc := 236) hx hb dL_refused_236 (by decide) ?_
                                      refine lv_icmp_ne (tgt := 394) (pc := 239) hx hb dL_refused_239 (by decide) (fun c39 => ?_) (fun c39 => ?_)
                                      · have h := it_f c39 h
                                        cases h
                                      · have h := it_t c39 h
                                        refine lv_aload_n (pc := 242) hx hb dL_refused_242 rfl (lv_at hl 3 rfl) ?_
                                        refine lv_iconst (v := (-1 : Int32)) (pc := 243) hx hb dL_refused_243 (by decide) ?_
                                        obtain ⟨v40, h_v40, h⟩ := ob h
                                        refine lwA (na := 2) (pc := 244) (As := [.ref (ad 0), .int (-1 : Int32)]) (rest := []) (r9 := []) hx hb hml hown hts hG2 hP hD hS hZ (c_h_share l K hl0 ad F v38.2 (-1 : Int32) h_v40) (wO_adr K ad _ _) (gSH qm_Law_245 qt_Law_share qn_Law qc_Law_share) (by decide +kernel) rfl ⟨by omega, by omega⟩ ⟨by omega, by omega⟩ hl rfl (Nat.le_of_ble_eq_true rfl) dL_refused_244 (fun H locs hP hD hS => ?_)
                                        refine lv_ldc2d (v := (0xC08F480000000000 : UInt64)) (pc := 247) hx hb hown (hts _ qk_Law_93) dL_refused_247 ?_
                                        refine lv_dcmp (pc := 250) hx hb dL_refused_250 ?_
                                        refine lv_if_ne (tgt := 394) (pc := 251) hx hb dL_refused_251 (by decide) (fun c41 => ?_) (fun c41 => ?_)
                                        · have h := it_f c41 h
                                          cases h
                                        · have h := it_t c41 h
                                          refine lv_aload_n (pc := 254) hx hb dL_refused_254 rfl (lv_at hl 3 rfl) ?_
                                          refine lv_iconst (v := (3 : Int32)) (pc := 255) hx hb dL_refused_255 (by decide) ?_
                                          obtain ⟨v42, h_v42, h⟩ := ob h
                                          refine lwA (na := 2) (pc := 256) (As := [.ref (ad 0), .int (3 : Int32)]) (rest := []) (r9 := []) hx hb hml hown hts hG2 hP hD hS hZ (c_h_square l K hl0 ad F v40.2 (3 : Int32) h_v42) (wO_adr K ad _ _) (gSH qm_Law_193 qt_Law_square qn_Law qc_Law_square) (by decide +kernel) rfl ⟨by omega, by omega⟩ ⟨by omega, by omega⟩ hl rfl (Nat.le_of_ble_eq_true rfl) dL_refused_256 (fun H locs hP hD hS => ?_)
                                          refine lv_sipush (v := (-1001 : Int32)) (pc := 259) hx hb dL_refused_259 (by decide) ?_
                                          refine lv_icmp_ne (tgt := 394) (pc := 262) hx hb dL_refused_262 (by decide) (fun c43 => ?_) (fun c43 => ?_)
                                          · have h := it_f c43 h
                                            cases h
                                          · have h := it_t c43 h
                                            refine lv_aload_n (pc := 265) hx hb dL_refused_265 rfl (lv_at hl 3 rfl) ?_
                                            refine lv_iconst (v := (0 : Int32)) (pc := 266) hx hb dL_refused_266 (by decide) ?_
                                            refine lv_iconst (v := (0 : Int32)) (pc := 267) hx hb dL_refused_267 (by decide) ?_
                                            refine lv_iload_n (pc := 268) hx hb dL_refused_268 rfl (lv_at hl 1 rfl) ?_
                                            obtain ⟨v44, h_v44, h⟩ := ob h
                                            refine lwA (na := 4) (pc := 269) (As := [.ref (ad 0), .int (0 : Int32), .int (0 : Int32), .int (i_pointCount v1.2)]) (rest := []) (r9 := []) hx hb hml hown hts hG2 hP hD hS hZ (c_h_turn l K hl0 ad F v42.2 (0 : Int32) (0 : Int32) (i_pointCount v1.2) h_v44) (wO_adr K ad _ _) (gSH qm_Law_249 qt_Law_turn qn_Law qc_Law_turn) (by decide +kernel) rfl ⟨by omega, by omega⟩ ⟨by omega, by omega⟩ hl rfl (Nat.le_of_ble_eq_true rfl) dL_refused_269 (fun H locs hP hD hS => ?_)
                                            refine lv_sipush (v := (-1001 : Int32)) (pc := 272) hx hb dL_refused_272 (by decide) ?_
                                            refine lv_icmp_ne (tgt := 394) (pc := 275) hx hb dL_refused_275 (by decide) (fun c45 => ?_) (fun c45 => ?_)
                                            · have h := it_f c45 h
                                              cases h
                                            · have h := it_t c45 h
                                              refine lv_aload_n (pc := 278) hx hb dL_refused_278 rfl (lv_at hl 3 rfl) ?_
                                              refine lv_iload_n (pc := 279) hx hb dL_refused_279 rfl (lv_at hl 1 rfl) ?_
                                              refine lv_iconst (v := (0 : Int32)) (pc := 280) hx hb dL_refused_280 (by decide) ?_
                                              refine lv_iconst (v := (0 : Int32)) (pc := 281) hx hb dL_refused_281 (by decide) ?_
                                              refine lv_iconst (v := (0 : Int32)) (pc := 282) hx hb dL_refused_282 (by decide) ?_
                                              obtain ⟨v46, h_v46, h⟩ := ob h
                                              refine lwA (na := 5) (pc := 283) (As := [.ref (ad 0), .int (i_pointCount v1.2), .int (0 : Int32), .int (0 : Int32), .int (0 : Int32)]) (rest := []) (r9 := []) hx hb hml hown hts hG2 hP hD hS hZ (c_h_circle l K hl0 ad F v44.2 (i_pointCount v1.2) (0 : Int32) (0 : Int32) (0 : Int32) h_v46) (wO_adr K ad _ _) (gSH qm_Law_251 qt_Law_circle qn_Law qc_Law_circle) (by decide +kernel) rfl ⟨by omega, by omega⟩ ⟨by omega, by omega⟩ hl rfl (Nat.le_of_ble_eq_true rfl) dL_refused_283 (fun H locs hP hD hS => ?_)
                                              refine lv_sipush (v := (-1001 : Int32)) (pc := 286) hx hb dL_refused_286 (by decide) ?_
                                              refine lv_icmp_ne (tgt := 394) (pc := 289) hx hb dL_refused_289 (by decide) (fun c47 => ?_) (fun c47 => ?_)
                                              · have h := it_f c47 h
                                                cases h
                                              · have h := it_t c47 h
                                                refine lv_aload_n (pc := 292) hx hb dL_refused_292 rfl (lv_at hl 3 rfl) ?_
                                                refine lv_iconst (v := (-1 : Int32)) (pc := 293) hx hb dL_refused_293 (by decide) ?_
                                                obtain ⟨v48, h_v48, h⟩ := ob h
                                                refine lwA (na := 2) (pc := 294) (As := [.ref (ad 0), .int (-1 : Int32)]) (rest := []) (r9 := []) hx hb hml hown hts hG2 hP hD hS hZ (c_h_good l K hl0 ad F v46.2 (-1 : Int32) h_v48) (wO_adr K ad _ _) (gSH qm_Law_181 qt_Law_good qn_Law qc_Law_good) (by decide +kernel) rfl ⟨by omega, by omega⟩ ⟨by omega, by omega⟩ hl rfl (Nat.le_of_ble_eq_true rfl) dL_refused_294 (fun H locs hP hD hS => ?_)
                                                refine lv_sipush (v := (-1001 : Int32)) (pc := 297) hx hb dL_refused_297 (by decide) ?_
                                                refine lv_icmp_ne (tgt := 394) (pc := 300) hx hb dL_refused_300 (by decide) (fun c49 => ?_) (fun c49 => ?_)
                                                · have h := it_f c49 h
                                                  cases h
                                                · have h := it_t c49 h
                                                  refine lv_aload_n (pc := 303) hx hb dL_refused_303 rfl (lv_at hl 3 rfl) ?_
                                                  refine lv_iconst (v := (-1 : Int32)) (pc := 304) hx hb dL_refused_304 (by decide) ?_
                                                  refine lv_iconst (v := (0 : Int32)) (pc := 305) hx hb dL_refused_305 (by decide) ?_
                                                  obtain ⟨v50, h_v50, h⟩ := ob h
                                                  refine lwA (na := 3) (pc := 306) (As := [.ref (ad 0), .int (-1 : Int32), .int (0 : Int32)]) (rest := []) (r9 := []) hx hb hml hown hts hG2 hP hD hS hZ (c_h_kind l K hl0 ad F v48.2 (-1 : Int32) (0 : Int32) h_v50) (wO_adr K ad _ _) (gSH qm_Law_255 qt_Law_kind qn_Law qc_Law_kind) (by decide +kernel) rfl ⟨by omega, by omega⟩ ⟨by omega, by omega⟩ hl rfl (Nat.le_of_ble_eq_true rfl) dL_refused_306 (fun H locs hP hD hS => ?_)
                                                  refine lv_sipush (v := (-1001 : Int32)) (pc := 309) hx hb dL_refused_309 (by decide) ?_
                                                  refine lv_icmp_ne (tgt := 394) (pc := 312) hx hb dL_refused_312 (by decide) (fun c51 => ?_) (fun c51 => ?_)
                                                  · have h := it_f c51 h
                                                    cases h
                                                  · have h := it_t c51 h
                                                    refine lv_aload_n (pc := 315) hx hb dL_refused_315 rfl (lv_at hl 3 rfl) ?_
                                                    refine lv_iconst (v := (0 : Int32)) (pc := 316) hx hb dL_refused_316 (by decide) ?_
                                                    refine lv_bipush (v := (101 : Int32)) (pc := 317) hx hb dL_refused_317 (by decide) ?_
                                                    obtain ⟨v52, h_v52, h⟩ := ob h
                                                    refine lwA (na := 3) (pc := 319) (As := [.ref (ad 0), .int (0 : Int32), .int (101 : Int32)]) (rest := []) (r9 := []) hx hb hml hown hts hG2 hP hD hS hZ (c_h_number l K hl0 ad F v50.2 (0 : Int32) (101 : Int32) h_v52) (wO_adr K ad _ _) (gSH qm_Law_198 qt_Law_number qn_Law qc_Law_number) (by decide +kernel) rfl ⟨by omega, by omega⟩ ⟨by omega, by omega⟩ hl rfl (Nat.le_of_ble_eq_true rfl) dL_refused_319 (fun H locs hP hD hS => ?_)
                                                    refine lv_sipush (v := (-1001 : Int32)) (pc := 322) hx hb dL_refused_322 (by decide) ?_
                                                    refine lv_icmp_ne (tgt := 394) (pc := 325) hx hb dL_refused_325 (by decide) (fun c53 => ?_) (fun c53 => ?_)
                                                    · have h := it_f c53 h
                                                      cases h
                                                    · have h := it_t c53 h
                                                      refine lv_aload_n (pc := 328) hx hb dL_refused_328 rfl (lv_at hl 3 rfl) ?_
                                                      refine lv_iconst (v := (-1 : Int32)) (pc := 329) hx hb dL_refused_329 (by decide) ?_
                                                      refine lv_iconst (v := (0 : Int32)) (pc := 330) hx hb dL_refused_330 (by decide) ?_
                                                      refine lv_iconst (v := (0 : Int32)) (pc := 331) hx hb dL_refused_331 (by decide) ?_
                                                      refine lv_iconst (v := (1 : Int32)) (pc := 332) hx hb dL_refused_332 (by decide) ?_
                                                      obtain ⟨v54, h_v54, h⟩ := ob h
                                                      refine lwA (na := 5) (pc := 333) (As := [.ref (ad 0), .int (-1 : Int32), .int (0 : Int32), .int (0 : Int32), .int (1 : Int32)]) (rest := []) (r9 := []) hx hb hml hown hts hG2 hP hD hS hZ (c_h_walk l K hl0 ad F v52.2 (-1 : Int32) (0 : Int32) (0 : Int32) true h_v54) (wO_adr K ad _ _) (gSH qm_Law_258 qt_Law_walk qn_Law qc_Law_walk) (by decide +kernel) rfl ⟨by omega, by omega⟩ ⟨by omega, by omega⟩ hl rfl (Nat.le_of_ble_eq_true rfl) dL_refused_333 (fun H locs hP hD hS => ?_)
                                                      refine lv_sipush (v := (-1001 : Int32)) (pc := 336) hx hb dL_refused_336 (by decide) ?_
                                                      refine lv_icmp_ne (tgt := 394) (pc := 339) hx hb dL_refused_339 (by decide) (fun c55 => ?_) (fun c55 => ?_)
                                                      · have h := it_f c55 h
                                                        cases h
                                                      · have h := it_t c55 h
                                                        refine lv_aload_n (pc := 342) hx hb dL_refused_342 rfl (lv_at hl 3 rfl) ?_
                                                        refine lv_bipush (v := (101 : Int32)) (pc := 343) hx hb dL_refused_343 (by decide) ?_
                                                        refine lv_iconst (v := (0 : Int32)) (pc := 345) hx hb dL_refused_345 (by decide) ?_
                                                        obtain ⟨v56, h_v56, h⟩ := ob h
                                                        refine lwA (na := 3) (pc := 346) (As := [.ref (ad 0), .int (101 : Int32), .int (0 : Int32)]) (rest := []) (r9 := []) hx hb hml hown hts hG2 hP hD hS hZ (c_h_cavity l K hl0 ad F v54.2 (101 : Int32) (0 : Int32) h_v56) (wO_adr K ad _ _) (gSH qm_Law_196 qt_Law_cavity qn_Law qc_Law_cavity) (by decide +kernel) rfl ⟨by omega, by omega⟩ ⟨by omega, by omega⟩ hl rfl (Nat.le_of_ble_eq_true rfl) dL_refused_346 (fun H locs hP hD hS => ?_)
                                                        refine lv_sipush (v := (-1001 : Int32)) (pc := 349) hx hb dL_refused_349 (by decide) ?_
                                                        refine lv_icmp_ne (tgt := 394) (pc := 352) hx hb dL_refused_352 (by decide) (fun c57 => ?_) (fun c57 => ?_)
                                                        · have h := it_f c57 h
                                                          cases h
                                                        · have h := it_t c57 h
                                                          refine lv_aload_n (pc := 355) hx hb dL_refused_355 rfl (lv_at hl 3 rfl) ?_
                                                          refine lv_iload_n (pc := 356) hx hb dL_refused_356 rfl (lv_at hl 1 rfl) ?_
                                                          obtain ⟨v58, h_v58, h⟩ := ob h
                                                          refine lwA (na := 2) (pc := 357) (As := [.ref (ad 0), .int (i_pointCount v1.2)]) (rest := []) (r9 := []) hx hb hml hown hts hG2 hP hD hS hZ (c_h_hole l K hl0 ad F v56.2 (i_pointCount v1.2) h_v58) (wO_adr K ad _ _) (gSH qm_Law_186 qt_Law_hole qn_Law qc_Law_hole) (by decide +kernel) rfl ⟨by omega, by omega⟩ ⟨by omega, by omega⟩ hl rfl (Nat.le_of_ble_eq_true rfl) dL_refused_357 (fun H locs hP hD hS => ?_)
                                                          refine lv_sipush (v := (-1001 : Int32)) (pc := 360) hx hb dL_refused_360 (by decide) ?_
                                                          refine lv_icmp_ne (tgt := 394) (pc := 363) hx hb dL_refused_363 (by decide) (fun c59 => ?_) (fun c59 => ?_)
                                                          · have h := it_f c59 h
                                                            cases h
                                                          · have h := it_t c59 h
                                                            refine lv_aload_n (pc := 366) hx hb dL_refused_366 rfl (lv_at hl 3 rfl) ?_
                                                            refine lv_iload_n (pc := 367) hx hb dL_refused_367 rfl (lv_at hl 1 rfl) ?_
                                                            refine lv_iconst (v := (0 : Int32)) (pc := 368) hx hb dL_refused_368 (by decide) ?_
                                                            obtain ⟨v60, h_v60, h⟩ := ob h
                                                            refine lwA (na := 3) (pc := 369) (As := [.ref (ad 0), .int (i_pointCount v1.2), .int (0 : Int32)]) (rest := []) (r9 := []) hx hb hml hown hts hG2 hP hD hS hZ (c_h_crossings l K hl0 ad F v58.2 (i_pointCount v1.2) (0 : Int32) h_v60) (wO_adr K ad _ _) (gSH qm_Law_261 qt_Law_crossings qn_Law qc_Law_crossings) (by decide +kernel) rfl ⟨by omega, by omega⟩ ⟨by omega, by omega⟩ hl rfl (Nat.le_of_ble_eq_true rfl) dL_refused_369 (fun H locs hP hD hS => ?_)
                                                            refine lv_sipush (v := (-1001 : Int32)) (pc := 372) hx hb dL_refused_372 (by decide) ?_
                                                            refine lv_icmp_ne (tgt := 394) (pc := 375) hx hb dL_refused_375 (by decide) (fun c61 => ?_) (fun c61 => ?_)
                                                            · have h := it_f c61 h
                                                              cases h
                                                            · have h := it_t c61 h
                                                              refine lv_aload_n (pc := 378) hx hb dL_refused_378 rfl (lv_at hl 3 rfl) ?_
                                                              refine lv_iload (pc := 379) hx hb dL_refused_379 (lv_at hl 0 rfl) ?_
                                                              obtain ⟨v62, h_v62, h⟩ := ob h
                                                              refine lwA (na := 2) (pc := 381) (As := [.ref (ad 0), .int (i_constraintCount v1.2)]) (rest := []) (r9 := []) hx hb hml hown hts hG2 hP hD hS hZ (c_h_effect l K hl0 ad F v60.2 (i_constraintCount v1.2) h_v62) (wO_adr K ad _ _) (gSH qm_Law_191 qt_Law_effect qn_Law qc_Law_effect) (by decide +kernel) rfl ⟨by omega, by omega⟩ ⟨by omega, by omega⟩ hl rfl (Nat.le_of_ble_eq_true rfl) dL_refused_381 (fun H locs hP hD hS => ?_)
                                                              refine lv_sipush (v := (-1001 : Int32)) (pc := 384) hx hb dL_refused_384 (by decide) ?_
                                                              refine lv_icmp_ne (tgt := 394) (pc := 387) hx hb dL_refused_387 (by decide) (fun c63 => ?_) (fun c63 => ?_)
                                                              · have h := it_f c63 h
                                                                cases h
                                                              · have h := it_t c63 h
                                                                refine lv_iconst (v := (1 : Int32)) (pc := 390) hx hb dL_refused_390 (by decide) ?_
                                                                refine lv_goto (tgt := 395) (pc := 391) hx hb dL_refused_391 (by decide) ?_
                                                                refine lv_istore (pc := 395) (lv' := [(5, .int (1 : Int32)), (4, .int (i_constraintCount v1.2)), (3, .int (i_pointCount v1.2)), (1, .long v1.1), (0, .ref (ad 0))]) hx hb dL_refused_395 hl (by decide) rfl (fun ls hl => ?_)
                                                                refine lv_iload_n (pc := 397) hx hb dL_refused_397 rfl (lv_at hl 2 rfl) ?_
                                                                refine lv_if_le (tgt := 476) (pc := 398) hx hb dL_refused_398 (by decide) (fun c64 => ?_) (fun c64 => ?_)
                                                                · have h := it_t c64 h
                                                                  refine lv_iload (pc := 476) hx hb dL_refused_476 (lv_at hl 1 rfl) ?_
                                                                  refine lv_if_le (tgt := 592) (pc := 478) hx hb dL_refused_478 (by decide) (fun c65 => ?_) (fun c65 => ?_)
                                                                  · have h := it_t c65 h
                                                                    refine lv_iload (pc := 592) hx hb dL_refused_592 (lv_at hl 0 rfl) ?_
                                                                    refine lv_if_eq (tgt := 610) (pc := 594) hx hb dL_refused_594 (by decide) (fun c9 => absurd c9 (by decide)) (fun _ => ?_)
                                                                    refine lv_aload_n (pc := 597) hx hb dL_refused_597 rfl (lv_at hl 4 rfl) ?_
                                                                    obtain ⟨v66, h_v66, h⟩ := ob h
                                                                    refine mkA (na := 1) (pc := 598) (As := [.ref (ad 0)]) (rest := []) (r9 := []) hx hb hml hown hts hG2 hP hD hS hZ (c_L_asks l K hl0 ad F v62.2 h_v66) (wO_adr K ad _ _) g_Law_237 hd_Law_asks rfl ⟨by omega, by omega⟩ ⟨by omega, by omega⟩ hl rfl (Nat.le_of_ble_eq_true rfl) dL_refused_598 (fun H locs hP hD hS => ?_)
                                                                    refine lv_lload_n (pc := 601) hx hb dL_refused_601 rfl (lv_at hl 3 rfl) ?_
                                                                    refine W.lcmp (pc := 602) hx hb dL_refused_602 ?_
                                                                    refine lv_if_ne (tgt := 610) (pc := 603) hx hb dL_refused_603 (by decide) (fun c67 => ?_) (fun c67 => ?_)
                                                                    · have h := it_f c67 h
                                                                      cases h
                                                                    · have h := it_t c67 h
                                                                      refine lv_iconst (v := (1 : Int32)) (pc := 606) hx hb dL_refused_606 (by decide) ?_
                                                                      refine lv_goto (tgt := 611) (pc := 607) hx hb dL_refused_607 (by decide) ?_
                                                                      obtain rfl := Option.some.inj h
                                                                      refine W.widen (k := 31905) (n := 191430) (by omega) (by omega) ?_
                                                                      rw [List.append_nil] at hP
                                                                      exact W.zret hx hb hr rfl (fun t ht hW => ⟨⟨rfl, by rw [ht]; exact hP⟩, hS.F ht⟩) hS.2.2 dL_refused_611 hlk
                                                                  · have h := it_f c65 h
                                                                    refine lv_iload (pc := 481) hx hb dL_refused_481 (lv_at hl 0 rfl) ?_
                                                                    refine lv_if_eq (tgt := 589) (pc := 483) hx hb dL_refused_483 (by decide) (fun c9 => absurd c9 (by decide)) (fun _ => ?_)
                                                                    refine lv_aload_n (pc := 486) hx hb dL_refused_486 rfl (lv_at hl 4 rfl) ?_
                                                                    refine lv_iconst (v := (0 : Int32)) (pc := 487) hx hb dL_refused_487 (by decide) ?_
                                                                    refine lv_iconst (v := (2 : Int32)) (pc := 488) hx hb dL_refused_488 (by decide) ?_
                                                                    obtain ⟨v68, h_v68, h⟩ := ob h
                                                                    refine lwA (na := 3) (pc := 489) (As := [.ref (ad 0), .int (0 : Int32), .int (2 : Int32)]) (rest := []) (r9 := []) hx hb hml hown hts hG2 hP hD hS hZ (c_h_tied l K hl0 ad F v62.2 (0 : Int32) (2 : Int32) h_v68) (wO_adr K ad _ _) (gSH qm_Law_155 qt_Law_tied qn_Law qc_Law_tied) (by decide +kernel) rfl ⟨by omega, by omega⟩ ⟨by omega, by omega⟩ hl rfl (Nat.le_of_ble_eq_true rfl) dL_refused_489 (fun H locs hP hD hS => ?_)
                                                                    refine lv_sipush (v := (-1002 : Int32)) (pc := 492) hx hb dL_refused_492 (by decide) ?_
                                                                    refine lv_icmp_ne (tgt := 589) (pc := 495) hx hb dL_refused_495 (by decide) (fun c69 => ?_) (fun c69 => ?_)
                                                                    · have h := it_f c69 h
                                                                      cases h
                                                                    · have h := it_t c69 h
                                                                      refine lv_aload_n (pc := 498) hx hb dL_refused_498 rfl (lv_at hl 4 rfl) ?_
                                                                      refine lv_aload_n (pc := 499) hx hb dL_refused_499 rfl (lv_at hl 4 rfl) ?_
                                                                      refine lv_iconst (v := (0 : Int32)) (pc := 500) hx hb dL_refused_500 (by decide) ?_
                                                                      refine lv_iconst (v := (0 : Int32)) (pc := 501) hx hb dL_refused_501 (by decide) ?_
                                                                      obtain ⟨v70, h_v70, h⟩ := ob h
                                                                      refine lwA (na := 3) (pc := 502) (As := [.ref (ad 0), .int (0 : Int32), .int (0 : Int32)]) (rest := [.ref (ad 0)]) (r9 := []) hx hb hml hown hts hG2 hP hD hS hZ (c_h_tied l K hl0 ad F v68.2 (0 : Int32) (0 : Int32) h_v70) (wO_adr K ad _ _) (gSH qm_Law_155 qt_Law_tied qn_Law qc_Law_tied) (by decide +kernel) rfl ⟨by omega, by omega⟩ ⟨by omega, by omega⟩ hl rfl (Nat.le_of_ble_eq_true rfl) dL_refused_502 (fun H locs hP hD hS => ?_)
                                                                      obtain ⟨v71, h_v71, h⟩ := ob h
                                                                      refine lwA (na := 2) (pc := 505) (As := [.ref (ad 0), .int v70.1]) (rest := []) (r9 := []) hx hb hml hown hts hG2 hP hD hS hZ (c_h_remove l K hl0 ad F v70.2 v70.1 h_v71) (wO_adr K ad _ _) (gSH qm_Law_216 qt_Law_remove qn_Law qc_Law_remove) (by decide +kernel) rfl ⟨by omega, by omega⟩ ⟨by omega, by omega⟩ hl rfl (Nat.le_of_ble_eq_true rfl) dL_refused_505 (fun H locs hP hD hS => ?_)
                                                                      refine lv_sipush (v := (-1002 : Int32)) (pc := 508) hx hb dL_refused_508 (by decide) ?_
                                                                      refine lv_icmp_ne (tgt := 589) (pc := 511) hx hb dL_refused_511 (by decide) (fun c72 => ?_) (fun c72 => ?_)
                                                                      · have h := it_f c72 h
                                                                        cases h
                                                                      · have h := it_t c72 h
                                                                        refine lv_aload_n (pc := 514) hx hb dL_refused_514 rfl (lv_at hl 4 rfl) ?_
                                                                        refine lv_aload_n (pc := 515) hx hb dL_refused_515 rfl (lv_at hl 4 rfl) ?_
                                                                        refine lv_iconst (v := (0 : Int32)) (pc := 516) hx hb dL_refused_516 (by decide) ?_
                                                                        refine lv_iconst (v := (1 : Int32)) (pc := 517) hx hb dL_refused_517 (by decide) ?_
                                                                        obtain ⟨v73, h_v73, h⟩ := ob h
                                                                        refine lwA (na := 3) (pc := 518) (As := [.ref (ad 0), .int (0 : Int32), .int (1 : Int32)]) (rest := [.ref (ad 0)]) (r9 := []) hx hb hml hown hts hG2 hP hD hS hZ (c_h_tied l K hl0 ad F v71.2 (0 : Int32) (1 : Int32) h_v73) (wO_adr K ad _ _) (gSH qm_Law_155 qt_Law_tied qn_Law qc_Law_tied) (by decide +kernel) rfl ⟨by omega, by omega⟩ ⟨by omega, by omega⟩ hl rfl (Nat.le_of_ble_eq_true rfl) dL_refused_518 (fun H locs hP hD hS => ?_)
                                                                        refine lv_bipush (v := (50 : Int32)) (pc := 521) hx hb dL_refused_521 (by decide) ?_
                                                                        refine lv_bipush (v := (50 : Int32)) (pc := 523) hx hb dL_refused_523 (by decide) ?_
                                                                        obtain ⟨v74, h_v74, h⟩ := ob h
                                                                        refine lwA (na := 4) (pc := 525) (As := [.ref (ad 0), .int v73.1, .int (50 : Int32), .int (50 : Int32)]) (rest := []) (r9 := []) hx hb hml hown hts hG2 hP hD hS hZ (c_h_move l K hl0 ad F v73.2 v73.1 (50 : Int32) (50 : Int32) h_v74) (wO_adr K ad _ _) (gSH qm_Law_219 qt_Law_move qn_Law qc_Law_move) (by decide +kernel) rfl ⟨by omega, by omega⟩ ⟨by omega, by omega⟩ hl rfl (Nat.le_of_ble_eq_true rfl) dL_refused_525 (fun H locs hP hD hS => ?_)
                                                                        refine lv_sipush (v := (-1003 : Int32)) (pc := 528) hx hb dL_refused_528 (by decide) ?_
                                                                        refine lv_icmp_ne (tgt := 589) (pc := 531) hx hb dL_refused_531 (by decide) (fun c75 => ?_) (fun c75 => ?_)
                                                                        · have h := it_f c75 h
                                                                          cases h
                                                                        · have h := it_t c75 h
                                                                          refine lv_aload_n (pc := 534) hx hb dL_refused_534 rfl (lv_at hl 4 rfl) ?_
                                                                          refine lv_aload_n (pc := 535) hx hb dL_refused_535 rfl (lv_at hl 4 rfl) ?_
                                                                          refine lv_iconst (v := (0 : Int32)) (pc := 536) hx hb dL_refused_536 (by decide) ?_
                                                                          refine lv_iconst (v := (1 : Int32)) (pc := 537) hx hb dL_refused_537 (by decide) ?_
                                                                          obtain ⟨v76, h_v76, h⟩ := ob h
                                                                          refine lwA (na := 3) (pc := 538) (As := [.ref (ad 0), .int (0 : Int32), .int (1 : Int32)]) (rest := [.ref (ad 0)]) (r9 := []) hx hb hml hown hts hG2 hP hD hS hZ (c_h_tied l K hl0 ad F v74.2 (0 : Int32) (1 : Int32) h_v76) (wO_adr K ad _ _) (gSH qm_Law_155 qt_Law_tied qn_Law qc_Law_tied) (by decide +kernel) rfl ⟨by omega, by omega⟩ ⟨by omega, by omega⟩ hl rfl (Nat.le_of_ble_eq_true rfl) dL_refused_538 (fun H locs hP hD hS => ?_)
                                                                          obtain ⟨v77, h_v77, h⟩ := ob h
                                                                          refine lwA (na := 2) (pc := 541) (As := [.ref (ad 0), .int v76.1]) (rest := []) (r9 := []) hx hb hml hown hts hG2 hP hD hS hZ (c_h_hole l K hl0 ad F v76.2 v76.1 h_v77) (wO_adr K ad _ _) (gSH qm_Law_186 qt_Law_hole qn_Law qc_Law_hole) (by decide +kernel) rfl ⟨by omega, by omega⟩ ⟨by omega, by omega⟩ hl rfl (Nat.le_of_ble_eq_true rfl) dL_refused_541 (fun H locs hP hD hS => ?_)
                                                                          refine lv_sipush (v := (-1002 : Int32)) (pc := 544) hx hb dL_refused_544 (by decide) ?_
                                                                          refine lv_icmp_ne (tgt := 589) (pc := 547) hx hb dL_refused_547 (by decide) (fun c78 => ?_) (fun c78 => ?_)
                                                                          · have h := it_f c78 h
                                                                            cases h
                                                                          · have h := it_t c78 h
                                                                            refine lv_aload_n (pc := 550) hx hb dL_refused_550 rfl (lv_at hl 4 rfl) ?_
                                                                            refine lv_aload_n (pc := 551) hx hb dL_refused_551 rfl (lv_at hl 4 rfl) ?_
                                                                            refine lv_iconst (v := (0 : Int32)) (pc := 552) hx hb dL_refused_552 (by decide) ?_
                                                                            refine lv_iconst (v := (1 : Int32)) (pc := 553) hx hb dL_refused_553 (by decide) ?_
                                                                            obtain ⟨v79, h_v79, h⟩ := ob h
                                                                            refine lwA (na := 3) (pc := 554) (As := [.ref (ad 0), .int (0 : Int32), .int (1 : Int32)]) (rest := [.ref (ad 0)]) (r9 := []) hx hb hml hown hts hG2 hP hD hS hZ (c_h_tied l K hl0 ad F v77.2 (0 : Int32) (1 : Int32) h_v79) (wO_adr K ad _ _) (gSH qm_Law_155 qt_Law_tied qn_Law qc_Law_tied) (by decide +kernel) rfl ⟨by omega, by omega⟩ ⟨by omega, by omega⟩ hl rfl (Nat.le_of_ble_eq_true rfl) dL_refused_554 (fun H locs hP hD hS => ?_)
                                                                            refine lv_aload_n (pc := 557) hx hb dL_refused_557 rfl (lv_at hl 4 rfl) ?_
                                                                            refine lv_iconst (v := (0 : Int32)) (pc := 558) hx hb dL_refused_558 (by decide) ?_
                                                                            refine lv_iconst (v := (0 : Int32)) (pc := 559) hx hb dL_refused_559 (by decide) ?_
                                                                            obtain ⟨v80, h_v80, h⟩ := ob h
                                                                            refine lwA (na := 3) (pc := 560) (As := [.ref (ad 0), .int (0 : Int32), .int (0 : Int32)]) (rest := [.int v79.1, .ref (ad 0)]) (r9 := []) hx hb hml hown hts hG2 hP hD hS hZ (c_h_tied l K hl0 ad F v79.2 (0 : Int32) (0 : Int32) h_v80) (wO_adr K ad _ _) (gSH qm_Law_155 qt_Law_tied qn_Law qc_Law_tied) (by decide +kernel) rfl ⟨by omega, by omega⟩ ⟨by omega, by omega⟩ hl rfl (Nat.le_of_ble_eq_true rfl) dL_refused_560 (fun H locs hP hD hS => ?_)
                                                                            obtain ⟨v81, h_v81, h⟩ := ob h
                                                                            refine lwA (na := 3) (pc := 563) (As := [.ref (ad 0), .int v79.1, .int v80.1]) (rest := []) (r9 := []) hx hb hml hown hts hG2 hP hD hS hZ (c_h_tie l K hl0 ad F v80.2 v79.1 v80.1 h_v81) (wO_adr K ad _ _) (gSH qm_Law_223 qt_Law_tie qn_Law qc_Law_tie) (by decide +kernel) rfl ⟨by omega, by omega⟩ ⟨by omega, by omega⟩ hl rfl (Nat.le_of_ble_eq_true rfl) dL_refused_563 (fun H locs hP hD hS => ?_)
                                                                            refine lv_iload (pc := 566) hx hb dL_refused_566 (lv_at hl 1 rfl) ?_
                                                                            refine lv_bipush (v := (10 : Int32)) (pc := 568) hx hb dL_refused_568 (by decide) ?_
                                                                            refine lv_icmp_ne (tgt := 579) (pc := 570) hx hb dL_refused_570 (by decide) (fun c82 => ?_) (fun c82 => ?_)
                                                                            · have h := it_f c82 h
                                                                              refine lv_sipush (v := (-1004 : Int32)) (pc := 579) hx hb dL_refused_579 (by decide) ?_
                                                                              refine lv_icmp_ne (tgt := 589) (pc := 582) hx hb dL_refused_582 (by decide) (fun c83 => ?_) (fun c83 => ?_)
                                                                              · have h := it_f c83 h
                                                                                cases h
                                                                              · have h := it_t c83 h
                                                                                refine lv_iconst (v := (1 : Int32)) (pc := 585) hx hb dL_refused_585 (by decide) ?_
                                                                                refine lv_goto (tgt := 590) (pc := 586) hx hb dL_refused_586 (by decide) ?_
                                                                                refine lv_istore (pc := 590) (lv' := [(5, .int (1 : Int32)), (4, .int (i_constraintCount v1.2)), (3, .int (i_pointCount v1.2)), (1, .long v1.1), (0, .ref (ad 0))]) hx hb dL_refused_590 hl (by decide) rfl (fun ls hl => ?_)
                                                                                refine lv_iload (pc := 592) hx hb dL_refused_592 (lv_at hl 0 rfl) ?_
                                                                                refine lv_if_eq (tgt := 610) (pc := 594) hx hb dL_refused_594 (by decide) (fun c9 => absurd c9 (by decide)) (fun _ => ?_)
                                                                                refine lv_aload_n (pc := 597) hx hb dL_refused_597 rfl (lv_at hl 4 rfl) ?_
                                                                                obtain ⟨v84, h_v84, h⟩ := ob h
                                                                                refine mkA (na := 1) (pc := 598) (As := [.ref (ad 0)]) (rest := []) (r9 := []) hx hb hml hown hts hG2 hP hD hS hZ (c_L_asks l K hl0 ad F v81.2 h_v84) (wO_adr K ad _ _) g_Law_237 hd_Law_asks rfl ⟨by omega, by omega⟩ ⟨by omega, by omega⟩ hl rfl (Nat.le_of_ble_eq_true rfl) dL_refused_598 (fun H locs hP hD hS => ?_)
                                                                                refine lv_lload_n (pc := 601) hx hb dL_refused_601 rfl (lv_at hl 3 rfl) ?_
                                                                                refine W.lcmp (pc := 602) hx hb dL_refused_602 ?_
                                                                                refine lv_if_ne (tgt := 610) (pc := 603) hx hb dL_refused_603 (by decide) (fun c85 => ?_) (fun c85 => ?_)
                                                                                · have h := it_f c85 h
                                                                                  cases h
                                                                                · have h := it_t c85 h
                                                                                  refine lv_iconst (v := (1 : Int32)) (pc := 606) hx hb dL_refused_606 (by decide) ?_
                                                                                  refine lv_goto (tgt := 611) (pc := 607) hx hb dL_refused_607 (by decide) ?_
                                                                                  obtain rfl := Option.some.inj h
                                                                                  refine W.widen (k := 31905) (n := 191430) (by omega) (by omega) ?_
                                                                                  rw [List.append_nil] at hP
                                                                                  exact W.zret hx hb hr rfl (fun t ht hW => ⟨⟨rfl, by rw [ht]; exact hP⟩, hS.F ht⟩) hS.2.2 dL_refused_611 hlk
                                                                            · have h := it_t c82 h
                                                                              refine lv_sipush (v := (-1003 : Int32)) (pc := 573) hx hb dL_refused_573 (by decide) ?_
                                                                              refine lv_goto (tgt := 582) (pc := 576) hx hb dL_refused_576 (by decide) ?_
                                                                              refine lv_icmp_ne (tgt := 589) (pc := 582) hx hb dL_refused_582 (by decide) (fun c86 => ?_) (fun c86 => ?_)
                                                                              · have h := it_f c86 h
                                                                                cases h
                                                                              · have h := it_t c86 h
                                                                                refine lv_iconst (v := (1 : Int32)) (pc := 585) hx hb dL_refused_585 (by decide) ?_
                                                                                refine lv_goto (tgt := 590) (pc := 586) hx hb dL_refused_586 (by decide) ?_
                                                                                refine lv_istore (pc := 590) (lv' := [(5, .int (1 : Int32)), (4, .int (i_constraintCount v1.2)), (3, .int (i_pointCount v1.2)), (1, .long v1.1), (0, .ref (ad 0))]) hx hb dL_refused_590 hl (by decide) rfl (fun ls hl => ?_)
                                                                                refine lv_iload (pc := 592) hx hb dL_refused_592 (lv_at hl 0 rfl) ?_
                                                                                refine lv_if_eq (tgt := 610) (pc := 594) hx hb dL_refused_594 (by decide) (fun c9 => absurd c9 (by decide)) (fun _ => ?_)
                                                                                refine lv_aload_n (pc := 597) hx hb dL_refused_597 rfl (lv_at hl 4 rfl) ?_
                                                                                obtain ⟨v87, h_v87, h⟩ := ob h
                                                                                refine mkA (na := 1) (pc := 598) (As := [.ref (ad 0)]) (rest := []) (r9 := []) hx hb hml hown hts hG2 hP hD hS hZ (c_L_asks l K hl0 ad F v81.2 h_v87) (wO_adr K ad _ _) g_Law_237 hd_Law_asks rfl ⟨by omega, by omega⟩ ⟨by omega, by omega⟩ hl rfl (Nat.le_of_ble_eq_true rfl) dL_refused_598 (fun H locs hP hD hS => ?_)
                                                                                refine lv_lload_n (pc := 601) hx hb dL_refused_601 rfl (lv_at hl 3 rfl) ?_
                                                                                refine W.lcmp (pc := 602) hx hb dL_refused_602 ?_
                                                                                refine lv_if_ne (tgt := 610) (pc := 603) hx hb dL_refused_603 (by decide) (fun c88 => ?_) (fun c88 => ?_)
                                                                                · have h := it_f c88 h
                                                                                  cases h
                                                                                · have h := it_t c88 h
                                                                                  refine lv_iconst (v := (1 : Int32)) (pc := 606) hx hb dL_refused_606 (by decide) ?_
                                                                                  refine lv_goto (tgt := 611) (pc := 607) hx hb dL_refused_607 (by decide) ?_
                                                                                  obtain rfl := Option.some.inj h
                                                                                  refine W.widen (k := 31905) (n := 191430) (by omega) (by omega) ?_
                                                                                  rw [List.append_nil] at hP
                                                                                  exact W.zret hx hb hr rfl (fun t ht hW => ⟨⟨rfl, by rw [ht]; exact hP⟩, hS.F ht⟩) hS.2.2 dL_refused_611 hlk
                                                                · have h := it_f c64 h
                                                                  refine lv_iload (pc := 401) hx hb dL_refused_401 (lv_at hl 0 rfl) ?_
                                                                  refine lv_if_eq (tgt := 473) (pc := 403) hx hb dL_refused_403 (by decide) (fun c9 => absurd c9 (by decide)) (fun _ => ?_)
                                                                  refine lv_aload_n (pc := 406) hx hb dL_refused_406 rfl (lv_at hl 4 rfl) ?_
                                                                  refine lv_iconst (v := (0 : Int32)) (pc := 407) hx hb dL_refused_407 (by decide) ?_
                                                                  refine lv_bipush (v := (101 : Int32)) (pc := 408) hx hb dL_refused_408 (by decide) ?_
                                                                  refine lv_iconst (v := (0 : Int32)) (pc := 410) hx hb dL_refused_410 (by decide) ?_
                                                                  obtain ⟨v89, h_v89, h⟩ := ob h
                                                                  refine lwA (na := 4) (pc := 411) (As := [.ref (ad 0), .int (0 : Int32), .int (101 : Int32), .int (0 : Int32)]) (rest := []) (r9 := []) hx hb hml hown hts hG2 hP hD hS hZ (c_h_move l K hl0 ad F v62.2 (0 : Int32) (101 : Int32) (0 : Int32) h_v89) (wO_adr K ad _ _) (gSH qm_Law_219 qt_Law_move qn_Law qc_Law_move) (by decide +kernel) rfl ⟨by omega, by omega⟩ ⟨by omega, by omega⟩ hl rfl (Nat.le_of_ble_eq_true rfl) dL_refused_411 (fun H locs hP hD hS => ?_)
                                                                  refine lv_sipush (v := (-1002 : Int32)) (pc := 414) hx hb dL_refused_414 (by decide) ?_
                                                                  refine lv_icmp_ne (tgt := 473) (pc := 417) hx hb dL_refused_417 (by decide) (fun c90 => ?_) (fun c90 => ?_)
                                                                  · have h := it_f c90 h
                                                                    cases h
                                                                  · have h := it_t c90 h
                                                                    refine lv_aload_n (pc := 420) hx hb dL_refused_420 rfl (lv_at hl 4 rfl) ?_
                                                                    refine lv_iconst (v := (0 : Int32)) (pc := 421) hx hb dL_refused_421 (by decide) ?_
                                                                    refine lv_iconst (v := (2 : Int32)) (pc := 422) hx hb dL_refused_422 (by decide) ?_
                                                                    obtain ⟨v91, h_v91, h⟩ := ob h
                                                                    refine lwA (na := 3) (pc := 423) (As := [.ref (ad 0), .int (0 : Int32), .int (2 : Int32)]) (rest := []) (r9 := []) hx hb hml hown hts hG2 hP hD hS hZ (c_h_coordinate l K hl0 ad F v89.2 (0 : Int32) (2 : Int32) h_v91) (wO_adr K ad _ _) (gSH qm_Law_152 qt_Law_coordinate qn_Law qc_Law_coordinate) (by decide +kernel) rfl ⟨by omega, by omega⟩ ⟨by omega, by omega⟩ hl rfl (Nat.le_of_ble_eq_true rfl) dL_refused_423 (fun H locs hP hD hS => ?_)
                                                                    refine lv_sipush (v := (-1002 : Int32)) (pc := 426) hx hb dL_refused_426 (by decide) ?_
                                                                    refine lv_icmp_ne (tgt := 473) (pc := 429) hx hb dL_refused_429 (by decide) (fun c92 => ?_) (fun c92 => ?_)
                                                                    · have h := it_f c92 h
                                                                      cases h
                                                                    · have h := it_t c92 h
                                                                      refine lv_aload_n (pc := 432) hx hb dL_refused_432 rfl (lv_at hl 4 rfl) ?_
                                                                      refine lv_iconst (v := (0 : Int32)) (pc := 433) hx hb dL_refused_433 (by decide) ?_
                                                                      refine lv_iconst (v := (0 : Int32)) (pc := 434) hx hb dL_refused_434 (by decide) ?_
                                                                      obtain ⟨v93, h_v93, h⟩ := ob h
                                                                      refine lwA (na := 3) (pc := 435) (As := [.ref (ad 0), .int (0 : Int32), .int (0 : Int32)]) (rest := []) (r9 := []) hx hb hml hown hts hG2 hP hD hS hZ (c_h_tie l K hl0 ad F v91.2 (0 : Int32) (0 : Int32) h_v93) (wO_adr K ad _ _) (gSH qm_Law_223 qt_Law_tie qn_Law qc_Law_tie) (by decide +kernel) rfl ⟨by omega, by omega⟩ ⟨by omega, by omega⟩ hl rfl (Nat.le_of_ble_eq_true rfl) dL_refused_435 (fun H locs hP hD hS => ?_)
                                                                      refine lv_sipush (v := (-1002 : Int32)) (pc := 438) hx hb dL_refused_438 (by decide) ?_
                                                                      refine lv_icmp_ne (tgt := 473) (pc := 441) hx hb dL_refused_441 (by decide) (fun c94 => ?_) (fun c94 => ?_)
                                                                      · have h := it_f c94 h
                                                                        cases h
                                                                      · have h := it_t c94 h
                                                                        refine lv_aload_n (pc := 444) hx hb dL_refused_444 rfl (lv_at hl 4 rfl) ?_
                                                                        refine lv_iconst (v := (0 : Int32)) (pc := 445) hx hb dL_refused_445 (by decide) ?_
                                                                        refine lv_iconst (v := (0 : Int32)) (pc := 446) hx hb dL_refused_446 (by decide) ?_
                                                                        obtain ⟨v95, h_v95, h⟩ := ob h
                                                                        refine lwA (na := 3) (pc := 447) (As := [.ref (ad 0), .int (0 : Int32), .int (0 : Int32)]) (rest := []) (r9 := []) hx hb hml hown hts hG2 hP hD hS hZ (c_h_crossings l K hl0 ad F v93.2 (0 : Int32) (0 : Int32) h_v95) (wO_adr K ad _ _) (gSH qm_Law_261 qt_Law_crossings qn_Law qc_Law_crossings) (by decide +kernel) rfl ⟨by omega, by omega⟩ ⟨by omega, by omega⟩ hl rfl (Nat.le_of_ble_eq_true rfl) dL_refused_447 (fun H locs hP hD hS => ?_)
                                                                        refine lv_sipush (v := (-1002 : Int32)) (pc := 450) hx hb dL_refused_450 (by decide) ?_
                                                                        refine lv_icmp_ne (tgt := 473) (pc := 453) hx hb dL_refused_453 (by decide) (fun c96 => ?_) (fun c96 => ?_)
                                                                        · have h := it_f c96 h
                                                                          cases h
                                                                        · have h := it_t c96 h
                                                                          refine lv_aload_n (pc := 456) hx hb dL_refused_456 rfl (lv_at hl 4 rfl) ?_
                                                                          refine lv_iconst (v := (0 : Int32)) (pc := 457) hx hb dL_refused_457 (by decide) ?_
                                                                          refine lv_bipush (v := (99 : Int32)) (pc := 458) hx hb dL_refused_458 (by decide) ?_
                                                                          obtain ⟨v97, h_v97, h⟩ := ob h
                                                                          refine lwA (na := 3) (pc := 460) (As := [.ref (ad 0), .int (0 : Int32), .int (99 : Int32)]) (rest := []) (r9 := []) hx hb hml hown hts hG2 hP hD hS hZ (c_h_neighbour l K hl0 ad F v95.2 (0 : Int32) (99 : Int32) h_v97) (wO_adr K ad _ _) (gSH qm_Law_243 qt_Law_neighbour qn_Law qc_Law_neighbour) (by decide +kernel) rfl ⟨by omega, by omega⟩ ⟨by omega, by omega⟩ hl rfl (Nat.le_of_ble_eq_true rfl) dL_refused_460 (fun H locs hP hD hS => ?_)
                                                                          refine lv_sipush (v := (-1002 : Int32)) (pc := 463) hx hb dL_refused_463 (by decide) ?_
                                                                          refine lv_icmp_ne (tgt := 473) (pc := 466) hx hb dL_refused_466 (by decide) (fun c98 => ?_) (fun c98 => ?_)
                                                                          · have h := it_f c98 h
                                                                            cases h
                                                                          · have h := it_t c98 h
                                                                            refine lv_iconst (v := (1 : Int32)) (pc := 469) hx hb dL_refused_469 (by decide) ?_
                                                                            refine lv_goto (tgt := 474) (pc := 470) hx hb dL_refused_470 (by decide) ?_
                                                                            refine lv_istore (pc := 474) (lv' := [(5, .int (1 : Int32)), (4, .int (i_constraintCount v1.2)), (3, .int (i_pointCount v1.2)), (1, .long v1.1), (0, .ref (ad 0))]) hx hb dL_refused_474 hl (by decide) rfl (fun ls hl => ?_)
                                                                            refine lv_iload (pc := 476) hx hb dL_refused_476 (lv_at hl 1 rfl) ?_
                                                                            refine lv_if_le (tgt := 592) (pc := 478) hx hb dL_refused_478 (by decide) (fun c99 => ?_) (fun c99 => ?_)
                                                                            · have h := it_t c99 h
                                                                              refine lv_iload (pc := 592) hx hb dL_refused_592 (lv_at hl 0 rfl) ?_
                                                                              refine lv_if_eq (tgt := 610) (pc := 594) hx hb dL_refused_594 (by decide) (fun c9 => absurd c9 (by decide)) (fun _ => ?_)
                                                                              refine lv_aload_n (pc := 597) hx hb dL_refused_597 rfl (lv_at hl 4 rfl) ?_
                                                                              obtain ⟨v100, h_v100, h⟩ := ob h
                                                                              refine mkA (na := 1) (pc := 598) (As := [.ref (ad 0)]) (rest := []) (r9 := []) hx hb hml hown hts hG2 hP hD hS hZ (c_L_asks l K hl0 ad F v97.2 h_v100) (wO_adr K ad _ _) g_Law_237 hd_Law_asks rfl ⟨by omega, by omega⟩ ⟨by omega, by omega⟩ hl rfl (Nat.le_of_ble_eq_true rfl) dL_refused_598 (fun H locs hP hD hS => ?_)
                                                                              refine lv_lload_n (pc := 601) hx hb dL_refused_601 rfl (lv_at hl 3 rfl) ?_
                                                                              refine W.lcmp (pc := 602) hx hb dL_refused_602 ?_
                                                                              refine lv_if_ne (tgt := 610) (pc := 603) hx hb dL_refused_603 (by decide) (fun c101 => ?_) (fun c101 => ?_)
                                                                              · have h := it_f c101 h
                                                                                cases h
                                                                              · have h := it_t c101 h
                                                                                refine lv_iconst (v := (1 : Int32)) (pc := 606) hx hb dL_refused_606 (by decide) ?_
                                                                                refine lv_goto (tgt := 611) (pc := 607) hx hb dL_refused_607 (by decide) ?_
                                                                                obtain rfl := Option.some.inj h
                                                                                refine W.widen (k := 31905) (n := 191430) (by omega) (by omega) ?_
                                                                                rw [List.append_nil] at hP
                                                                                exact W.zret hx hb hr rfl (fun t ht hW => ⟨⟨rfl, by rw [ht]; exact hP⟩, hS.F ht⟩) hS.2.2 dL_refused_611 hlk
                                                                            · have h := it_f c99 h
                                                                              refine lv_iload (pc := 481) hx hb dL_refused_481 (lv_at hl 0 rfl) ?_
                                                                              refine lv_if_eq (tgt := 589) (pc := 483) hx hb dL_refused_483 (by decide) (fun c9 => absurd c9 (by decide)) (fun _ => ?_)
                                                                              refine lv_aload_n (pc := 486) hx hb dL_refused_486 rfl (lv_at hl 4 rfl) ?_
                                                                              refine lv_iconst (v := (0 : Int32)) (pc := 487) hx hb dL_refused_487 (by decide) ?_
                                                                              refine lv_iconst (v := (2 : Int32)) (pc := 488) hx hb dL_refused_488 (by decide) ?_
                                                                              obtain ⟨v102, h_v102, h⟩ := ob h
                                                                              refine lwA (na := 3) (pc := 489) (As := [.ref (ad 0), .int (0 : Int32), .int (2 : Int32)]) (rest := []) (r9 := []) hx hb hml hown hts hG2 hP hD hS hZ (c_h_tied l K hl0 ad F v97.2 (0 : Int32) (2 : Int32) h_v102) (wO_adr K ad _ _) (gSH qm_Law_155 qt_Law_tied qn_Law qc_Law_tied) (by decide +kernel) rfl ⟨by omega, by omega⟩ ⟨by omega, by omega⟩ hl rfl (Nat.le_of_ble_eq_true rfl) dL_refused_489 (fun H locs hP hD hS => ?_)
                                                                              refine lv_sipush (v := (-1002 : Int32)) (pc := 492) hx hb dL_refused_492 (by decide) ?_
                                                                              refine lv_icmp_ne (tgt := 589) (pc := 495) hx hb dL_refused_495 (by decide) (fun c103 => ?_) (fun c103 => ?_)
                                                                              · have h := it_f c103 h
                                                                                cases h
                                                                              · have h := it_t c103 h
                                                                                refine lv_aload_n (pc := 498) hx hb dL_refused_498 rfl (lv_at hl 4 rfl) ?_
                                                                                refine lv_aload_n (pc := 499) hx hb dL_refused_499 rfl (lv_at hl 4 rfl) ?_
                                                                                refine lv_iconst (v := (0 : Int32)) (pc := 500) hx hb dL_refused_500 (by decide) ?_
                                                                                refine lv_iconst (v := (0 : Int32)) (pc := 501) hx hb dL_refused_501 (by decide) ?_
                                                                                obtain ⟨v104, h_v104, h⟩ := ob h
                                                                                refine lwA (na := 3) (pc := 502) (As := [.ref (ad 0), .int (0 : Int32), .int (0 : Int32)]) (rest := [.ref (ad 0)]) (r9 := []) hx hb hml hown hts hG2 hP hD hS hZ (c_h_tied l K hl0 ad F v102.2 (0 : Int32) (0 : Int32) h_v104) (wO_adr K ad _ _) (gSH qm_Law_155 qt_Law_tied qn_Law qc_Law_tied) (by decide +kernel) rfl ⟨by omega, by omega⟩ ⟨by omega, by omega⟩ hl rfl (Nat.le_of_ble_eq_true rfl) dL_refused_502 (fun H locs hP hD hS => ?_)
                                                                                obtain ⟨v105, h_v105, h⟩ := ob h
                                                                                refine lwA (na := 2) (pc := 505) (As := [.ref (ad 0), .int v104.1]) (rest := []) (r9 := []) hx hb hml hown hts hG2 hP hD hS hZ (c_h_remove l K hl0 ad F v104.2 v104.1 h_v105) (wO_adr K ad _ _) (gSH qm_Law_216 qt_Law_remove qn_Law qc_Law_remove) (by decide +kernel) rfl ⟨by omega, by omega⟩ ⟨by omega, by omega⟩ hl rfl (Nat.le_of_ble_eq_true rfl) dL_refused_505 (fun H locs hP hD hS => ?_)
                                                                                refine lv_sipush (v := (-1002 : Int32)) (pc := 508) hx hb dL_refused_508 (by decide) ?_
                                                                                refine lv_icmp_ne (tgt := 589) (pc := 511) hx hb dL_refused_511 (by decide) (fun c106 => ?_) (fun c106 => ?_)
                                                                                · have h := it_f c106 h
                                                                                  cases h
                                                                                · have h := it_t c106 h
                                                                                  refine lv_aload_n (pc := 514) hx hb dL_refused_514 rfl (lv_at hl 4 rfl) ?_
                                                                                  refine lv_aload_n (pc := 515) hx hb dL_refused_515 rfl (lv_at hl 4 rfl) ?_
                                                                                  refine lv_iconst (v := (0 : Int32)) (pc := 516) hx hb dL_refused_516 (by decide) ?_
                                                                                  refine lv_iconst (v := (1 : Int32)) (pc := 517) hx hb dL_refused_517 (by decide) ?_
                                                                                  obtain ⟨v107, h_v107, h⟩ := ob h
                                                                                  refine lwA (na := 3) (pc := 518) (As := [.ref (ad 0), .int (0 : Int32), .int (1 : Int32)]) (rest := [.ref (ad 0)]) (r9 := []) hx hb hml hown hts hG2 hP hD hS hZ (c_h_tied l K hl0 ad F v105.2 (0 : Int32) (1 : Int32) h_v107) (wO_adr K ad _ _) (gSH qm_Law_155 qt_Law_tied qn_Law qc_Law_tied) (by decide +kernel) rfl ⟨by omega, by omega⟩ ⟨by omega, by omega⟩ hl rfl (Nat.le_of_ble_eq_true rfl) dL_refused_518 (fun H locs hP hD hS => ?_)
                                                                                  refine lv_bipush (v := (50 : Int32)) (pc := 521) hx hb dL_refused_521 (by decide) ?_
                                                                                  refine lv_bipush (v := (50 : Int32)) (pc := 523) hx hb dL_refused_523 (by decide) ?_
                                                                                  obtain ⟨v108, h_v108, h⟩ := ob h
                                                                                  refine lwA (na := 4) (pc := 525) (As := [.ref (ad 0), .int v107.1, .int (50 : Int32), .int (50 : Int32)]) (rest := []) (r9 := []) hx hb hml hown hts hG2 hP hD hS hZ (c_h_move l K hl0 ad F v107.2 v107.1 (50 : Int32) (50 : Int32) h_v108) (wO_adr K ad _ _) (gSH qm_Law_219 qt_Law_move qn_Law qc_Law_move) (by decide +kernel) rfl ⟨by omega, by omega⟩ ⟨by omega, by omega⟩ hl rfl (Nat.le_of_ble_eq_true rfl) dL_refused_525 (fun H locs hP hD hS => ?_)
                                                                                  refine lv_sipush (v := (-1003 : Int32)) (pc := 528) hx hb dL_refused_528 (by decide) ?_
                                                                                  refine lv_icmp_ne (tgt := 589) (pc := 531) hx hb dL_refused_531 (by decide) (fun c109 => ?_) (fun c109 => ?_)
                                                                                  · have h := it_f c109 h
                                                                                    cases h
                                                                                  · have h := it_t c109 h
                                                                                    refine lv_aload_n (pc := 534) hx hb dL_refused_534 rfl (lv_at hl 4 rfl) ?_
                                                                                    refine lv_aload_n (pc := 535) hx hb dL_refused_535 rfl (lv_at hl 4 rfl) ?_
                                                                                    refine lv_iconst (v := (0 : Int32)) (pc := 536) hx hb dL_refused_536 (by decide) ?_
                                                                                    refine lv_iconst (v := (1 : Int32)) (pc := 537) hx hb dL_refused_537 (by decide) ?_
                                                                                    obtain ⟨v110, h_v110, h⟩ := ob h
                                                                                    refine lwA (na := 3) (pc := 538) (As := [.ref (ad 0), .int (0 : Int32), .int (1 : Int32)]) (rest := [.ref (ad 0)]) (r9 := []) hx hb hml hown hts hG2 hP hD hS hZ (c_h_tied l K hl0 ad F v108.2 (0 : Int32) (1 : Int32) h_v110) (wO_adr K ad _ _) (gSH qm_Law_155 qt_Law_tied qn_Law qc_Law_tied) (by decide +kernel) rfl ⟨by omega, by omega⟩ ⟨by omega, by omega⟩ hl rfl (Nat.le_of_ble_eq_true rfl) dL_refused_538 (fun H locs hP hD hS => ?_)
                                                                                    obtain ⟨v111, h_v111, h⟩ := ob h
                                                                                    refine lwA (na := 2) (pc := 541) (As := [.ref (ad 0), .int v110.1]) (rest := []) (r9 := []) hx hb hml hown hts hG2 hP hD hS hZ (c_h_hole l K hl0 ad F v110.2 v110.1 h_v111) (wO_adr K ad _ _) (gSH qm_Law_186 qt_Law_hole qn_Law qc_Law_hole) (by decide +kernel) rfl ⟨by omega, by omega⟩ ⟨by omega, by omega⟩ hl rfl (Nat.le_of_ble_eq_true rfl) dL_refused_541 (fun H locs hP hD hS => ?_)
                                                                                    refine lv_sipush (v := (-1002 : Int32)) (pc := 544) hx hb dL_refused_544 (by decide) ?_
                                                                                    refine lv_icmp_ne (tgt := 589) (pc := 547) hx hb dL_refused_547 (by decide) (fun c112 => ?_) (fun c112 => ?_)
                                                                                    · have h := it_f c112 h
                                                                                      cases h
                                                                                    · have h := it_t c112 h
                                                                                      refine lv_aload_n (pc := 550) hx hb dL_refused_550 rfl (lv_at hl 4 rfl) ?_
                                                                                      refine lv_aload_n (pc := 551) hx hb dL_refused_551 rfl (lv_at hl 4 rfl) ?_
                                                                                      refine lv_iconst (v := (0 : Int32)) (pc := 552) hx hb dL_refused_552 (by decide) ?_
                                                                                      refine lv_iconst (v := (1 : Int32)) (pc := 553) hx hb dL_refused_553 (by decide) ?_
                                                                                      obtain ⟨v113, h_v113, h⟩ := ob h
                                                                                      refine lwA (na := 3) (pc := 554) (As := [.ref (ad 0), .int (0 : Int32), .int (1 : Int32)]) (rest := [.ref (ad 0)]) (r9 := []) hx hb hml hown hts hG2 hP hD hS hZ (c_h_tied l K hl0 ad F v111.2 (0 : Int32) (1 : Int32) h_v113) (wO_adr K ad _ _) (gSH qm_Law_155 qt_Law_tied qn_Law qc_Law_tied) (by decide +kernel) rfl ⟨by omega, by omega⟩ ⟨by omega, by omega⟩ hl rfl (Nat.le_of_ble_eq_true rfl) dL_refused_554 (fun H locs hP hD hS => ?_)
                                                                                      refine lv_aload_n (pc := 557) hx hb dL_refused_557 rfl (lv_at hl 4 rfl) ?_
                                                                                      refine lv_iconst (v := (0 : Int32)) (pc := 558) hx hb dL_refused_558 (by decide) ?_
                                                                                      refine lv_iconst (v := (0 : Int32)) (pc := 559) hx hb dL_refused_559 (by decide) ?_
                                                                                      obtain ⟨v114, h_v114, h⟩ := ob h
                                                                                      refine lwA (na := 3) (pc := 560) (As := [.ref (ad 0), .int (0 : Int32), .int (0 : Int32)]) (rest := [.int v113.1, .ref (ad 0)]) (r9 := []) hx hb hml hown hts hG2 hP hD hS hZ (c_h_tied l K hl0 ad F v113.2 (0 : Int32) (0 : Int32) h_v114) (wO_adr K ad _ _) (gSH qm_Law_155 qt_Law_tied qn_Law qc_Law_tied) (by decide +kernel) rfl ⟨by omega, by omega⟩ ⟨by omega, by omega⟩ hl rfl (Nat.le_of_ble_eq_true rfl) dL_refused_560 (fun H locs hP hD hS => ?_)
                                                                                      obtain ⟨v115, h_v115, h⟩ := ob h
                                                                                      refine lwA (na := 3) (pc := 563) (As := [.ref (ad 0), .int v113.1, .int v114.1]) (rest := []) (r9 := []) hx hb hml hown hts hG2 hP hD hS hZ (c_h_tie l K hl0 ad F v114.2 v113.1 v114.1 h_v115) (wO_adr K ad _ _) (gSH qm_Law_223 qt_Law_tie qn_Law qc_Law_tie) (by decide +kernel) rfl ⟨by omega, by omega⟩ ⟨by omega, by omega⟩ hl rfl (Nat.le_of_ble_eq_true rfl) dL_refused_563 (fun H locs hP hD hS => ?_)
                                                                                      refine lv_iload (pc := 566) hx hb dL_refused_566 (lv_at hl 1 rfl) ?_
                                                                                      refine lv_bipush (v := (10 : Int32)) (pc := 568) hx hb dL_refused_568 (by decide) ?_
                                                                                      refine lv_icmp_ne (tgt := 579) (pc := 570) hx hb dL_refused_570 (by decide) (fun c116 => ?_) (fun c116 => ?_)
                                                                                      · have h := it_f c116 h
                                                                                        refine lv_sipush (v := (-1004 : Int32)) (pc := 579) hx hb dL_refused_579 (by decide) ?_
                                                                                        refine lv_icmp_ne (tgt := 589) (pc := 582) hx hb dL_refused_582 (by decide) (fun c117 => ?_) (fun c117 => ?_)
                                                                                        · have h := it_f c117 h
                                                                                          cases h
                                                                                        · have h := it_t c117 h
                                                                                          refine lv_iconst (v := (1 : Int32)) (pc := 585) hx hb dL_refused_585 (by decide) ?_
                                                                                          refine lv_goto (tgt := 590) (pc := 586) hx hb dL_refused_586 (by decide) ?_
                                                                                          refine lv_istore (pc := 590) (lv' := [(5, .int (1 : Int32)), (4, .int (i_constraintCount v1.2)), (3, .int (i_pointCount v1.2)), (1, .long v1.1), (0, .ref (ad 0))]) hx hb dL_refused_590 hl (by decide) rfl (fun ls hl => ?_)
                                                                                          refine lv_iload (pc := 592) hx hb dL_refused_592 (lv_at hl 0 rfl) ?_
                                                                                          refine lv_if_eq (tgt := 610) (pc := 594) hx hb dL_refused_594 (by decide) (fun c9 => absurd c9 (by decide)) (fun _ => ?_)
                                                                                          refine lv_aload_n (pc := 597) hx hb dL_refused_597 rfl (lv_at hl 4 rfl) ?_
                                                                                          obtain ⟨v118, h_v118, h⟩ := ob h
                                                                                          refine mkA (na := 1) (pc := 598) (As := [.ref (ad 0)]) (rest := []) (r9 := []) hx hb hml hown hts hG2 hP hD hS hZ (c_L_asks l K hl0 ad F v115.2 h_v118) (wO_adr K ad _ _) g_Law_237 hd_Law_asks rfl ⟨by omega, by omega⟩ ⟨by omega, by omega⟩ hl rfl (Nat.le_of_ble_eq_true rfl) dL_refused_598 (fun H locs hP hD hS => ?_)
                                                                                          refine lv_lload_n (pc := 601) hx hb dL_refused_601 rfl (lv_at hl 3 rfl) ?_
                                                                                          refine W.lcmp (pc := 602) hx hb dL_refused_602 ?_
                                                                                          refine lv_if_ne (tgt := 610) (pc := 603) hx hb dL_refused_603 (by decide) (fun c119 => ?_) (fun c119 => ?_)
                                                                                          · have h := it_f c119 h
                                                                                            cases h
                                                                                          · have h := it_t c119 h
                                                                                            refine lv_iconst (v := (1 : Int32)) (pc := 606) hx hb dL_refused_606 (by decide) ?_
                                                                                            refine lv_goto (tgt := 611) (pc := 607) hx hb dL_refused_607 (by decide) ?_
                                                                                            obtain rfl := Option.some.inj h
                                                                                            refine W.widen (k := 31905) (n := 191430) (by omega) (by omega) ?_
                                                                                            rw [List.append_nil] at hP
                                                                                            exact W.zret hx hb hr rfl (fun t ht hW => ⟨⟨rfl, by rw [ht]; exact hP⟩, hS.F ht⟩) hS.2.2 dL_refused_611 hlk
                                                                                      · have h := it_t c116 h
                                                                                        refine lv_sipush (v := (-1003 : Int32)) (pc := 573) hx hb dL_refused_573 (by decide) ?_
                                                                                        refine lv_goto (tgt := 582) (pc := 576) hx hb dL_refused_576 (by decide) ?_
                                                                                        refine lv_icmp_ne (tgt := 589) (pc := 582) hx hb dL_refused_582 (by decide) (fun c120 => ?_) (fun c120 => ?_)
                                                                                        · have h := it_f c120 h
                                                                                          cases h
                                                                                        · have h := it_t c120 h
                                                                                          refine lv_iconst (v := (1 : Int32)) (pc := 585) hx hb dL_refused_585 (by decide) ?_
                                                                                          refine lv_goto (tgt := 590) (pc := 586) hx hb dL_refused_586 (by decide) ?_
                                                                                          refine lv_istore (pc := 590) (lv' := [(5, .int (1 : Int32)), (4, .int (i_constraintCount v1.2)), (3, .int (i_pointCount v1.2)), (1, .long v1.1), (0, .ref (ad 0))]) hx hb dL_refused_590 hl (by decide) rfl (fun ls hl => ?_)
                                                                                          refine lv_iload (pc := 592) hx hb dL_refused_592 (lv_at hl 0 rfl) ?_
                                                                                          refine lv_if_eq (tgt := 610) (pc := 594) hx hb dL_refused_594 (by decide) (fun c9 => absurd c9 (by decide)) (fun _ => ?_)
                                                                                          refine lv_aload_n (pc := 597) hx hb dL_refused_597 rfl (lv_at hl 4 rfl) ?_
                                                                                          obtain ⟨v121, h_v121, h⟩ := ob h
                                                                                          refine mkA (na := 1) (pc := 598) (As := [.ref (ad 0)]) (rest := []) (r9 := []) hx hb hml hown hts hG2 hP hD hS hZ (c_L_asks l K hl0 ad F v115.2 h_v121) (wO_adr K ad _ _) g_Law_237 hd_Law_asks rfl ⟨by omega, by omega⟩ ⟨by omega, by omega⟩ hl rfl (Nat.le_of_ble_eq_true rfl) dL_refused_598 (fun H locs hP hD hS => ?_)
                                                                                          refine lv_lload_n (pc := 601) hx hb dL_refused_601 rfl (lv_at hl 3 rfl) ?_
                                                                                          refine W.lcmp (pc := 602) hx hb dL_refused_602 ?_
                                                                                          refine lv_if_ne (tgt := 610) (pc := 603) hx hb dL_refused_603 (by decide) (fun c122 => ?_) (fun c122 => ?_)
                                                                                          · have h := it_f c122 h
                                                                                            cases h
                                                                                          · have h := it_t c122 h
                                                                                            refine lv_iconst (v := (1 : Int32)) (pc := 606) hx hb dL_refused_606 (by decide) ?_
                                                                                            refine lv_goto (tgt := 611) (pc := 607) hx hb dL_refused_607 (by decide) ?_
                                                                                            obtain rfl := Option.some.inj h
                                                                                            refine W.widen (k := 31905) (n := 191430) (by omega) (by omega) ?_
                                                                                            rw [List.append_nil] at hP
                                                                                            exact W.zret hx hb hr rfl (fun t ht hW => ⟨⟨rfl, by rw [ht]; exact hP⟩, hS.F ht⟩) hS.2.2 dL_refused_611 hlk
