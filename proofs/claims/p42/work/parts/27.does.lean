set_option maxHeartbeats 8000000 in
set_option maxRecDepth 100000 in
theorem c_L_does (l : Launch) (K : KT) (hl0 : l.stackTraces = false) (ad : Nat → Nat) (F : Nat) (S : TopS) (a0 : Int32) {o : Int32 × TopS} (h : s_L_does F S a0 = some o) : Mk l K 9 12 yL_does cL_does 9 .int [.ref (ad 0), .int a0] (wO K ad S) (.int o.1) (wO K ad o.2) := by
  refine Mk.of (by decide +kernel) rfl (Nat.le_of_ble_eq_true rfl) ?_
  unfold s_L_does at h
  intro p e s m below meth c C0 H locs hP hD hS ls hl
  obtain ⟨⟨hx, hb, hml, hown, hts, hG, hr, hlk⟩, hG2, hZ⟩ := id C0
  have hl : lv_has ls 9 [(0, .ref (ad 0)), (1, .int a0)] := hl
  have hRf : 9 ≤ (rmX 9 12).frames ∧ 540 ≤ (rmX 9 12).locals := ⟨Nat.le_of_ble_eq_true rfl, Nat.le_of_ble_eq_true rfl⟩
  have hRc : (rmX 9 12).cells = 12 := rfl
  have hRs : (rmX 9 12).slots = 72 := rfl
  refine lv_aload_n (pc := 0) hx hb dL_does_0 rfl (lv_at hl 0 rfl) ?_
  refine rdA (pc := 1) (As := []) (rest := []) (r9 := []) hx hb hml hown hts hG hP (c_i_pointCount l K ad S) (wO_0 K ad _) (ci := 6) rfl g_Law_146 hd_Top_pointCount rfl ⟨by omega, by omega⟩ ⟨by omega, by omega⟩ hl rfl (Nat.le_of_ble_eq_true rfl) dL_does_1 ?_
  refine lv_istore_n (pc := 4) (lv' := [(2, .int (i_pointCount S)), (0, .ref (ad 0)), (1, .int a0)]) hx hb dL_does_4 rfl hl (by decide) rfl (fun ls hl => ?_)
  refine lv_aload_n (pc := 5) hx hb dL_does_5 rfl (lv_at hl 1 rfl) ?_
  refine rdA (pc := 6) (As := []) (rest := []) (r9 := []) hx hb hml hown hts hG hP (c_i_constraintCount l K ad S) (wO_0 K ad _) (ci := 6) rfl g_Law_149 hd_Top_constraintCount rfl ⟨by omega, by omega⟩ ⟨by omega, by omega⟩ hl rfl (Nat.le_of_ble_eq_true rfl) dL_does_6 ?_
  refine lv_istore_n (pc := 9) (lv' := [(3, .int (i_constraintCount S)), (2, .int (i_pointCount S)), (0, .ref (ad 0)), (1, .int a0)]) hx hb dL_does_9 rfl hl (by decide) rfl (fun ls hl => ?_)
  refine lv_iload_n (pc := 10) hx hb dL_does_10 rfl (lv_at hl 3 rfl) ?_
  refine lv_iconst (v := (4 : Int32)) (pc := 11) hx hb dL_does_11 (by decide) ?_
  refine lv_ishr (pc := 12) hx hb dL_does_12 ?_
  refine lv_iload_n (pc := 13) hx hb dL_does_13 rfl (lv_at hl 1 rfl) ?_
  refine lv_iconst (v := (1 : Int32)) (pc := 14) hx hb dL_does_14 (by decide) ?_
  refine lv_iadd (pc := 15) hx hb dL_does_15 ?_
  obtain ⟨v1, h_v1, h⟩ := ob h
  refine rdS (pc := 16) (As := [.int (a0 >>> ((4 : Int32) &&& 31)), .int ((i_pointCount S) + (1 : Int32))]) (rest := []) hx hb hml hown hts hG (c_L_some l K (a0 >>> ((4 : Int32) &&& 31)) ((i_pointCount S) + (1 : Int32)) h_v1) g_Law_210 hd_Law_some rfl ⟨by omega, by omega⟩ ⟨by omega, by omega⟩ hl rfl (Nat.le_of_ble_eq_true rfl) dL_does_16 ?_
  refine lv_istore (pc := 19) (lv' := [(4, .int v1), (3, .int (i_constraintCount S)), (2, .int (i_pointCount S)), (0, .ref (ad 0)), (1, .int a0)]) hx hb dL_does_19 hl (by decide) rfl (fun ls hl => ?_)
  refine lv_iload_n (pc := 21) hx hb dL_does_21 rfl (lv_at hl 4 rfl) ?_
  refine lv_bipush (v := (8 : Int32)) (pc := 22) hx hb dL_does_22 (by decide) ?_
  refine lv_ishr (pc := 24) hx hb dL_does_24 ?_
  refine lv_bipush (v := (9 : Int32)) (pc := 25) hx hb dL_does_25 (by decide) ?_
  obtain ⟨v2, h_v2, h⟩ := ob h
  refine rdS (pc := 27) (As := [.int (a0 >>> ((8 : Int32) &&& 31)), .int (9 : Int32)]) (rest := []) hx hb hml hown hts hG (c_L_some l K (a0 >>> ((8 : Int32) &&& 31)) (9 : Int32) h_v2) g_Law_210 hd_Law_some rfl ⟨by omega, by omega⟩ ⟨by omega, by omega⟩ hl rfl (Nat.le_of_ble_eq_true rfl) dL_does_27 ?_
  refine lv_istore (pc := 30) (lv' := [(5, .int v2), (4, .int v1), (3, .int (i_constraintCount S)), (2, .int (i_pointCount S)), (0, .ref (ad 0)), (1, .int a0)]) hx hb dL_does_30 hl (by decide) rfl (fun ls hl => ?_)
  refine lv_iload_n (pc := 32) hx hb dL_does_32 rfl (lv_at hl 5 rfl) ?_
  refine lv_bipush (v := (12 : Int32)) (pc := 33) hx hb dL_does_33 (by decide) ?_
  refine lv_ishr (pc := 35) hx hb dL_does_35 ?_
  refine lv_bipush (v := (9 : Int32)) (pc := 36) hx hb dL_does_36 (by decide) ?_
  obtain ⟨v3, h_v3, h⟩ := ob h
  refine rdS (pc := 38) (As := [.int (a0 >>> ((12 : Int32) &&& 31)), .int (9 : Int32)]) (rest := []) hx hb hml hown hts hG (c_L_some l K (a0 >>> ((12 : Int32) &&& 31)) (9 : Int32) h_v3) g_Law_210 hd_Law_some rfl ⟨by omega, by omega⟩ ⟨by omega, by omega⟩ hl rfl (Nat.le_of_ble_eq_true rfl) dL_does_38 ?_
  refine lv_istore (pc := 41) (lv' := [(6, .int v3), (5, .int v2), (4, .int v1), (3, .int (i_constraintCount S)), (2, .int (i_pointCount S)), (0, .ref (ad 0)), (1, .int a0)]) hx hb dL_does_41 hl (by decide) rfl (fun ls hl => ?_)
  refine lv_iload_n (pc := 43) hx hb dL_does_43 rfl (lv_at hl 6 rfl) ?_
  refine lv_bipush (v := (8 : Int32)) (pc := 44) hx hb dL_does_44 (by decide) ?_
  obtain ⟨v4, h_v4, h⟩ := ob h
  refine rdS (pc := 46) (As := [.int a0, .int (8 : Int32)]) (rest := []) hx hb hml hown hts hG (c_L_some l K a0 (8 : Int32) h_v4) g_Law_210 hd_Law_some rfl ⟨by omega, by omega⟩ ⟨by omega, by omega⟩ hl rfl (Nat.le_of_ble_eq_true rfl) dL_does_46 ?_
  by_cases c5 : v4 = (0 : Int32) ∨ v4 = (1 : Int32) ∨ v4 = (2 : Int32)
  · have h := it_t c5 h
    refine orW3 (P := fun z => W p l e _ s m _ below meth c H locs _ _ _ (F0 m 49 ls [.int z])) c5 (fun hk => lv_tableIn (pc := 49) (tgt := 92) hx hb dL_does_49 (by decide) (by decide) rfl (by decide) hk) (fun hk => lv_tableIn (pc := 49) (tgt := 92) hx hb dL_does_49 (by decide) (by decide) rfl (by decide) hk) (fun hk => lv_tableIn (pc := 49) (tgt := 92) hx hb dL_does_49 (by decide) (by decide) rfl (by decide) hk) ?_
    refine lv_aload_n (pc := 92) hx hb dL_does_92 rfl (lv_at hl 5 rfl) ?_
    refine lv_iload (pc := 93) hx hb dL_does_93 (lv_at hl 1 rfl) ?_
    refine lv_iload (pc := 95) hx hb dL_does_95 (lv_at hl 0 rfl) ?_
    obtain ⟨v6, h_v6, h⟩ := ob h
    refine lwA (na := 3) (pc := 97) (As := [.ref (ad 0), .int v2, .int v3]) (rest := []) (r9 := []) hx hb hml hown hts hG2 hP hD hS hZ (c_h_point l K hl0 ad F S v2 v3 h_v6) (wO_adr K ad _ _) (gSH qm_Law_213 qt_Law_point qn_Law qc_Law_point) (by decide +kernel) rfl ⟨by omega, by omega⟩ ⟨by omega, by omega⟩ hl rfl (Nat.le_of_ble_eq_true rfl) dL_does_97 (fun H locs hP hD hS => ?_)
    refine lv_istore (pc := 100) (lv' := [(7, .int v6.1), (6, .int v3), (5, .int v2), (4, .int v1), (3, .int (i_constraintCount S)), (2, .int (i_pointCount S)), (0, .ref (ad 0)), (1, .int a0)]) hx hb dL_does_100 hl (by decide) rfl (fun ls hl => ?_)
    refine lv_iload (pc := 102) hx hb dL_does_102 (lv_at hl 0 rfl) ?_
    refine lv_iload_n (pc := 104) hx hb dL_does_104 rfl (lv_at hl 5 rfl) ?_
    refine lv_icmp_ne (tgt := 144) (pc := 105) hx hb dL_does_105 (by decide) (fun c7 => ?_) (fun c7 => ?_)
    · have h := it_f c7 h
      refine lv_iload (pc := 144) hx hb dL_does_144 (lv_at hl 0 rfl) ?_
      refine lv_sipush (v := (-1003 : Int32)) (pc := 146) hx hb dL_does_146 (by decide) ?_
      refine lv_icmp_eq (tgt := 166) (pc := 149) hx hb dL_does_149 (by decide) (fun c8 => ?_) (fun c8 => ?_)
      · have h := it_t c8 h
        refine lv_iconst (v := (0 : Int32)) (pc := 166) hx hb dL_does_166 (by decide) ?_
        refine lv_goto (tgt := 171) (pc := 167) hx hb dL_does_167 (by decide) ?_
        obtain rfl := Option.some.inj h
        refine W.widen (k := 12) (n := 72) (by omega) (by omega) ?_
        rw [List.append_nil] at hP
        exact W.iret hx hb hr (fun t ht hW => ⟨⟨rfl, by rw [ht]; exact hP⟩, hS.F ht⟩) hS.2.2 dL_does_171 hlk
      · have h := it_f c8 h
        refine lv_iload (pc := 152) hx hb dL_does_152 (lv_at hl 0 rfl) ?_
        refine lv_sipush (v := (-1002 : Int32)) (pc := 154) hx hb dL_does_154 (by decide) ?_
        refine lv_icmp_ne (tgt := 170) (pc := 157) hx hb dL_does_157 (by decide) (fun c9 => ?_) (fun c9 => ?_)
        · have h := it_f c9 h
          cases h
        · have h := it_t c9 h
          refine lv_iload_n (pc := 160) hx hb dL_does_160 rfl (lv_at hl 5 rfl) ?_
          refine lv_bipush (v := (16 : Int32)) (pc := 161) hx hb dL_does_161 (by decide) ?_
          refine lv_icmp_ne (tgt := 170) (pc := 163) hx hb dL_does_163 (by decide) (fun c10 => ?_) (fun c10 => ?_)
          · have h := it_f c10 h
            cases h
          · have h := it_t c10 h
            refine lv_iconst (v := (0 : Int32)) (pc := 166) hx hb dL_does_166 (by decide) ?_
            refine lv_goto (tgt := 171) (pc := 167) hx hb dL_does_167 (by decide) ?_
            obtain rfl := Option.some.inj h
            refine W.widen (k := 12) (n := 72) (by omega) (by omega) ?_
            rw [List.append_nil] at hP
            exact W.iret hx hb hr (fun t ht hW => ⟨⟨rfl, by rw [ht]; exact hP⟩, hS.F ht⟩) hS.2.2 dL_does_171 hlk
    · have h := it_t c7 h
      refine lv_aload_n (pc := 108) hx hb dL_does_108 rfl (lv_at hl 6 rfl) ?_
      refine rdA (pc := 109) (As := []) (rest := []) (r9 := []) hx hb hml hown hts hG hP (c_i_pointCount l K ad v6.2) (wO_0 K ad _) (ci := 6) rfl g_Law_146 hd_Top_pointCount rfl ⟨by omega, by omega⟩ ⟨by omega, by omega⟩ hl rfl (Nat.le_of_ble_eq_true rfl) dL_does_109 ?_
      refine lv_iload_n (pc := 112) hx hb dL_does_112 rfl (lv_at hl 5 rfl) ?_
      refine lv_iconst (v := (1 : Int32)) (pc := 113) hx hb dL_does_113 (by decide) ?_
      refine lv_iadd (pc := 114) hx hb dL_does_114 ?_
      refine lv_icmp_ne (tgt := 144) (pc := 115) hx hb dL_does_115 (by decide) (fun c11 => ?_) (fun c11 => ?_)
      · have h := it_f c11 h
        cases h
      · have h := it_t c11 h
        refine lv_aload_n (pc := 118) hx hb dL_does_118 rfl (lv_at hl 6 rfl) ?_
        refine lv_iload_n (pc := 119) hx hb dL_does_119 rfl (lv_at hl 5 rfl) ?_
        refine lv_iconst (v := (0 : Int32)) (pc := 120) hx hb dL_does_120 (by decide) ?_
        obtain ⟨v12, h_v12, h⟩ := ob h
        refine lwA (na := 3) (pc := 121) (As := [.ref (ad 0), .int (i_pointCount S), .int (0 : Int32)]) (rest := []) (r9 := []) hx hb hml hown hts hG2 hP hD hS hZ (c_h_coordinate l K hl0 ad F v6.2 (i_pointCount S) (0 : Int32) h_v12) (wO_adr K ad _ _) (gSH qm_Law_152 qt_Law_coordinate qn_Law qc_Law_coordinate) (by decide +kernel) rfl ⟨by omega, by omega⟩ ⟨by omega, by omega⟩ hl rfl (Nat.le_of_ble_eq_true rfl) dL_does_121 (fun H locs hP hD hS => ?_)
        refine lv_iload (pc := 124) hx hb dL_does_124 (lv_at hl 2 rfl) ?_
        refine lv_icmp_ne (tgt := 144) (pc := 126) hx hb dL_does_126 (by decide) (fun c13 => ?_) (fun c13 => ?_)
        · have h := it_f c13 h
          cases h
        · have h := it_t c13 h
          refine lv_aload_n (pc := 129) hx hb dL_does_129 rfl (lv_at hl 6 rfl) ?_
          refine lv_iload_n (pc := 130) hx hb dL_does_130 rfl (lv_at hl 5 rfl) ?_
          refine lv_iconst (v := (1 : Int32)) (pc := 131) hx hb dL_does_131 (by decide) ?_
          obtain ⟨v14, h_v14, h⟩ := ob h
          refine lwA (na := 3) (pc := 132) (As := [.ref (ad 0), .int (i_pointCount S), .int (1 : Int32)]) (rest := []) (r9 := []) hx hb hml hown hts hG2 hP hD hS hZ (c_h_coordinate l K hl0 ad F v12.2 (i_pointCount S) (1 : Int32) h_v14) (wO_adr K ad _ _) (gSH qm_Law_152 qt_Law_coordinate qn_Law qc_Law_coordinate) (by decide +kernel) rfl ⟨by omega, by omega⟩ ⟨by omega, by omega⟩ hl rfl (Nat.le_of_ble_eq_true rfl) dL_does_132 (fun H locs hP hD hS => ?_)
          refine lv_iload (pc := 135) hx hb dL_does_135 (lv_at hl 1 rfl) ?_
          refine lv_icmp_ne (tgt := 144) (pc := 137) hx hb dL_does_137 (by decide) (fun c15 => ?_) (fun c15 => ?_)
          · have h := it_f c15 h
            cases h
          · have h := it_t c15 h
            refine lv_iconst (v := (1 : Int32)) (pc := 140) hx hb dL_does_140 (by decide) ?_
            refine lv_goto (tgt := 171) (pc := 141) hx hb dL_does_141 (by decide) ?_
            obtain rfl := Option.some.inj h
            refine W.widen (k := 12) (n := 72) (by omega) (by omega) ?_
            rw [List.append_nil] at hP
            exact W.iret hx hb hr (fun t ht hW => ⟨⟨rfl, by rw [ht]; exact hP⟩, hS.F ht⟩) hS.2.2 dL_does_171 hlk
  · have h := it_f c5 h
    by_cases c16 : v4 = (3 : Int32)
    · have h := it_t c16 h
      refine orW1 (P := fun z => W p l e _ s m _ below meth c H locs _ _ _ (F0 m 49 ls [.int z])) c16 (fun hk => lv_tableIn (pc := 49) (tgt := 172) hx hb dL_does_49 (by decide) (by decide) rfl (by decide) hk) ?_
      refine lv_aload_n (pc := 172) hx hb dL_does_172 rfl (lv_at hl 5 rfl) ?_
      refine lv_iload (pc := 173) hx hb dL_does_173 (lv_at hl 2 rfl) ?_
      obtain ⟨v17, h_v17, h⟩ := ob h
      refine lwA (na := 2) (pc := 175) (As := [.ref (ad 0), .int v1]) (rest := []) (r9 := []) hx hb hml hown hts hG2 hP hD hS hZ (c_h_remove l K hl0 ad F S v1 h_v17) (wO_adr K ad _ _) (gSH qm_Law_216 qt_Law_remove qn_Law qc_Law_remove) (by decide +kernel) rfl ⟨by omega, by omega⟩ ⟨by omega, by omega⟩ hl rfl (Nat.le_of_ble_eq_true rfl) dL_does_175 (fun H locs hP hD hS => ?_)
      refine lv_istore (pc := 178) (lv' := [(7, .int v17.1), (6, .int v3), (5, .int v2), (4, .int v1), (3, .int (i_constraintCount S)), (2, .int (i_pointCount S)), (0, .ref (ad 0)), (1, .int a0)]) hx hb dL_does_178 hl (by decide) rfl (fun ls hl => ?_)
      refine lv_iload (pc := 180) hx hb dL_does_180 (lv_at hl 0 rfl) ?_
      refine lv_iload_n (pc := 182) hx hb dL_does_182 rfl (lv_at hl 5 rfl) ?_
      refine lv_iconst (v := (1 : Int32)) (pc := 183) hx hb dL_does_183 (by decide) ?_
      refine lv_isub (pc := 184) hx hb dL_does_184 ?_
      refine lv_icmp_ne (tgt := 208) (pc := 185) hx hb dL_does_185 (by decide) (fun c18 => ?_) (fun c18 => ?_)
      · have h := it_f c18 h
        refine lv_iload (pc := 208) hx hb dL_does_208 (lv_at hl 0 rfl) ?_
        refine lv_sipush (v := (-1001 : Int32)) (pc := 210) hx hb dL_does_210 (by decide) ?_
        refine lv_icmp_ne (tgt := 222) (pc := 213) hx hb dL_does_213 (by decide) (fun c19 => ?_) (fun c19 => ?_)
        · have h := it_f c19 h
          refine lv_iload (pc := 222) hx hb dL_does_222 (lv_at hl 0 rfl) ?_
          refine lv_sipush (v := (-1002 : Int32)) (pc := 224) hx hb dL_does_224 (by decide) ?_
          refine lv_icmp_ne (tgt := 234) (pc := 227) hx hb dL_does_227 (by decide) (fun c20 => ?_) (fun c20 => ?_)
          · have h := it_f c20 h
            cases h
          · have h := it_t c20 h
            refine lv_iconst (v := (0 : Int32)) (pc := 230) hx hb dL_does_230 (by decide) ?_
            refine lv_goto (tgt := 235) (pc := 231) hx hb dL_does_231 (by decide) ?_
            obtain rfl := Option.some.inj h
            refine W.widen (k := 12) (n := 72) (by omega) (by omega) ?_
            rw [List.append_nil] at hP
            exact W.iret hx hb hr (fun t ht hW => ⟨⟨rfl, by rw [ht]; exact hP⟩, hS.F ht⟩) hS.2.2 dL_does_235 hlk
        · have h := it_t c19 h
          refine lv_iload (pc := 216) hx hb dL_does_216 (lv_at hl 3 rfl) ?_
          refine lv_iload_n (pc := 218) hx hb dL_does_218 rfl (lv_at hl 5 rfl) ?_
          refine lv_icmp_eq (tgt := 230) (pc := 219) hx hb dL_does_219 (by decide) (fun c21 => ?_) (fun c21 => ?_)
          · have h := it_t c21 h
            refine lv_iconst (v := (0 : Int32)) (pc := 230) hx hb dL_does_230 (by decide) ?_
            refine lv_goto (tgt := 235) (pc := 231) hx hb dL_does_231 (by decide) ?_
            obtain rfl := Option.some.inj h
            refine W.widen (k := 12) (n := 72) (by omega) (by omega) ?_
            rw [List.append_nil] at hP
            exact W.iret hx hb hr (fun t ht hW => ⟨⟨rfl, by rw [ht]; exact hP⟩, hS.F ht⟩) hS.2.2 dL_does_235 hlk
          · have h := it_f c21 h
            refine lv_iload (pc := 222) hx hb dL_does_222 (lv_at hl 0 rfl) ?_
            refine lv_sipush (v := (-1002 : Int32)) (pc := 224) hx hb dL_does_224 (by decide) ?_
            refine lv_icmp_ne (tgt := 234) (pc := 227) hx hb dL_does_227 (by decide) (fun c22 => ?_) (fun c22 => ?_)
            · have h := it_f c22 h
              cases h
            · have h := it_t c22 h
              refine lv_iconst (v := (0 : Int32)) (pc := 230) hx hb dL_does_230 (by decide) ?_
              refine lv_goto (tgt := 235) (pc := 231) hx hb dL_does_231 (by decide) ?_
              obtain rfl := Option.some.inj h
              refine W.widen (k := 12) (n := 72) (by omega) (by omega) ?_
              rw [List.append_nil] at hP
              exact W.iret hx hb hr (fun t ht hW => ⟨⟨rfl, by rw [ht]; exact hP⟩, hS.F ht⟩) hS.2.2 dL_does_235 hlk
      · have h := it_t c18 h
        refine lv_iload (pc := 188) hx hb dL_does_188 (lv_at hl 3 rfl) ?_
        refine lv_iload_n (pc := 190) hx hb dL_does_190 rfl (lv_at hl 5 rfl) ?_
        refine lv_icmp_ge (tgt := 208) (pc := 191) hx hb dL_does_191 (by decide) (fun c23 => ?_) (fun c23 => ?_)
        · have h := it_t c23 h
          cases h
        · have h := it_f c23 h
          refine lv_aload_n (pc := 194) hx hb dL_does_194 rfl (lv_at hl 6 rfl) ?_
          refine rdA (pc := 195) (As := []) (rest := []) (r9 := []) hx hb hml hown hts hG hP (c_i_pointCount l K ad v17.2) (wO_0 K ad _) (ci := 6) rfl g_Law_146 hd_Top_pointCount rfl ⟨by omega, by omega⟩ ⟨by omega, by omega⟩ hl rfl (Nat.le_of_ble_eq_true rfl) dL_does_195 ?_
          refine lv_iload_n (pc := 198) hx hb dL_does_198 rfl (lv_at hl 5 rfl) ?_
          refine lv_iconst (v := (1 : Int32)) (pc := 199) hx hb dL_does_199 (by decide) ?_
          refine lv_isub (pc := 200) hx hb dL_does_200 ?_
          refine lv_icmp_ne (tgt := 208) (pc := 201) hx hb dL_does_201 (by decide) (fun c24 => ?_) (fun c24 => ?_)
          · have h := it_f c24 h
            cases h
          · have h := it_t c24 h
            refine lv_iconst (v := (1 : Int32)) (pc := 204) hx hb dL_does_204 (by decide) ?_
            refine lv_goto (tgt := 235) (pc := 205) hx hb dL_does_205 (by decide) ?_
            obtain rfl := Option.some.inj h
            refine W.widen (k := 12) (n := 72) (by omega) (by omega) ?_
            rw [List.append_nil] at hP
            exact W.iret hx hb hr (fun t ht hW => ⟨⟨rfl, by rw [ht]; exact hP⟩, hS.F ht⟩) hS.2.2 dL_does_235 hlk
    · have h := it_f c16 h
      by_cases c25 : v4 = (4 : Int32)
      · have h := it_t c25 h
        refine orW1 (P := fun z => W p l e _ s m _ below meth c H locs _ _ _ (F0 m 49 ls [.int z])) c25 (fun hk => lv_tableIn (pc := 49) (tgt := 236) hx hb dL_does_49 (by decide) (by decide) rfl (by decide) hk) ?_
        refine lv_iload (pc := 236) hx hb dL_does_236 (lv_at hl 2 rfl) ?_
        refine lv_iload_n (pc := 238) hx hb dL_does_238 rfl (lv_at hl 4 rfl) ?_
        refine lv_icmp_ge (tgt := 270) (pc := 239) hx hb dL_does_239 (by decide) (fun c26 => ?_) (fun c26 => ?_)
        · have h := it_t c26 h
          refine lv_iconst (v := (0 : Int32)) (pc := 270) hx hb dL_does_270 (by decide) ?_
          refine lv_istore (pc := 271) (lv' := [(7, .int (0 : Int32)), (6, .int v3), (5, .int v2), (4, .int v1), (3, .int (i_constraintCount S)), (2, .int (i_pointCount S)), (0, .ref (ad 0)), (1, .int a0)]) hx hb dL_does_271 hl (by decide) rfl (fun ls hl => ?_)
          refine lv_aload_n (pc := 273) hx hb dL_does_273 rfl (lv_at hl 6 rfl) ?_
          refine lv_iload (pc := 274) hx hb dL_does_274 (lv_at hl 3 rfl) ?_
          refine lv_iload (pc := 276) hx hb dL_does_276 (lv_at hl 2 rfl) ?_
          refine lv_iload (pc := 278) hx hb dL_does_278 (lv_at hl 1 rfl) ?_
          obtain ⟨v27, h_v27, h⟩ := ob h
          refine lwA (na := 4) (pc := 280) (As := [.ref (ad 0), .int v1, .int v2, .int v3]) (rest := []) (r9 := []) hx hb hml hown hts hG2 hP hD hS hZ (c_h_move l K hl0 ad F S v1 v2 v3 h_v27) (wO_adr K ad _ _) (gSH qm_Law_219 qt_Law_move qn_Law qc_Law_move) (by decide +kernel) rfl ⟨by omega, by omega⟩ ⟨by omega, by omega⟩ hl rfl (Nat.le_of_ble_eq_true rfl) dL_does_280 (fun H locs hP hD hS => ?_)
          refine lv_istore (pc := 283) (lv' := [(8, .int v27.1), (7, .int (0 : Int32)), (6, .int v3), (5, .int v2), (4, .int v1), (3, .int (i_constraintCount S)), (2, .int (i_pointCount S)), (0, .ref (ad 0)), (1, .int a0)]) hx hb dL_does_283 hl (by decide) rfl (fun ls hl => ?_)
          refine lv_iload (pc := 285) hx hb dL_does_285 (lv_at hl 0 rfl) ?_
          refine lv_iload (pc := 287) hx hb dL_does_287 (lv_at hl 1 rfl) ?_
          refine lv_if_eq (tgt := 296) (pc := 289) hx hb dL_does_289 (by decide) (fun _ => ?_) (fun c9 => absurd rfl c9)
          refine lv_iconst (v := (1 : Int32)) (pc := 296) hx hb dL_does_296 (by decide) ?_
          refine lv_icmp_ne (tgt := 334) (pc := 297) hx hb dL_does_297 (by decide) (fun c28 => ?_) (fun c28 => ?_)
          · have h := it_f c28 h
            refine lv_iload (pc := 334) hx hb dL_does_334 (lv_at hl 0 rfl) ?_
            refine lv_sipush (v := (-1001 : Int32)) (pc := 336) hx hb dL_does_336 (by decide) ?_
            refine lv_icmp_ne (tgt := 348) (pc := 339) hx hb dL_does_339 (by decide) (fun c29 => ?_) (fun c29 => ?_)
            · have h := it_f c29 h
              refine lv_iload (pc := 348) hx hb dL_does_348 (lv_at hl 0 rfl) ?_
              refine lv_sipush (v := (-1003 : Int32)) (pc := 350) hx hb dL_does_350 (by decide) ?_
              refine lv_icmp_eq (tgt := 364) (pc := 353) hx hb dL_does_353 (by decide) (fun c30 => ?_) (fun c30 => ?_)
              · have h := it_t c30 h
                refine lv_iconst (v := (0 : Int32)) (pc := 364) hx hb dL_does_364 (by decide) ?_
                refine lv_goto (tgt := 369) (pc := 365) hx hb dL_does_365 (by decide) ?_
                obtain rfl := Option.some.inj h
                refine W.widen (k := 12) (n := 72) (by omega) (by omega) ?_
                rw [List.append_nil] at hP
                exact W.iret hx hb hr (fun t ht hW => ⟨⟨rfl, by rw [ht]; exact hP⟩, hS.F ht⟩) hS.2.2 dL_does_369 hlk
              · have h := it_f c30 h
                refine lv_iload (pc := 356) hx hb dL_does_356 (lv_at hl 0 rfl) ?_
                refine lv_sipush (v := (-1004 : Int32)) (pc := 358) hx hb dL_does_358 (by decide) ?_
                refine lv_icmp_ne (tgt := 368) (pc := 361) hx hb dL_does_361 (by decide) (fun c31 => ?_) (fun c31 => ?_)
                · have h := it_f c31 h
                  cases h
                · have h := it_t c31 h
                  refine lv_iconst (v := (0 : Int32)) (pc := 364) hx hb dL_does_364 (by decide) ?_
                  refine lv_goto (tgt := 369) (pc := 365) hx hb dL_does_365 (by decide) ?_
                  obtain rfl := Option.some.inj h
                  refine W.widen (k := 12) (n := 72) (by omega) (by omega) ?_
                  rw [List.append_nil] at hP
                  exact W.iret hx hb hr (fun t ht hW => ⟨⟨rfl, by rw [ht]; exact hP⟩, hS.F ht⟩) hS.2.2 dL_does_369 hlk
            · have h := it_t c29 h
              refine lv_iload (pc := 342) hx hb dL_does_342 (lv_at hl 4 rfl) ?_
              refine lv_iload_n (pc := 344) hx hb dL_does_344 rfl (lv_at hl 6 rfl) ?_
              refine lv_icmp_eq (tgt := 364) (pc := 345) hx hb dL_does_345 (by decide) (fun c32 => ?_) (fun c32 => ?_)
              · have h := it_t c32 h
                refine lv_iconst (v := (0 : Int32)) (pc := 364) hx hb dL_does_364 (by decide) ?_
                refine lv_goto (tgt := 369) (pc := 365) hx hb dL_does_365 (by decide) ?_
                obtain rfl := Option.some.inj h
                refine W.widen (k := 12) (n := 72) (by omega) (by omega) ?_
                rw [List.append_nil] at hP
                exact W.iret hx hb hr (fun t ht hW => ⟨⟨rfl, by rw [ht]; exact hP⟩, hS.F ht⟩) hS.2.2 dL_does_369 hlk
              · have h := it_f c32 h
                refine lv_iload (pc := 348) hx hb dL_does_348 (lv_at hl 0 rfl) ?_
                refine lv_sipush (v := (-1003 : Int32)) (pc := 350) hx hb dL_does_350 (by decide) ?_
                refine lv_icmp_eq (tgt := 364) (pc := 353) hx hb dL_does_353 (by decide) (fun c33 => ?_) (fun c33 => ?_)
                · have h := it_t c33 h
                  refine lv_iconst (v := (0 : Int32)) (pc := 364) hx hb dL_does_364 (by decide) ?_
                  refine lv_goto (tgt := 369) (pc := 365) hx hb dL_does_365 (by decide) ?_
                  obtain rfl := Option.some.inj h
                  refine W.widen (k := 12) (n := 72) (by omega) (by omega) ?_
                  rw [List.append_nil] at hP
                  exact W.iret hx hb hr (fun t ht hW => ⟨⟨rfl, by rw [ht]; exact hP⟩, hS.F ht⟩) hS.2.2 dL_does_369 hlk
                · have h := it_f c33 h
                  refine lv_iload (pc := 356) hx hb dL_does_356 (lv_at hl 0 rfl) ?_
                  refine lv_sipush (v := (-1004 : Int32)) (pc := 358) hx hb dL_does_358 (by decide) ?_
                  refine lv_icmp_ne (tgt := 368) (pc := 361) hx hb dL_does_361 (by decide) (fun c34 => ?_) (fun c34 => ?_)
                  · have h := it_f c34 h
                    cases h
                  · have h := it_t c34 h
                    refine lv_iconst (v := (0 : Int32)) (pc := 364) hx hb dL_does_364 (by decide) ?_
                    refine lv_goto (tgt := 369) (pc := 365) hx hb dL_does_365 (by decide) ?_
                    obtain rfl := Option.some.inj h
                    refine W.widen (k := 12) (n := 72) (by omega) (by omega) ?_
                    rw [List.append_nil] at hP
                    exact W.iret hx hb hr (fun t ht hW => ⟨⟨rfl, by rw [ht]; exact hP⟩, hS.F ht⟩) hS.2.2 dL_does_369 hlk
          · have h := it_t c28 h
            refine lv_iload (pc := 300) hx hb dL_does_300 (lv_at hl 4 rfl) ?_
            refine lv_iload_n (pc := 302) hx hb dL_does_302 rfl (lv_at hl 6 rfl) ?_
            refine lv_icmp_ge (tgt := 334) (pc := 303) hx hb dL_does_303 (by decide) (fun c35 => ?_) (fun c35 => ?_)
            · have h := it_t c35 h
              cases h
            · have h := it_f c35 h
              refine lv_aload_n (pc := 306) hx hb dL_does_306 rfl (lv_at hl 7 rfl) ?_
              refine lv_iload (pc := 307) hx hb dL_does_307 (lv_at hl 4 rfl) ?_
              refine lv_iconst (v := (0 : Int32)) (pc := 309) hx hb dL_does_309 (by decide) ?_
              obtain ⟨v36, h_v36, h⟩ := ob h
              refine lwA (na := 3) (pc := 310) (As := [.ref (ad 0), .int v1, .int (0 : Int32)]) (rest := []) (r9 := []) hx hb hml hown hts hG2 hP hD hS hZ (c_h_coordinate l K hl0 ad F v27.2 v1 (0 : Int32) h_v36) (wO_adr K ad _ _) (gSH qm_Law_152 qt_Law_coordinate qn_Law qc_Law_coordinate) (by decide +kernel) rfl ⟨by omega, by omega⟩ ⟨by omega, by omega⟩ hl rfl (Nat.le_of_ble_eq_true rfl) dL_does_310 (fun H locs hP hD hS => ?_)
              refine lv_iload (pc := 313) hx hb dL_does_313 (lv_at hl 3 rfl) ?_
              refine lv_icmp_ne (tgt := 334) (pc := 315) hx hb dL_does_315 (by decide) (fun c37 => ?_) (fun c37 => ?_)
              · have h := it_f c37 h
                cases h
              · have h := it_t c37 h
                refine lv_aload_n (pc := 318) hx hb dL_does_318 rfl (lv_at hl 7 rfl) ?_
                refine lv_iload (pc := 319) hx hb dL_does_319 (lv_at hl 4 rfl) ?_
                refine lv_iconst (v := (1 : Int32)) (pc := 321) hx hb dL_does_321 (by decide) ?_
                obtain ⟨v38, h_v38, h⟩ := ob h
                refine lwA (na := 3) (pc := 322) (As := [.ref (ad 0), .int v1, .int (1 : Int32)]) (rest := []) (r9 := []) hx hb hml hown hts hG2 hP hD hS hZ (c_h_coordinate l K hl0 ad F v36.2 v1 (1 : Int32) h_v38) (wO_adr K ad _ _) (gSH qm_Law_152 qt_Law_coordinate qn_Law qc_Law_coordinate) (by decide +kernel) rfl ⟨by omega, by omega⟩ ⟨by omega, by omega⟩ hl rfl (Nat.le_of_ble_eq_true rfl) dL_does_322 (fun H locs hP hD hS => ?_)
                refine lv_iload (pc := 325) hx hb dL_does_325 (lv_at hl 2 rfl) ?_
                refine lv_icmp_ne (tgt := 334) (pc := 327) hx hb dL_does_327 (by decide) (fun c39 => ?_) (fun c39 => ?_)
                · have h := it_f c39 h
                  cases h
                · have h := it_t c39 h
                  refine lv_iconst (v := (1 : Int32)) (pc := 330) hx hb dL_does_330 (by decide) ?_
                  refine lv_goto (tgt := 369) (pc := 331) hx hb dL_does_331 (by decide) ?_
                  obtain rfl := Option.some.inj h
                  refine W.widen (k := 12) (n := 72) (by omega) (by omega) ?_
                  rw [List.append_nil] at hP
                  exact W.iret hx hb hr (fun t ht hW => ⟨⟨rfl, by rw [ht]; exact hP⟩, hS.F ht⟩) hS.2.2 dL_does_369 hlk
        · have h := it_f c26 h
          refine lv_aload_n (pc := 242) hx hb dL_does_242 rfl (lv_at hl 5 rfl) ?_
          refine lv_iload (pc := 243) hx hb dL_does_243 (lv_at hl 2 rfl) ?_
          refine lv_iconst (v := (0 : Int32)) (pc := 245) hx hb dL_does_245 (by decide) ?_
          obtain ⟨v40, h_v40, h⟩ := ob h
          refine lwA (na := 3) (pc := 246) (As := [.ref (ad 0), .int v1, .int (0 : Int32)]) (rest := []) (r9 := []) hx hb hml hown hts hG2 hP hD hS hZ (c_h_coordinate l K hl0 ad F S v1 (0 : Int32) h_v40) (wO_adr K ad _ _) (gSH qm_Law_152 qt_Law_coordinate qn_Law qc_Law_coordinate) (by decide +kernel) rfl ⟨by omega, by omega⟩ ⟨by omega, by omega⟩ hl rfl (Nat.le_of_ble_eq_true rfl) dL_does_246 (fun H locs hP hD hS => ?_)
          refine lv_iload (pc := 249) hx hb dL_does_249 (lv_at hl 1 rfl) ?_
          refine lv_icmp_ne (tgt := 270) (pc := 251) hx hb dL_does_251 (by decide) (fun c41 => ?_) (fun c41 => ?_)
          · have h := it_f c41 h
            refine lv_iconst (v := (0 : Int32)) (pc := 270) hx hb dL_does_270 (by decide) ?_
            refine lv_istore (pc := 271) (lv' := [(7, .int (0 : Int32)), (6, .int v3), (5, .int v2), (4, .int v1), (3, .int (i_constraintCount S)), (2, .int (i_pointCount S)), (0, .ref (ad 0)), (1, .int a0)]) hx hb dL_does_271 hl (by decide) rfl (fun ls hl => ?_)
            refine lv_aload_n (pc := 273) hx hb dL_does_273 rfl (lv_at hl 6 rfl) ?_
            refine lv_iload (pc := 274) hx hb dL_does_274 (lv_at hl 3 rfl) ?_
            refine lv_iload (pc := 276) hx hb dL_does_276 (lv_at hl 2 rfl) ?_
            refine lv_iload (pc := 278) hx hb dL_does_278 (lv_at hl 1 rfl) ?_
            obtain ⟨v42, h_v42, h⟩ := ob h
            refine lwA (na := 4) (pc := 280) (As := [.ref (ad 0), .int v1, .int v2, .int v3]) (rest := []) (r9 := []) hx hb hml hown hts hG2 hP hD hS hZ (c_h_move l K hl0 ad F v40.2 v1 v2 v3 h_v42) (wO_adr K ad _ _) (gSH qm_Law_219 qt_Law_move qn_Law qc_Law_move) (by decide +kernel) rfl ⟨by omega, by omega⟩ ⟨by omega, by omega⟩ hl rfl (Nat.le_of_ble_eq_true rfl) dL_does_280 (fun H locs hP hD hS => ?_)
            refine lv_istore (pc := 283) (lv' := [(8, .int v42.1), (7, .int (0 : Int32)), (6, .int v3), (5, .int v2), (4, .int v1), (3, .int (i_constraintCount S)), (2, .int (i_pointCount S)), (0, .ref (ad 0)), (1, .int a0)]) hx hb dL_does_283 hl (by decide) rfl (fun ls hl => ?_)
            refine lv_iload (pc := 285) hx hb dL_does_285 (lv_at hl 0 rfl) ?_
            refine lv_iload (pc := 287) hx hb dL_does_287 (lv_at hl 1 rfl) ?_
            refine lv_if_eq (tgt := 296) (pc := 289) hx hb dL_does_289 (by decide) (fun _ => ?_) (fun c9 => absurd rfl c9)
            refine lv_iconst (v := (1 : Int32)) (pc := 296) hx hb dL_does_296 (by decide) ?_
            refine lv_icmp_ne (tgt := 334) (pc := 297) hx hb dL_does_297 (by decide) (fun c43 => ?_) (fun c43 => ?_)
            · have h := it_f c43 h
              refine lv_iload (pc := 334) hx hb dL_does_334 (lv_at hl 0 rfl) ?_
              refine lv_sipush (v := (-1001 : Int32)) (pc := 336) hx hb dL_does_336 (by decide) ?_
              refine lv_icmp_ne (tgt := 348) (pc := 339) hx hb dL_does_339 (by decide) (fun c44 => ?_) (fun c44 => ?_)
              · have h := it_f c44 h
                refine lv_iload (pc := 348) hx hb dL_does_348 (lv_at hl 0 rfl) ?_
                refine lv_sipush (v := (-1003 : Int32)) (pc := 350) hx hb dL_does_350 (by decide) ?_
                refine lv_icmp_eq (tgt := 364) (pc := 353) hx hb dL_does_353 (by decide) (fun c45 => ?_) (fun c45 => ?_)
                · have h := it_t c45 h
                  refine lv_iconst (v := (0 : Int32)) (pc := 364) hx hb dL_does_364 (by decide) ?_
                  refine lv_goto (tgt := 369) (pc := 365) hx hb dL_does_365 (by decide) ?_
                  obtain rfl := Option.some.inj h
                  refine W.widen (k := 12) (n := 72) (by omega) (by omega) ?_
                  rw [List.append_nil] at hP
                  exact W.iret hx hb hr (fun t ht hW => ⟨⟨rfl, by rw [ht]; exact hP⟩, hS.F ht⟩) hS.2.2 dL_does_369 hlk
                · have h := it_f c45 h
                  refine lv_iload (pc := 356) hx hb dL_does_356 (lv_at hl 0 rfl) ?_
                  refine lv_sipush (v := (-1004 : Int32)) (pc := 358) hx hb dL_does_358 (by decide) ?_
                  refine lv_icmp_ne (tgt := 368) (pc := 361) hx hb dL_does_361 (by decide) (fun c46 => ?_) (fun c46 => ?_)
                  · have h := it_f c46 h
                    cases h
                  · have h := it_t c46 h
                    refine lv_iconst (v := (0 : Int32)) (pc := 364) hx hb dL_does_364 (by decide) ?_
                    refine lv_goto (tgt := 369) (pc := 365) hx hb dL_does_365 (by decide) ?_
                    obtain rfl := Option.some.inj h
                    refine W.widen (k := 12) (n := 72) (by omega) (by omega) ?_
                    rw [List.append_nil] at hP
                    exact W.iret hx hb hr (fun t ht hW => ⟨⟨rfl, by rw [ht]; exact hP⟩, hS.F ht⟩) hS.2.2 dL_does_369 hlk
              · have h := it_t c44 h
                refine lv_iload (pc := 342) hx hb dL_does_342 (lv_at hl 4 rfl) ?_
                refine lv_iload_n (pc := 344) hx hb dL_does_344 rfl (lv_at hl 6 rfl) ?_
                refine lv_icmp_eq (tgt := 364) (pc := 345) hx hb dL_does_345 (by decide) (fun c47 => ?_) (fun c47 => ?_)
                · have h := it_t c47 h
                  refine lv_iconst (v := (0 : Int32)) (pc := 364) hx hb dL_does_364 (by decide) ?_
                  refine lv_goto (tgt := 369) (pc := 365) hx hb dL_does_365 (by decide) ?_
                  obtain rfl := Option.some.inj h
                  refine W.widen (k := 12) (n := 72) (by omega) (by omega) ?_
                  rw [List.append_nil] at hP
                  exact W.iret hx hb hr (fun t ht hW => ⟨⟨rfl, by rw [ht]; exact hP⟩, hS.F ht⟩) hS.2.2 dL_does_369 hlk
                · have h := it_f c47 h
                  refine lv_iload (pc := 348) hx hb dL_does_348 (lv_at hl 0 rfl) ?_
                  refine lv_sipush (v := (-1003 : Int32)) (pc := 350) hx hb dL_does_350 (by decide) ?_
                  refine lv_icmp_eq (tgt := 364) (pc := 353) hx hb dL_does_353 (by decide) (fun c48 => ?_) (fun c48 => ?_)
                  · have h := it_t c48 h
                    refine lv_iconst (v := (0 : Int32)) (pc := 364) hx hb dL_does_364 (by decide) ?_
                    refine lv_goto (tgt := 369) (pc := 365) hx hb dL_does_365 (by decide) ?_
                    obtain rfl := Option.some.inj h
                    refine W.widen (k := 12) (n := 72) (by omega) (by omega) ?_
                    rw [List.append_nil] at hP
                    exact W.iret hx hb hr (fun t ht hW => ⟨⟨rfl, by rw [ht]; exact hP⟩, hS.F ht⟩) hS.2.2 dL_does_369 hlk
                  · have h := it_f c48 h
                    refine lv_iload (pc := 356) hx hb dL_does_356 (lv_at hl 0 rfl) ?_
                    refine lv_sipush (v := (-1004 : Int32)) (pc := 358) hx hb dL_does_358 (by decide) ?_
                    refine lv_icmp_ne (tgt := 368) (pc := 361) hx hb dL_does_361 (by decide) (fun c49 => ?_) (fun c49 => ?_)
                    · have h := it_f c49 h
                      cases h
                    · have h := it_t c49 h
                      refine lv_iconst (v := (0 : Int32)) (pc := 364) hx hb dL_does_364 (by decide) ?_
                      refine lv_goto (tgt := 369) (pc := 365) hx hb dL_does_365 (by decide) ?_
                      obtain rfl := Option.some.inj h
                      refine W.widen (k := 12) (n := 72) (by omega) (by omega) ?_
                      rw [List.append_nil] at hP
                      exact W.iret hx hb hr (fun t ht hW => ⟨⟨rfl, by rw [ht]; exact hP⟩, hS.F ht⟩) hS.2.2 dL_does_369 hlk
            · have h := it_t c43 h
              refine lv_iload (pc := 300) hx hb dL_does_300 (lv_at hl 4 rfl) ?_
              refine lv_iload_n (pc := 302) hx hb dL_does_302 rfl (lv_at hl 6 rfl) ?_
              refine lv_icmp_ge (tgt := 334) (pc := 303) hx hb dL_does_303 (by decide) (fun c50 => ?_) (fun c50 => ?_)
              · have h := it_t c50 h
                cases h
              · have h := it_f c50 h
                refine lv_aload_n (pc := 306) hx hb dL_does_306 rfl (lv_at hl 7 rfl) ?_
                refine lv_iload (pc := 307) hx hb dL_does_307 (lv_at hl 4 rfl) ?_
                refine lv_iconst (v := (0 : Int32)) (pc := 309) hx hb dL_does_309 (by decide) ?_
                obtain ⟨v51, h_v51, h⟩ := ob h
                refine lwA (na := 3) (pc := 310) (As := [.ref (ad 0), .int v1, .int (0 : Int32)]) (rest := []) (r9 := []) hx hb hml hown hts hG2 hP hD hS hZ (c_h_coordinate l K hl0 ad F v42.2 v1 (0 : Int32) h_v51) (wO_adr K ad _ _) (gSH qm_Law_152 qt_Law_coordinate qn_Law qc_Law_coordinate) (by decide +kernel) rfl ⟨by omega, by omega⟩ ⟨by omega, by omega⟩ hl rfl (Nat.le_of_ble_eq_true rfl) dL_does_310 (fun H locs hP hD hS => ?_)
                refine lv_iload (pc := 313) hx hb dL_does_313 (lv_at hl 3 rfl) ?_
                refine lv_icmp_ne (tgt := 334) (pc := 315) hx hb dL_does_315 (by decide) (fun c52 => ?_) (fun c52 => ?_)
                · have h := it_f c52 h
                  cases h
                · have h := it_t c52 h
                  refine lv_aload_n (pc := 318) hx hb dL_does_318 rfl (lv_at hl 7 rfl) ?_
                  refine lv_iload (pc := 319) hx hb dL_does_319 (lv_at hl 4 rfl) ?_
                  refine lv_iconst (v := (1 : Int32)) (pc := 321) hx hb dL_does_321 (by decide) ?_
                  obtain ⟨v53, h_v53, h⟩ := ob h
                  refine lwA (na := 3) (pc := 322) (As := [.ref (ad 0), .int v1, .int (1 : Int32)]) (rest := []) (r9 := []) hx hb hml hown hts hG2 hP hD hS hZ (c_h_coordinate l K hl0 ad F v51.2 v1 (1 : Int32) h_v53) (wO_adr K ad _ _) (gSH qm_Law_152 qt_Law_coordinate qn_Law qc_Law_coordinate) (by decide +kernel) rfl ⟨by omega, by omega⟩ ⟨by omega, by omega⟩ hl rfl (Nat.le_of_ble_eq_true rfl) dL_does_322 (fun H locs hP hD hS => ?_)
                  refine lv_iload (pc := 325) hx hb dL_does_325 (lv_at hl 2 rfl) ?_
                  refine lv_icmp_ne (tgt := 334) (pc := 327) hx hb dL_does_327 (by decide) (fun c54 => ?_) (fun c54 => ?_)
                  · have h := it_f c54 h
                    cases h
                  · have h := it_t c54 h
                    refine lv_iconst (v := (1 : Int32)) (pc := 330) hx hb dL_does_330 (by decide) ?_
                    refine lv_goto (tgt := 369) (pc := 331) hx hb dL_does_331 (by decide) ?_
                    obtain rfl := Option.some.inj h
                    refine W.widen (k := 12) (n := 72) (by omega) (by omega) ?_
                    rw [List.append_nil] at hP
                    exact W.iret hx hb hr (fun t ht hW => ⟨⟨rfl, by rw [ht]; exact hP⟩, hS.F ht⟩) hS.2.2 dL_does_369 hlk
          · have h := it_t c41 h
            refine lv_aload_n (pc := 254) hx hb dL_does_254 rfl (lv_at hl 5 rfl) ?_
            refine lv_iload (pc := 255) hx hb dL_does_255 (lv_at hl 2 rfl) ?_
            refine lv_iconst (v := (1 : Int32)) (pc := 257) hx hb dL_does_257 (by decide) ?_
            obtain ⟨v55, h_v55, h⟩ := ob h
            refine lwA (na := 3) (pc := 258) (As := [.ref (ad 0), .int v1, .int (1 : Int32)]) (rest := []) (r9 := []) hx hb hml hown hts hG2 hP hD hS hZ (c_h_coordinate l K hl0 ad F v40.2 v1 (1 : Int32) h_v55) (wO_adr K ad _ _) (gSH qm_Law_152 qt_Law_coordinate qn_Law qc_Law_coordinate) (by decide +kernel) rfl ⟨by omega, by omega⟩ ⟨by omega, by omega⟩ hl rfl (Nat.le_of_ble_eq_true rfl) dL_does_258 (fun H locs hP hD hS => ?_)
            refine lv_iload (pc := 261) hx hb dL_does_261 (lv_at hl 0 rfl) ?_
            refine lv_icmp_ne (tgt := 270) (pc := 263) hx hb dL_does_263 (by decide) (fun c56 => ?_) (fun c56 => ?_)
            · have h := it_f c56 h
              refine lv_iconst (v := (0 : Int32)) (pc := 270) hx hb dL_does_270 (by decide) ?_
              refine lv_istore (pc := 271) (lv' := [(7, .int (0 : Int32)), (6, .int v3), (5, .int v2), (4, .int v1), (3, .int (i_constraintCount S)), (2, .int (i_pointCount S)), (0, .ref (ad 0)), (1, .int a0)]) hx hb dL_does_271 hl (by decide) rfl (fun ls hl => ?_)
              refine lv_aload_n (pc := 273) hx hb dL_does_273 rfl (lv_at hl 6 rfl) ?_
              refine lv_iload (pc := 274) hx hb dL_does_274 (lv_at hl 3 rfl) ?_
              refine lv_iload (pc := 276) hx hb dL_does_276 (lv_at hl 2 rfl) ?_
              refine lv_iload (pc := 278) hx hb dL_does_278 (lv_at hl 1 rfl) ?_
              obtain ⟨v57, h_v57, h⟩ := ob h
              refine lwA (na := 4) (pc := 280) (As := [.ref (ad 0), .int v1, .int v2, .int v3]) (rest := []) (r9 := []) hx hb hml hown hts hG2 hP hD hS hZ (c_h_move l K hl0 ad F v55.2 v1 v2 v3 h_v57) (wO_adr K ad _ _) (gSH qm_Law_219 qt_Law_move qn_Law qc_Law_move) (by decide +kernel) rfl ⟨by omega, by omega⟩ ⟨by omega, by omega⟩ hl rfl (Nat.le_of_ble_eq_true rfl) dL_does_280 (fun H locs hP hD hS => ?_)
              refine lv_istore (pc := 283) (lv' := [(8, .int v57.1), (7, .int (0 : Int32)), (6, .int v3), (5, .int v2), (4, .int v1), (3, .int (i_constraintCount S)), (2, .int (i_pointCount S)), (0, .ref (ad 0)), (1, .int a0)]) hx hb dL_does_283 hl (by decide) rfl (fun ls hl => ?_)
              refine lv_iload (pc := 285) hx hb dL_does_285 (lv_at hl 0 rfl) ?_
              refine lv_iload (pc := 287) hx hb dL_does_287 (lv_at hl 1 rfl) ?_
              refine lv_if_eq (tgt := 296) (pc := 289) hx hb dL_does_289 (by decide) (fun _ => ?_) (fun c9 => absurd rfl c9)
              refine lv_iconst (v := (1 : Int32)) (pc := 296) hx hb dL_does_296 (by decide) ?_
              refine lv_icmp_ne (tgt := 334) (pc := 297) hx hb dL_does_297 (by decide) (fun c58 => ?_) (fun c58 => ?_)
              · have h := it_f c58 h
                refine lv_iload (pc := 334) hx hb dL_does_334 (lv_at hl 0 rfl) ?_
                refine lv_sipush (v := (-1001 : Int32)) (pc := 336) hx hb dL_does_336 (by decide) ?_
                refine lv_icmp_ne (tgt := 348) (pc := 339) hx hb dL_does_339 (by decide) (fun c59 => ?_) (fun c59 => ?_)
                · have h := it_f c59 h
                  refine lv_iload (pc := 348) hx hb dL_does_348 (lv_at hl 0 rfl) ?_
                  refine lv_sipush (v := (-1003 : Int32)) (pc := 350) hx hb dL_does_350 (by decide) ?_
                  refine lv_icmp_eq (tgt := 364) (pc := 353) hx hb dL_does_353 (by decide) (fun c60 => ?_) (fun c60 => ?_)
                  · have h := it_t c60 h
                    refine lv_iconst (v := (0 : Int32)) (pc := 364) hx hb dL_does_364 (by decide) ?_
                    refine lv_goto (tgt := 369) (pc := 365) hx hb dL_does_365 (by decide) ?_
                    obtain rfl := Option.some.inj h
                    refine W.widen (k := 12) (n := 72) (by omega) (by omega) ?_
                    rw [List.append_nil] at hP
                    exact W.iret hx hb hr (fun t ht hW => ⟨⟨rfl, by rw [ht]; exact hP⟩, hS.F ht⟩) hS.2.2 dL_does_369 hlk
                  · have h := it_f c60 h
                    refine lv_iload (pc := 356) hx hb dL_does_356 (lv_at hl 0 rfl) ?_
                    refine lv_sipush (v := (-1004 : Int32)) (pc := 358) hx hb dL_does_358 (by decide) ?_
                    refine lv_icmp_ne (tgt := 368) (pc := 361) hx hb dL_does_361 (by decide) (fun c61 => ?_) (fun c61 => ?_)
                    · have h := it_f c61 h
                      cases h
                    · have h := it_t c61 h
                      refine lv_iconst (v := (0 : Int32)) (pc := 364) hx hb dL_does_364 (by decide) ?_
                      refine lv_goto (tgt := 369) (pc := 365) hx hb dL_does_365 (by decide) ?_
                      obtain rfl := Option.some.inj h
                      refine W.widen (k := 12) (n := 72) (by omega) (by omega) ?_
                      rw [List.append_nil] at hP
                      exact W.iret hx hb hr (fun t ht hW => ⟨⟨rfl, by rw [ht]; exact hP⟩, hS.F ht⟩) hS.2.2 dL_does_369 hlk
                · have h := it_t c59 h
                  refine lv_iload (pc := 342) hx hb dL_does_342 (lv_at hl 4 rfl) ?_
                  refine lv_iload_n (pc := 344) hx hb dL_does_344 rfl (lv_at hl 6 rfl) ?_
                  refine lv_icmp_eq (tgt := 364) (pc := 345) hx hb dL_does_345 (by decide) (fun c62 => ?_) (fun c62 => ?_)
                  · have h := it_t c62 h
                    refine lv_iconst (v := (0 : Int32)) (pc := 364) hx hb dL_does_364 (by decide) ?_
                    refine lv_goto (tgt := 369) (pc := 365) hx hb dL_does_365 (by decide) ?_
                    obtain rfl := Option.some.inj h
                    refine W.widen (k := 12) (n := 72) (by omega) (by omega) ?_
                    rw [List.append_nil] at hP
                    exact W.iret hx hb hr (fun t ht hW => ⟨⟨rfl, by rw [ht]; exact hP⟩, hS.F ht⟩) hS.2.2 dL_does_369 hlk
                  · have h := it_f c62 h
                    refine lv_iload (pc := 348) hx hb dL_does_348 (lv_at hl 0 rfl) ?_
                    refine lv_sipush (v := (-1003 : Int32)) (pc := 350) hx hb dL_does_350 (by decide) ?_
                    refine lv_icmp_eq (tgt := 364) (pc := 353) hx hb dL_does_353 (by decide) (fun c63 => ?_) (fun c63 => ?_)
                    · have h := it_t c63 h
                      refine lv_iconst (v := (0 : Int32)) (pc := 364) hx hb dL_does_364 (by decide) ?_
                      refine lv_goto (tgt := 369) (pc := 365) hx hb dL_does_365 (by decide) ?_
                      obtain rfl := Option.some.inj h
                      refine W.widen (k := 12) (n := 72) (by omega) (by omega) ?_
                      rw [List.append_nil] at hP
                      exact W.iret hx hb hr (fun t ht hW => ⟨⟨rfl, by rw [ht]; exact hP⟩, hS.F ht⟩) hS.2.2 dL_does_369 hlk
                    · have h := it_f c63 h
                      refine lv_iload (pc := 356) hx hb dL_does_356 (lv_at hl 0 rfl) ?_
                      refine lv_sipush (v := (-1004 : Int32)) (pc := 358) hx hb dL_does_358 (by decide) ?_
                      refine lv_icmp_ne (tgt := 368) (pc := 361) hx hb dL_does_361 (by decide) (fun c64 => ?_) (fun c64 => ?_)
                      · have h := it_f c64 h
                        cases h
                      · have h := it_t c64 h
                        refine lv_iconst (v := (0 : Int32)) (pc := 364) hx hb dL_does_364 (by decide) ?_
                        refine lv_goto (tgt := 369) (pc := 365) hx hb dL_does_365 (by decide) ?_
                        obtain rfl := Option.some.inj h
                        refine W.widen (k := 12) (n := 72) (by omega) (by omega) ?_
                        rw [List.append_nil] at hP
                        exact W.iret hx hb hr (fun t ht hW => ⟨⟨rfl, by rw [ht]; exact hP⟩, hS.F ht⟩) hS.2.2 dL_does_369 hlk
              · have h := it_t c58 h
                refine lv_iload (pc := 300) hx hb dL_does_300 (lv_at hl 4 rfl) ?_
                refine lv_iload_n (pc := 302) hx hb dL_does_302 rfl (lv_at hl 6 rfl) ?_
                refine lv_icmp_ge (tgt := 334) (pc := 303) hx hb dL_does_303 (by decide) (fun c65 => ?_) (fun c65 => ?_)
                · have h := it_t c65 h
                  cases h
                · have h := it_f c65 h
                  refine lv_aload_n (pc := 306) hx hb dL_does_306 rfl (lv_at hl 7 rfl) ?_
                  refine lv_iload (pc := 307) hx hb dL_does_307 (lv_at hl 4 rfl) ?_
                  refine lv_iconst (v := (0 : Int32)) (pc := 309) hx hb dL_does_309 (by decide) ?_
                  obtain ⟨v66, h_v66, h⟩ := ob h
                  refine lwA (na := 3) (pc := 310) (As := [.ref (ad 0), .int v1, .int (0 : Int32)]) (rest := []) (r9 := []) hx hb hml hown hts hG2 hP hD hS hZ (c_h_coordinate l K hl0 ad F v57.2 v1 (0 : Int32) h_v66) (wO_adr K ad _ _) (gSH qm_Law_152 qt_Law_coordinate qn_Law qc_Law_coordinate) (by decide +kernel) rfl ⟨by omega, by omega⟩ ⟨by omega, by omega⟩ hl rfl (Nat.le_of_ble_eq_true rfl) dL_does_310 (fun H locs hP hD hS => ?_)
                  refine lv_iload (pc := 313) hx hb dL_does_313 (lv_at hl 3 rfl) ?_
                  refine lv_icmp_ne (tgt := 334) (pc := 315) hx hb dL_does_315 (by decide) (fun c67 => ?_) (fun c67 => ?_)
                  · have h := it_f c67 h
                    cases h
                  · have h := it_t c67 h
                    refine lv_aload_n (pc := 318) hx hb dL_does_318 rfl (lv_at hl 7 rfl) ?_
                    refine lv_iload (pc := 319) hx hb dL_does_319 (lv_at hl 4 rfl) ?_
                    refine lv_iconst (v := (1 : Int32)) (pc := 321) hx hb dL_does_321 (by decide) ?_
                    obtain ⟨v68, h_v68, h⟩ := ob h
                    refine lwA (na := 3) (pc := 322) (As := [.ref (ad 0), .int v1, .int (1 : Int32)]) (rest := []) (r9 := []) hx hb hml hown hts hG2 hP hD hS hZ (c_h_coordinate l K hl0 ad F v66.2 v1 (1 : Int32) h_v68) (wO_adr K ad _ _) (gSH qm_Law_152 qt_Law_coordinate qn_Law qc_Law_coordinate) (by decide +kernel) rfl ⟨by omega, by omega⟩ ⟨by omega, by omega⟩ hl rfl (Nat.le_of_ble_eq_true rfl) dL_does_322 (fun H locs hP hD hS => ?_)
                    refine lv_iload (pc := 325) hx hb dL_does_325 (lv_at hl 2 rfl) ?_
                    refine lv_icmp_ne (tgt := 334) (pc := 327) hx hb dL_does_327 (by decide) (fun c69 => ?_) (fun c69 => ?_)
                    · have h := it_f c69 h
                      cases h
                    · have h := it_t c69 h
                      refine lv_iconst (v := (1 : Int32)) (pc := 330) hx hb dL_does_330 (by decide) ?_
                      refine lv_goto (tgt := 369) (pc := 331) hx hb dL_does_331 (by decide) ?_
                      obtain rfl := Option.some.inj h
                      refine W.widen (k := 12) (n := 72) (by omega) (by omega) ?_
                      rw [List.append_nil] at hP
                      exact W.iret hx hb hr (fun t ht hW => ⟨⟨rfl, by rw [ht]; exact hP⟩, hS.F ht⟩) hS.2.2 dL_does_369 hlk
            · have h := it_t c56 h
              refine lv_iconst (v := (1 : Int32)) (pc := 266) hx hb dL_does_266 (by decide) ?_
              refine lv_goto (tgt := 271) (pc := 267) hx hb dL_does_267 (by decide) ?_
              refine lv_istore (pc := 271) (lv' := [(7, .int (1 : Int32)), (6, .int v3), (5, .int v2), (4, .int v1), (3, .int (i_constraintCount S)), (2, .int (i_pointCount S)), (0, .ref (ad 0)), (1, .int a0)]) hx hb dL_does_271 hl (by decide) rfl (fun ls hl => ?_)
              refine lv_aload_n (pc := 273) hx hb dL_does_273 rfl (lv_at hl 6 rfl) ?_
              refine lv_iload (pc := 274) hx hb dL_does_274 (lv_at hl 3 rfl) ?_
              refine lv_iload (pc := 276) hx hb dL_does_276 (lv_at hl 2 rfl) ?_
              refine lv_iload (pc := 278) hx hb dL_does_278 (lv_at hl 1 rfl) ?_
              obtain ⟨v70, h_v70, h⟩ := ob h
              refine lwA (na := 4) (pc := 280) (As := [.ref (ad 0), .int v1, .int v2, .int v3]) (rest := []) (r9 := []) hx hb hml hown hts hG2 hP hD hS hZ (c_h_move l K hl0 ad F v55.2 v1 v2 v3 h_v70) (wO_adr K ad _ _) (gSH qm_Law_219 qt_Law_move qn_Law qc_Law_move) (by decide +kernel) rfl ⟨by omega, by omega⟩ ⟨by omega, by omega⟩ hl rfl (Nat.le_of_ble_eq_true rfl) dL_does_280 (fun H locs hP hD hS => ?_)
              refine lv_istore (pc := 283) (lv' := [(8, .int v70.1), (7, .int (1 : Int32)), (6, .int v3), (5, .int v2), (4, .int v1), (3, .int (i_constraintCount S)), (2, .int (i_pointCount S)), (0, .ref (ad 0)), (1, .int a0)]) hx hb dL_does_283 hl (by decide) rfl (fun ls hl => ?_)
              refine lv_iload (pc := 285) hx hb dL_does_285 (lv_at hl 0 rfl) ?_
              refine lv_iload (pc := 287) hx hb dL_does_287 (lv_at hl 1 rfl) ?_
              refine lv_if_eq (tgt := 296) (pc := 289) hx hb dL_does_289 (by decide) (fun c9 => absurd c9 (by decide)) (fun _ => ?_)
              refine lv_iconst (v := (0 : Int32)) (pc := 292) hx hb dL_does_292 (by decide) ?_
              refine lv_goto (tgt := 297) (pc := 293) hx hb dL_does_293 (by decide) ?_
              refine lv_icmp_ne (tgt := 334) (pc := 297) hx hb dL_does_297 (by decide) (fun c71 => ?_) (fun c71 => ?_)
              · have h := it_f c71 h
                refine lv_iload (pc := 334) hx hb dL_does_334 (lv_at hl 0 rfl) ?_
                refine lv_sipush (v := (-1001 : Int32)) (pc := 336) hx hb dL_does_336 (by decide) ?_
                refine lv_icmp_ne (tgt := 348) (pc := 339) hx hb dL_does_339 (by decide) (fun c72 => ?_) (fun c72 => ?_)
                · have h := it_f c72 h
                  refine lv_iload (pc := 348) hx hb dL_does_348 (lv_at hl 0 rfl) ?_
                  refine lv_sipush (v := (-1003 : Int32)) (pc := 350) hx hb dL_does_350 (by decide) ?_
                  refine lv_icmp_eq (tgt := 364) (pc := 353) hx hb dL_does_353 (by decide) (fun c73 => ?_) (fun c73 => ?_)
                  · have h := it_t c73 h
                    refine lv_iconst (v := (0 : Int32)) (pc := 364) hx hb dL_does_364 (by decide) ?_
                    refine lv_goto (tgt := 369) (pc := 365) hx hb dL_does_365 (by decide) ?_
                    obtain rfl := Option.some.inj h
                    refine W.widen (k := 12) (n := 72) (by omega) (by omega) ?_
                    rw [List.append_nil] at hP
                    exact W.iret hx hb hr (fun t ht hW => ⟨⟨rfl, by rw [ht]; exact hP⟩, hS.F ht⟩) hS.2.2 dL_does_369 hlk
                  · have h := it_f c73 h
                    refine lv_iload (pc := 356) hx hb dL_does_356 (lv_at hl 0 rfl) ?_
                    refine lv_sipush (v := (-1004 : Int32)) (pc := 358) hx hb dL_does_358 (by decide) ?_
                    refine lv_icmp_ne (tgt := 368) (pc := 361) hx hb dL_does_361 (by decide) (fun c74 => ?_) (fun c74 => ?_)
                    · have h := it_f c74 h
                      cases h
                    · have h := it_t c74 h
                      refine lv_iconst (v := (0 : Int32)) (pc := 364) hx hb dL_does_364 (by decide) ?_
                      refine lv_goto (tgt := 369) (pc := 365) hx hb dL_does_365 (by decide) ?_
                      obtain rfl := Option.some.inj h
                      refine W.widen (k := 12) (n := 72) (by omega) (by omega) ?_
                      rw [List.append_nil] at hP
                      exact W.iret hx hb hr (fun t ht hW => ⟨⟨rfl, by rw [ht]; exact hP⟩, hS.F ht⟩) hS.2.2 dL_does_369 hlk
                · have h := it_t c72 h
                  refine lv_iload (pc := 342) hx hb dL_does_342 (lv_at hl 4 rfl) ?_
                  refine lv_iload_n (pc := 344) hx hb dL_does_344 rfl (lv_at hl 6 rfl) ?_
                  refine lv_icmp_eq (tgt := 364) (pc := 345) hx hb dL_does_345 (by decide) (fun c75 => ?_) (fun c75 => ?_)
                  · have h := it_t c75 h
                    refine lv_iconst (v := (0 : Int32)) (pc := 364) hx hb dL_does_364 (by decide) ?_
                    refine lv_goto (tgt := 369) (pc := 365) hx hb dL_does_365 (by decide) ?_
                    obtain rfl := Option.some.inj h
                    refine W.widen (k := 12) (n := 72) (by omega) (by omega) ?_
                    rw [List.append_nil] at hP
                    exact W.iret hx hb hr (fun t ht hW => ⟨⟨rfl, by rw [ht]; exact hP⟩, hS.F ht⟩) hS.2.2 dL_does_369 hlk
                  · have h := it_f c75 h
                    refine lv_iload (pc := 348) hx hb dL_does_348 (lv_at hl 0 rfl) ?_
                    refine lv_sipush (v := (-1003 : Int32)) (pc := 350) hx hb dL_does_350 (by decide) ?_
                    refine lv_icmp_eq (tgt := 364) (pc := 353) hx hb dL_does_353 (by decide) (fun c76 => ?_) (fun c76 => ?_)
                    · have h := it_t c76 h
                      refine lv_iconst (v := (0 : Int32)) (pc := 364) hx hb dL_does_364 (by decide) ?_
                      refine lv_goto (tgt := 369) (pc := 365) hx hb dL_does_365 (by decide) ?_
                      obtain rfl := Option.some.inj h
                      refine W.widen (k := 12) (n := 72) (by omega) (by omega) ?_
                      rw [List.append_nil] at hP
                      exact W.iret hx hb hr (fun t ht hW => ⟨⟨rfl, by rw [ht]; exact hP⟩, hS.F ht⟩) hS.2.2 dL_does_369 hlk
                    · have h := it_f c76 h
                      refine lv_iload (pc := 356) hx hb dL_does_356 (lv_at hl 0 rfl) ?_
                      refine lv_sipush (v := (-1004 : Int32)) (pc := 358) hx hb dL_does_358 (by decide) ?_
                      refine lv_icmp_ne (tgt := 368) (pc := 361) hx hb dL_does_361 (by decide) (fun c77 => ?_) (fun c77 => ?_)
                      · have h := it_f c77 h
                        cases h
                      · have h := it_t c77 h
                        refine lv_iconst (v := (0 : Int32)) (pc := 364) hx hb dL_does_364 (by decide) ?_
                        refine lv_goto (tgt := 369) (pc := 365) hx hb dL_does_365 (by decide) ?_
                        obtain rfl := Option.some.inj h
                        refine W.widen (k := 12) (n := 72) (by omega) (by omega) ?_
                        rw [List.append_nil] at hP
                        exact W.iret hx hb hr (fun t ht hW => ⟨⟨rfl, by rw [ht]; exact hP⟩, hS.F ht⟩) hS.2.2 dL_does_369 hlk
              · have h := it_t c71 h
                refine lv_iload (pc := 300) hx hb dL_does_300 (lv_at hl 4 rfl) ?_
                refine lv_iload_n (pc := 302) hx hb dL_does_302 rfl (lv_at hl 6 rfl) ?_
                refine lv_icmp_ge (tgt := 334) (pc := 303) hx hb dL_does_303 (by decide) (fun c78 => ?_) (fun c78 => ?_)
                · have h := it_t c78 h
                  cases h
                · have h := it_f c78 h
                  refine lv_aload_n (pc := 306) hx hb dL_does_306 rfl (lv_at hl 7 rfl) ?_
                  refine lv_iload (pc := 307) hx hb dL_does_307 (lv_at hl 4 rfl) ?_
                  refine lv_iconst (v := (0 : Int32)) (pc := 309) hx hb dL_does_309 (by decide) ?_
                  obtain ⟨v79, h_v79, h⟩ := ob h
                  refine lwA (na := 3) (pc := 310) (As := [.ref (ad 0), .int v1, .int (0 : Int32)]) (rest := []) (r9 := []) hx hb hml hown hts hG2 hP hD hS hZ (c_h_coordinate l K hl0 ad F v70.2 v1 (0 : Int32) h_v79) (wO_adr K ad _ _) (gSH qm_Law_152 qt_Law_coordinate qn_Law qc_Law_coordinate) (by decide +kernel) rfl ⟨by omega, by omega⟩ ⟨by omega, by omega⟩ hl rfl (Nat.le_of_ble_eq_true rfl) dL_does_310 (fun H locs hP hD hS => ?_)
                  refine lv_iload (pc := 313) hx hb dL_does_313 (lv_at hl 3 rfl) ?_
                  refine lv_icmp_ne (tgt := 334) (pc := 315) hx hb dL_does_315 (by decide) (fun c80 => ?_) (fun c80 => ?_)
                  · have h := it_f c80 h
                    cases h
                  · have h := it_t c80 h
                    refine lv_aload_n (pc := 318) hx hb dL_does_318 rfl (lv_at hl 7 rfl) ?_
                    refine lv_iload (pc := 319) hx hb dL_does_319 (lv_at hl 4 rfl) ?_
                    refine lv_iconst (v := (1 : Int32)) (pc := 321) hx hb dL_does_321 (by decide) ?_
                    obtain ⟨v81, h_v81, h⟩ := ob h
                    refine lwA (na := 3) (pc := 322) (As := [.ref (ad 0), .int v1, .int (1 : Int32)]) (rest := []) (r9 := []) hx hb hml hown hts hG2 hP hD hS hZ (c_h_coordinate l K hl0 ad F v79.2 v1 (1 : Int32) h_v81) (wO_adr K ad _ _) (gSH qm_Law_152 qt_Law_coordinate qn_Law qc_Law_coordinate) (by decide +kernel) rfl ⟨by omega, by omega⟩ ⟨by omega, by omega⟩ hl rfl (Nat.le_of_ble_eq_true rfl) dL_does_322 (fun H locs hP hD hS => ?_)
                    refine lv_iload (pc := 325) hx hb dL_does_325 (lv_at hl 2 rfl) ?_
                    refine lv_icmp_ne (tgt := 334) (pc := 327) hx hb dL_does_327 (by decide) (fun c82 => ?_) (fun c82 => ?_)
                    · have h := it_f c82 h
                      cases h
                    · have h := it_t c82 h
                      refine lv_iconst (v := (1 : Int32)) (pc := 330) hx hb dL_does_330 (by decide) ?_
                      refine lv_goto (tgt := 369) (pc := 331) hx hb dL_does_331 (by decide) ?_
                      obtain rfl := Option.some.inj h
                      refine W.widen (k := 12) (n := 72) (by omega) (by omega) ?_
                      rw [List.append_nil] at hP
                      exact W.iret hx hb hr (fun t ht hW => ⟨⟨rfl, by rw [ht]; exact hP⟩, hS.F ht⟩) hS.2.2 dL_does_369 hlk
      · have h := it_f c25 h
        by_cases c83 : v4 = (5 : Int32) ∨ v4 = (6 : Int32)
        · have h := it_t c83 h
          refine orW2 (P := fun z => W p l e _ s m _ below meth c H locs _ _ _ (F0 m 49 ls [.int z])) c83 (fun hk => lv_tableIn (pc := 49) (tgt := 370) hx hb dL_does_49 (by decide) (by decide) rfl (by decide) hk) (fun hk => lv_tableIn (pc := 49) (tgt := 370) hx hb dL_does_49 (by decide) (by decide) rfl (by decide) hk) ?_
          refine lv_iload_n (pc := 370) hx hb dL_does_370 rfl (lv_at hl 6 rfl) ?_
          refine lv_bipush (v := (16 : Int32)) (pc := 371) hx hb dL_does_371 (by decide) ?_
          refine lv_ishr (pc := 373) hx hb dL_does_373 ?_
          refine lv_iload_n (pc := 374) hx hb dL_does_374 rfl (lv_at hl 4 rfl) ?_
          refine lv_iconst (v := (1 : Int32)) (pc := 375) hx hb dL_does_375 (by decide) ?_
          refine lv_iadd (pc := 376) hx hb dL_does_376 ?_
          obtain ⟨v84, h_v84, h⟩ := ob h
          refine rdS (pc := 377) (As := [.int (a0 >>> ((16 : Int32) &&& 31)), .int ((i_pointCount S) + (1 : Int32))]) (rest := []) hx hb hml hown hts hG (c_L_some l K (a0 >>> ((16 : Int32) &&& 31)) ((i_pointCount S) + (1 : Int32)) h_v84) g_Law_210 hd_Law_some rfl ⟨by omega, by omega⟩ ⟨by omega, by omega⟩ hl rfl (Nat.le_of_ble_eq_true rfl) dL_does_377 ?_
          refine lv_istore (pc := 380) (lv' := [(7, .int v84), (6, .int v3), (5, .int v2), (4, .int v1), (3, .int (i_constraintCount S)), (2, .int (i_pointCount S)), (0, .ref (ad 0)), (1, .int a0)]) hx hb dL_does_380 hl (by decide) rfl (fun ls hl => ?_)
          refine lv_aload_n (pc := 382) hx hb dL_does_382 rfl (lv_at hl 6 rfl) ?_
          refine lv_iload (pc := 383) hx hb dL_does_383 (lv_at hl 3 rfl) ?_
          refine lv_iload (pc := 385) hx hb dL_does_385 (lv_at hl 0 rfl) ?_
          obtain ⟨v85, h_v85, h⟩ := ob h
          refine lwA (na := 3) (pc := 387) (As := [.ref (ad 0), .int v1, .int v84]) (rest := []) (r9 := []) hx hb hml hown hts hG2 hP hD hS hZ (c_h_tie l K hl0 ad F S v1 v84 h_v85) (wO_adr K ad _ _) (gSH qm_Law_223 qt_Law_tie qn_Law qc_Law_tie) (by decide +kernel) rfl ⟨by omega, by omega⟩ ⟨by omega, by omega⟩ hl rfl (Nat.le_of_ble_eq_true rfl) dL_does_387 (fun H locs hP hD hS => ?_)
          refine lv_istore (pc := 390) (lv' := [(8, .int v85.1), (7, .int v84), (6, .int v3), (5, .int v2), (4, .int v1), (3, .int (i_constraintCount S)), (2, .int (i_pointCount S)), (0, .ref (ad 0)), (1, .int a0)]) hx hb dL_does_390 hl (by decide) rfl (fun ls hl => ?_)
          refine lv_iload (pc := 392) hx hb dL_does_392 (lv_at hl 0 rfl) ?_
          refine lv_iload_n (pc := 394) hx hb dL_does_394 rfl (lv_at hl 5 rfl) ?_
          refine lv_icmp_ne (tgt := 434) (pc := 395) hx hb dL_does_395 (by decide) (fun c86 => ?_) (fun c86 => ?_)
          · have h := it_f c86 h
            refine lv_iload (pc := 434) hx hb dL_does_434 (lv_at hl 0 rfl) ?_
            refine lv_sipush (v := (-1001 : Int32)) (pc := 436) hx hb dL_does_436 (by decide) ?_
            refine lv_icmp_ne (tgt := 453) (pc := 439) hx hb dL_does_439 (by decide) (fun c87 => ?_) (fun c87 => ?_)
            · have h := it_f c87 h
              refine lv_iload (pc := 453) hx hb dL_does_453 (lv_at hl 0 rfl) ?_
              refine lv_sipush (v := (-1002 : Int32)) (pc := 455) hx hb dL_does_455 (by decide) ?_
              refine lv_icmp_ne (tgt := 468) (pc := 458) hx hb dL_does_458 (by decide) (fun c88 => ?_) (fun c88 => ?_)
              · have h := it_f c88 h
                refine lv_iload (pc := 468) hx hb dL_does_468 (lv_at hl 0 rfl) ?_
                refine lv_sipush (v := (-1003 : Int32)) (pc := 470) hx hb dL_does_470 (by decide) ?_
                refine lv_icmp_ne (tgt := 482) (pc := 473) hx hb dL_does_473 (by decide) (fun c89 => ?_) (fun c89 => ?_)
                · have h := it_f c89 h
                  refine lv_iload (pc := 482) hx hb dL_does_482 (lv_at hl 0 rfl) ?_
                  refine lv_sipush (v := (-1004 : Int32)) (pc := 484) hx hb dL_does_484 (by decide) ?_
                  refine lv_icmp_ne (tgt := 494) (pc := 487) hx hb dL_does_487 (by decide) (fun c90 => ?_) (fun c90 => ?_)
                  · have h := it_f c90 h
                    cases h
                  · have h := it_t c90 h
                    refine lv_iconst (v := (0 : Int32)) (pc := 490) hx hb dL_does_490 (by decide) ?_
                    refine lv_goto (tgt := 495) (pc := 491) hx hb dL_does_491 (by decide) ?_
                    obtain rfl := Option.some.inj h
                    refine W.widen (k := 12) (n := 72) (by omega) (by omega) ?_
                    rw [List.append_nil] at hP
                    exact W.iret hx hb hr (fun t ht hW => ⟨⟨rfl, by rw [ht]; exact hP⟩, hS.F ht⟩) hS.2.2 dL_does_495 hlk
                · have h := it_t c89 h
                  refine lv_iload_n (pc := 476) hx hb dL_does_476 rfl (lv_at hl 5 rfl) ?_
                  refine lv_bipush (v := (10 : Int32)) (pc := 477) hx hb dL_does_477 (by decide) ?_
                  refine lv_icmp_eq (tgt := 490) (pc := 479) hx hb dL_does_479 (by decide) (fun c91 => ?_) (fun c91 => ?_)
                  · have h := it_t c91 h
                    refine lv_iconst (v := (0 : Int32)) (pc := 490) hx hb dL_does_490 (by decide) ?_
                    refine lv_goto (tgt := 495) (pc := 491) hx hb dL_does_491 (by decide) ?_
                    obtain rfl := Option.some.inj h
                    refine W.widen (k := 12) (n := 72) (by omega) (by omega) ?_
                    rw [List.append_nil] at hP
                    exact W.iret hx hb hr (fun t ht hW => ⟨⟨rfl, by rw [ht]; exact hP⟩, hS.F ht⟩) hS.2.2 dL_does_495 hlk
                  · have h := it_f c91 h
                    refine lv_iload (pc := 482) hx hb dL_does_482 (lv_at hl 0 rfl) ?_
                    refine lv_sipush (v := (-1004 : Int32)) (pc := 484) hx hb dL_does_484 (by decide) ?_
                    refine lv_icmp_ne (tgt := 494) (pc := 487) hx hb dL_does_487 (by decide) (fun c92 => ?_) (fun c92 => ?_)
                    · have h := it_f c92 h
                      cases h
                    · have h := it_t c92 h
                      refine lv_iconst (v := (0 : Int32)) (pc := 490) hx hb dL_does_490 (by decide) ?_
                      refine lv_goto (tgt := 495) (pc := 491) hx hb dL_does_491 (by decide) ?_
                      obtain rfl := Option.some.inj h
                      refine W.widen (k := 12) (n := 72) (by omega) (by omega) ?_
                      rw [List.append_nil] at hP
                      exact W.iret hx hb hr (fun t ht hW => ⟨⟨rfl, by rw [ht]; exact hP⟩, hS.F ht⟩) hS.2.2 dL_does_495 hlk
              · have h := it_t c88 h
                refine lv_iload (pc := 461) hx hb dL_does_461 (lv_at hl 4 rfl) ?_
                refine lv_iload (pc := 463) hx hb dL_does_463 (lv_at hl 1 rfl) ?_
                refine lv_icmp_eq (tgt := 490) (pc := 465) hx hb dL_does_465 (by decide) (fun c93 => ?_) (fun c93 => ?_)
                · have h := it_t c93 h
                  refine lv_iconst (v := (0 : Int32)) (pc := 490) hx hb dL_does_490 (by decide) ?_
                  refine lv_goto (tgt := 495) (pc := 491) hx hb dL_does_491 (by decide) ?_
                  obtain rfl := Option.some.inj h
                  refine W.widen (k := 12) (n := 72) (by omega) (by omega) ?_
                  rw [List.append_nil] at hP
                  exact W.iret hx hb hr (fun t ht hW => ⟨⟨rfl, by rw [ht]; exact hP⟩, hS.F ht⟩) hS.2.2 dL_does_495 hlk
                · have h := it_f c93 h
                  refine lv_iload (pc := 468) hx hb dL_does_468 (lv_at hl 0 rfl) ?_
                  refine lv_sipush (v := (-1003 : Int32)) (pc := 470) hx hb dL_does_470 (by decide) ?_
                  refine lv_icmp_ne (tgt := 482) (pc := 473) hx hb dL_does_473 (by decide) (fun c94 => ?_) (fun c94 => ?_)
                  · have h := it_f c94 h
                    refine lv_iload (pc := 482) hx hb dL_does_482 (lv_at hl 0 rfl) ?_
                    refine lv_sipush (v := (-1004 : Int32)) (pc := 484) hx hb dL_does_484 (by decide) ?_
                    refine lv_icmp_ne (tgt := 494) (pc := 487) hx hb dL_does_487 (by decide) (fun c95 => ?_) (fun c95 => ?_)
                    · have h := it_f c95 h
                      cases h
                    · have h := it_t c95 h
                      refine lv_iconst (v := (0 : Int32)) (pc := 490) hx hb dL_does_490 (by decide) ?_
                      refine lv_goto (tgt := 495) (pc := 491) hx hb dL_does_491 (by decide) ?_
                      obtain rfl := Option.some.inj h
                      refine W.widen (k := 12) (n := 72) (by omega) (by omega) ?_
                      rw [List.append_nil] at hP
                      exact W.iret hx hb hr (fun t ht hW => ⟨⟨rfl, by rw [ht]; exact hP⟩, hS.F ht⟩) hS.2.2 dL_does_495 hlk
                  · have h := it_t c94 h
                    refine lv_iload_n (pc := 476) hx hb dL_does_476 rfl (lv_at hl 5 rfl) ?_
                    refine lv_bipush (v := (10 : Int32)) (pc := 477) hx hb dL_does_477 (by decide) ?_
                    refine lv_icmp_eq (tgt := 490) (pc := 479) hx hb dL_does_479 (by decide) (fun c96 => ?_) (fun c96 => ?_)
                    · have h := it_t c96 h
                      refine lv_iconst (v := (0 : Int32)) (pc := 490) hx hb dL_does_490 (by decide) ?_
                      refine lv_goto (tgt := 495) (pc := 491) hx hb dL_does_491 (by decide) ?_
                      obtain rfl := Option.some.inj h
                      refine W.widen (k := 12) (n := 72) (by omega) (by omega) ?_
                      rw [List.append_nil] at hP
                      exact W.iret hx hb hr (fun t ht hW => ⟨⟨rfl, by rw [ht]; exact hP⟩, hS.F ht⟩) hS.2.2 dL_does_495 hlk
                    · have h := it_f c96 h
                      refine lv_iload (pc := 482) hx hb dL_does_482 (lv_at hl 0 rfl) ?_
                      refine lv_sipush (v := (-1004 : Int32)) (pc := 484) hx hb dL_does_484 (by decide) ?_
                      refine lv_icmp_ne (tgt := 494) (pc := 487) hx hb dL_does_487 (by decide) (fun c97 => ?_) (fun c97 => ?_)
                      · have h := it_f c97 h
                        cases h
                      · have h := it_t c97 h
                        refine lv_iconst (v := (0 : Int32)) (pc := 490) hx hb dL_does_490 (by decide) ?_
                        refine lv_goto (tgt := 495) (pc := 491) hx hb dL_does_491 (by decide) ?_
                        obtain rfl := Option.some.inj h
                        refine W.widen (k := 12) (n := 72) (by omega) (by omega) ?_
                        rw [List.append_nil] at hP
                        exact W.iret hx hb hr (fun t ht hW => ⟨⟨rfl, by rw [ht]; exact hP⟩, hS.F ht⟩) hS.2.2 dL_does_495 hlk
            · have h := it_t c87 h
              refine lv_iload (pc := 442) hx hb dL_does_442 (lv_at hl 4 rfl) ?_
              refine lv_iload (pc := 444) hx hb dL_does_444 (lv_at hl 1 rfl) ?_
              refine my_mmax (pc := 446) hx hb hml hl.1 hown hts qm_Law_231 (by omega) (Nat.le_trans (m := 540) (Nat.le_of_ble_eq_true rfl) hRf.2) ⟨by omega, by omega⟩ dL_does_446 ?_
              refine lv_iload_n (pc := 449) hx hb dL_does_449 rfl (lv_at hl 6 rfl) ?_
              refine lv_icmp_eq (tgt := 490) (pc := 450) hx hb dL_does_450 (by decide) (fun c98 => ?_) (fun c98 => ?_)
              · have h := it_t c98 h
                refine lv_iconst (v := (0 : Int32)) (pc := 490) hx hb dL_does_490 (by decide) ?_
                refine lv_goto (tgt := 495) (pc := 491) hx hb dL_does_491 (by decide) ?_
                obtain rfl := Option.some.inj h
                refine W.widen (k := 12) (n := 72) (by omega) (by omega) ?_
                rw [List.append_nil] at hP
                exact W.iret hx hb hr (fun t ht hW => ⟨⟨rfl, by rw [ht]; exact hP⟩, hS.F ht⟩) hS.2.2 dL_does_495 hlk
              · have h := it_f c98 h
                refine lv_iload (pc := 453) hx hb dL_does_453 (lv_at hl 0 rfl) ?_
                refine lv_sipush (v := (-1002 : Int32)) (pc := 455) hx hb dL_does_455 (by decide) ?_
                refine lv_icmp_ne (tgt := 468) (pc := 458) hx hb dL_does_458 (by decide) (fun c99 => ?_) (fun c99 => ?_)
                · have h := it_f c99 h
                  refine lv_iload (pc := 468) hx hb dL_does_468 (lv_at hl 0 rfl) ?_
                  refine lv_sipush (v := (-1003 : Int32)) (pc := 470) hx hb dL_does_470 (by decide) ?_
                  refine lv_icmp_ne (tgt := 482) (pc := 473) hx hb dL_does_473 (by decide) (fun c100 => ?_) (fun c100 => ?_)
                  · have h := it_f c100 h
                    refine lv_iload (pc := 482) hx hb dL_does_482 (lv_at hl 0 rfl) ?_
                    refine lv_sipush (v := (-1004 : Int32)) (pc := 484) hx hb dL_does_484 (by decide) ?_
                    refine lv_icmp_ne (tgt := 494) (pc := 487) hx hb dL_does_487 (by decide) (fun c101 => ?_) (fun c101 => ?_)
                    · have h := it_f c101 h
                      cases h
                    · have h := it_t c101 h
                      refine lv_iconst (v := (0 : Int32)) (pc := 490) hx hb dL_does_490 (by decide) ?_
                      refine lv_goto (tgt := 495) (pc := 491) hx hb dL_does_491 (by decide) ?_
                      obtain rfl := Option.some.inj h
                      refine W.widen (k := 12) (n := 72) (by omega) (by omega) ?_
                      rw [List.append_nil] at hP
                      exact W.iret hx hb hr (fun t ht hW => ⟨⟨rfl, by rw [ht]; exact hP⟩, hS.F ht⟩) hS.2.2 dL_does_495 hlk
                  · have h := it_t c100 h
                    refine lv_iload_n (pc := 476) hx hb dL_does_476 rfl (lv_at hl 5 rfl) ?_
                    refine lv_bipush (v := (10 : Int32)) (pc := 477) hx hb dL_does_477 (by decide) ?_
                    refine lv_icmp_eq (tgt := 490) (pc := 479) hx hb dL_does_479 (by decide) (fun c102 => ?_) (fun c102 => ?_)
                    · have h := it_t c102 h
                      refine lv_iconst (v := (0 : Int32)) (pc := 490) hx hb dL_does_490 (by decide) ?_
                      refine lv_goto (tgt := 495) (pc := 491) hx hb dL_does_491 (by decide) ?_
                      obtain rfl := Option.some.inj h
                      refine W.widen (k := 12) (n := 72) (by omega) (by omega) ?_
                      rw [List.append_nil] at hP
                      exact W.iret hx hb hr (fun t ht hW => ⟨⟨rfl, by rw [ht]; exact hP⟩, hS.F ht⟩) hS.2.2 dL_does_495 hlk
                    · have h := it_f c102 h
                      refine lv_iload (pc := 482) hx hb dL_does_482 (lv_at hl 0 rfl) ?_
                      refine lv_sipush (v := (-1004 : Int32)) (pc := 484) hx hb dL_does_484 (by decide) ?_
                      refine lv_icmp_ne (tgt := 494) (pc := 487) hx hb dL_does_487 (by decide) (fun c103 => ?_) (fun c103 => ?_)
                      · have h := it_f c103 h
                        cases h
                      · have h := it_t c103 h
                        refine lv_iconst (v := (0 : Int32)) (pc := 490) hx hb dL_does_490 (by decide) ?_
                        refine lv_goto (tgt := 495) (pc := 491) hx hb dL_does_491 (by decide) ?_
                        obtain rfl := Option.some.inj h
                        refine W.widen (k := 12) (n := 72) (by omega) (by omega) ?_
                        rw [List.append_nil] at hP
                        exact W.iret hx hb hr (fun t ht hW => ⟨⟨rfl, by rw [ht]; exact hP⟩, hS.F ht⟩) hS.2.2 dL_does_495 hlk
                · have h := it_t c99 h
                  refine lv_iload (pc := 461) hx hb dL_does_461 (lv_at hl 4 rfl) ?_
                  refine lv_iload (pc := 463) hx hb dL_does_463 (lv_at hl 1 rfl) ?_
                  refine lv_icmp_eq (tgt := 490) (pc := 465) hx hb dL_does_465 (by decide) (fun c104 => ?_) (fun c104 => ?_)
                  · have h := it_t c104 h
                    refine lv_iconst (v := (0 : Int32)) (pc := 490) hx hb dL_does_490 (by decide) ?_
                    refine lv_goto (tgt := 495) (pc := 491) hx hb dL_does_491 (by decide) ?_
                    obtain rfl := Option.some.inj h
                    refine W.widen (k := 12) (n := 72) (by omega) (by omega) ?_
                    rw [List.append_nil] at hP
                    exact W.iret hx hb hr (fun t ht hW => ⟨⟨rfl, by rw [ht]; exact hP⟩, hS.F ht⟩) hS.2.2 dL_does_495 hlk
                  · have h := it_f c104 h
                    refine lv_iload (pc := 468) hx hb dL_does_468 (lv_at hl 0 rfl) ?_
                    refine lv_sipush (v := (-1003 : Int32)) (pc := 470) hx hb dL_does_470 (by decide) ?_
                    refine lv_icmp_ne (tgt := 482) (pc := 473) hx hb dL_does_473 (by decide) (fun c105 => ?_) (fun c105 => ?_)
                    · have h := it_f c105 h
                      refine lv_iload (pc := 482) hx hb dL_does_482 (lv_at hl 0 rfl) ?_
                      refine lv_sipush (v := (-1004 : Int32)) (pc := 484) hx hb dL_does_484 (by decide) ?_
                      refine lv_icmp_ne (tgt := 494) (pc := 487) hx hb dL_does_487 (by decide) (fun c106 => ?_) (fun c106 => ?_)
                      · have h := it_f c106 h
                        cases h
                      · have h := it_t c106 h
                        refine lv_iconst (v := (0 : Int32)) (pc := 490) hx hb dL_does_490 (by decide) ?_
                        refine lv_goto (tgt := 495) (pc := 491) hx hb dL_does_491 (by decide) ?_
                        obtain rfl := Option.some.inj h
                        refine W.widen (k := 12) (n := 72) (by omega) (by omega) ?_
                        rw [List.append_nil] at hP
                        exact W.iret hx hb hr (fun t ht hW => ⟨⟨rfl, by rw [ht]; exact hP⟩, hS.F ht⟩) hS.2.2 dL_does_495 hlk
                    · have h := it_t c105 h
                      refine lv_iload_n (pc := 476) hx hb dL_does_476 rfl (lv_at hl 5 rfl) ?_
                      refine lv_bipush (v := (10 : Int32)) (pc := 477) hx hb dL_does_477 (by decide) ?_
                      refine lv_icmp_eq (tgt := 490) (pc := 479) hx hb dL_does_479 (by decide) (fun c107 => ?_) (fun c107 => ?_)
                      · have h := it_t c107 h
                        refine lv_iconst (v := (0 : Int32)) (pc := 490) hx hb dL_does_490 (by decide) ?_
                        refine lv_goto (tgt := 495) (pc := 491) hx hb dL_does_491 (by decide) ?_
                        obtain rfl := Option.some.inj h
                        refine W.widen (k := 12) (n := 72) (by omega) (by omega) ?_
                        rw [List.append_nil] at hP
                        exact W.iret hx hb hr (fun t ht hW => ⟨⟨rfl, by rw [ht]; exact hP⟩, hS.F ht⟩) hS.2.2 dL_does_495 hlk
                      · have h := it_f c107 h
                        refine lv_iload (pc := 482) hx hb dL_does_482 (lv_at hl 0 rfl) ?_
                        refine lv_sipush (v := (-1004 : Int32)) (pc := 484) hx hb dL_does_484 (by decide) ?_
                        refine lv_icmp_ne (tgt := 494) (pc := 487) hx hb dL_does_487 (by decide) (fun c108 => ?_) (fun c108 => ?_)
                        · have h := it_f c108 h
                          cases h
                        · have h := it_t c108 h
                          refine lv_iconst (v := (0 : Int32)) (pc := 490) hx hb dL_does_490 (by decide) ?_
                          refine lv_goto (tgt := 495) (pc := 491) hx hb dL_does_491 (by decide) ?_
                          obtain rfl := Option.some.inj h
                          refine W.widen (k := 12) (n := 72) (by omega) (by omega) ?_
                          rw [List.append_nil] at hP
                          exact W.iret hx hb hr (fun t ht hW => ⟨⟨rfl, by rw [ht]; exact hP⟩, hS.F ht⟩) hS.2.2 dL_does_495 hlk
          · have h := it_t c86 h
            refine lv_aload_n (pc := 398) hx hb dL_does_398 rfl (lv_at hl 7 rfl) ?_
            refine lv_iload_n (pc := 399) hx hb dL_does_399 rfl (lv_at hl 5 rfl) ?_
            refine lv_iconst (v := (0 : Int32)) (pc := 400) hx hb dL_does_400 (by decide) ?_
            obtain ⟨v109, h_v109, h⟩ := ob h
            refine lwA (na := 3) (pc := 401) (As := [.ref (ad 0), .int (i_constraintCount S), .int (0 : Int32)]) (rest := []) (r9 := []) hx hb hml hown hts hG2 hP hD hS hZ (c_h_tied l K hl0 ad F v85.2 (i_constraintCount S) (0 : Int32) h_v109) (wO_adr K ad _ _) (gSH qm_Law_155 qt_Law_tied qn_Law qc_Law_tied) (by decide +kernel) rfl ⟨by omega, by omega⟩ ⟨by omega, by omega⟩ hl rfl (Nat.le_of_ble_eq_true rfl) dL_does_401 (fun H locs hP hD hS => ?_)
            refine lv_iload (pc := 404) hx hb dL_does_404 (lv_at hl 4 rfl) ?_
            refine lv_iload (pc := 406) hx hb dL_does_406 (lv_at hl 1 rfl) ?_
            refine my_mmin (pc := 408) hx hb hml hl.1 hown hts qm_Law_226 (by omega) (Nat.le_trans (m := 540) (Nat.le_of_ble_eq_true rfl) hRf.2) ⟨by omega, by omega⟩ dL_does_408 ?_
            refine lv_icmp_ne (tgt := 434) (pc := 411) hx hb dL_does_411 (by decide) (fun c110 => ?_) (fun c110 => ?_)
            · have h := it_f c110 h
              cases h
            · have h := it_t c110 h
              refine lv_aload_n (pc := 414) hx hb dL_does_414 rfl (lv_at hl 7 rfl) ?_
              refine lv_iload_n (pc := 415) hx hb dL_does_415 rfl (lv_at hl 5 rfl) ?_
              refine lv_iconst (v := (1 : Int32)) (pc := 416) hx hb dL_does_416 (by decide) ?_
              obtain ⟨v111, h_v111, h⟩ := ob h
              refine lwA (na := 3) (pc := 417) (As := [.ref (ad 0), .int (i_constraintCount S), .int (1 : Int32)]) (rest := []) (r9 := []) hx hb hml hown hts hG2 hP hD hS hZ (c_h_tied l K hl0 ad F v109.2 (i_constraintCount S) (1 : Int32) h_v111) (wO_adr K ad _ _) (gSH qm_Law_155 qt_Law_tied qn_Law qc_Law_tied) (by decide +kernel) rfl ⟨by omega, by omega⟩ ⟨by omega, by omega⟩ hl rfl (Nat.le_of_ble_eq_true rfl) dL_does_417 (fun H locs hP hD hS => ?_)
              refine lv_iload (pc := 420) hx hb dL_does_420 (lv_at hl 4 rfl) ?_
              refine lv_iload (pc := 422) hx hb dL_does_422 (lv_at hl 1 rfl) ?_
              refine my_mmax (pc := 424) hx hb hml hl.1 hown hts qm_Law_231 (by omega) (Nat.le_trans (m := 540) (Nat.le_of_ble_eq_true rfl) hRf.2) ⟨by omega, by omega⟩ dL_does_424 ?_
              refine lv_icmp_ne (tgt := 434) (pc := 427) hx hb dL_does_427 (by decide) (fun c112 => ?_) (fun c112 => ?_)
              · have h := it_f c112 h
                cases h
              · have h := it_t c112 h
                refine lv_iconst (v := (1 : Int32)) (pc := 430) hx hb dL_does_430 (by decide) ?_
                refine lv_goto (tgt := 495) (pc := 431) hx hb dL_does_431 (by decide) ?_
                obtain rfl := Option.some.inj h
                refine W.widen (k := 12) (n := 72) (by omega) (by omega) ?_
                rw [List.append_nil] at hP
                exact W.iret hx hb hr (fun t ht hW => ⟨⟨rfl, by rw [ht]; exact hP⟩, hS.F ht⟩) hS.2.2 dL_does_495 hlk
        · have h := it_f c83 h
          refine lv_tableOut (pc := 49) (tgt := 496) hx hb dL_does_49 (sw_out7 (fun z => c5 (Or.inl z)) (fun z => c5 (Or.inr (Or.inl z))) (fun z => c5 (Or.inr (Or.inr (z)))) (fun z => c16 (z)) (fun z => c25 (z)) (fun z => c83 (Or.inl z)) (fun z => c83 (Or.inr (z)))) (by decide) ?_
          refine lv_iload_n (pc := 496) hx hb dL_does_496 rfl (lv_at hl 6 rfl) ?_
          refine lv_iconst (v := (4 : Int32)) (pc := 497) hx hb dL_does_497 (by decide) ?_
          refine lv_ishr (pc := 498) hx hb dL_does_498 ?_
          refine lv_iload_n (pc := 499) hx hb dL_does_499 rfl (lv_at hl 3 rfl) ?_
          refine lv_iconst (v := (1 : Int32)) (pc := 500) hx hb dL_does_500 (by decide) ?_
          refine lv_iadd (pc := 501) hx hb dL_does_501 ?_
          obtain ⟨v113, h_v113, h⟩ := ob h
          refine rdS (pc := 502) (As := [.int (a0 >>> ((4 : Int32) &&& 31)), .int ((i_constraintCount S) + (1 : Int32))]) (rest := []) hx hb hml hown hts hG (c_L_some l K (a0 >>> ((4 : Int32) &&& 31)) ((i_constraintCount S) + (1 : Int32)) h_v113) g_Law_210 hd_Law_some rfl ⟨by omega, by omega⟩ ⟨by omega, by omega⟩ hl rfl (Nat.le_of_ble_eq_true rfl) dL_does_502 ?_
          refine lv_istore (pc := 505) (lv' := [(7, .int v113), (6, .int v3), (5, .int v2), (4, .int v1), (3, .int (i_constraintCount S)), (2, .int (i_pointCount S)), (0, .ref (ad 0)), (1, .int a0)]) hx hb dL_does_505 hl (by decide) rfl (fun ls hl => ?_)
          refine lv_aload_n (pc := 507) hx hb dL_does_507 rfl (lv_at hl 6 rfl) ?_
          refine lv_iload (pc := 508) hx hb dL_does_508 (lv_at hl 0 rfl) ?_
          obtain ⟨v114, h_v114, h⟩ := ob h
          refine lwA (na := 2) (pc := 510) (As := [.ref (ad 0), .int v113]) (rest := []) (r9 := []) hx hb hml hown hts hG2 hP hD hS hZ (c_h_untie l K hl0 ad F S v113 h_v114) (wO_adr K ad _ _) (gSH qm_Law_234 qt_Law_untie qn_Law qc_Law_untie) (by decide +kernel) rfl ⟨by omega, by omega⟩ ⟨by omega, by omega⟩ hl rfl (Nat.le_of_ble_eq_true rfl) dL_does_510 (fun H locs hP hD hS => ?_)
          refine lv_istore (pc := 513) (lv' := [(8, .int v114.1), (7, .int v113), (6, .int v3), (5, .int v2), (4, .int v1), (3, .int (i_constraintCount S)), (2, .int (i_pointCount S)), (0, .ref (ad 0)), (1, .int a0)]) hx hb dL_does_513 hl (by decide) rfl (fun ls hl => ?_)
          refine lv_iload (pc := 515) hx hb dL_does_515 (lv_at hl 0 rfl) ?_
          refine lv_iload_n (pc := 517) hx hb dL_does_517 rfl (lv_at hl 5 rfl) ?_
          refine lv_iconst (v := (1 : Int32)) (pc := 518) hx hb dL_does_518 (by decide) ?_
          refine lv_isub (pc := 519) hx hb dL_does_519 ?_
          refine lv_icmp_ne (tgt := 533) (pc := 520) hx hb dL_does_520 (by decide) (fun c115 => ?_) (fun c115 => ?_)
          · have h := it_f c115 h
            refine lv_iload (pc := 533) hx hb dL_does_533 (lv_at hl 0 rfl) ?_
            refine lv_sipush (v := (-1001 : Int32)) (pc := 535) hx hb dL_does_535 (by decide) ?_
            refine lv_icmp_ne (tgt := 551) (pc := 538) hx hb dL_does_538 (by decide) (fun c116 => ?_) (fun c116 => ?_)
            · have h := it_f c116 h
              cases h
            · have h := it_t c116 h
              refine lv_iload (pc := 541) hx hb dL_does_541 (lv_at hl 1 rfl) ?_
              refine lv_iload_n (pc := 543) hx hb dL_does_543 rfl (lv_at hl 5 rfl) ?_
              refine lv_icmp_ne (tgt := 551) (pc := 544) hx hb dL_does_544 (by decide) (fun c117 => ?_) (fun c117 => ?_)
              · have h := it_f c117 h
                cases h
              · have h := it_t c117 h
                refine lv_iconst (v := (0 : Int32)) (pc := 547) hx hb dL_does_547 (by decide) ?_
                refine lv_goto (tgt := 552) (pc := 548) hx hb dL_does_548 (by decide) ?_
                obtain rfl := Option.some.inj h
                refine W.widen (k := 12) (n := 72) (by omega) (by omega) ?_
                rw [List.append_nil] at hP
                exact W.iret hx hb hr (fun t ht hW => ⟨⟨rfl, by rw [ht]; exact hP⟩, hS.F ht⟩) hS.2.2 dL_does_552 hlk
          · have h := it_t c115 h
            refine lv_iload (pc := 523) hx hb dL_does_523 (lv_at hl 1 rfl) ?_
            refine lv_iload_n (pc := 525) hx hb dL_does_525 rfl (lv_at hl 5 rfl) ?_
            refine lv_icmp_ge (tgt := 533) (pc := 526) hx hb dL_does_526 (by decide) (fun c118 => ?_) (fun c118 => ?_)
            · have h := it_t c118 h
              cases h
            · have h := it_f c118 h
              refine lv_iconst (v := (1 : Int32)) (pc := 529) hx hb dL_does_529 (by decide) ?_
              refine lv_goto (tgt := 552) (pc := 530) hx hb dL_does_530 (by decide) ?_
              obtain rfl := Option.some.inj h
              refine W.widen (k := 12) (n := 72) (by omega) (by omega) ?_
              rw [List.append_nil] at hP
              exact W.iret hx hb hr (fun t ht hW => ⟨⟨rfl, by rw [ht]; exact hP⟩, hS.F ht⟩) hS.2.2 dL_does_552 hlk
