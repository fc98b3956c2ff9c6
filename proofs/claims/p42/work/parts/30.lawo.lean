set_option maxHeartbeats 8000000 in
set_option maxRecDepth 100000 in
theorem l_law_o_L322 {p : Program} {l : Launch} {e : Env} {R : Room} {s : State} {m : MethodId} {args : Array Value} {below : List Frame} {meth : Method} {c : Code} {Q : State → Prop} {K : KT} {A : Nat → Prop} {b LL : Nat} {xs : Nat → Int32} (C0 : LCx p m c s args K A b LL xs) (hl0 : l.stackTraces = false) (hRf : 12 ≤ R.frames ∧ 720 ≤ R.locals) (F : Nat) (ad : Nat → Nat) (q3 : Nat)  (cE : Nat) (hE : cE ≤ R.cells ∧ 6 * cE ≤ R.slots) : ∀ (n : Nat) (x4 : Int32) (x5 : Int32) (S : TopS) (la : Nat → Int64) (out : Int32 × Int32 × TopS × (Nat → Int64)), s_law_o_L322 F LL xs n x4 x5 S la = some out → ∀ (H : Heap) (locs : List Loc) (cells slots : Nat) (ls : Array Slot), cells + n * 972 ≤ cE → slots ≤ 6 * cells → va_P K.1 vC (wO K ad S ++ (wLs K q3 la)) H → va_D A (wO K ad S ++ (wLs K q3 la)) → va_S A s.heap H locs → lv_has ls 9 [(0, .ref b), (2, .ref (ad 0)), (3, .ref q3), (4, .int x4), (5, .int x5)] → (∀ (o : Int32 × Int32 × TopS × (Nat → Int64)) (H : Heap) (locs : List Loc) (ls : Array Slot), out = o → va_P K.1 vC (wO K ad o.2.2.1 ++ (wLs K q3 o.2.2.2)) H → va_D A (wO K ad o.2.2.1 ++ (wLs K q3 o.2.2.2)) → va_S A s.heap H locs → lv_has ls 9 [(0, .ref b), (2, .ref (ad 0)), (3, .ref q3), (4, .int o.1), (5, .int o.2.1)] → W p l e R s m args below meth c H locs cE (6 * cE) Q (F0 m 397 ls [])) → W p l e R s m args below meth c H locs cells slots Q (F0 m 322 ls []) := by
  obtain ⟨hx, hb, hml, hown, hts, hG, hG2, hZ, hX, hbl, hbA, hLL⟩ := id C0
  intro n
  induction n with
  | zero =>
    intro x4 x5 S la out h
    cases h
  | succ n ih =>
    intro x4 x5 S la out h H locs cells slots ls hc hs hP hD hS hl Kx
    rw [s_law_o_L322.eq_2] at h
    refine lv_iload (pc := 322) hx hb dL_law_322 (lv_at hl 4 rfl) ?_
    refine lv_bipush (v := (18 : Int32)) (pc := 324) hx hb dL_law_324 (by decide) ?_
    refine lv_icmp_ge (tgt := 397) (pc := 326) hx hb dL_law_326 (by decide) (fun c1 => ?_) (fun c1 => ?_)
    · have h := it_t c1 h
      obtain rfl := Option.some.inj h
      refine W.widen (k := cE) (n := 6 * cE) (by omega) (by omega) ?_
      exact Kx _ H locs ls rfl hP hD hS (lv_sub hl [0, 1, 2, 3, 4] rfl)
    · have h := it_f c1 h
      refine lv_aload_n (pc := 329) hx hb dL_law_329 rfl (lv_at hl 1 rfl) ?_
      obtain ⟨v2, h_v2, h⟩ := ob h
      refine mkA (na := 1) (pc := 330) (As := [.ref (ad 0)]) (rest := []) (r9 := (wLs K q3 la)) hx hb hml hown hts hG2 hP hD hS hZ (c_L_state l K hl0 ad F S h_v2) (wO_adr K ad _ _) g_Law_158 hd_Law_state rfl ⟨by omega, by omega⟩ ⟨by omega, by omega⟩ hl rfl (Nat.le_of_ble_eq_true rfl) dL_law_330 (fun H locs hP hD hS => ?_)
      refine lv_lstore (pc := 333) (lv' := [(6, .long v2.1), (0, .ref b), (2, .ref (ad 0)), (3, .ref q3), (4, .int x4), (5, .int x5)]) hx hb dL_law_333 hl (by decide) rfl (fun ls hl => ?_)
      refine lv_aload_n (pc := 335) hx hb dL_law_335 rfl (lv_at hl 2 rfl) ?_
      refine lv_aload_n (pc := 336) hx hb dL_law_336 rfl (lv_at hl 1 rfl) ?_
      refine lv_iload (pc := 337) hx hb dL_law_337 (lv_at hl 5 rfl) ?_
      obtain ⟨v3, h_v3, h⟩ := ob h
      obtain ⟨hi_v3, e_v3⟩ := atO_in h_v3
      refine atA (K := K) (pc := 339) (rest := [.ref (ad 0)]) hx hb hml hown hts hX hbl hbA hS (c_at l b LL xs x5 hi_v3 hLL) g_Law_269 ⟨by omega, by omega⟩ ⟨by omega, by omega⟩ hl rfl (Nat.le_of_ble_eq_true rfl) dL_law_339 ?_
      rw [e_v3]
      refine lv_iload (pc := 342) hx hb dL_law_342 (lv_at hl 5 rfl) ?_
      refine lv_sipush (v := (15731 : Int32)) (pc := 344) hx hb dL_law_344 (by decide) ?_
      refine lv_imul (pc := 347) hx hb dL_law_347 ?_
      refine lv_ixor (pc := 348) hx hb dL_law_348 ?_
      obtain ⟨v4, h_v4, h⟩ := ob h
      refine mkA (na := 2) (pc := 349) (As := [.ref (ad 0), .int (v3 ^^^ (x5 * (15731 : Int32)))]) (rest := []) (r9 := (wLs K q3 la)) hx hb hml hown hts hG2 hP hD hS hZ (c_L_does l K hl0 ad F v2.2 (v3 ^^^ (x5 * (15731 : Int32))) h_v4) (wO_adr K ad _ _) g_Law_273 hd_Law_does rfl ⟨by omega, by omega⟩ ⟨by omega, by omega⟩ hl rfl (Nat.le_of_ble_eq_true rfl) dL_law_349 (fun H locs hP hD hS => ?_)
      refine lv_istore (pc := 352) (lv' := [(8, .int v4.1), (6, .long v2.1), (0, .ref b), (2, .ref (ad 0)), (3, .ref q3), (4, .int x4), (5, .int x5)]) hx hb dL_law_352 hl (by decide) rfl (fun ls hl => ?_)
      refine lv_iload (pc := 354) hx hb dL_law_354 (lv_at hl 0 rfl) ?_
      refine lv_if_lt (tgt := 374) (pc := 356) hx hb dL_law_356 (by decide) (fun c5 => ?_) (fun c5 => ?_)
      · have h := it_t c5 h
        cases h
      · have h := it_f c5 h
        refine lv_iload (pc := 359) hx hb dL_law_359 (lv_at hl 0 rfl) ?_
        refine lv_if_ne (tgt := 376) (pc := 361) hx hb dL_law_361 (by decide) (fun c6 => ?_) (fun c6 => ?_)
        · have h := it_f c6 h
          refine lv_iload (pc := 376) hx hb dL_law_376 (lv_at hl 0 rfl) ?_
          refine lv_iconst (v := (1 : Int32)) (pc := 378) hx hb dL_law_378 (by decide) ?_
          refine lv_icmp_ne (tgt := 391) (pc := 379) hx hb dL_law_379 (by decide) (fun c7 => ?_) (fun c7 => ?_)
          · have h := it_f c7 h
            refine lv_iinc (v := (x5 + (1 : Int32))) (pc := 391) (lv' := [(5, .int (x5 + (1 : Int32))), (8, .int v4.1), (6, .long v2.1), (0, .ref b), (2, .ref (ad 0)), (3, .ref q3), (4, .int x4)]) hx hb dL_law_391 hl (k := 6) rfl rfl (by decide) rfl (fun ls hl => ?_)
            refine lv_goto (tgt := 322) (pc := 394) hx hb dL_law_394 (by decide) ?_
            exact ih x4 (x5 + (1 : Int32)) v4.2 la out h H locs _ _ ls (by omega) (by omega) hP hD hS (lv_sub hl [3, 4, 5, 6, 0] rfl) Kx
          · have h := it_t c7 h
            refine lv_aload_n (pc := 382) hx hb dL_law_382 rfl (lv_at hl 4 rfl) ?_
            refine lv_iload (pc := 383) hx hb dL_law_383 (lv_at hl 5 rfl) ?_
            refine lv_iinc (v := (x4 + (1 : Int32))) (pc := 385) (lv' := [(4, .int (x4 + (1 : Int32))), (8, .int v4.1), (6, .long v2.1), (0, .ref b), (2, .ref (ad 0)), (3, .ref q3), (5, .int x5)]) hx hb dL_law_385 hl (k := 5) rfl rfl (by decide) rfl (fun ls hl => ?_)
            refine lv_lload (pc := 388) hx hb dL_law_388 (lv_at hl 2 rfl) ?_
            obtain ⟨v8, h_v8, h⟩ := ob h
            obtain ⟨hi_v8, e_v8⟩ := asetL_in h_v8
            refine va_last (pc := 390) hx hb hG.1 hP hD hS 181 3 rfl rfl hi_v8 dL_law_390 (fun H locs hP hD hS => ?_)
            rw [e_v8] at hP hD
            have hP : va_P K.1 vC (wO K ad v4.2 ++ (wLs K q3 v8)) H := hP
            have hD : va_D A (wO K ad v4.2 ++ (wLs K q3 v8)) := hD
            refine lv_iinc (v := (x5 + (1 : Int32))) (pc := 391) (lv' := [(5, .int (x5 + (1 : Int32))), (4, .int (x4 + (1 : Int32))), (8, .int v4.1), (6, .long v2.1), (0, .ref b), (2, .ref (ad 0)), (3, .ref q3)]) hx hb dL_law_391 hl (k := 6) rfl rfl (by decide) rfl (fun ls hl => ?_)
            refine lv_goto (tgt := 322) (pc := 394) hx hb dL_law_394 (by decide) ?_
            exact ih (x4 + (1 : Int32)) (x5 + (1 : Int32)) v4.2 v8 out h H locs _ _ ls (by omega) (by omega) hP hD hS (lv_sub hl [4, 5, 6, 1, 0] rfl) Kx
        · have h := it_t c6 h
          refine lv_aload_n (pc := 364) hx hb dL_law_364 rfl (lv_at hl 3 rfl) ?_
          obtain ⟨v9, h_v9, h⟩ := ob h
          refine mkA (na := 1) (pc := 365) (As := [.ref (ad 0)]) (rest := []) (r9 := (wLs K q3 la)) hx hb hml hown hts hG2 hP hD hS hZ (c_L_state l K hl0 ad F v4.2 h_v9) (wO_adr K ad _ _) g_Law_158 hd_Law_state rfl ⟨by omega, by omega⟩ ⟨by omega, by omega⟩ hl rfl (Nat.le_of_ble_eq_true rfl) dL_law_365 (fun H locs hP hD hS => ?_)
          refine lv_lload (pc := 368) hx hb dL_law_368 (lv_at hl 1 rfl) ?_
          refine W.lcmp (pc := 370) hx hb dL_law_370 ?_
          refine lv_if_eq (tgt := 376) (pc := 371) hx hb dL_law_371 (by decide) (fun c10 => ?_) (fun c10 => ?_)
          · have h := it_t c10 h
            refine lv_iload (pc := 376) hx hb dL_law_376 (lv_at hl 0 rfl) ?_
            refine lv_iconst (v := (1 : Int32)) (pc := 378) hx hb dL_law_378 (by decide) ?_
            refine lv_icmp_ne (tgt := 391) (pc := 379) hx hb dL_law_379 (by decide) (fun c11 => ?_) (fun c11 => ?_)
            · have h := it_f c11 h
              refine lv_iinc (v := (x5 + (1 : Int32))) (pc := 391) (lv' := [(5, .int (x5 + (1 : Int32))), (8, .int v4.1), (6, .long v2.1), (0, .ref b), (2, .ref (ad 0)), (3, .ref q3), (4, .int x4)]) hx hb dL_law_391 hl (k := 6) rfl rfl (by decide) rfl (fun ls hl => ?_)
              refine lv_goto (tgt := 322) (pc := 394) hx hb dL_law_394 (by decide) ?_
              exact ih x4 (x5 + (1 : Int32)) v9.2 la out h H locs _ _ ls (by omega) (by omega) hP hD hS (lv_sub hl [3, 4, 5, 6, 0] rfl) Kx
            · have h := it_t c11 h
              refine lv_aload_n (pc := 382) hx hb dL_law_382 rfl (lv_at hl 4 rfl) ?_
              refine lv_iload (pc := 383) hx hb dL_law_383 (lv_at hl 5 rfl) ?_
              refine lv_iinc (v := (x4 + (1 : Int32))) (pc := 385) (lv' := [(4, .int (x4 + (1 : Int32))), (8, .int v4.1), (6, .long v2.1), (0, .ref b), (2, .ref (ad 0)), (3, .ref q3), (5, .int x5)]) hx hb dL_law_385 hl (k := 5) rfl rfl (by decide) rfl (fun ls hl => ?_)
              refine lv_lload (pc := 388) hx hb dL_law_388 (lv_at hl 2 rfl) ?_
              obtain ⟨v12, h_v12, h⟩ := ob h
              obtain ⟨hi_v12, e_v12⟩ := asetL_in h_v12
              refine va_last (pc := 390) hx hb hG.1 hP hD hS 181 3 rfl rfl hi_v12 dL_law_390 (fun H locs hP hD hS => ?_)
              rw [e_v12] at hP hD
              have hP : va_P K.1 vC (wO K ad v9.2 ++ (wLs K q3 v12)) H := hP
              have hD : va_D A (wO K ad v9.2 ++ (wLs K q3 v12)) := hD
              refine lv_iinc (v := (x5 + (1 : Int32))) (pc := 391) (lv' := [(5, .int (x5 + (1 : Int32))), (4, .int (x4 + (1 : Int32))), (8, .int v4.1), (6, .long v2.1), (0, .ref b), (2, .ref (ad 0)), (3, .ref q3)]) hx hb dL_law_391 hl (k := 6) rfl rfl (by decide) rfl (fun ls hl => ?_)
              refine lv_goto (tgt := 322) (pc := 394) hx hb dL_law_394 (by decide) ?_
              exact ih (x4 + (1 : Int32)) (x5 + (1 : Int32)) v9.2 v12 out h H locs _ _ ls (by omega) (by omega) hP hD hS (lv_sub hl [4, 5, 6, 1, 0] rfl) Kx
          · have h := it_f c10 h
            cases h
set_option maxHeartbeats 8000000 in
set_option maxRecDepth 100000 in
theorem l_law_o_L455 {p : Program} {l : Launch} {e : Env} {R : Room} {s : State} {m : MethodId} {args : Array Value} {below : List Frame} {meth : Method} {c : Code} {Q : State → Prop} {K : KT} {A : Nat → Prop} {b LL : Nat} {xs : Nat → Int32} (C0 : LCx p m c s args K A b LL xs) (hl0 : l.stackTraces = false) (hRf : 12 ≤ R.frames ∧ 720 ≤ R.locals) (F : Nat) (ad : Nat → Nat) (q3 : Nat)  (la : Nat → Int64) (x4 : Int32) (x5 : Int64) (x7 : Int32) (cE : Nat) (hE : cE ≤ R.cells ∧ 6 * cE ≤ R.slots) : ∀ (n : Nat) (x8 : Int32) (S : TopS) (out : Int32 × TopS), s_law_o_L455 F la x4 x7 n x8 S = some out → ∀ (H : Heap) (locs : List Loc) (cells slots : Nat) (ls : Array Slot), cells + n * 481 ≤ cE → slots ≤ 6 * cells → va_P K.1 vC (wO K ad S ++ (wLs K q3 la)) H → va_D A (wO K ad S ++ (wLs K q3 la)) → va_S A s.heap H locs → lv_has ls 9 [(0, .ref b), (2, .ref (ad 0)), (3, .ref q3), (4, .int x4), (5, .long x5), (7, .int x7), (8, .int x8)] → (∀ (o : Int32 × TopS) (H : Heap) (locs : List Loc) (ls : Array Slot), out = o → va_P K.1 vC (wO K ad o.2 ++ (wLs K q3 la)) H → va_D A (wO K ad o.2 ++ (wLs K q3 la)) → va_S A s.heap H locs → lv_has ls 9 [(0, .ref b), (2, .ref (ad 0)), (3, .ref q3), (4, .int x4), (5, .long x5), (7, .int x7), (8, .int o.1)] → W p l e R s m args below meth c H locs cE (6 * cE) Q (F0 m 497 ls [])) → W p l e R s m args below meth c H locs cells slots Q (F0 m 455 ls []) := by
  obtain ⟨hx, hb, hml, hown, hts, hG, hG2, hZ, hX, hbl, hbA, hLL⟩ := id C0
  intro n
  induction n with
  | zero =>
    intro x8 S out h
    cases h
  | succ n ih =>
    intro x8 S out h H locs cells slots ls hc hs hP hD hS hl Kx
    rw [s_law_o_L455.eq_2] at h
    refine lv_iload (pc := 455) hx hb dL_law_455 (lv_at hl 6 rfl) ?_
    refine lv_iload (pc := 457) hx hb dL_law_457 (lv_at hl 5 rfl) ?_
    refine lv_icmp_gt (tgt := 497) (pc := 459) hx hb dL_law_459 (by decide) (fun c22 => ?_) (fun c22 => ?_)
    · have h := it_t c22 h
      obtain rfl := Option.some.inj h
      refine W.widen (k := cE) (n := 6 * cE) (by omega) (by omega) ?_
      exact Kx _ H locs ls rfl hP hD hS (lv_sub hl [0, 1, 2, 3, 4, 5, 6] rfl)
    · have h := it_f c22 h
      refine lv_aload_n (pc := 462) hx hb dL_law_462 rfl (lv_at hl 1 rfl) ?_
      obtain ⟨v23, h_v23, h⟩ := ob h
      refine lwA (na := 1) (pc := 463) (As := [.ref (ad 0)]) (rest := []) (r9 := (wLs K q3 la)) hx hb hml hown hts hG2 hP hD hS hZ (c_h_undo l K hl0 ad F S h_v23) (wO_adr K ad _ _) (gSH qm_Law_264 qt_Law_undo qn_Law qc_Law_undo) (by decide +kernel) rfl ⟨by omega, by omega⟩ ⟨by omega, by omega⟩ hl rfl (Nat.le_of_ble_eq_true rfl) dL_law_463 (fun H locs hP hD hS => ?_)
      refine lv_iload (pc := 466) hx hb dL_law_466 (lv_at hl 5 rfl) ?_
      refine lv_iload (pc := 468) hx hb dL_law_468 (lv_at hl 6 rfl) ?_
      refine lv_isub (pc := 470) hx hb dL_law_470 ?_
      refine lv_icmp_ne (tgt := 489) (pc := 471) hx hb dL_law_471 (by decide) (fun c24 => ?_) (fun c24 => ?_)
      · have h := it_f c24 h
        cases h
      · have h := it_t c24 h
        refine lv_aload_n (pc := 474) hx hb dL_law_474 rfl (lv_at hl 1 rfl) ?_
        obtain ⟨v25, h_v25, h⟩ := ob h
        refine mkA (na := 1) (pc := 475) (As := [.ref (ad 0)]) (rest := []) (r9 := (wLs K q3 la)) hx hb hml hown hts hG2 hP hD hS hZ (c_L_state l K hl0 ad F v23.2 h_v25) (wO_adr K ad _ _) g_Law_158 hd_Law_state rfl ⟨by omega, by omega⟩ ⟨by omega, by omega⟩ hl rfl (Nat.le_of_ble_eq_true rfl) dL_law_475 (fun H locs hP hD hS => ?_)
        refine lv_aload_n (pc := 478) hx hb dL_law_478 rfl (lv_at hl 2 rfl) ?_
        refine lv_iload (pc := 479) hx hb dL_law_479 (lv_at hl 3 rfl) ?_
        refine lv_iload (pc := 481) hx hb dL_law_481 (lv_at hl 6 rfl) ?_
        refine lv_isub (pc := 483) hx hb dL_law_483 ?_
        obtain ⟨v26, h_v26, h⟩ := ob h
        obtain ⟨hi_v26, e_v26⟩ := aget_in h_v26
        refine va_lald (pc := 484) hx hb hG.1 hP 181 3 rfl rfl hi_v26 dL_law_484 ?_
        rw [e_v26]
        refine W.lcmp (pc := 485) hx hb dL_law_485 ?_
        refine lv_if_eq (tgt := 491) (pc := 486) hx hb dL_law_486 (by decide) (fun c27 => ?_) (fun c27 => ?_)
        · have h := it_t c27 h
          refine lv_iinc (v := (x8 + (1 : Int32))) (pc := 491) (lv' := [(8, .int (x8 + (1 : Int32))), (0, .ref b), (2, .ref (ad 0)), (3, .ref q3), (4, .int x4), (5, .long x5), (7, .int x7)]) hx hb dL_law_491 hl (k := 6) rfl rfl (by decide) rfl (fun ls hl => ?_)
          refine lv_goto (tgt := 455) (pc := 494) hx hb dL_law_494 (by decide) ?_
          exact ih (x8 + (1 : Int32)) v25.2 out h H locs _ _ ls (by omega) (by omega) hP hD hS (lv_sub hl [1, 2, 3, 4, 5, 6, 0] rfl) Kx
        · have h := it_f c27 h
          cases h
set_option maxHeartbeats 8000000 in
set_option maxRecDepth 100000 in
theorem l_law_o_L543 {p : Program} {l : Launch} {e : Env} {R : Room} {s : State} {m : MethodId} {args : Array Value} {below : List Frame} {meth : Method} {c : Code} {Q : State → Prop} {K : KT} {A : Nat → Prop} {b LL : Nat} {xs : Nat → Int32} (C0 : LCx p m c s args K A b LL xs) (hl0 : l.stackTraces = false) (hRf : 12 ≤ R.frames ∧ 720 ≤ R.locals) (F : Nat) (ad : Nat → Nat) (q3 : Nat)  (la : Nat → Int64) (x5 : Int64) (cE : Nat) (hE : cE ≤ R.cells ∧ 6 * cE ≤ R.slots) : ∀ (n : Nat) (x8 : Int32) (S : TopS) (out : Int32 × TopS), s_law_o_L543 F LL xs n x8 S = some out → ∀ (H : Heap) (locs : List Loc) (cells slots : Nat) (ls : Array Slot), cells + n * 12 ≤ cE → slots ≤ 6 * cells → va_P K.1 vC (wO K ad S ++ (wLs K q3 la)) H → va_D A (wO K ad S ++ (wLs K q3 la)) → va_S A s.heap H locs → lv_has ls 9 [(0, .ref b), (2, .ref (ad 0)), (5, .long x5), (8, .int x8)] → (∀ (o : Int32 × TopS) (H : Heap) (locs : List Loc) (ls : Array Slot), out = o → va_P K.1 vC (wO K ad o.2 ++ (wLs K q3 la)) H → va_D A (wO K ad o.2 ++ (wLs K q3 la)) → va_S A s.heap H locs → lv_has ls 9 [(0, .ref b), (2, .ref (ad 0)), (5, .long x5), (8, .int o.1)] → W p l e R s m args below meth c H locs cE (6 * cE) Q (F0 m 573 ls [])) → W p l e R s m args below meth c H locs cells slots Q (F0 m 543 ls []) := by
  obtain ⟨hx, hb, hml, hown, hts, hG, hG2, hZ, hX, hbl, hbA, hLL⟩ := id C0
  intro n
  induction n with
  | zero =>
    intro x8 S out h
    cases h
  | succ n ih =>
    intro x8 S out h H locs cells slots ls hc hs hP hD hS hl Kx
    rw [s_law_o_L543.eq_2] at h
    refine lv_iload (pc := 543) hx hb dL_law_543 (lv_at hl 3 rfl) ?_
    refine lv_iconst (v := (3 : Int32)) (pc := 545) hx hb dL_law_545 (by decide) ?_
    refine lv_icmp_ge (tgt := 573) (pc := 546) hx hb dL_law_546 (by decide) (fun c37 => ?_) (fun c37 => ?_)
    · have h := it_t c37 h
      obtain rfl := Option.some.inj h
      refine W.widen (k := cE) (n := 6 * cE) (by omega) (by omega) ?_
      exact Kx _ H locs ls rfl hP hD hS (lv_sub hl [0, 1, 2, 3] rfl)
    · have h := it_f c37 h
      refine lv_aload_n (pc := 549) hx hb dL_law_549 rfl (lv_at hl 1 rfl) ?_
      refine lv_aload_n (pc := 550) hx hb dL_law_550 rfl (lv_at hl 0 rfl) ?_
      refine lv_bipush (v := (18 : Int32)) (pc := 551) hx hb dL_law_551 (by decide) ?_
      refine lv_iload (pc := 553) hx hb dL_law_553 (lv_at hl 3 rfl) ?_
      refine lv_iadd (pc := 555) hx hb dL_law_555 ?_
      obtain ⟨v38, h_v38, h⟩ := ob h
      obtain ⟨hi_v38, e_v38⟩ := atO_in h_v38
      refine atA (K := K) (pc := 556) (rest := [.ref (ad 0)]) hx hb hml hown hts hX hbl hbA hS (c_at l b LL xs ((18 : Int32) + x8) hi_v38 hLL) g_Law_269 ⟨by omega, by omega⟩ ⟨by omega, by omega⟩ hl rfl (Nat.le_of_ble_eq_true rfl) dL_law_556 ?_
      rw [e_v38]
      obtain ⟨v39, h_v39, h⟩ := ob h
      refine mkA (na := 2) (pc := 559) (As := [.ref (ad 0), .int v38]) (rest := []) (r9 := (wLs K q3 la)) hx hb hml hown hts hG2 hP hD hS hZ (c_L_does l K hl0 ad F S v38 h_v39) (wO_adr K ad _ _) g_Law_273 hd_Law_does rfl ⟨by omega, by omega⟩ ⟨by omega, by omega⟩ hl rfl (Nat.le_of_ble_eq_true rfl) dL_law_559 (fun H locs hP hD hS => ?_)
      refine lv_if_ge (tgt := 567) (pc := 562) hx hb dL_law_562 (by decide) (fun c40 => ?_) (fun c40 => ?_)
      · have h := it_t c40 h
        refine lv_iinc (v := (x8 + (1 : Int32))) (pc := 567) (lv' := [(8, .int (x8 + (1 : Int32))), (0, .ref b), (2, .ref (ad 0)), (5, .long x5)]) hx hb dL_law_567 hl (k := 3) rfl rfl (by decide) rfl (fun ls hl => ?_)
        refine lv_goto (tgt := 543) (pc := 570) hx hb dL_law_570 (by decide) ?_
        exact ih (x8 + (1 : Int32)) v39.2 out h H locs _ _ ls (by omega) (by omega) hP hD hS (lv_sub hl [1, 2, 3, 0] rfl) Kx
      · have h := it_f c40 h
        cases h
set_option maxHeartbeats 8000000 in
set_option maxRecDepth 100000 in
theorem l_law_o {p : Program} {l : Launch} {e : Env} {R : Room} {s : State} {m : MethodId} {args : Array Value} {below : List Frame} {meth : Method} {c : Code} {Q : State → Prop} {K : KT} {A : Nat → Prop} {b LL : Nat} {xs : Nat → Int32} (C0 : LCx p m c s args K A b LL xs) (hl0 : l.stackTraces = false) (hRf : 12 ≤ R.frames ∧ 720 ≤ R.locals) (F : Nat) (ad : Nat → Nat) (q3 : Nat) (S : TopS) (la : Nat → Int64) (c0 : Nat) (hRc : c0 + 199314 ≤ R.cells) (hRs : 6 * c0 + 1195884 ≤ R.slots) {o : Unit} (h : s_law_o F LL xs S la = some o) (H : Heap) (locs : List Loc) (ls : Array Slot) (hP : va_P K.1 vC (wO K ad S ++ (wLs K q3 la)) H) (hD : va_D A (wO K ad S ++ (wLs K q3 la))) (hS : va_S A s.heap H locs) (hl : lv_has ls 9 [(0, .ref b), (2, .ref (ad 0)), (3, .ref q3)]) (Kx : (∀ (H : Heap) (locs : List Loc) (ls : Array Slot), va_S A s.heap H locs → W p l e R s m args below meth c H locs (c0 + 199314) (6 * c0 + 1195884) Q (F0 m 599 ls [.int 1]))) : W p l e R s m args below meth c H locs c0 (6 * c0) Q (F0 m 316 ls []) := by
  obtain ⟨hx, hb, hml, hown, hts, hG, hG2, hZ, hX, hbl, hbA, hLL⟩ := id C0
  unfold s_law_o at h
  refine lv_iconst (v := (0 : Int32)) (pc := 316) hx hb dL_law_316 (by decide) ?_
  refine lv_istore (pc := 317) (lv' := [(4, .int (0 : Int32)), (0, .ref b), (2, .ref (ad 0)), (3, .ref q3)]) hx hb dL_law_317 hl (by decide) rfl (fun ls hl => ?_)
  refine lv_iconst (v := (0 : Int32)) (pc := 319) hx hb dL_law_319 (by decide) ?_
  refine lv_istore (pc := 320) (lv' := [(5, .int (0 : Int32)), (4, .int (0 : Int32)), (0, .ref b), (2, .ref (ad 0)), (3, .ref q3)]) hx hb dL_law_320 hl (by decide) rfl (fun ls hl => ?_)
  refine W.widen (k := c0 + 0) (n := 6 * c0 + 0) (by omega) (by omega) ?_
  obtain ⟨o13, h_o13, h⟩ := ob h
  refine l_law_o_L322 C0 hl0 hRf F ad q3 (c0 + 58320) ⟨by omega, by rw [Nat.mul_add]; omega⟩ 60 (0 : Int32) (0 : Int32) S la _ h_o13 H locs _ _ ls (by omega) (Nat.le_of_eq (Nat.mul_add 6 c0 0).symm) hP hD hS (lv_sub hl [2, 3, 4, 1, 0] rfl) (fun o13x H locs ls eo hP hD hS hl => ?_)
  subst o13
  refine W.widen (k := c0 + 58320) (n := 6 * c0 + 349920) (Nat.le_refl _) (Nat.le_of_eq (Nat.mul_add 6 c0 58320)) ?_
  refine lv_aload_n (pc := 397) hx hb dL_law_397 rfl (lv_at hl 1 rfl) ?_
  obtain ⟨v14, h_v14, h⟩ := ob h
  refine mkA (na := 1) (pc := 398) (As := [.ref (ad 0)]) (rest := []) (r9 := (wLs K q3 o13x.2.2.2)) hx hb hml hown hts hG2 hP hD hS hZ (c_L_asks l K hl0 ad F o13x.2.2.1 h_v14) (wO_adr K ad _ _) g_Law_237 hd_Law_asks rfl ⟨by omega, by omega⟩ ⟨by omega, by omega⟩ hl rfl (Nat.le_of_ble_eq_true rfl) dL_law_398 (fun H locs hP hD hS => ?_)
  refine lv_lstore (pc := 401) (lv' := [(5, .long v14.1), (0, .ref b), (2, .ref (ad 0)), (3, .ref q3), (4, .int o13x.1)]) hx hb dL_law_401 hl (by decide) rfl (fun ls hl => ?_)
  refine lv_aload_n (pc := 403) hx hb dL_law_403 rfl (lv_at hl 2 rfl) ?_
  obtain ⟨v15, h_v15, h⟩ := ob h
  refine mkA (na := 1) (pc := 404) (As := [.ref (ad 0)]) (rest := []) (r9 := (wLs K q3 o13x.2.2.2)) hx hb hml hown hts hG2 hP hD hS hZ (c_L_asks l K hl0 ad F v14.2 h_v15) (wO_adr K ad _ _) g_Law_237 hd_Law_asks rfl ⟨by omega, by omega⟩ ⟨by omega, by omega⟩ hl rfl (Nat.le_of_ble_eq_true rfl) dL_law_404 (fun H locs hP hD hS => ?_)
  refine lv_lload (pc := 407) hx hb dL_law_407 (lv_at hl 0 rfl) ?_
  refine W.lcmp (pc := 409) hx hb dL_law_409 ?_
  refine lv_if_ne (tgt := 441) (pc := 410) hx hb dL_law_410 (by decide) (fun c16 => ?_) (fun c16 => ?_)
  · have h := it_f c16 h
    cases h
  · have h := it_t c16 h
    refine lv_aload_n (pc := 413) hx hb dL_law_413 rfl (lv_at hl 2 rfl) ?_
    obtain ⟨v17, h_v17, h⟩ := ob h
    refine mkA (na := 1) (pc := 414) (As := [.ref (ad 0)]) (rest := []) (r9 := (wLs K q3 o13x.2.2.2)) hx hb hml hown hts hG2 hP hD hS hZ (c_L_refused l K hl0 ad F v15.2 h_v17) (wO_adr K ad _ _) g_Law_276 hd_Law_refused rfl ⟨by omega, by omega⟩ ⟨by omega, by omega⟩ hl rfl (Nat.le_of_ble_eq_true rfl) dL_law_414 (fun H locs hP hD hS => ?_)
    refine lv_if_eq (tgt := 441) (pc := 417) hx hb dL_law_417 (by decide) (fun c9 => absurd c9 (by decide)) (fun _ => ?_)
    refine lv_aload_n (pc := 420) hx hb dL_law_420 rfl (lv_at hl 2 rfl) ?_
    obtain ⟨v18, h_v18, h⟩ := ob h
    refine mkA (na := 1) (pc := 421) (As := [.ref (ad 0)]) (rest := []) (r9 := (wLs K q3 o13x.2.2.2)) hx hb hml hown hts hG2 hP hD hS hZ (c_L_asks l K hl0 ad F v17 h_v18) (wO_adr K ad _ _) g_Law_237 hd_Law_asks rfl ⟨by omega, by omega⟩ ⟨by omega, by omega⟩ hl rfl (Nat.le_of_ble_eq_true rfl) dL_law_421 (fun H locs hP hD hS => ?_)
    refine lv_lload (pc := 424) hx hb dL_law_424 (lv_at hl 0 rfl) ?_
    refine W.lcmp (pc := 426) hx hb dL_law_426 ?_
    refine lv_if_ne (tgt := 441) (pc := 427) hx hb dL_law_427 (by decide) (fun c19 => ?_) (fun c19 => ?_)
    · have h := it_f c19 h
      cases h
    · have h := it_t c19 h
      refine lv_aload_n (pc := 430) hx hb dL_law_430 rfl (lv_at hl 2 rfl) ?_
      obtain ⟨v20, h_v20, h⟩ := ob h
      refine wrA (pc := 431) (As := []) (rest := []) (r9 := (wLs K q3 o13x.2.2.2)) hx hb hml hown hts hG hP hD hS (c_i_save l K ad v18.2 F h_v20) (wO_adr K ad _ _) (wO_0 K ad _) (ci := 6) rfl g_Law_280 hd_Top_save rfl ⟨by omega, by omega⟩ ⟨by omega, by omega⟩ hl rfl (Nat.le_of_ble_eq_true rfl) dL_law_431 (fun H locs hP hD hS => ?_)
      refine lv_aload_n (pc := 434) hx hb dL_law_434 rfl (lv_at hl 2 rfl) ?_
      refine rdA (pc := 435) (As := []) (rest := [.int v20.1]) (r9 := (wLs K q3 o13x.2.2.2)) hx hb hml hown hts hG hP (c_i_pointCount l K ad v20.2) (wO_0 K ad _) (ci := 6) rfl g_Law_146 hd_Top_pointCount rfl ⟨by omega, by omega⟩ ⟨by omega, by omega⟩ hl rfl (Nat.le_of_ble_eq_true rfl) dL_law_435 ?_
      refine lv_icmp_eq (tgt := 443) (pc := 438) hx hb dL_law_438 (by decide) (fun c21 => ?_) (fun c21 => ?_)
      · have h := it_t c21 h
        refine lv_bipush (v := (12 : Int32)) (pc := 443) hx hb dL_law_443 (by decide) ?_
        refine lv_iload (pc := 445) hx hb dL_law_445 (lv_at hl 4 rfl) ?_
        refine my_mmin (pc := 447) hx hb hml hl.1 hown hts qm_Law_226 (by omega) (Nat.le_trans (m := 720) (Nat.le_of_ble_eq_true rfl) hRf.2) ⟨by omega, by omega⟩ dL_law_447 ?_
        refine lv_istore (pc := 450) (lv' := [(7, .int (imin (12 : Int32) o13x.1)), (5, .long v14.1), (0, .ref b), (2, .ref (ad 0)), (3, .ref q3), (4, .int o13x.1)]) hx hb dL_law_450 hl (by decide) rfl (fun ls hl => ?_)
        refine lv_iconst (v := (1 : Int32)) (pc := 452) hx hb dL_law_452 (by decide) ?_
        refine lv_istore (pc := 453) (lv' := [(8, .int (1 : Int32)), (7, .int (imin (12 : Int32) o13x.1)), (5, .long v14.1), (0, .ref b), (2, .ref (ad 0)), (3, .ref q3), (4, .int o13x.1)]) hx hb dL_law_453 hl (by decide) rfl (fun ls hl => ?_)
        refine W.widen (k := c0 + 137928) (n := 6 * c0 + 827568) (by omega) (by omega) ?_
        obtain ⟨o28, h_o28, h⟩ := ob h
        refine l_law_o_L455 C0 hl0 hRf F ad q3 o13x.2.2.2 o13x.1 v14.1 (imin (12 : Int32) o13x.1) (c0 + 166788) ⟨by omega, by rw [Nat.mul_add]; omega⟩ 60 (1 : Int32) v20.2 _ h_o28 H locs _ _ ls (by omega) (Nat.le_of_eq (Nat.mul_add 6 c0 137928).symm) hP hD hS (lv_sub hl [3, 4, 5, 6, 2, 1, 0] rfl) (fun o28x H locs ls eo hP hD hS hl => ?_)
        subst o28
        refine W.widen (k := c0 + 166788) (n := 6 * c0 + 1000728) (Nat.le_refl _) (Nat.le_of_eq (Nat.mul_add 6 c0 166788)) ?_
        refine lv_aload_n (pc := 497) hx hb dL_law_497 rfl (lv_at hl 1 rfl) ?_
        obtain ⟨v29, h_v29, h⟩ := ob h
        refine lwA (na := 1) (pc := 498) (As := [.ref (ad 0)]) (rest := []) (r9 := (wLs K q3 o13x.2.2.2)) hx hb hml hown hts hG2 hP hD hS hZ (c_h_undo l K hl0 ad F o28x.2 h_v29) (wO_adr K ad _ _) (gSH qm_Law_264 qt_Law_undo qn_Law qc_Law_undo) (by decide +kernel) rfl ⟨by omega, by omega⟩ ⟨by omega, by omega⟩ hl rfl (Nat.le_of_ble_eq_true rfl) dL_law_498 (fun H locs hP hD hS => ?_)
        refine lv_sipush (v := (-1001 : Int32)) (pc := 501) hx hb dL_law_501 (by decide) ?_
        refine lv_icmp_ne (tgt := 538) (pc := 504) hx hb dL_law_504 (by decide) (fun c30 => ?_) (fun c30 => ?_)
        · have h := it_f c30 h
          cases h
        · have h := it_t c30 h
          refine lv_aload_n (pc := 507) hx hb dL_law_507 rfl (lv_at hl 1 rfl) ?_
          obtain ⟨v31, h_v31, h⟩ := ob h
          refine lwA (na := 1) (pc := 508) (As := [.ref (ad 0)]) (rest := []) (r9 := (wLs K q3 o13x.2.2.2)) hx hb hml hown hts hG2 hP hD hS hZ (c_h_restore l K hl0 ad F v29.2 h_v31) (wO_adr K ad _ _) (gSH qm_Law_267 qt_Law_restore qn_Law qc_Law_restore) (by decide +kernel) rfl ⟨by omega, by omega⟩ ⟨by omega, by omega⟩ hl rfl (Nat.le_of_ble_eq_true rfl) dL_law_508 (fun H locs hP hD hS => ?_)
          refine lv_aload_n (pc := 511) hx hb dL_law_511 rfl (lv_at hl 1 rfl) ?_
          refine rdA (pc := 512) (As := []) (rest := [.int v31.1]) (r9 := (wLs K q3 o13x.2.2.2)) hx hb hml hown hts hG hP (c_i_pointCount l K ad v31.2) (wO_0 K ad _) (ci := 6) rfl g_Law_146 hd_Top_pointCount rfl ⟨by omega, by omega⟩ ⟨by omega, by omega⟩ hl rfl (Nat.le_of_ble_eq_true rfl) dL_law_512 ?_
          refine lv_icmp_ne (tgt := 538) (pc := 515) hx hb dL_law_515 (by decide) (fun c32 => ?_) (fun c32 => ?_)
          · have h := it_f c32 h
            cases h
          · have h := it_t c32 h
            refine lv_aload_n (pc := 518) hx hb dL_law_518 rfl (lv_at hl 1 rfl) ?_
            obtain ⟨v33, h_v33, h⟩ := ob h
            refine mkA (na := 1) (pc := 519) (As := [.ref (ad 0)]) (rest := []) (r9 := (wLs K q3 o13x.2.2.2)) hx hb hml hown hts hG2 hP hD hS hZ (c_L_asks l K hl0 ad F v31.2 h_v33) (wO_adr K ad _ _) g_Law_237 hd_Law_asks rfl ⟨by omega, by omega⟩ ⟨by omega, by omega⟩ hl rfl (Nat.le_of_ble_eq_true rfl) dL_law_519 (fun H locs hP hD hS => ?_)
            refine lv_lload (pc := 522) hx hb dL_law_522 (lv_at hl 4 rfl) ?_
            refine W.lcmp (pc := 524) hx hb dL_law_524 ?_
            refine lv_if_ne (tgt := 538) (pc := 525) hx hb dL_law_525 (by decide) (fun c34 => ?_) (fun c34 => ?_)
            · have h := it_f c34 h
              cases h
            · have h := it_t c34 h
              refine lv_aload_n (pc := 528) hx hb dL_law_528 rfl (lv_at hl 1 rfl) ?_
              obtain ⟨v35, h_v35, h⟩ := ob h
              refine lwA (na := 1) (pc := 529) (As := [.ref (ad 0)]) (rest := []) (r9 := (wLs K q3 o13x.2.2.2)) hx hb hml hown hts hG2 hP hD hS hZ (c_h_undo l K hl0 ad F v33.2 h_v35) (wO_adr K ad _ _) (gSH qm_Law_264 qt_Law_undo qn_Law qc_Law_undo) (by decide +kernel) rfl ⟨by omega, by omega⟩ ⟨by omega, by omega⟩ hl rfl (Nat.le_of_ble_eq_true rfl) dL_law_529 (fun H locs hP hD hS => ?_)
              refine lv_sipush (v := (-1001 : Int32)) (pc := 532) hx hb dL_law_532 (by decide) ?_
              refine lv_icmp_eq (tgt := 540) (pc := 535) hx hb dL_law_535 (by decide) (fun c36 => ?_) (fun c36 => ?_)
              · have h := it_t c36 h
                refine lv_iconst (v := (0 : Int32)) (pc := 540) hx hb dL_law_540 (by decide) ?_
                refine lv_istore (pc := 541) (lv' := [(8, .int (0 : Int32)), (0, .ref b), (2, .ref (ad 0)), (3, .ref q3), (4, .int o13x.1), (5, .long v14.1), (7, .int (imin (12 : Int32) o13x.1))]) hx hb dL_law_541 hl (by decide) rfl (fun ls hl => ?_)
                refine W.widen (k := c0 + 182692) (n := 6 * c0 + 1096152) (by omega) (by omega) ?_
                obtain ⟨o41, h_o41, h⟩ := ob h
                refine l_law_o_L543 C0 hl0 hRf F ad q3 o13x.2.2.2 v14.1 (c0 + 183412) ⟨by omega, by rw [Nat.mul_add]; omega⟩ 60 (0 : Int32) v35.2 _ h_o41 H locs _ _ ls (by omega) (Nat.le_of_eq (Nat.mul_add 6 c0 182692).symm) hP hD hS (lv_sub hl [1, 2, 5, 0] rfl) (fun o41x H locs ls eo hP hD hS hl => ?_)
                subst o41
                refine W.widen (k := c0 + 183412) (n := 6 * c0 + 1100472) (Nat.le_refl _) (Nat.le_of_eq (Nat.mul_add 6 c0 183412)) ?_
                refine lv_aload_n (pc := 573) hx hb dL_law_573 rfl (lv_at hl 1 rfl) ?_
                obtain ⟨v42, h_v42, h⟩ := ob h
                refine lwA (na := 1) (pc := 574) (As := [.ref (ad 0)]) (rest := []) (r9 := (wLs K q3 o13x.2.2.2)) hx hb hml hown hts hG2 hP hD hS hZ (c_h_restore l K hl0 ad F o41x.2 h_v42) (wO_adr K ad _ _) (gSH qm_Law_267 qt_Law_restore qn_Law qc_Law_restore) (by decide +kernel) rfl ⟨by omega, by omega⟩ ⟨by omega, by omega⟩ hl rfl (Nat.le_of_ble_eq_true rfl) dL_law_574 (fun H locs hP hD hS => ?_)
                refine lv_aload_n (pc := 577) hx hb dL_law_577 rfl (lv_at hl 1 rfl) ?_
                refine rdA (pc := 578) (As := []) (rest := [.int v42.1]) (r9 := (wLs K q3 o13x.2.2.2)) hx hb hml hown hts hG hP (c_i_pointCount l K ad v42.2) (wO_0 K ad _) (ci := 6) rfl g_Law_146 hd_Top_pointCount rfl ⟨by omega, by omega⟩ ⟨by omega, by omega⟩ hl rfl (Nat.le_of_ble_eq_true rfl) dL_law_578 ?_
                refine lv_icmp_ne (tgt := 598) (pc := 581) hx hb dL_law_581 (by decide) (fun c43 => ?_) (fun c43 => ?_)
                · have h := it_f c43 h
                  cases h
                · have h := it_t c43 h
                  refine lv_aload_n (pc := 584) hx hb dL_law_584 rfl (lv_at hl 1 rfl) ?_
                  obtain ⟨v44, h_v44, h⟩ := ob h
                  refine mkA (na := 1) (pc := 585) (As := [.ref (ad 0)]) (rest := []) (r9 := (wLs K q3 o13x.2.2.2)) hx hb hml hown hts hG2 hP hD hS hZ (c_L_asks l K hl0 ad F v42.2 h_v44) (wO_adr K ad _ _) g_Law_237 hd_Law_asks rfl ⟨by omega, by omega⟩ ⟨by omega, by omega⟩ hl rfl (Nat.le_of_ble_eq_true rfl) dL_law_585 (fun H locs hP hD hS => ?_)
                  refine lv_lload (pc := 588) hx hb dL_law_588 (lv_at hl 2 rfl) ?_
                  refine W.lcmp (pc := 590) hx hb dL_law_590 ?_
                  refine lv_if_ne (tgt := 598) (pc := 591) hx hb dL_law_591 (by decide) (fun c45 => ?_) (fun c45 => ?_)
                  · have h := it_f c45 h
                    cases h
                  · have h := it_t c45 h
                    refine lv_iconst (v := (1 : Int32)) (pc := 594) hx hb dL_law_594 (by decide) ?_
                    refine lv_goto (tgt := 599) (pc := 595) hx hb dL_law_595 (by decide) ?_
                    obtain rfl := Option.some.inj h
                    refine W.widen (k := c0 + 199314) (n := 6 * c0 + 1195884) (by omega) (by omega) ?_
                    exact Kx H locs ls hS
              · have h := it_f c36 h
                cases h
      · have h := it_f c21 h
        cases h
