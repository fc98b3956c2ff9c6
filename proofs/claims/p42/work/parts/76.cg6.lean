section PB
variable {ich minp : Nat → Int32} {len F : Nat} {mthr mols : Int32} {mnow mold : Nat → Int32}
theorem run_ext {s s' : Nat → Int32} {p r : Nat} (hs : ∀ i, i < len → s i = s' i) (h : Run s len p r) : Run s' len p r ∧ nv s p r = nv s' p r := by
  obtain ⟨h1, h2, h3, h4⟩ := h
  refine ⟨⟨h1, h2, fun i hi => by rw [← hs _ (by omega)]; exact h3 i hi, ?_⟩, ?_⟩
  · rcases h4 with h4 | h4 | h4
    · exact Or.inl h4
    · exact Or.inr (Or.inl h4)
    · by_cases z : p + r = len
      · exact Or.inr (Or.inl z)
      · exact Or.inr (Or.inr (by rw [← hs _ (by omega)]; exact h4))
  · have : ∀ d, d ≤ r → nv s p d = nv s' p d := by
      intro d
      induction d with
      | zero => intro _; rfl
      | succ d ih =>
        intro hd
        show 10 * nv s p d + dv (s (p + d)) = 10 * nv s' p d + dv (s' (p + d))
        rw [ih (by omega), hs _ (by omega)]
    exact this r (Nat.le_refl _)
/-- both sides look at the rest of the text -/
theorem p_both (hl : len ≤ 60) (hF : 300 ≤ F) : ∀ d p k ifs isc isg f1 f2, p ≤ len → len - p < d → 4 * k ≤ p → len - p + 1 < f1 → d + 1 < f2 →
    (∃ e y, e ≤ len ∧ (s_Input_parse_L16 minp (i32 len) f1 (i32 p) ifs isc isg (i32 k) false 0 0).bind (c_fin (i32 len)) = some (i32 e, y) ∧
      s_Mod_readInput_L12 F minp (i32 len) f2 (1 : Int32) mthr mnow mold mols (i32 p) = some ((0 : Int32), mthr, mnow, mold, mols, i32 e)) ∨
    (∃ K ifs' isc' isg' z, (s_Input_parse_L16 minp (i32 len) f1 (i32 p) ifs isc isg (i32 k) false 0 0).bind (c_fin (i32 len)) = some ((-1 : Int32), ifs', isc', isg', i32 (k + K), z) ∧
      s_Mod_readInput_L12 F minp (i32 len) f2 (1 : Int32) mthr mnow mold mols (i32 p) = some ((0 : Int32), mthr, mnow, mold, mols, i32 61) ∧
      (∀ j, j < k → ifs' j = ifs j ∧ isc' j = isc j ∧ isg' j = isg j) ∧ Ch minp len ifs' isc' isg' K p k ∧ k + K ≤ 15) := by
  intro d
  induction d with
  | zero => intro p k ifs isc isg f1 f2 h1 h2; omega
  | succ d ih =>
    intro p k ifs isc isg f1 f2 hp hd hk hf1 hf2
    obtain ⟨r, R⟩ := run_ex minp hp
    obtain ⟨r1, r2, r3, r4⟩ := R
    obtain ⟨g1, rfl⟩ : ∃ g, f1 = (g + 1) + r := ⟨f1 - r - 1, by omega⟩
    obtain ⟨f2, rfl⟩ : ∃ g, f2 = g + 2 := ⟨f2 - 2, by omega⟩
    have dg1 := l_digs (ich := minp) (ifs := ifs) (isc := isc) (isg := isg) (ien := i32 k) (iin := false) hl p r r1 r2 r3 (g1 + 1)
    rw [dg1]
    by_cases r0 : r = 0
    · -- no number
      left
      subst r0
      have m0 := l12_no (mthr := mthr) (mnow := mnow) (mold := mold) (mols := mols) (f2 + 1) (e_0 (mthr := mthr) (mnow := mnow) (mold := mold) (mols := mols) hl hF (p := p) ⟨r1, r2, r3, r4⟩ rfl)
      by_cases z : p = len
      · subst z
        refine ⟨p, (ifs, isc, isg, i32 k, false, i32 0, i32 (nv minp p 0)), by omega, ?_, m0⟩
        rw [show p + 0 = p from rfl, l_end hl]
        simp only [Option.bind_some]
        unfold c_fin
        simp only [Sum.elim_inr]
        rw [if_pos (show bI false = 0 from rfl)]
      · have nd : ¬ dg (minp p) := (r4.resolve_left (by omega)).resolve_left (by omega)
        obtain ⟨y, hy⟩ := l_no (ich := minp) (ifs := ifs) (isc := isc) (isg := isg) (ien := i32 k) (iin := false) (idg := 0) (iva := 0) hl g1 (show p < len by omega) (t_non0 nd 0)
        exact ⟨p, y, by omega, hy, m0⟩
    have r0' : 0 < r := by omega
    by_cases z : p + r = len
    · left
      refine ⟨len, (ifs, isc, isg, i32 k, false, i32 r, i32 (nv minp p r)), by omega, ?_, ?_⟩
      · rw [z, l_end hl]
        simp only [Option.bind_some]
        unfold c_fin
        simp only [Sum.elim_inr]
        rw [if_pos (show bI false = 0 from rfl)]
      · have := l12_no (mthr := mthr) (mnow := mnow) (mold := mold) (mols := mols) (f2 + 1) (e_1 (mthr := mthr) (mnow := mnow) (mold := mold) (mols := mols) hl hF (p := p) ⟨r1, r2, r3, r4⟩ r0' (fun w => by omega))
        rw [z] at this
        exact this
    have zl : p + r < len := by omega
    by_cases sg : minp (p + r) = (44 : Int32) ∨ minp (p + r) = (45 : Int32)
    case neg =>
      left
      have m0 := l12_no (mthr := mthr) (mnow := mnow) (mold := mold) (mols := mols) (f2 + 1) (e_1 (mthr := mthr) (mnow := mnow) (mold := mold) (mols := mols) hl hF (p := p) ⟨r1, r2, r3, r4⟩ r0' (fun _ => ⟨fun w => sg (Or.inl w), fun w => sg (Or.inr w)⟩))
      by_cases dd : dg (minp (p + r))
      · have r33 : r = 3 := by
          rcases r4 with w | w | w
          · exact w
          · omega
          · exact (w dd).elim
        obtain ⟨y, hy⟩ := l_no (ich := minp) (ifs := ifs) (isc := isc) (isg := isg) (ien := i32 k) (iin := false) (idg := i32 r) (iva := i32 (nv minp p r)) hl g1 zl (by rw [r33] at dd ⊢; exact t_dig3 dd _)
        exact ⟨p + r, y, by omega, hy, m0⟩
      · obtain ⟨y, hy⟩ := l_no (ich := minp) (ifs := ifs) (isc := isc) (isg := isg) (ien := i32 k) (iin := false) (idg := i32 r) (iva := i32 (nv minp p r)) hl g1 zl ((t_mid dd (by omega) r0' _).1 (fun w => sg (Or.inl w)) (fun w => sg (Or.inr w)))
        exact ⟨p + r, y, by omega, hy, m0⟩
    have nd : ¬ dg (minp (p + r)) := by
      rcases sg with w | w <;> rw [w] <;> exact fun q => q.1 (by decide)
    have tk := (t_mid (ifs := ifs) (isc := isc) (isg := isg) (ien := i32 k) nd (show r < 4 by omega) r0' (i32 (nv minp p r))).2 sg
    rw [l_yes hl g1 zl tk]
    obtain ⟨r', R'⟩ := run_ex minp (show p + r + 1 ≤ len by omega)
    obtain ⟨s1, s2, s3, s4⟩ := R'
    obtain ⟨g2, rfl⟩ : ∃ g, g1 = (g + 1) + r' := ⟨g1 - r' - 1, by omega⟩
    rw [l_digs hl (p + r + 1) r' s1 s2 s3 (g2 + 1)]
    by_cases s0 : r' = 0
    · left
      subst s0
      have m0 := l12_no (mthr := mthr) (mnow := mnow) (mold := mold) (mols := mols) (f2 + 1) (e_2 (mthr := mthr) (mnow := mnow) (mold := mold) (mols := mols) hl hF (p := p) ⟨r1, r2, r3, r4⟩ r0' zl sg ⟨s1, s2, s3, s4⟩ rfl)
      by_cases w : p + r + 1 = len
      · refine ⟨len, (s_Row_set 15 ifs (i32 k) (i32 (nv minp p r)), isc, s_Row_set 15 isg (i32 k) (if minp (p + r) = (45 : Int32) then 1 else 0), i32 k, true, i32 0, i32 (nv minp (p + r + 1) 0)), by omega, ?_, by rw [show p + r + 1 + 0 = len from w] at m0; exact m0⟩
        rw [show p + r + 1 + 0 = len from w, l_end hl]
        simp only [Option.bind_some]
        unfold c_fin
        simp only [Sum.elim_inr]
        rw [if_neg (show ¬ (bI true = 0) by decide), if_pos (show i32 0 = (0 : Int32) from rfl)]
      · have nd2 : ¬ dg (minp (p + r + 1)) := (s4.resolve_left (by omega)).resolve_left (by omega)
        obtain ⟨y, hy⟩ := l_no (ich := minp) (ifs := s_Row_set 15 ifs (i32 k) (i32 (nv minp p r))) (isc := isc) (isg := s_Row_set 15 isg (i32 k) (if minp (p + r) = (45 : Int32) then 1 else 0)) (ien := i32 k) (iin := true) (idg := 0) (iva := 0) hl g2 (show p + r + 1 < len by omega) (t_non0 nd2 0)
        exact ⟨p + r + 1, y, by omega, hy, m0⟩
    have s0' : 0 < r' := by omega
    have k15 : k < 15 := by omega
    have en := e_3 (mthr := mthr) (mnow := mnow) (mold := mold) (mols := mols) hl hF (p := p) ⟨r1, r2, r3, r4⟩ r0' zl sg ⟨s1, s2, s3, s4⟩ s0'
    have q1 : s_Row_set 15 ifs (i32 k) (i32 (nv minp p r)) = fun j => if j = k then i32 (nv minp p r) else ifs j := rset ifs _ k15 (by omega)
    have q2 : s_Row_set 15 isg (i32 k) (if minp (p + r) = (45 : Int32) then 1 else 0) = fun j => if j = k then (if minp (p + r) = (45 : Int32) then 1 else 0) else isg j := rset isg _ k15 (by omega)
    have q3 : s_Row_set 15 isc (i32 k) (i32 (nv minp (p + r + 1) r')) = fun j => if j = k then i32 (nv minp (p + r + 1) r') else isc j := rset isc _ k15 (by omega)
    by_cases w : p + r + 1 + r' = len
    · right
      refine ⟨1, s_Row_set 15 ifs (i32 k) (i32 (nv minp p r)), s_Row_set 15 isc (i32 k) (i32 (nv minp (p + r + 1) r')), s_Row_set 15 isg (i32 k) (if minp (p + r) = (45 : Int32) then 1 else 0), (false, 0, 0), ?_, ?_, ?_, ?_, by omega⟩
      · rw [w, l_end hl]
        simp only [Option.bind_some]
        unfold c_fin
        simp only [Sum.elim_inr]
        rw [if_neg (show ¬ (bI true = 0) by decide), if_neg (show ¬ (i32 r' = (0 : Int32)) from n_eq (b := 0) (by omega) (by omega) (by omega))]
        unfold s_Input_endEntry
        rw [i32_s]
        rfl
      · rw [w] at en
        exact l12_end hl f2 en
      · intro j hj
        rw [q1, q2, q3]
        exact ⟨if_neg (by omega), if_neg (by omega), if_neg (by omega)⟩
      · rw [q1, q2, q3]
        exact ⟨r, r', ⟨r1, r2, r3, r4⟩, r0', zl, sg, ⟨s1, s2, s3, s4⟩, s0', if_pos rfl, if_pos rfl, if_pos rfl, show p + r + 1 + r' + 1 = len + 1 by omega⟩
    have wl9 : p + r + 1 + r' < len := by omega
    by_cases sc : minp (p + r + 1 + r') = (59 : Int32)
    case neg =>
      left
      have m0 := l12_bad hl f2 wl9 en sc
      by_cases dd : dg (minp (p + r + 1 + r'))
      · have r33 : r' = 3 := by
          rcases s4 with w | w | w
          · exact w
          · omega
          · exact (w dd).elim
        obtain ⟨y, hy⟩ := l_no (ich := minp) (ifs := s_Row_set 15 ifs (i32 k) (i32 (nv minp p r))) (isc := isc) (isg := s_Row_set 15 isg (i32 k) (if minp (p + r) = (45 : Int32) then 1 else 0)) (ien := i32 k) (iin := true) (idg := i32 r') (iva := i32 (nv minp (p + r + 1) r')) hl g2 wl9 (by rw [r33] at dd ⊢; exact t_dig3 dd _)
        exact ⟨p + r + 1 + r', y, by omega, hy, m0⟩
      · obtain ⟨y, hy⟩ := l_no (ich := minp) (ifs := s_Row_set 15 ifs (i32 k) (i32 (nv minp p r))) (isc := isc) (isg := s_Row_set 15 isg (i32 k) (if minp (p + r) = (45 : Int32) then 1 else 0)) (ien := i32 k) (iin := true) (idg := i32 r') (iva := i32 (nv minp (p + r + 1) r')) hl g2 wl9 ((t_end dd (by omega) s0' _).1 sc)
        exact ⟨p + r + 1 + r', y, by omega, hy, m0⟩
    have nd2 : ¬ dg (minp (p + r + 1 + r')) := by rw [sc]; exact fun q => q.2 (by decide)
    have tk2 := (t_end (ifs := s_Row_set 15 ifs (i32 k) (i32 (nv minp p r))) (isc := isc) (isg := s_Row_set 15 isg (i32 k) (if minp (p + r) = (45 : Int32) then 1 else 0)) (ien := i32 k) nd2 (show r' < 4 by omega) s0' (i32 (nv minp (p + r + 1) r'))).2 sc
    rw [l_yes hl g2 wl9 tk2, i32_s, show f2 + 2 = (f2 + 1) + 1 by omega, l12_go hl (f2 + 1) wl9 en sc]
    rcases ih (p + r + 1 + r' + 1) (k + 1) (s_Row_set 15 ifs (i32 k) (i32 (nv minp p r))) (s_Row_set 15 isc (i32 k) (i32 (nv minp (p + r + 1) r'))) (s_Row_set 15 isg (i32 k) (if minp (p + r) = (45 : Int32) then 1 else 0)) g2 (f2 + 1) (by omega) (by omega) (by omega) (by omega) (by omega) with
      ⟨e, y, i1, i2, i3⟩ | ⟨K, ifs', isc', isg', z9, i1, i2, i3, i4, i5⟩
    · exact Or.inl ⟨e, y, i1, i2, i3⟩
    · refine Or.inr ⟨K + 1, ifs', isc', isg', z9, ?_, i2, ?_, ?_, by omega⟩
      · rw [show k + (K + 1) = k + 1 + K by omega]; exact i1
      · intro j hj
        obtain ⟨j1, j2, j3⟩ := i3 j (by omega)
        rw [q1] at j1
        rw [q3] at j2
        rw [q2] at j3
        exact ⟨j1.trans (if_neg (by omega)), j2.trans (if_neg (by omega)), j3.trans (if_neg (by omega))⟩
      · obtain ⟨j1, j2, j3⟩ := i3 k (by omega)
        rw [q1] at j1
        rw [q3] at j2
        rw [q2] at j3
        exact ⟨r, r', ⟨r1, r2, r3, r4⟩, r0', zl, sg, ⟨s1, s2, s3, s4⟩, s0', j1.trans (if_pos rfl), j2.trans (if_pos rfl), j3.trans (if_pos rfl), i4⟩
/-- the class looks at no character behind the text's end -/
theorem l16_ext (hl : len ≤ 60) (hs : ∀ i, i < len → ich i = minp i) : ∀ f p ifs isc isg ien iin idg iva, p ≤ len → s_Input_parse_L16 ich (i32 len) f (i32 p) ifs isc isg ien iin idg iva = s_Input_parse_L16 minp (i32 len) f (i32 p) ifs isc isg ien iin idg iva := by
  intro f
  induction f with
  | zero => intros; rfl
  | succ f ih =>
    intro p ifs isc isg ien iin idg iva hp9
    simp only [s_Input_parse_L16]
    by_cases z : p = len
    · subst z
      rw [if_pos (y_le (by omega) (by omega)), if_pos (y_le (by omega) (by omega))]
    · have hp : p < len := by omega
      rw [rget ich (show p < 60 by omega) (by omega), rget minp (show p < 60 by omega) (by omega), hs p hp, i32_s, ih _ _ _ _ _ _ _ _ (show p + 1 ≤ len by omega)]
end PB
