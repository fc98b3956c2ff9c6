section CG7
variable {F n m : Nat} {X Y : Nat → Int} {L H : Nat → Nat} {pxs pys plo phi : Nat → Int32} {pn pm : Int32} {mnow : Nat → Int32}
variable {lf th ow lk el eh co hu : Nat → Int32} {ne nt nh : Int32} {xs : Nat → Int32} {fl : Nat → Int64} {x5 : Int32}
variable {hp : Nat → PlanS} {hnx hkp mols mthr : Int32} {mold minp ifs isc isg : Nat → Int32} {len : Nat}
theorem c_hasP (hC : CP n m X Y L H pxs pys plo phi pn pm) (hO : Ok n m X Y L H) (a0 : Int32) : s_Plan_hasPoint pn a0 = dB (∃ a, a < n ∧ a0 = i32 a) := by
  have hn := hO.1
  unfold s_Plan_hasPoint
  rw [hC.1]
  rcases rng n (by omega) a0 with ⟨a, ha, rfl⟩ | ⟨h, z | ⟨z1, z2⟩⟩
  · rw [if_neg (i32_neg (by omega)), if_neg (n_le (by omega) ha), dB_t ⟨a, ha, rfl⟩]
  · rw [if_pos z, dB_f h]
  · rw [if_neg z1, if_pos z2, dB_f h]
theorem m_why (hM : MP n m X Y L H mnow) (hO : Ok n m X Y L H) (hF : 300 ≤ F) {P Q : Nat} (hP : P < 101) (hQ : Q < 101) :
    (n = 16 → s_Mod_whyNot F mnow (i32 P) (i32 Q) = some (2 : Int32)) ∧ (n < 16 → Bar n m X Y L H P Q → s_Mod_whyNot F mnow (i32 P) (i32 Q) = some (3 : Int32)) ∧
      (n < 16 → ¬ Bar n m X Y L H P Q → s_Mod_whyNot F mnow (i32 P) (i32 Q) = some (0 : Int32)) := by
  have hx := i32_r hP
  have hy := i32_r hQ
  have pl : s_Mod_isPlace (i32 P) (i32 Q) = true := by
    unfold s_Mod_isPlace
    rw [m_in100, m_in100, if_neg (bI_t ⟨P, hP, rfl⟩), if_neg (bI_t ⟨Q, hQ, rfl⟩)]
  unfold s_Mod_whyNot
  rw [pl, if_neg (by decide), m_n hM]
  simp only [Option.bind_some]
  refine ⟨fun z => ?_, fun z k => ?_, fun z k => ?_⟩
  · rw [if_pos (show i32 n = (16 : Int32) from by rw [z]; rfl)]
  · rw [if_neg (show ¬ (i32 n = (16 : Int32)) from n_eq (b := 16) (by omega) (by omega) (by omega)), m_bar0 hM hO hF hx hy]
    simp only [Option.bind_some]
    rw [if_neg (bI_t k)]
  · rw [if_neg (show ¬ (i32 n = (16 : Int32)) from n_eq (b := 16) (by omega) (by omega) (by omega)), m_bar0 hM hO hF hx hy]
    simp only [Option.bind_some]
    rw [if_pos (bI_f k)]
theorem m_addN {v w thr : Int32} (h : s_Mod_whyNot F mnow v w = some thr) (h0 : ¬ thr ≤ 0) : s_Mod_addPoint F mnow mold mols v w = some ((0 : Int32), thr, mnow, mold, mols) := by
  unfold s_Mod_addPoint
  rw [h]
  simp only [Option.bind_some]
  rw [if_neg h0]
/-- what both sides make of an entry -/
def Eb (F : Nat) (pxs pys plo phi : Nat → Int32) (pn pm : Int32) (ifs isc isg : Nat → Int32) (hp : Nat → PlanS) (hnx hkp : Int32) (a : Int32) (mnow mold : Nat → Int32) (mols : Int32)
    (mod : Option (Int32 × Int32 × (Nat → Int32) × (Nat → Int32) × Int32)) : Prop :=
  (∃ pxs' pys' plo' phi' pn' pm' hp' hnx' hkp' mn' mold' mols' val, s_Top_addEntry F pxs pys plo phi pn pm ifs isc isg hp hnx hkp a = some (true, pxs', pys', plo', phi', pn', pm', hp', hnx', hkp') ∧
    mod = some (val, (0 : Int32), mn', mold', mols') ∧ ¬ val < 0 ∧ PR (pxs', pys', plo', phi', pn', pm') mn' ∧ HR hp' hnx' hkp' mold' mols') ∨
  (∃ thr, ¬ thr = (0 : Int32) ∧ s_Top_addEntry F pxs pys plo phi pn pm ifs isc isg hp hnx hkp a = some (false, pxs, pys, plo, phi, pn, pm, hp, hnx, hkp) ∧ mod = some ((0 : Int32), thr, mnow, mold, mols))
theorem ae_pt (hP : PR (pxs, pys, plo, phi, pn, pm) mnow) (hH : HR hp hnx hkp mold mols) (hF : 1000 ≤ F) {a v w : Int32} (e1 : s_Input_firstOf ifs a = v) (e2 : s_Input_secondOf isc a = w) (e3 : s_Input_isSegment isg a = false) :
    Eb F pxs pys plo phi pn pm ifs isc isg hp hnx hkp a mnow mold mols (s_Mod_addPoint F mnow mold mols v w) := by
  have hP0 := hP
  obtain ⟨n, m, X, Y, L, H, hC, hM, hO⟩ := hP
  have hC : CP n m X Y L H pxs pys plo phi pn pm := hC
  have hn := hO.1
  have sf : bI false = 0 := rfl
  have tt : (0 : Int32) = 0 := rfl
  by_cases hv : ∃ k, k < 101 ∧ v = i32 k
  case neg =>
    right
    refine ⟨1, by decide, ?_, m_addN (thr := 1) ?_ (by decide)⟩
    · unfold s_Top_addEntry
      rw [e3, if_pos sf, e1, c_isco v, if_pos (bI_f hv), if_pos tt]
    · unfold s_Mod_whyNot s_Mod_isPlace
      rw [m_in100, if_pos (bI_f hv), if_pos sf]
  by_cases hw : ∃ k, k < 101 ∧ w = i32 k
  case neg =>
    right
    refine ⟨1, by decide, ?_, m_addN (thr := 1) ?_ (by decide)⟩
    · unfold s_Top_addEntry
      rw [e3, if_pos sf, e1, e2, c_isco v, if_neg (bI_t hv), c_isco w, if_pos (bI_f hw), if_pos tt]
    · unfold s_Mod_whyNot s_Mod_isPlace
      rw [m_in100, m_in100, if_neg (bI_t hv), if_pos (bI_f hw), if_pos sf]
  obtain ⟨P, hP, rfl⟩ := hv
  obtain ⟨Q, hQ, rfl⟩ := hw
  have hx := i32_r hP
  have hy := i32_r hQ
  obtain ⟨y1, y2, y3⟩ := m_why hM hO (F := F) (by omega) hP hQ
  by_cases z : n = 16
  · right
    refine ⟨2, by decide, ?_, m_addN (y1 z) (by decide)⟩
    unfold s_Top_addEntry
    rw [e3, if_pos sf, e1, e2, c_isco (i32 P), if_neg (bI_t ⟨P, hP, rfl⟩), c_isco (i32 Q), if_neg (bI_t ⟨Q, hQ, rfl⟩), if_pos (show (16 : Int32) ≤ s_Plan_points pn from by rw [hC.1]; exact y_le (a := 16) (by omega) (by omega)), if_pos tt]
  by_cases k : Bar n m X Y L H P Q
  · right
    refine ⟨3, by decide, ?_, m_addN (y2 (by omega) k) (by decide)⟩
    unfold s_Top_addEntry
    rw [e3, if_pos sf, e1, e2, c_isco (i32 P), if_neg (bI_t ⟨P, hP, rfl⟩), c_isco (i32 Q), if_neg (bI_t ⟨Q, hQ, rfl⟩), if_neg (show ¬ ((16 : Int32) ≤ s_Plan_points pn) from by rw [hC.1]; exact n_le (a := 16) (by omega) (by omega)), c_admP hC hO (by omega) hx hy]
    simp only [Option.bind_some]
    rw [if_pos (bI_f (fun z => z k)), if_pos trivial]
  · left
    obtain ⟨hp', hnx', hkp', mold', mols', g1, g2, g3⟩ := h_rem hP0 hH F hF
    obtain ⟨c1, c2, v9, mn', s1, s2, s3, c3⟩ := pl_add hC hM hO (show n < 16 by omega) hP hQ k
    refine ⟨_, _, _, _, _, _, hp', hnx', hkp', mn', mold', mols', i32 n, ?_, ?_, i32_neg (by omega), ⟨n + 1, m, _, _, L, H, c1, c3, c2⟩, g3⟩
    · unfold s_Top_addEntry
      rw [e3, if_pos sf, e1, e2, c_isco (i32 P), if_neg (bI_t ⟨P, hP, rfl⟩), c_isco (i32 Q), if_neg (bI_t ⟨Q, hQ, rfl⟩), if_neg (show ¬ ((16 : Int32) ≤ s_Plan_points pn) from by rw [hC.1]; exact n_le (a := 16) (by omega) (by omega)), c_admP hC hO (by omega) hx hy]
      simp only [Option.bind_some]
      rw [if_neg (bI_t (fun z => k z)), if_neg (show ¬ ((1 : Int32) = 0) by decide), g1]
      simp only [Option.bind_some]
      rw [if_pos sf]
    · unfold s_Mod_addPoint
      rw [y3 (by omega) k]; simp only [Option.bind_some]
      rw [if_pos (by decide), g2]; simp only [Option.bind_some]
      rw [m_n hM]; simp only [Option.bind_some]
      rw [s1]; simp only [Option.bind_some]
      rw [s2]; simp only [Option.bind_some]
      rw [s3]; rfl
theorem ae_sg (hP : PR (pxs, pys, plo, phi, pn, pm) mnow) (hH : HR hp hnx hkp mold mols) (hF : 1000 ≤ F) {a v w : Int32} (e1 : s_Input_firstOf ifs a = v) (e2 : s_Input_secondOf isc a = w) (e3 : s_Input_isSegment isg a = true) :
    Eb F pxs pys plo phi pn pm ifs isc isg hp hnx hkp a mnow mold mols (s_Mod_addConstraint F mnow mold mols v w) := by
  have hP0 := hP
  obtain ⟨n, m, X, Y, L, H, hC, hM, hO⟩ := hP
  have hC : CP n m X Y L H pxs pys plo phi pn pm := hC
  have hn := hO.1
  have hm := hO.2.1
  have sf : ¬ bI true = 0 := by decide
  have tt : (0 : Int32) = 0 := rfl
  by_cases h : ∃ a, a < n ∧ v = i32 a
  case neg =>
    right
    refine ⟨1, by decide, ?_, ?_⟩
    · unfold s_Top_addEntry
      rw [e3, if_neg sf, e1, c_hasP hC hO, if_pos (bI_f h), if_pos tt]
    · unfold s_Mod_addConstraint
      rw [m_isP hM hO]; simp only [Option.bind_some]
      rw [if_pos (bI_f h)]; rfl
  obtain ⟨b1, hb1, rfl⟩ := h
  have q1 : s_Plan_hasPoint pn (i32 b1) = true := by rw [c_hasP hC hO, dB_t ⟨b1, hb1, rfl⟩]
  have mp : s_Mod_isPoint mnow (i32 b1) = some true := by rw [m_isP hM hO, dB_t ⟨b1, hb1, rfl⟩]
  by_cases h : ∃ a, a < n ∧ w = i32 a
  case neg =>
    right
    refine ⟨1, by decide, ?_, ?_⟩
    · unfold s_Top_addEntry
      rw [e3, if_neg sf, e1, e2, q1, if_neg sf, c_hasP hC hO, if_pos (bI_f h), if_pos tt]
    · unfold s_Mod_addConstraint
      rw [mp]; simp only [Option.bind_some]
      rw [if_neg sf, m_isP hM hO]; simp only [Option.bind_some]
      rw [if_pos (bI_f h)]; rfl
  obtain ⟨b2, hb2, rfl⟩ := h
  have q2 : s_Plan_hasPoint pn (i32 b2) = true := by rw [c_hasP hC hO, dB_t ⟨b2, hb2, rfl⟩]
  have mp2 : s_Mod_isPoint mnow (i32 b2) = some true := by rw [m_isP hM hO, dB_t ⟨b2, hb2, rfl⟩]
  by_cases hab : b1 = b2
  case pos =>
    subst hab
    right
    refine ⟨2, by decide, ?_, ?_⟩
    · unfold s_Top_addEntry
      rw [e3, if_neg sf, e1, e2, q1, if_neg sf, if_neg sf, if_pos rfl, if_pos tt]
    · unfold s_Mod_addConstraint
      rw [mp]; simp only [Option.bind_some]
      rw [if_neg sf]
      rw [if_neg sf, if_pos trivial]; rfl
  have nab : ¬ (i32 b1 = i32 b2) := n_eq (by omega) (by omega) hab
  by_cases hm9 : m = 10
  case pos =>
    right
    refine ⟨3, by decide, ?_, ?_⟩
    · unfold s_Top_addEntry
      rw [e3, if_neg sf, e1, e2, q1, q2, if_neg sf, if_neg sf, if_neg nab, if_pos (show (10 : Int32) ≤ s_Plan_constraints pm from by rw [hC.2.1]; exact y_le (a := 10) (by omega) (by omega)), if_pos tt]
    · unfold s_Mod_addConstraint
      rw [mp]; simp only [Option.bind_some]
      rw [if_neg sf, mp2]; simp only [Option.bind_some]
      rw [if_neg sf, if_neg nab, m_m hM]; simp only [Option.bind_some]
      rw [if_pos (show i32 m = (10 : Int32) from by rw [hm9]; rfl)]; rfl
  have n10 : ¬ (i32 m = (10 : Int32)) := n_eq (b := 10) (by omega) (by omega) hm9
  have c10 : ¬ ((10 : Int32) ≤ s_Plan_constraints pm) := by rw [hC.2.1]; exact n_le (a := 10) (by omega) (by omega)
  have cs := c_admS hC hO (F := F) (by omega) hb1 hb2
  have lp9 := ffB (fun k i => s_Mod_addConstraint_L79 mnow mold mols (i32 b1) (i32 b2) k (i32 i)) m (fun c => Cr (pt X Y) b1 b2 (L c) (H c)) (Sum.inl ((s_Mod_raises (4 : Int32)).1, (s_Mod_raises (4 : Int32)).2, mnow, mold, mols)) (Sum.inr (i32 m))
    (fun k => by simp only [s_Mod_addConstraint_L79, m_m hM, Option.bind_some]; rw [if_pos (y_le (by omega) (by omega))])
    (fun k i hi h => by
      have q := hO.2.2.2.2.1 i hi
      simp only [s_Mod_addConstraint_L79, m_m hM, m_end0 hM hO hi, m_end1 hM hO hi, m_cross hM hO hb1 hb2 (show L i < n by omega) (show H i < n by omega), Option.bind_some]
      rw [if_neg (n_le (by omega) hi), if_neg (bI_t h)])
    (fun k i hi h => by
      have q := hO.2.2.2.2.1 i hi
      simp only [s_Mod_addConstraint_L79, m_m hM, m_end0 hM hO hi, m_end1 hM hO hi, m_cross hM hO hb1 hb2 (show L i < n by omega) (show H i < n by omega), Option.bind_some]
      rw [if_neg (n_le (by omega) hi), if_pos (bI_f h), i32_s])
    0 F (by omega) (by omega)
  by_cases hs : Seg n m X Y L H b1 b2
  case neg =>
    rw [dB_f hs] at cs
    right
    refine ⟨4, by decide, ?_, ?_⟩
    · unfold s_Top_addEntry
      rw [e3, if_neg sf, e1, e2, q1, q2, if_neg sf, if_neg sf, if_neg nab, if_neg c10, cs]
      simp only [Option.bind_some]
      rw [if_pos (show bI false = 0 from rfl), if_pos trivial]
    · unfold s_Mod_addConstraint
      rw [mp]; simp only [Option.bind_some]
      rw [if_neg sf, mp2]; simp only [Option.bind_some]
      rw [if_neg sf, if_neg nab, m_m hM]; simp only [Option.bind_some]
      rw [if_neg n10, m_tied hM hO F (by omega) hb1 hb2, m_hp hM hO F (by omega) hb1 hb2]; simp only [Option.bind_some]
      by_cases k1 : ∃ c, c < m ∧ L c = min b1 b2 ∧ H c = max b1 b2
      · rw [if_neg (bI_t k1)]; rfl
      rw [if_pos (bI_f k1)]
      by_cases k2 : ∃ p, p < n ∧ cov (pt X Y b1) (pt X Y b2) (pt X Y p)
      · rw [if_neg (bI_t k2)]; rfl
      rw [if_pos (bI_f k2)]
      rcases lp9 with ⟨_, e⟩ | ⟨h1, e⟩
      · have e : s_Mod_addConstraint_L79 mnow mold mols (i32 b1) (i32 b2) F (0 : Int32) = _ := e
        rw [e]; rfl
      · exact (hs ⟨k1, k2, fun ⟨c, hc, z⟩ => h1 c (by omega) hc ((cr_pc hO hb1 hb2 hc k1 k2).2 z)⟩).elim
  rw [dB_t hs] at cs
  left
  obtain ⟨hp', hnx', hkp', mold', mols', g1, g2, g3⟩ := h_rem hP0 hH F hF
  obtain ⟨L', H', c1, c2, w1, w2, mn', s1, s2, s3, s4, c3⟩ := pl_con hC hM hO (show m < 10 by omega) hb1 hb2 hab hs
  refine ⟨_, _, _, _, _, _, hp', hnx', hkp', mn', mold', mols', i32 m, ?_, ?_, i32_neg (by omega), ⟨n, m + 1, X, Y, L', H', c1, c3, c2⟩, g3⟩
  · unfold s_Top_addEntry
    rw [e3, if_neg sf, e1, e2, q1, q2, if_neg sf, if_neg sf, if_neg nab, if_neg c10, cs]
    simp only [Option.bind_some]
    rw [if_neg sf, if_neg (show ¬ ((1 : Int32) = 0) by decide), g1]
    simp only [Option.bind_some]
    rw [if_neg sf]
  · unfold s_Mod_addConstraint
    rw [mp]; simp only [Option.bind_some]
    rw [if_neg sf, mp2]; simp only [Option.bind_some]
    rw [if_neg sf, if_neg nab, m_m hM]; simp only [Option.bind_some]
    rw [if_neg n10, m_tied hM hO F (by omega) hb1 hb2, m_hp hM hO F (by omega) hb1 hb2]; simp only [Option.bind_some]
    rw [if_pos (bI_f hs.1), if_pos (bI_f hs.2.1)]
    rcases lp9 with ⟨⟨c, _, hc, z⟩, _⟩ | ⟨h1, e⟩
    · exact (hs.2.2 ⟨c, hc, (cr_pc hO hb1 hb2 hc hs.1 hs.2.1).1 z⟩).elim
    · have e : s_Mod_addConstraint_L79 mnow mold mols (i32 b1) (i32 b2) F (0 : Int32) = _ := e
      rw [e]; simp only [Option.bind_some, Sum.elim_inr]
      rw [g2]; simp only [Option.bind_some]
      rw [s1]; simp only [Option.bind_some]
      rw [s2]; simp only [Option.bind_some]
      rw [s3]; simp only [Option.bind_some]
      rw [s4]; rfl
/-- the reference takes an entry in -/
theorem e_in (hl : len ≤ 60) (hF : 300 ≤ F) {p r r' : Nat} (h : Run minp len p r) (h0 : 0 < r) (z : p + r < len) (hs : minp (p + r) = (44 : Int32) ∨ minp (p + r) = (45 : Int32)) (h' : Run minp len (p + r + 1) r') (h0' : 0 < r')
    {val thr : Int32} {mn' mold' : Nat → Int32} {mols' : Int32}
    (k : (if minp (p + r) = (45 : Int32) then s_Mod_addConstraint F mnow mold mols (i32 (nv minp p r)) (i32 (nv minp (p + r + 1) r')) else s_Mod_addPoint F mnow mold mols (i32 (nv minp p r)) (i32 (nv minp (p + r + 1) r'))) = some (val, thr, mn', mold', mols')) :
    s_Mod_entry F mthr mnow mold mols minp (i32 len) (i32 p) true = some (if thr = 0 then (if val < 0 then (0 : Int32) else 1) else 0, thr, mn', mold', mols', i32 (p + r + 1 + r')) := by
  have h1 := h.1
  have ra : rv minp p r = i32 (nv minp p r) := if_neg (by omega)
  have rb : rv minp (p + r + 1) r' = i32 (nv minp (p + r + 1) r') := if_neg (by omega)
  unfold s_Mod_entry
  rw [m_num hl F hF h]
  simp only [Option.bind_some]
  rw [if_pos ((rv_neg h.1 h.2.2.1).2 h0), m_here hl (p + r) (by omega)]
  simp only [Option.bind_some]
  rw [if_pos z, i32_s, m_num hl F hF h']
  simp only [Option.bind_some]
  rw [if_pos ((rv_neg h'.1 h'.2.2.1).2 h0'), if_neg (show ¬ (bI true = 0) by decide), ra, rb]
  rcases hs with e | e
  · rw [e, if_neg (show ¬ ((44 : Int32) = (45 : Int32)) by decide)] at k
    rw [e, if_pos rfl, if_pos rfl, k]
    simp only [Option.bind_some]
    by_cases t : thr = 0
    · rw [if_pos t, if_pos t]
      by_cases u : val < 0
      · rw [if_pos u, if_pos u]
      · rw [if_neg u, if_neg u]
    · rw [if_neg t, if_neg t]
  · rw [e, if_pos (show (45 : Int32) = (45 : Int32) from rfl)] at k
    rw [e, if_neg (show ¬ ((45 : Int32) = (44 : Int32)) by decide), if_pos rfl, if_neg (show ¬ ((45 : Int32) = (44 : Int32)) by decide), k]
    simp only [Option.bind_some]
    by_cases t : thr = 0
    · rw [if_pos t, if_pos t]
      by_cases u : val < 0
      · rw [if_pos u, if_pos u]
      · rw [if_neg u, if_neg u]
    · rw [if_neg t, if_neg t]
/-- the entries are added, on both sides -/
theorem rd_both (hl : len ≤ 60) (hF : 1000 ≤ F) : ∀ d p k K f1 f2 (pxs pys plo phi : Nat → Int32) (pn pm : Int32) (hp : Nat → PlanS) (hnx hkp mthr : Int32) (mnow mold : Nat → Int32) (mols : Int32), k + d = K → K ≤ 15 → d < f1 → d < f2 →
    PR (pxs, pys, plo, phi, pn, pm) mnow → HR hp hnx hkp mold mols → Ch minp len ifs isc isg d p k →
    ∃ c pxs' pys' plo' phi' pn' pm' hp' hnx' hkp' mthr' mn' mold' mols' mat', s_Top_readInput_L10 F ifs isc isg (i32 K) (-1 : Int32) f1 (i32 k) pxs pys plo phi pn pm hp hnx hkp = some (c, pxs', pys', plo', phi', pn', pm', hp', hnx', hkp') ∧
      s_Mod_readInput_L118 F minp (i32 len) f2 (i32 k) mthr mnow mold mols (i32 p) = some (c, mthr', mn', mold', mols', mat') ∧ PR (pxs', pys', plo', phi', pn', pm') mn' ∧ HR hp' hnx' hkp' mold' mols' := by
  intro d
  induction d with
  | zero =>
    intro p k K f1 f2 pxs pys plo phi pn pm hp hnx hkp mthr mnow mold mols hk hK h1 h2 hP hH hc
    obtain ⟨f1, rfl⟩ : ∃ g, f1 = g + 1 := ⟨f1 - 1, by omega⟩
    obtain ⟨f2, rfl⟩ : ∃ g, f2 = g + 1 := ⟨f2 - 1, by omega⟩
    have hc : p = len + 1 := hc
    refine ⟨i32 k, pxs, pys, plo, phi, pn, pm, hp, hnx, hkp, mthr, mnow, mold, mols, i32 p, ?_, ?_, hP, hH⟩
    · simp only [s_Top_readInput_L10]
      rw [if_pos trivial, if_pos (show s_Input_entries (i32 K) ≤ i32 k from y_le (by omega) (by omega))]
    · simp only [s_Mod_readInput_L118]
      rw [if_pos (y_le (by omega) (by omega))]
  | succ d ih =>
    intro p k K f1 f2 pxs pys plo phi pn pm hp hnx hkp mthr mnow mold mols hk hK h1 h2 hP hH hc
    obtain ⟨f1, rfl⟩ : ∃ g, f1 = g + 1 := ⟨f1 - 1, by omega⟩
    obtain ⟨f2, rfl⟩ : ∃ g, f2 = g + 1 := ⟨f2 - 1, by omega⟩
    obtain ⟨r, r', R, r0, zl, sg, R', r0', e1, e2, e3, hc⟩ := hc
    have k15 : k < 15 := by omega
    have e1 : s_Input_firstOf ifs (i32 k) = i32 (nv minp p r) := by unfold s_Input_firstOf; rw [rget ifs k15 (by omega), e1]
    have e2 : s_Input_secondOf isc (i32 k) = i32 (nv minp (p + r + 1) r') := by unfold s_Input_secondOf; rw [rget isc k15 (by omega), e2]
    have eb : Eb F pxs pys plo phi pn pm ifs isc isg hp hnx hkp (i32 k) mnow mold mols (if minp (p + r) = (45 : Int32) then s_Mod_addConstraint F mnow mold mols (i32 (nv minp p r)) (i32 (nv minp (p + r + 1) r')) else s_Mod_addPoint F mnow mold mols (i32 (nv minp p r)) (i32 (nv minp (p + r + 1) r'))) := by
      by_cases z : minp (p + r) = (45 : Int32)
      · rw [if_pos z] at e3
        rw [if_pos z]
        exact ae_sg hP hH hF e1 e2 (by unfold s_Input_isSegment; rw [rget isg k15 (by omega), e3, if_neg (by decide)])
      · rw [if_neg z] at e3
        rw [if_neg z]
        exact ae_pt hP hH hF e1 e2 (by unfold s_Input_isSegment; rw [rget isg k15 (by omega), e3, if_pos rfl])
    have nK : ¬ (s_Input_entries (i32 K) ≤ i32 k) := n_le (by omega) (by omega)
    rcases eb with ⟨pxs', pys', plo', phi', pn', pm', hp', hnx', hkp', mn', mold', mols', val, a1, a2, a3, a4, a5⟩ | ⟨thr, a0, a1, a2⟩
    · have en := e_in (mthr := mthr) hl (show 300 ≤ F by omega) R r0 zl sg R' r0' a2
      rw [if_pos rfl, if_neg a3] at en
      obtain ⟨c, x1, x2, x3, x4, x5, x6, y1, y2, y3, z1, z2, z3, z4, z5, i1, i2, i3, i4⟩ := ih (p + r + 1 + r' + 1) (k + 1) K f1 f2 pxs' pys' plo' phi' pn' pm' hp' hnx' hkp' (0 : Int32) mn' mold' mols' (by omega) hK (by omega) (by omega) a4 a5 hc
      refine ⟨c, x1, x2, x3, x4, x5, x6, y1, y2, y3, z1, z2, z3, z4, z5, ?_, ?_, i3, i4⟩
      · simp only [s_Top_readInput_L10]
        rw [if_pos trivial, if_neg nK, a1]
        simp only [Option.bind_some]
        rw [if_neg (show ¬ (bI true = 0) by decide), i32_s]
        exact i1
      · simp only [s_Mod_readInput_L118]
        rw [if_neg (n_le (by omega) (by omega)), en]
        simp only [Option.bind_some]
        rw [if_neg (by decide), i32_s, i32_s]
        exact i2
    · have en := e_in (mthr := mthr) hl (show 300 ≤ F by omega) R r0 zl sg R' r0' a2
      rw [if_neg a0] at en
      refine ⟨i32 k, pxs, pys, plo, phi, pn, pm, hp, hnx, hkp, thr, mnow, mold, mols, i32 (p + r + 1 + r'), ?_, ?_, hP, hH⟩
      · simp only [s_Top_readInput_L10]
        rw [if_pos trivial, if_neg nK, a1]
        simp only [Option.bind_some]
        rw [if_pos (show bI false = 0 from rfl)]
      · simp only [s_Mod_readInput_L118]
        rw [if_neg (n_le (by omega) (by omega)), en]
        simp only [Option.bind_some]
        rw [if_pos (by decide)]
/-- the text of both sides -/
def IR (ich : Nat → Int32) (iln : Int32) (minp : Nat → Int32) (mlen : Int32) : Prop :=
  ∃ len, len ≤ 60 ∧ iln = i32 len ∧ mlen = i32 len ∧ ∀ i, i < len → ich i = minp i
theorem ch_9 {ich : Nat → Int32} {iln mlen : Int32} (h : IR ich iln minp mlen) (ch : Int32) : ∃ (thr v : Int32) (ich' : Nat → Int32) (iln' : Int32) (minp' : Nat → Int32) (mlen' : Int32) (fl' : Nat → Int64),
    s_Law_feed ich iln ch fl = some (thr, ich', iln', fl') ∧ s_Mod_feed minp mlen ch = some (v, thr, minp', mlen') ∧ (thr = 0 → fl' 0 = v.toInt64) ∧ IR ich' iln' minp' mlen' := by
  obtain ⟨len, hl, rfl, rfl, hs⟩ := h
  by_cases z : len = 60
  · subst z
    refine ⟨1, 0, ich, i32 60, minp, i32 60, fl, ?_, ?_, fun z => absurd z (by decide), 60, by omega, rfl, rfl, hs⟩
    · unfold s_Law_feed s_Top_feed
      rw [if_neg (show ¬ (s_Input_length (i32 60) < (60 : Int32)) from n_lt (b := 60) (by omega) (by omega))]
      simp only [Sum.elim_inl]
      rw [if_pos trivial]
    · unfold s_Mod_feed
      rw [if_pos (show i32 60 = (60 : Int32) from rfl)]; rfl
  · refine ⟨0, i32 (len + 1), (fun j => if j = len then ch else ich j), i32 (len + 1), (fun j => if j = len then ch else minp j), i32 (len + 1), vp_updL fl (0 : Int32).toNatClampNeg (i32 (len + 1)).toInt64, ?_, ?_, fun _ => upd0 _ _, len + 1, by omega, rfl, rfl, fun i hi => ?_⟩
    · unfold s_Law_feed s_Top_feed
      rw [if_pos (show s_Input_length (i32 len) < (60 : Int32) from y_lt (b := 60) (by omega) (by omega))]
      simp only [Sum.elim_inr]
      unfold s_Input_append s_Input_length
      rw [rset ich _ (show len < 60 by omega) (by omega), i32_s]
    · unfold s_Mod_feed
      rw [if_neg (show ¬ (i32 len = (60 : Int32)) from n_eq (b := 60) (by omega) (by omega) z), aset_i minp _ (show len < 60 by omega) (by omega), i32_s]
      simp only [Option.bind_some]
    · show (if i = len then ch else ich i) = if i = len then ch else minp i
      by_cases y : i = len
      · rw [if_pos y, if_pos y]
      · rw [if_neg y, if_neg y]; exact hs i (by omega)
theorem k_9 {ich : Nat → Int32} {iln mlen : Int32} (h : IR ich iln minp mlen) : ∃ (ich' : Nat → Int32) (iln' thr : Int32) (minp' : Nat → Int32) (mlen' : Int32) (fl' : Nat → Int64), s_case_9 xs ich iln minp mlen fl x5 = some (ich', iln', thr, minp', mlen', fl') ∧ IR ich' iln' minp' mlen' := by
  obtain ⟨thr, v, ich', iln', minp', mlen', fl', h1, h2, h3, h4⟩ := ch_9 (fl := fl) h ((((xs (x5 + (1 : Int32)).toNatClampNeg)).toUInt32 % 65536).toInt32)
  refine ⟨ich', iln', thr, minp', mlen', fl', ?_, h4⟩
  unfold s_case_9
  rw [h1, h2]
  simp only [Option.bind_some]
  rw [if_pos (show s_Mod_thrown thr = thr from rfl)]
  by_cases c : thr = 0
  · rw [if_pos c, if_pos]
    show lg_cmp (fl' 0) v.toInt64 = 0
    rw [h3 c]; exact lgc _
  · rw [if_neg c]
theorem i32_00 : (i32 0 : Int32) = 0 := rfl
theorem hp9_ {ich : Nat → Int32} (hl : len ≤ 60) (hs : ∀ i, i < len → ich i = minp i) : s_Input_parse F ich ifs isc isg (i32 len) = (s_Input_parse_L16 minp (i32 len) F (i32 0) ifs isc isg (i32 0) false 0 0).bind (c_fin (i32 len)) := by
  rw [← l16_ext hl hs F 0 ifs isc isg (i32 0) false 0 0 (by omega), i32_00]
  unfold s_Input_parse c_fin
  rfl
theorem top1_ {ich : Nat → Int32} {iln e : Int32} {y : (Nat → Int32) × (Nat → Int32) × (Nat → Int32) × Int32 × Bool × Int32 × Int32} {lf' th' ow' lk' el' eh' co' hu' : Nat → Int32} {ne' nt' nh' : Int32} (hF : 0 < F) (nm : ¬ (e = (-1 : Int32)))
    (i1 : s_Input_parse F ich ifs isc isg iln = some (e, y)) (d : s_Mesh_draw F pxs pys plo phi pn pm lf th ow lk el eh co hu = some (lf', th', ow', lk', el', eh', co', hu', ne', nt', nh')) :
    s_Top_readInput F pxs pys plo phi pn pm lf th ow lk el eh co hu ich ifs isc isg iln hp hnx hkp = some (((-100 : Int32) - e), pxs, pys, plo, phi, pn, pm, lf', th', ow', lk', el', eh', co', hu', ne', nt', nh', y.1, y.2.1, y.2.2.1, (0 : Int32), (0 : Int32), y.2.2.2.2.1, y.2.2.2.2.2.1, y.2.2.2.2.2.2, hp, hnx, hkp) := by
  have l10 : ∀ f, 0 < f → s_Top_readInput_L10 F y.1 y.2.1 y.2.2.1 y.2.2.2.1 e f (0 : Int32) pxs pys plo phi pn pm hp hnx hkp = some ((0 : Int32), pxs, pys, plo, phi, pn, pm, hp, hnx, hkp) := by
    intro f hf
    obtain ⟨f, rfl⟩ : ∃ g, f = g + 1 := ⟨f - 1, by omega⟩
    simp only [s_Top_readInput_L10]
    rw [if_neg nm]
  unfold s_Top_readInput
  rw [i1]; simp only [Option.bind_some]
  rw [l10 F hF]; simp only [Option.bind_some]
  rw [d]; simp only [Option.bind_some]
  rw [if_neg nm]; simp only [s_Input_clear]
theorem mod1_ {e mlen : Int32} (he : ¬ ((60 : Int32) < e)) (i2 : s_Mod_readInput_L12 F minp mlen F (1 : Int32) (0 : Int32) mnow mold mols (0 : Int32) = some ((0 : Int32), (0 : Int32), mnow, mold, mols, e)) :
    s_Mod_readInput F mnow mold mols minp mlen = some (((-100 : Int32) - e), (0 : Int32), mnow, mold, mols, (0 : Int32), e) := by
  unfold s_Mod_readInput
  rw [i2]; simp only [Option.bind_some]
  rw [if_neg he]
theorem top2_ {ich : Nat → Int32} {iln K c : Int32} {z : Bool × Int32 × Int32} {ifs' isc' isg' pxs' pys' plo' phi' : Nat → Int32} {pn' pm' hnx' hkp' : Int32} {hp' : Nat → PlanS} {lf' th' ow' lk' el' eh' co' hu' : Nat → Int32} {ne' nt' nh' : Int32}
    (i1 : s_Input_parse F ich ifs isc isg iln = some ((-1 : Int32), ifs', isc', isg', K, z)) (j1 : s_Top_readInput_L10 F ifs' isc' isg' K (-1 : Int32) F (0 : Int32) pxs pys plo phi pn pm hp hnx hkp = some (c, pxs', pys', plo', phi', pn', pm', hp', hnx', hkp'))
    (d : s_Mesh_draw F pxs' pys' plo' phi' pn' pm' lf th ow lk el eh co hu = some (lf', th', ow', lk', el', eh', co', hu', ne', nt', nh')) :
    s_Top_readInput F pxs pys plo phi pn pm lf th ow lk el eh co hu ich ifs isc isg iln hp hnx hkp = some (c, pxs', pys', plo', phi', pn', pm', lf', th', ow', lk', el', eh', co', hu', ne', nt', nh', ifs', isc', isg', (0 : Int32), (0 : Int32), z.1, z.2.1, z.2.2, hp', hnx', hkp') := by
  unfold s_Top_readInput
  rw [i1]; simp only [Option.bind_some]
  rw [j1]; simp only [Option.bind_some]
  rw [d]; simp only [Option.bind_some]
  rw [if_pos trivial]; simp only [s_Input_clear]
theorem mod2_ {c mlen mthr' mols' mat' : Int32} {mn' mold' : Nat → Int32} (i2 : s_Mod_readInput_L12 F minp mlen F (1 : Int32) (0 : Int32) mnow mold mols (0 : Int32) = some ((0 : Int32), (0 : Int32), mnow, mold, mols, (61 : Int32)))
    (j2 : s_Mod_readInput_L118 F minp mlen F (0 : Int32) (0 : Int32) mnow mold mols (0 : Int32) = some (c, mthr', mn', mold', mols', mat')) :
    s_Mod_readInput F mnow mold mols minp mlen = some (c, (0 : Int32), mn', mold', mols', (0 : Int32), mat') := by
  unfold s_Mod_readInput
  rw [i2]; simp only [Option.bind_some]
  rw [if_pos (show (60 : Int32) < 61 by decide), j2]; simp only [Option.bind_some]
theorem case10_ {ich : Nat → Int32} {iln mlen c : Int32} {pxs' pys' plo' phi' : Nat → Int32} {pn' pm' : Int32} {lf' th' ow' lk' el' eh' co' hu' : Nat → Int32} {ne' nt' nh' : Int32} {ifs' isc' isg' : Nat → Int32} {iln' ien' : Int32} {iin' : Bool} {idg' iva' : Int32} {hp' : Nat → PlanS} {hnx' hkp' thr : Int32} {mnow' mold' : Nat → Int32} {mols' mlen' mat' : Int32}
    (top : s_Top_readInput F pxs pys plo phi pn pm lf th ow lk el eh co hu ich ifs isc isg iln hp hnx hkp = some (c, pxs', pys', plo', phi', pn', pm', lf', th', ow', lk', el', eh', co', hu', ne', nt', nh', ifs', isc', isg', iln', ien', iin', idg', iva', hp', hnx', hkp'))
    (mod : s_Mod_readInput F mnow mold mols minp mlen = some (c, thr, mnow', mold', mols', mlen', mat')) :
    s_case_10 F pxs pys plo phi pn pm lf th ow lk el eh co hu ich ifs isc isg iln hp hnx hkp mnow mold mols minp mlen = some (pxs', pys', plo', phi', pn', pm', lf', th', ow', lk', el', eh', co', hu', ne', nt', nh', ifs', isc', isg', iln', ien', iin', idg', iva', hp', hnx', hkp', thr, mnow', mold', mols', mlen', mat') := by
  unfold s_case_10
  rw [top, mod]
  simp only [Option.bind_some]
  rw [if_pos trivial]
theorem k_10 {ich : Nat → Int32} {iln mlen : Int32} (ci : CI F (pxs, pys, plo, phi, pn, pm) (lf, th, ow, lk, el, eh, co, hu, ne, nt, nh) hp hnx hkp mnow mold mols) (h : IR ich iln minp mlen) (hF : 1000 ≤ F) :
    ∃ (pxs' pys' plo' phi' : Nat → Int32) (pn' pm' : Int32) (lf' th' ow' lk' el' eh' co' hu' : Nat → Int32) (ne' nt' nh' : Int32) (ifs' isc' isg' : Nat → Int32) (iln' ien' : Int32) (iin' : Bool) (idg' iva' : Int32) (hp' : Nat → PlanS) (hnx' hkp' thr : Int32) (mnow' mold' : Nat → Int32) (mols' mlen' mat' : Int32),
      s_case_10 F pxs pys plo phi pn pm lf th ow lk el eh co hu ich ifs isc isg iln hp hnx hkp mnow mold mols minp mlen = some (pxs', pys', plo', phi', pn', pm', lf', th', ow', lk', el', eh', co', hu', ne', nt', nh', ifs', isc', isg', iln', ien', iin', idg', iva', hp', hnx', hkp', thr, mnow', mold', mols', mlen', mat') ∧
      CI F (pxs', pys', plo', phi', pn', pm') (lf', th', ow', lk', el', eh', co', hu', ne', nt', nh') hp' hnx' hkp' mnow' mold' mols' ∧ IR ich iln' minp mlen' := by
  obtain ⟨hP, hD, hH⟩ := ci
  obtain ⟨len, hl, rfl, rfl, hs⟩ := h
  have hp9 := hp9_ (F := F) (ifs := ifs) (isc := isc) (isg := isg) hl hs
  have F0 : 0 < F := by omega
  have pb := p_both (minp := minp) (F := F) (mthr := 0) (mnow := mnow) (mold := mold) (mols := mols) hl (show 300 ≤ F by omega) 62 0 0 ifs isc isg F F (by omega) (by omega) (by omega) (by omega) (by omega)
  rw [← hp9, i32_00] at pb
  rcases pb with ⟨e, y, he, i1, i2⟩ | ⟨K, ifs', isc', isg', z, i1, i2, _, i4, i5⟩
  · obtain ⟨n, m, X, Y, L, H, hC, hM, hO⟩ := hP
    have hC : CP n m X Y L H pxs pys plo phi pn pm := hC
    obtain ⟨lf', th', ow', lk', el', eh', co', hu', ne', nt', nh', d⟩ := draw_ok hC hM hO hF lf th ow lk el eh co hu
    have nm : ¬ (i32 e = (-1 : Int32)) := i32_m1 (by omega)
    have top := top1_ (hp := hp) (hnx := hnx) (hkp := hkp) F0 nm i1 d
    have mod := mod1_ (show ¬ ((60 : Int32) < i32 e) from n_lt (a := 60) (by omega) (by omega)) i2
    refine ⟨pxs, pys, plo, phi, pn, pm, lf', th', ow', lk', el', eh', co', hu', ne', nt', nh', y.1, y.2.1, y.2.2.1, 0, 0, y.2.2.2.2.1, y.2.2.2.2.2.1, y.2.2.2.2.2.2, hp, hnx, hkp, 0, mnow, mold, mols, 0, i32 e, case10_ top mod, ⟨⟨n, m, X, Y, L, H, hC, hM, hO⟩, Or.inl ⟨_, _, _, _, _, _, _, _, d⟩, hH⟩, 0, Nat.zero_le _, i32_00.symm, i32_00.symm, fun i hi => absurd hi (Nat.not_lt_zero i)⟩
  · have rb := rd_both hl hF K 0 0 K F F pxs pys plo phi pn pm hp hnx hkp (0 : Int32) mnow mold mols (by omega) (by omega) (by omega) (by omega) hP hH i4
    rw [i32_00] at rb
    obtain ⟨c, pxs', pys', plo', phi', pn', pm', hp', hnx', hkp', mthr', mn', mold', mols', mat', j1, j2, j3, j4⟩ := rb
    have j3' := j3
    obtain ⟨n, m, X, Y, L, H, hC, hM, hO⟩ := j3
    have hC : CP n m X Y L H pxs' pys' plo' phi' pn' pm' := hC
    obtain ⟨lf', th', ow', lk', el', eh', co', hu', ne', nt', nh', d⟩ := draw_ok hC hM hO hF lf th ow lk el eh co hu
    rw [Nat.zero_add] at i1
    have top := top2_ i1 j1 d
    have mod := mod2_ i2 j2
    refine ⟨pxs', pys', plo', phi', pn', pm', lf', th', ow', lk', el', eh', co', hu', ne', nt', nh', ifs', isc', isg', 0, 0, z.1, z.2.1, z.2.2, hp', hnx', hkp', 0, mn', mold', mols', 0, mat', case10_ top mod, ⟨j3', Or.inl ⟨_, _, _, _, _, _, _, _, d⟩, j4⟩, 0, Nat.zero_le _, i32_00.symm, i32_00.symm, fun i hi => absurd hi (Nat.not_lt_zero i)⟩
end CG7
