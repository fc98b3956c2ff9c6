/-! state and asks as functions of the reference's numbers -/
/-- beside g, and but for mesh, trial and input the same as S -/
def Rk (F : Nat) (g : Nat → Int32) (S T : TopS) : Prop := J F T g ∧ T.1 = S.1 ∧ T.2.2.2.2.1 = S.2.2.2.2.1 ∧ T.2.2.2.2.2.2 = S.2.2.2.2.2.2 ∧ T.2.2.2.2.2.1.2.2.2.2.1 = S.2.2.2.2.2.1.2.2.2.2.1
theorem Rk.rf {F : Nat} {g : Nat → Int32} {S : TopS} (h : J F S g) : Rk F g S S := ⟨h, rfl, rfl, rfl, rfl⟩
theorem Rk.q {F : Nat} {g : Nat → Int32} {S T U : TopS} (h : Rk F g S T) (k : Qs T U) : Rk F g S U := ⟨qs_J k h.1, k.1.trans h.2.1, (congrArg (fun z => z.1) k.2.2).trans h.2.2.1, (congrArg (fun z => z.2.2) k.2.2).trans h.2.2.2.1, (congrArg (fun z => z.2.1.2.2.2.2.1) k.2.2).trans h.2.2.2.2⟩
theorem Rk.tr {F : Nat} {g : Nat → Int32} {S T U : TopS} (h : Rk F g S T) (k : Rk F g T U) : Rk F g S U := ⟨k.1, k.2.1.trans h.2.1, k.2.2.1.trans h.2.2.1, k.2.2.2.1.trans h.2.2.2.1, k.2.2.2.2.trans h.2.2.2.2⟩
def foldN (f : Nat → Int64 → Int64) : Nat → Int64 → Int64
  | 0, x => x
  | n + 1, x => f n (foldN f n x)
theorem lp_fold {g : Nat → Int64 → Int32 → TopS → Option (Int64 × Int32 × TopS)} (N : Nat) (I : TopS → Prop) (f : Nat → Int64 → Int64)
    (stop : ∀ n x S, I S → g (n + 1) x (i32 N) S = some (x, i32 N, S))
    (step : ∀ n x S i, I S → i < N → ∃ S', I S' ∧ g (n + 1) x (i32 i) S = g n (f i x) (i32 (i + 1)) S') :
    ∀ n S, I S → N < n → ∀ x, ∃ S', I S' ∧ g n x (i32 0) S = some (foldN f N x, i32 N, S') := by
  have gen : ∀ d i n x0 S, i + d = N → d < n → I S → ∃ S', I S' ∧ g n (foldN f i x0) (i32 i) S = some (foldN f N x0, i32 N, S') := by
    intro d
    induction d with
    | zero =>
      intro i n x0 S h1 h2 h3
      obtain ⟨k, rfl⟩ : ∃ k, n = k + 1 := ⟨n - 1, by omega⟩
      have : i = N := by omega
      subst this
      exact ⟨S, h3, stop k _ S h3⟩
    | succ d ih =>
      intro i n x0 S h1 h2 h3
      obtain ⟨k, rfl⟩ : ∃ k, n = k + 1 := ⟨n - 1, by omega⟩
      obtain ⟨S', h4, h5⟩ := step k (foldN f i x0) S i h3 (by omega)
      rw [h5]
      exact ih (i + 1) k x0 S' (by omega) (by omega) h4
  intro n S h1 h2 x
  exact gen N 0 n x S (by omega) h2 h1
section ASKS
variable {F : Nat} {S T : TopS} {g : Nat → Int32}
def nP (g : Nat → Int32) : Nat := (g 0).toNatClampNeg
def nC (g : Nat → Int32) : Nat := (g 1).toNatClampNeg
def nT (F : Nat) (g : Nat → Int32) : Nat := (cv (s_Mod_triangleCount F g zf zf)).toNatClampNeg
def nE (F : Nat) (g : Nat → Int32) : Nat := (cv (s_Mod_edgeCount F g zf zf)).toNatClampNeg
theorem p_cnt (h : J F S g) (hF : 1000 ≤ F) : i_pointCount S = i32 (nP g) ∧ nP g ≤ 16 := by
  obtain ⟨e, n, hn, k⟩ := qq_points h hF
  have : nP g = n := by unfold nP; rw [k, i32_nc (by omega)]
  rw [e, this, k]; exact ⟨rfl, hn⟩
theorem c_cnt (h : J F S g) (hF : 1000 ≤ F) : i_constraintCount S = i32 (nC g) ∧ nC g ≤ 10 := by
  obtain ⟨e, n, hn, k⟩ := qq_cons h hF
  have : nC g = n := by unfold nC; rw [k, i32_nc (by omega)]
  rw [e, this, k]; exact ⟨rfl, hn⟩
theorem t_cnt (h : J F S g) (hF : 1000 ≤ F) : i_triangleCount S = i32 (nT F g) ∧ nT F g ≤ 27 := by
  obtain ⟨t, ht, e⟩ := b_tris h hF
  have : nT F g = t := by unfold nT; rw [← qq_tris h hF, e, i32_nc (by omega)]
  rw [e, this]; exact ⟨rfl, ht⟩
theorem e_cnt (h : J F S g) (hF : 1000 ≤ F) : i_edgeCount S = i32 (nE F g) ∧ nE F g ≤ 42 := by
  obtain ⟨t, ht, e⟩ := b_edges h hF
  have : nE F g = t := by unfold nE; rw [← qq_edges h hF, e, i32_nc (by omega)]
  rw [e, this]; exact ⟨rfl, ht⟩
theorem i_one (i : Nat) : i32 i + (1 : Int32) = i32 (i + 1) := i32_s i
def fSt (g : Nat → Int32) (i : Nat) (x : Int64) : Int64 := ((31 : Int64) * (((31 : Int64) * x) + ((av0 (s_Mod_coordinate g (i32 i) 0)).toInt64))) + ((av0 (s_Mod_coordinate g (i32 i) 1)).toInt64)
def fTi (g : Nat → Int32) (i : Nat) (x : Int64) : Int64 := ((31 : Int64) * (((31 : Int64) * x) + ((av0 (s_Mod_constraintEnd g (i32 i) 0)).toInt64))) + ((av0 (s_Mod_constraintEnd g (i32 i) 1)).toInt64)
/-- the hash of the points and constraints -/
def hS (g : Nat → Int32) : Int64 := foldN (fTi g) (nC g) (foldN (fSt g) (nP g) (((31 : Int64) * (g 0).toInt64) + (g 1).toInt64))
theorem x_state (h : J F T g) (hF : 1000 ≤ F) : s_L_state F T = some (hS g, T) := by
  obtain ⟨pe, pb⟩ := p_cnt h hF
  obtain ⟨ce, cb⟩ := c_cnt h hF
  have l1 := lp_fold (g := s_L_state_L18 F) (nP g) (fun U => U = T) (fSt g)
    (fun n x U e => by subst e; simp only [s_L_state_L18]; rw [if_pos (by rw [pe]; exact y_le (by omega) (by omega))])
    (fun n x U i e hi => by
      subst e
      refine ⟨U, rfl, ?_⟩
      simp only [s_L_state_L18]
      rw [if_neg (by rw [pe]; exact n_le (by omega) hi), qq_coordinate h hF]
      simp only [Option.bind_some]
      rw [qq_coordinate h hF]
      simp only [Option.bind_some]
      rw [i_one]; rfl)
  have l2 := lp_fold (g := s_L_state_L60 F) (nC g) (fun U => U = T) (fTi g)
    (fun n x U e => by subst e; simp only [s_L_state_L60]; rw [if_pos (by rw [ce]; exact y_le (by omega) (by omega))])
    (fun n x U i e hi => by
      subst e
      refine ⟨U, rfl, ?_⟩
      simp only [s_L_state_L60]
      rw [if_neg (by rw [ce]; exact n_le (by omega) hi), qq_tied h hF]
      simp only [Option.bind_some]
      rw [qq_tied h hF]
      simp only [Option.bind_some]
      rw [i_one]; rfl)
  obtain ⟨T1, hT1, e1⟩ := l1 60 T rfl (by omega) (((31 : Int64) * (i_pointCount T).toInt64) + (i_constraintCount T).toInt64)
  rw [hT1] at e1
  have e1 : s_L_state_L18 F 60 (((31 : Int64) * (i_pointCount T).toInt64) + (i_constraintCount T).toInt64) (0 : Int32) T = _ := e1
  unfold s_L_state
  rw [e1]
  simp only [Option.bind_some]
  obtain ⟨T2, hT2, e2⟩ := l2 60 T rfl (by omega) (foldN (fSt g) (nP g) (((31 : Int64) * (i_pointCount T).toInt64) + (i_constraintCount T).toInt64))
  rw [hT2] at e2
  have e2 : s_L_state_L60 F 60 (foldN (fSt g) (nP g) (((31 : Int64) * (i_pointCount T).toInt64) + (i_constraintCount T).toInt64)) (0 : Int32) T = _ := e2
  rw [e2]
  simp only [Option.bind_some]
  unfold hS
  rw [(qq_points h hF).1, (qq_cons h hF).1]
def f61 (F : Nat) (g : Nat → Int32) (t k : Nat) (x : Int64) : Int64 := ((31 : Int64) * (((31 : Int64) * x) + ((av (s_Mod_corner F g zf zf (i32 t) (i32 k))).toInt64))) + ((av (s_Mod_beyond F g zf zf (i32 t) (i32 k))).toInt64)
def f37 (F : Nat) (g : Nat → Int32) (t : Nat) (x : Int64) : Int64 := foldN (f61 F g t) 3 (((31 : Int64) * x) + ((av (s_Mod_twiceArea F g zf zf (i32 t))).toInt64))
def f109 (F : Nat) (g : Nat → Int32) (i : Nat) (x : Int64) : Int64 := ((31 : Int64) * (((31 : Int64) * (((31 : Int64) * x) + ((av (s_Mod_edgeEnd F g zf zf zf (i32 i) 0)).toInt64))) + ((av (s_Mod_edgeEnd F g zf zf zf (i32 i) 1)).toInt64))) + ((avB (s_Mod_isGood F g zf zf zf (i32 i))).toInt64)
def f162 (F : Nat) (g : Nat → Int32) (i : Nat) (x : Int64) : Int64 := ((31 : Int64) * (((31 : Int64) * (((31 : Int64) * x) + ((av (s_Mod_degree F g zf zf 0 (i32 i))).toInt64))) + ((av (s_Mod_hole F g zf zf 0 zf zf zf (i32 i))).toInt64))) + ((av (s_Mod_hullPoint F g zf zf (i32 i))).toInt64)
def f213 (F : Nat) (g : Nat → Int32) (i : Nat) (x : Int64) : Int64 := ((31 : Int64) * x) + ((av (s_Mod_effect F g zf zf 0 zf zf zf (i32 i))).toInt64)
def f242 (F : Nat) (g : Nat → Int32) (i : Nat) (x : Int64) : Int64 := ((31 : Int64) * (((31 : Int64) * (((31 : Int64) * x) + ((av (s_Mod_squaredLength F g zf zf 0 zf (i32 i))).toInt64))) + ((av (s_Mod_cavity F g zf zf 0 zf zf zf ((3 : Int32) * i32 i) 5)).toInt64))) + ((av (s_Mod_numberAt F g zf zf 0 ((2 : Int32) * i32 i) (i32 i))).toInt64)
def mD (p e : Nat) : UInt64 := if p = 0 then 0xC08F480000000000 else FP.ddiv (FP.i2d (i32 (2 * e))) (FP.i2d (i32 p))
/-- the hash of all answers -/
def hA (F : Nat) (g : Nat → Int32) : Int64 :=
  ((31 : Int64) * (((31 : Int64) * foldN (f242 F g) 4 (foldN (f213 F g) (nC g) (foldN (f162 F g) (nP g) (foldN (f109 F g) (nE F g) (foldN (f37 F g) (nT F g + 1) (((31 : Int64) * (((31 : Int64) * (((31 : Int64) * hS g) + (cv (s_Mod_triangleCount F g zf zf)).toInt64)) + (cv (s_Mod_edgeCount F g zf zf)).toInt64)) + (cv (s_Mod_hullSize F g zf zf)).toInt64)))))) + (cv (s_Mod_forcedConstraints F g zf zf)).toInt64)) + FP.d2l (FP.dmul 0x412E848000000000 (mD (nP g) (nE F g)))
theorem mul_fin : ∀ p, p < 17 → ∀ e, e < 43 → FP.dmul 0x412E848000000000 (mD p e) &&& 0x7fffffffffffffff ≤ 0x7ff0000000000000 := by decide +kernel
theorem x_mean (h : J F T g) (hF : 1000 ≤ F) : s_h_mean F T = some (mD (nP g) (nE F g), T) := by
  obtain ⟨pe, pb⟩ := p_cnt h hF
  obtain ⟨ee, eb⟩ := e_cnt h hF
  unfold s_h_mean s_Top_meanDegree
  have pe : s_Plan_points T.1.2.2.2.2.1 = i32 (nP g) := pe
  have ee : s_Mesh_edges T.2.1.2.2.2.2.2.2.2.2.1 = i32 (nE F g) := ee
  rw [pe, ee]
  by_cases z : nP g = 0
  · rw [if_pos ((i32_0 (by omega)).2 z)]
    unfold mD
    rw [if_pos z]
    rfl
  · rw [if_neg (fun q => z ((i32_0 (by omega)).1 q))]
    have d2 : (2 : Int32) * i32 (nE F g) = i32 (2 * nE F g) := by rw [show (2 : Int32) = i32 2 from rfl, i32_mul]
    have dv := ddiv_n (i32_ti (k := 2 * nE F g) (by omega)) (i32_ti (k := nP g) (by omega)) (by omega) (by omega) (by omega)
    rw [d2, dv]
    unfold mD
    rw [if_neg z]
    rfl
theorem x_asks (h : J F T g) (hF : 1000 ≤ F) : ∃ U, s_L_asks F T = some (hA F g, U) ∧ Rk F g T U := by
  obtain ⟨pe, pb⟩ := p_cnt h hF
  obtain ⟨ce, cb⟩ := c_cnt h hF
  obtain ⟨te, tb⟩ := t_cnt h hF
  obtain ⟨ee, eb⟩ := e_cnt h hF
  have cnt : ∀ {U}, Rk F g T U → i_pointCount U = i32 (nP g) ∧ i_constraintCount U = i32 (nC g) ∧ i_triangleCount U = i32 (nT F g) ∧ i_edgeCount U = i32 (nE F g) := fun {U} k => ⟨(p_cnt k.1 hF).1, (c_cnt k.1 hF).1, (t_cnt k.1 hF).1, (e_cnt k.1 hF).1⟩
  have l61 : ∀ t, ∀ n U, Rk F g T U → 3 < n → ∀ x, ∃ U', Rk F g T U' ∧ s_L_asks_L61 F (i32 t) n x (i32 0) U = some (foldN (f61 F g t) 3 x, i32 3, U') := fun t => lp_fold (g := s_L_asks_L61 F (i32 t)) 3 (Rk F g T) (f61 F g t)
    (fun n x U k => by simp only [s_L_asks_L61]; rw [if_pos (show (3 : Int32) ≤ i32 3 by decide)])
    (fun n x U i k hi => by
      refine ⟨U, k, ?_⟩
      simp only [s_L_asks_L61]
      rw [if_neg (show ¬ (3 : Int32) ≤ i32 i from n_le (a := 3) (by omega) hi), qq_corner k.1 hF]
      simp only [Option.bind_some]
      rw [qq_beyond k.1 hF]
      simp only [Option.bind_some]
      rw [i_one]; rfl)
  have l37 := lp_fold (g := s_L_asks_L37 F) (nT F g + 1) (Rk F g T) (f37 F g)
    (fun n x U k => by simp only [s_L_asks_L37]; rw [if_pos (by rw [(cnt k).2.2.1]; exact y_lt (by omega) (by omega))])
    (fun n x U i k hi => by
      obtain ⟨U', k', e⟩ := l61 i 60 U k (by omega) (((31 : Int64) * x) + ((av (s_Mod_twiceArea F g zf zf (i32 i))).toInt64))
      have e : s_L_asks_L61 F (i32 i) 60 (((31 : Int64) * x) + ((av (s_Mod_twiceArea F g zf zf (i32 i))).toInt64)) (0 : Int32) U = _ := e
      refine ⟨U', k', ?_⟩
      simp only [s_L_asks_L37]
      rw [if_neg (by rw [(cnt k).2.2.1]; exact n_lt (by omega) (by omega)), qq_area k.1 hF]
      simp only [Option.bind_some]
      rw [e]
      simp only [Option.bind_some]
      rw [i_one]; rfl)
  have l109 := lp_fold (g := s_L_asks_L109 F) (nE F g) (Rk F g T) (f109 F g)
    (fun n x U k => by simp only [s_L_asks_L109]; rw [if_pos (by rw [(cnt k).2.2.2]; exact y_le (by omega) (by omega))])
    (fun n x U i k hi => by
      refine ⟨U, k, ?_⟩
      simp only [s_L_asks_L109]
      rw [if_neg (by rw [(cnt k).2.2.2]; exact n_le (by omega) hi), qq_end k.1 hF]
      simp only [Option.bind_some]
      rw [qq_end k.1 hF]
      simp only [Option.bind_some]
      rw [qq_good k.1 hF]
      simp only [Option.bind_some]
      rw [i_one]; rfl)
  have l162 := lp_fold (g := s_L_asks_L162 F) (nP g) (Rk F g T) (f162 F g)
    (fun n x U k => by simp only [s_L_asks_L162]; rw [if_pos (by rw [(cnt k).1]; exact y_le (by omega) (by omega))])
    (fun n x U i k hi => by
      obtain ⟨V, e, q⟩ := qq_hole k.1 hF (i32 i)
      refine ⟨V, k.q q, ?_⟩
      simp only [s_L_asks_L162]
      rw [if_neg (by rw [(cnt k).1]; exact n_le (by omega) hi), qq_degree k.1 hF]
      simp only [Option.bind_some]
      rw [e]
      simp only [Option.bind_some]
      rw [qq_hull (k.q q).1 hF]
      simp only [Option.bind_some]
      rw [i_one]; rfl)
  have l213 := lp_fold (g := s_L_asks_L213 F) (nC g) (Rk F g T) (f213 F g)
    (fun n x U k => by simp only [s_L_asks_L213]; rw [if_pos (by rw [(cnt k).2.1]; exact y_le (by omega) (by omega))])
    (fun n x U i k hi => by
      obtain ⟨V, e, q⟩ := qq_effect k.1 hF (i32 i)
      refine ⟨V, k.q q, ?_⟩
      simp only [s_L_asks_L213]
      rw [if_neg (by rw [(cnt k).2.1]; exact n_le (by omega) hi), e]
      simp only [Option.bind_some]
      rw [i_one]; rfl)
  have l242 := lp_fold (g := s_L_asks_L242 F) 4 (Rk F g T) (f242 F g)
    (fun n x U k => by simp only [s_L_asks_L242]; rw [if_pos (show (4 : Int32) ≤ i32 4 by decide)])
    (fun n x U i k hi => by
      obtain ⟨V, e, q⟩ := qq_cavity k.1 hF ((3 : Int32) * i32 i) 5
      refine ⟨V, k.q q, ?_⟩
      simp only [s_L_asks_L242]
      rw [if_neg (show ¬ (4 : Int32) ≤ i32 i from n_le (a := 4) (by omega) hi), qq_square k.1 hF]
      simp only [Option.bind_some]
      rw [e]
      simp only [Option.bind_some]
      rw [qq_number (k.q q).1 hF]
      simp only [Option.bind_some]
      rw [i_one]; rfl)
  unfold s_L_asks
  rw [x_state h hF]
  simp only [Option.bind_some]
  rw [qq_tris h hF, qq_edges h hF, qq_hulls h hF]
  obtain ⟨U1, k1, e1⟩ := l37 60 T (Rk.rf h) (by omega) (((31 : Int64) * (((31 : Int64) * (((31 : Int64) * hS g) + (cv (s_Mod_triangleCount F g zf zf)).toInt64)) + (cv (s_Mod_edgeCount F g zf zf)).toInt64)) + (cv (s_Mod_hullSize F g zf zf)).toInt64)
  rw [show (0 : Int32) = i32 0 from rfl, e1]
  simp only [Option.bind_some]
  obtain ⟨U2, k2, e2⟩ := l109 60 U1 k1 (by omega) _
  rw [e2]
  simp only [Option.bind_some]
  obtain ⟨U3, k3, e3⟩ := l162 60 U2 k2 (by omega) _
  rw [e3]
  simp only [Option.bind_some]
  obtain ⟨U4, k4, e4⟩ := l213 60 U3 k3 (by omega) _
  rw [e4]
  simp only [Option.bind_some]
  obtain ⟨U5, k5, e5⟩ := l242 60 U4 k4 (by omega) _
  rw [e5]
  simp only [Option.bind_some]
  rw [qq_forced k5.1 hF]
  simp only [Option.bind_some]
  rw [x_mean k5.1 hF]
  simp only [Option.bind_some]
  unfold dmulO
  rw [if_pos (mul_fin _ (by omega) _ (by omega))]
  simp only [Option.bind_some]
  exact ⟨U5, rfl, k5⟩
end ASKS
