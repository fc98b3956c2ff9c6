/-- the determinant of three vectors -/
def dt (a b c : Int × Int × Int) : Int :=
  a.1 * (b.2.1 * c.2.2 - b.2.2 * c.2.1) - a.2.1 * (b.1 * c.2.2 - b.2.2 * c.1) + a.2.2 * (b.1 * c.2.1 - b.2.1 * c.1)
theorem dt_012 (a b c : Int × Int × Int) : dt a b c = dt a b c := rfl
theorem dt_120 (a b c : Int × Int × Int) : dt b c a = dt a b c := by simp only [dt]; grind
theorem dt_201 (a b c : Int × Int × Int) : dt c a b = dt a b c := by simp only [dt]; grind
theorem dt_021 (a b c : Int × Int × Int) : dt a c b = - dt a b c := by simp only [dt]; grind
theorem dt_102 (a b c : Int × Int × Int) : dt b a c = - dt a b c := by simp only [dt]; grind
theorem dt_210 (a b c : Int × Int × Int) : dt c b a = - dt a b c := by simp only [dt]; grind
theorem dt_aab (a b : Int × Int × Int) : dt a a b = 0 := by simp only [dt]; grind
theorem dt_aba (a b : Int × Int × Int) : dt a b a = 0 := by simp only [dt]; grind
theorem dt_baa (a b : Int × Int × Int) : dt a b b = 0 := by simp only [dt]; grind
theorem gp5 (a b c d e : Int × Int × Int) : dt a b c * dt a d e - dt a b d * dt a c e + dt a b e * dt a c d = 0 := by
  simp only [dt]; grind
theorem gw4 (a b c d : Int × Int × Int) : d.2.2 * dt a b c - c.2.2 * dt a b d + b.2.2 * dt a c d - a.2.2 * dt b c d = 0 := by
  simp only [dt]; grind
/-- the segments ab and cd cross, c on the left -/
def xc (a b c d : Int × Int × Int) : Prop := 0 < dt a b c ∧ dt a b d < 0 ∧ 0 < dt d c a ∧ dt d c b < 0
/-- x lies in the closed triangle abc -/
def tin (a b c x : Int × Int × Int) : Prop := 0 ≤ dt a b x ∧ 0 ≤ dt b c x ∧ 0 ≤ dt c a x
def dotp (p q x : Int × Int × Int) : Int := (p.1 - x.1) * (q.1 - x.1) + (p.2.1 - x.2.1) * (q.2.1 - x.2.1)
/-- x lies strictly between p and q -/
def cov (p q x : Int × Int × Int) : Prop := dt p q x = 0 ∧ dotp p q x < 0
def sqd (p q : Int × Int × Int) : Int := (p.1 - q.1) * (p.1 - q.1) + (p.2.1 - q.2.1) * (p.2.1 - q.2.1)
theorem m_Z_ {x : Int} (y : Int) (h : x = 0) : x * y = 0 := by rw [h, Int.zero_mul]
theorem m__Z (x : Int) {y : Int} (h : y = 0) : x * y = 0 := by rw [h, Int.mul_zero]
theorem m_PP {x y : Int} (h : 0 < x) (k : 0 < y) : 0 < x * y := Int.mul_pos h k
theorem m_NN {x y : Int} (h : x < 0) (k : y < 0) : 0 < x * y := Int.mul_pos_of_neg_of_neg h k
theorem m_PN {x y : Int} (h : 0 < x) (k : y < 0) : x * y < 0 := Int.mul_neg_of_pos_of_neg h k
theorem m_NP {x y : Int} (h : x < 0) (k : 0 < y) : x * y < 0 := Int.mul_neg_of_neg_of_pos h k
theorem m_pp {x y : Int} (h : 0 ≤ x) (k : 0 ≤ y) : 0 ≤ x * y := Int.mul_nonneg h k
theorem m_nn {x y : Int} (h : x ≤ 0) (k : y ≤ 0) : 0 ≤ x * y := Int.mul_nonneg_of_nonpos_of_nonpos h k
theorem m_pn {x y : Int} (h : 0 ≤ x) (k : y ≤ 0) : x * y ≤ 0 := Int.mul_nonpos_of_nonneg_of_nonpos h k
theorem m_np {x y : Int} (h : x ≤ 0) (k : 0 ≤ y) : x * y ≤ 0 := by rw [Int.mul_comm]; exact Int.mul_nonpos_of_nonneg_of_nonpos k h
theorem sq_nn (x : Int) : 0 ≤ x * x := by
  rcases Int.le_total 0 x with h | h
  · exact m_pp h h
  · exact m_nn h h
theorem sq_pos {x : Int} (h : x ≠ 0) : 0 < x * x := by
  rcases Int.lt_or_gt_of_ne h with h | h
  · exact m_NN h h
  · exact m_PP h h
theorem sq2_pos {x y : Int} (h : ¬ (x = 0 ∧ y = 0)) : 0 < x * x + y * y := by
  by_cases k : x = 0
  · have := sq_nn x
    have := sq_pos (x := y) (fun e => h ⟨k, e⟩)
    omega
  · have := sq_nn y
    have := sq_pos k
    omega
theorem cov_aux (u1 u2 v1 v2 z1 z2 : Int) (c : u1 * v2 - u2 * v1 = 0) (A : 0 < u2 * z1 - u1 * z2) (B : 0 < v1 * z2 - v2 * z1) :
    u1 * v1 + u2 * v2 < 0 := by
  have e3 : (v1 * z2 - v2 * z1) * (u1 * v1 + u2 * v2) = - ((u2 * z1 - u1 * z2) * (v1 * v1 + v2 * v2)) := by grind
  have n : 0 < v1 * v1 + v2 * v2 := by
    apply sq2_pos
    intro h
    rw [h.1, h.2, Int.zero_mul, Int.zero_mul] at B
    omega
  have p := m_PP A n
  rcases Int.lt_or_le (u1 * v1 + u2 * v2) 0 with h | h
  · exact h
  · have q := m_pp (Int.le_of_lt B) h
    omega
theorem cov_p {p q x z : Int × Int × Int} (wp : p.2.2 = 1) (wq : q.2.2 = 1) (wx : x.2.2 = 1)
    (h : dt p q x = 0) (k : 0 < dt p x z) (l : 0 < dt x q z) : cov p q x := by
  refine ⟨h, ?_⟩
  have c : (p.1 - x.1) * (q.2.1 - x.2.1) - (p.2.1 - x.2.1) * (q.1 - x.1) = 0 := by
    simp only [dt, wp, wq, wx] at h; grind
  have A : 0 < (p.2.1 - x.2.1) * (z.1 - z.2.2 * x.1) - (p.1 - x.1) * (z.2.1 - z.2.2 * x.2.1) := by
    have e : dt p x z = (p.2.1 - x.2.1) * (z.1 - z.2.2 * x.1) - (p.1 - x.1) * (z.2.1 - z.2.2 * x.2.1) := by
      simp only [dt, wp, wx]; grind
    omega
  have B : 0 < (q.1 - x.1) * (z.2.1 - z.2.2 * x.2.1) - (q.2.1 - x.2.1) * (z.1 - z.2.2 * x.1) := by
    have e : dt x q z = (q.1 - x.1) * (z.2.1 - z.2.2 * x.2.1) - (q.2.1 - x.2.1) * (z.1 - z.2.2 * x.1) := by
      simp only [dt, wq, wx]; grind
    omega
  exact cov_aux _ _ _ _ _ _ c A B
theorem cov_sw {p q x : Int × Int × Int} (h : cov p q x) : cov q p x := by
  have e := dt_102 p q x
  have d : dotp q p x = dotp p q x := by simp only [dotp]; grind
  exact ⟨by have := h.1; omega, by rw [d]; exact h.2⟩
theorem cov_n {p q x z : Int × Int × Int} (wp : p.2.2 = 1) (wq : q.2.2 = 1) (wx : x.2.2 = 1)
    (h : dt p q x = 0) (k : dt p x z < 0) (l : dt x q z < 0) : cov p q x := by
  apply cov_sw
  apply cov_p (z := z) wq wp wx
  · have := dt_102 p q x; omega
  · have := dt_102 x q z; omega
  · have := dt_102 p x z; omega
theorem sl_or (a b c d : Int × Int × Int) (w1a : a.2.2 = 1) (w1b : b.2.2 = 1) (w1c : c.2.2 = 1) (w1d : d.2.2 = 1) (h0 : 0 < dt a b c) (h1 : dt a b d < 0) (h2 : dt d c a ≤ 0) (h3 : 0 ≤ dt d c b) : False := by
  have wa : 0 < a.2.2 := by omega
  have wb : 0 < b.2.2 := by omega
  have wc : 0 < c.2.2 := by omega
  have wd : 0 < d.2.2 := by omega
  have fh0 : 0 < dt a b c := by have q_e := dt_012 a b c; omega
  have fh1 : dt a b d < 0 := by have q_e := dt_012 a b d; omega
  have fh2 : 0 ≤ dt a c d := by have q_e := dt_210 a c d; omega
  have fh3 : dt b c d ≤ 0 := by have q_e := dt_210 b c d; omega
  rcases (show dt a c d = 0 ∨ 0 < dt a c d by omega) with s_acd | s_acd
  · have q_g := gw4 a b c d
    have q_0 := m_PP wd fh0
    have q_1 := m_PN wc fh1
    have q_2 := m__Z b.2.2 s_acd
    have q_3 := m_pn (Int.le_of_lt wa) fh3
    omega
  · have q_g := gw4 a b c d
    have q_0 := m_PP wd fh0
    have q_1 := m_PN wc fh1
    have q_2 := m_PP wb s_acd
    have q_3 := m_pn (Int.le_of_lt wa) fh3
    omega
theorem sl_half (a o x y z : Int × Int × Int) (h0 : 0 < dt a o x) (h1 : 0 < dt a o y) (h2 : 0 < dt a o z) (h3 : 0 < dt a x y) (h4 : 0 < dt a y z) (h5 : dt a x z ≤ 0) : False := by
  have fh0 : 0 < dt a o x := by have q_e := dt_012 a o x; omega
  have fh1 : 0 < dt a o y := by have q_e := dt_012 a o y; omega
  have fh2 : 0 < dt a o z := by have q_e := dt_012 a o z; omega
  have fh3 : 0 < dt a x y := by have q_e := dt_012 a x y; omega
  have fh4 : 0 < dt a y z := by have q_e := dt_012 a y z; omega
  have fh5 : dt a x z ≤ 0 := by have q_e := dt_012 a x z; omega
  rcases (show dt a x z < 0 ∨ dt a x z = 0 by omega) with s_axz | s_axz
  · have q_g := gp5 a o x y z
    have q_0 := m_PP fh0 fh4
    have q_1 := m_PN fh1 s_axz
    have q_2 := m_PP fh2 fh3
    omega
  · have q_g := gp5 a o x y z
    have q_0 := m_PP fh0 fh4
    have q_1 := m__Z (dt a o y) s_axz
    have q_2 := m_PP fh2 fh3
    omega
theorem sl_dir (a o p r x : Int × Int × Int) (h0 : 0 < dt a o p) (h1 : 0 < dt a o r) (h2 : 0 < dt a o x) (h3 : dt a p r = 0) (h4 : 0 ≤ dt a p x) (h5 : dt a r x < 0) : False := by
  have fh0 : 0 < dt a o p := by have q_e := dt_012 a o p; omega
  have fh1 : 0 < dt a o r := by have q_e := dt_012 a o r; omega
  have fh2 : 0 < dt a o x := by have q_e := dt_012 a o x; omega
  have fh3 : dt a p r = 0 := by have q_e := dt_012 a p r; omega
  have fh4 : 0 ≤ dt a p x := by have q_e := dt_012 a p x; omega
  have fh5 : dt a r x < 0 := by have q_e := dt_012 a r x; omega
  rcases (show dt a p x = 0 ∨ 0 < dt a p x by omega) with s_apx | s_apx
  · have q_g := gp5 a o p r x
    have q_0 := m_PN fh0 fh5
    have q_1 := m__Z (dt a o r) s_apx
    have q_2 := m__Z (dt a o x) fh3
    omega
  · have q_g := gp5 a o p r x
    have q_0 := m_PN fh0 fh5
    have q_1 := m_PP fh1 s_apx
    have q_2 := m__Z (dt a o x) fh3
    omega
theorem sl_seg1 (a o s r p : Int × Int × Int) (h0 : 0 < dt a o s) (h1 : 0 < dt a o r) (h2 : 0 ≤ dt o s r) (h4 : 0 < dt a o p) (h5 : dt r o p < 0) (h6 : dt o s p < 0) : False := by
  have fh0 : 0 < dt a o s := by have q_e := dt_012 a o s; omega
  have fh1 : 0 < dt a o r := by have q_e := dt_012 a o r; omega
  have fh2 : 0 ≤ dt o s r := by have q_e := dt_012 o s r; omega
  have fh4 : 0 < dt a o p := by have q_e := dt_012 a o p; omega
  have fh5 : 0 < dt o r p := by have q_e := dt_102 o r p; omega
  have fh6 : dt o s p < 0 := by have q_e := dt_012 o s p; omega
  rcases (show dt o s r = 0 ∨ 0 < dt o s r by omega) with s_osr | s_osr
  · have q_g := gp5 o a s r p
    simp only [dt_102 a o s, dt_102 a o r, dt_102 a o p, Int.neg_mul, Int.mul_neg, Int.neg_neg] at q_g
    have q_0 := m_PP fh0 fh5
    have q_1 := m_PN fh1 fh6
    have q_2 := m__Z (dt a o p) s_osr
    omega
  · have q_g := gp5 o a s r p
    simp only [dt_102 a o s, dt_102 a o r, dt_102 a o p, Int.neg_mul, Int.mul_neg, Int.neg_neg] at q_g
    have q_0 := m_PP fh0 fh5
    have q_1 := m_PN fh1 fh6
    have q_2 := m_PP fh4 s_osr
    omega
theorem sl_seg2 (a o s r p : Int × Int × Int) (h0 : 0 < dt a o s) (h1 : 0 < dt a o r) (h2 : 0 ≤ dt s a r) (h3 : dt a r p = 0) (h4 : 0 < dt a o p) (h6 : dt s a p < 0) : False := by
  have fh0 : 0 < dt a o s := by have q_e := dt_012 a o s; omega
  have fh1 : 0 < dt a o r := by have q_e := dt_012 a o r; omega
  have fh2 : dt a s r ≤ 0 := by have q_e := dt_102 a s r; omega
  have fh3 : dt a r p = 0 := by have q_e := dt_012 a r p; omega
  have fh4 : 0 < dt a o p := by have q_e := dt_012 a o p; omega
  have fh6 : 0 < dt a s p := by have q_e := dt_102 a s p; omega
  rcases (show dt a s r < 0 ∨ dt a s r = 0 by omega) with s_asr | s_asr
  · have q_g := gp5 a o s r p
    have q_0 := m__Z (dt a o s) fh3
    have q_1 := m_PP fh1 fh6
    have q_2 := m_PN fh4 s_asr
    omega
  · have q_g := gp5 a o s r p
    have q_0 := m__Z (dt a o s) fh3
    have q_1 := m_PP fh1 fh6
    have q_2 := m__Z (dt a o p) s_asr
    omega
theorem sl_look (a o s r u v : Int × Int × Int) (w1a : a.2.2 = 1) (wo : 0 < o.2.2) (w1s : s.2.2 = 1) (w1r : r.2.2 = 1) (w1u : u.2.2 = 1) (w1v : v.2.2 = 1) (h0 : 0 < dt a o s) (h1 : 0 < dt a o r) (h2 : 0 ≤ dt o s r) (h3 : 0 ≤ dt s a r) (h4 : dt a r u < 0) (h5 : 0 < dt a r v) (h6 : 0 < dt u v a) (h7 : dt u v r < 0) (k0 : 0 < dt a o u → 0 ≤ dt o s u → 0 ≤ dt s a u → False) (k2 : ¬ xc a o v u) (k4 : ¬ xc o s v u) (k7 : dt u v o = 0 → 0 < dt a o v → dt a o u < 0 → dt u v s < 0 → False) (k8 : dt u v o = 0 → 0 < dt a o v → dt a o u < 0 → 0 < dt u v s → False) (k9 : dt a o u = 0 → 0 < dt a u s → 0 ≤ dt u o s → False) : False := by
  have wa : 0 < a.2.2 := by omega
  have ws : 0 < s.2.2 := by omega
  have wr : 0 < r.2.2 := by omega
  have wu : 0 < u.2.2 := by omega
  have wv : 0 < v.2.2 := by omega
  have fh0 : 0 < dt a o s := by have q_e := dt_012 a o s; omega
  have fh1 : 0 < dt a o r := by have q_e := dt_012 a o r; omega
  have fh2 : 0 ≤ dt o s r := by have q_e := dt_012 o s r; omega
  have fh3 : dt a s r ≤ 0 := by have q_e := dt_102 a s r; omega
  have fh4 : dt a r u < 0 := by have q_e := dt_012 a r u; omega
  have fh5 : 0 < dt a r v := by have q_e := dt_012 a r v; omega
  have fh6 : 0 < dt a u v := by have q_e := dt_120 a u v; omega
  have fh7 : dt r u v < 0 := by have q_e := dt_120 r u v; omega
  rcases Int.lt_trichotomy (dt a o u) 0 with s_aou | s_aou | s_aou
  · rcases Int.lt_trichotomy (dt a o v) 0 with s_aov | s_aov | s_aov
    · have q_g := gp5 a o r u v
      have q_0 := m_PP fh1 fh6
      have q_1 := m_NP s_aou fh5
      have q_2 := m_NN s_aov fh4
      omega
    · have q_g := gp5 a o r u v
      have q_0 := m_PP fh1 fh6
      have q_1 := m_NP s_aou fh5
      have q_2 := m_Z_ (dt a r u) s_aov
      omega
    · rcases Int.lt_trichotomy (dt o u v) 0 with s_ouv | s_ouv | s_ouv
      · exact k2 ⟨(by have q_e := dt_012 a o v; omega), (by have q_e := dt_012 a o u; omega), (by have q_e := dt_120 a u v; omega), (by have q_e := dt_120 o u v; omega)⟩
      · rcases Int.lt_trichotomy (dt o r u) 0 with s_oru | s_oru | s_oru
        · rcases Int.lt_trichotomy (dt o s u) 0 with s_osu | s_osu | s_osu
          · rcases Int.lt_trichotomy (dt a s u) 0 with s_asu | s_asu | s_asu
            · rcases Int.lt_trichotomy (dt s u v) 0 with s_suv | s_suv | s_suv
              · exact k7 (by have q_e := dt_120 o u v; omega) (by have q_e := dt_012 a o v; omega) (by have q_e := dt_012 a o u; omega) (by have q_e := dt_120 s u v; omega)
              · have q_g := gp5 u a o s v
                simp only [dt_201 a o u, dt_102 s u v, dt_201 a s u, dt_102 o u v, dt_102 a u v, dt_201 o s u, Int.neg_mul, Int.mul_neg, Int.neg_neg] at q_g
                have q_0 := m__Z (dt a o u) s_suv
                have q_1 := m__Z (dt a s u) s_ouv
                have q_2 := m_PN fh6 s_osu
                omega
              · exact k8 (by have q_e := dt_120 o u v; omega) (by have q_e := dt_012 a o v; omega) (by have q_e := dt_012 a o u; omega) (by have q_e := dt_120 s u v; omega)
            · have q_g := gw4 a o s u
              have q_0 := m_PP wu fh0
              have q_1 := m_PN ws s_aou
              have q_2 := m__Z o.2.2 s_asu
              have q_3 := m_PN wa s_osu
              omega
            · have q_g := gw4 a o s u
              have q_0 := m_PP wu fh0
              have q_1 := m_PN ws s_aou
              have q_2 := m_PP wo s_asu
              have q_3 := m_PN wa s_osu
              omega
          · have q_g := gp5 o a s r u
            simp only [dt_102 a o s, dt_102 a o r, dt_102 a o u, Int.neg_mul, Int.mul_neg, Int.neg_neg] at q_g
            have q_0 := m_PN fh0 s_oru
            have q_1 := m__Z (dt a o r) s_osu
            have q_2 := m_np (Int.le_of_lt s_aou) fh2
            omega
          · have q_g := gp5 o a s r u
            simp only [dt_102 a o s, dt_102 a o r, dt_102 a o u, Int.neg_mul, Int.mul_neg, Int.neg_neg] at q_g
            have q_0 := m_PN fh0 s_oru
            have q_1 := m_PP fh1 s_osu
            have q_2 := m_np (Int.le_of_lt s_aou) fh2
            omega
        · have q_g := gp5 u a o r v
          simp only [dt_201 a o u, dt_102 r u v, dt_201 a r u, dt_102 o u v, dt_102 a u v, dt_201 o r u, Int.neg_mul, Int.mul_neg, Int.neg_neg] at q_g
          have q_0 := m_NN s_aou fh7
          have q_1 := m__Z (dt a r u) s_ouv
          have q_2 := m__Z (dt a u v) s_oru
          omega
        · have q_g := gp5 u a o r v
          simp only [dt_201 a o u, dt_102 r u v, dt_201 a r u, dt_102 o u v, dt_102 a u v, dt_201 o r u, Int.neg_mul, Int.mul_neg, Int.neg_neg] at q_g
          have q_0 := m_NN s_aou fh7
          have q_1 := m__Z (dt a r u) s_ouv
          have q_2 := m_PP fh6 s_oru
          omega
      · rcases Int.lt_trichotomy (dt o r u) 0 with s_oru | s_oru | s_oru
        · rcases Int.lt_trichotomy (dt o s u) 0 with s_osu | s_osu | s_osu
          · rcases Int.lt_trichotomy (dt a s u) 0 with s_asu | s_asu | s_asu
            · rcases Int.lt_trichotomy (dt o r v) 0 with s_orv | s_orv | s_orv
              · have q_g := gp5 r a o u v
                simp only [dt_201 a o r, dt_102 a r u, dt_102 o r v, dt_102 a r v, dt_102 o r u, Int.neg_mul, Int.mul_neg, Int.neg_neg] at q_g
                have q_0 := m_PN fh1 fh7
                have q_1 := m_NN fh4 s_orv
                have q_2 := m_PN fh5 s_oru
                omega
              · have q_g := gp5 r a o u v
                simp only [dt_201 a o r, dt_102 a r u, dt_102 o r v, dt_102 a r v, dt_102 o r u, Int.neg_mul, Int.mul_neg, Int.neg_neg] at q_g
                have q_0 := m_PN fh1 fh7
                have q_1 := m__Z (dt a r u) s_orv
                have q_2 := m_PN fh5 s_oru
                omega
              · rcases Int.lt_trichotomy (dt o s v) 0 with s_osv | s_osv | s_osv
                · have q_g := gp5 o a s r v
                  simp only [dt_102 a o s, dt_102 a o r, dt_102 a o v, Int.neg_mul, Int.mul_neg, Int.neg_neg] at q_g
                  have q_0 := m_PP fh0 s_orv
                  have q_1 := m_PN fh1 s_osv
                  have q_2 := m_pp (Int.le_of_lt s_aov) fh2
                  omega
                · have q_g := gp5 o a s r v
                  simp only [dt_102 a o s, dt_102 a o r, dt_102 a o v, Int.neg_mul, Int.mul_neg, Int.neg_neg] at q_g
                  have q_0 := m_PP fh0 s_orv
                  have q_1 := m__Z (dt a o r) s_osv
                  have q_2 := m_pp (Int.le_of_lt s_aov) fh2
                  omega
                · rcases Int.lt_trichotomy (dt s r u) 0 with s_sru | s_sru | s_sru
                  · have q_g := gp5 s a o r u
                    simp only [dt_201 a o s, dt_102 a s r, dt_102 o s u, dt_102 a s u, dt_102 o s r, Int.neg_mul, Int.mul_neg, Int.neg_neg] at q_g
                    have q_0 := m_PN fh0 s_sru
                    have q_1 := m_nn fh3 (Int.le_of_lt s_osu)
                    have q_2 := m_np (Int.le_of_lt s_asu) fh2
                    omega
                  · rcases Int.lt_trichotomy (dt s u v) 0 with s_suv | s_suv | s_suv
                    · exact k4 ⟨(by have q_e := dt_012 o s v; omega), (by have q_e := dt_012 o s u; omega), (by have q_e := dt_120 o u v; omega), (by have q_e := dt_120 s u v; omega)⟩
                    · have q_g := gp5 u a s r v
                      simp only [dt_201 a s u, dt_102 r u v, dt_201 a r u, dt_102 s u v, dt_102 a u v, dt_201 s r u, Int.neg_mul, Int.mul_neg, Int.neg_neg] at q_g
                      have q_0 := m_NN s_asu fh7
                      have q_1 := m__Z (dt a r u) s_suv
                      have q_2 := m__Z (dt a u v) s_sru
                      omega
                    · have q_g := gp5 u a s r v
                      simp only [dt_201 a s u, dt_102 r u v, dt_201 a r u, dt_102 s u v, dt_102 a u v, dt_201 s r u, Int.neg_mul, Int.mul_neg, Int.neg_neg] at q_g
                      have q_0 := m_NN s_asu fh7
                      have q_1 := m_NP fh4 s_suv
                      have q_2 := m__Z (dt a u v) s_sru
                      omega
                  · rcases Int.lt_trichotomy (dt s u v) 0 with s_suv | s_suv | s_suv
                    · exact k4 ⟨(by have q_e := dt_012 o s v; omega), (by have q_e := dt_012 o s u; omega), (by have q_e := dt_120 o u v; omega), (by have q_e := dt_120 s u v; omega)⟩
                    · have q_g := gp5 u a s r v
                      simp only [dt_201 a s u, dt_102 r u v, dt_201 a r u, dt_102 s u v, dt_102 a u v, dt_201 s r u, Int.neg_mul, Int.mul_neg, Int.neg_neg] at q_g
                      have q_0 := m_NN s_asu fh7
                      have q_1 := m__Z (dt a r u) s_suv
                      have q_2 := m_PP fh6 s_sru
                      omega
                    · have q_g := gp5 u a s r v
                      simp only [dt_201 a s u, dt_102 r u v, dt_201 a r u, dt_102 s u v, dt_102 a u v, dt_201 s r u, Int.neg_mul, Int.mul_neg, Int.neg_neg] at q_g
                      have q_0 := m_NN s_asu fh7
                      have q_1 := m_NP fh4 s_suv
                      have q_2 := m_PP fh6 s_sru
                      omega
            · have q_g := gw4 a o s u
              have q_0 := m_PP wu fh0
              have q_1 := m_PN ws s_aou
              have q_2 := m__Z o.2.2 s_asu
              have q_3 := m_PN wa s_osu
              omega
            · have q_g := gw4 a o s u
              have q_0 := m_PP wu fh0
              have q_1 := m_PN ws s_aou
              have q_2 := m_PP wo s_asu
              have q_3 := m_PN wa s_osu
              omega
          · have q_g := gp5 o a s r u
            simp only [dt_102 a o s, dt_102 a o r, dt_102 a o u, Int.neg_mul, Int.mul_neg, Int.neg_neg] at q_g
            have q_0 := m_PN fh0 s_oru
            have q_1 := m__Z (dt a o r) s_osu
            have q_2 := m_np (Int.le_of_lt s_aou) fh2
            omega
          · have q_g := gp5 o a s r u
            simp only [dt_102 a o s, dt_102 a o r, dt_102 a o u, Int.neg_mul, Int.mul_neg, Int.neg_neg] at q_g
            have q_0 := m_PN fh0 s_oru
            have q_1 := m_PP fh1 s_osu
            have q_2 := m_np (Int.le_of_lt s_aou) fh2
            omega
        · have q_g := gp5 u a o r v
          simp only [dt_201 a o u, dt_102 r u v, dt_201 a r u, dt_102 o u v, dt_102 a u v, dt_201 o r u, Int.neg_mul, Int.mul_neg, Int.neg_neg] at q_g
          have q_0 := m_NN s_aou fh7
          have q_1 := m_NP fh4 s_ouv
          have q_2 := m__Z (dt a u v) s_oru
          omega
        · have q_g := gp5 u a o r v
          simp only [dt_201 a o u, dt_102 r u v, dt_201 a r u, dt_102 o u v, dt_102 a u v, dt_201 o r u, Int.neg_mul, Int.mul_neg, Int.neg_neg] at q_g
          have q_0 := m_NN s_aou fh7
          have q_1 := m_NP fh4 s_ouv
          have q_2 := m_PP fh6 s_oru
          omega
  · rcases Int.lt_trichotomy (dt a o v) 0 with s_aov | s_aov | s_aov
    · have q_g := gp5 a o r u v
      have q_0 := m_PP fh1 fh6
      have q_1 := m_Z_ (dt a r v) s_aou
      have q_2 := m_NN s_aov fh4
      omega
    · have q_g := gp5 a o s u v
      have q_0 := m_PP fh0 fh6
      have q_1 := m_Z_ (dt a s v) s_aou
      have q_2 := m_Z_ (dt a s u) s_aov
      omega
    · rcases Int.lt_trichotomy (dt a s u) 0 with s_asu | s_asu | s_asu
      · rcases Int.lt_trichotomy (dt o s u) 0 with s_osu | s_osu | s_osu
        · rcases Int.lt_trichotomy (dt o r u) 0 with s_oru | s_oru | s_oru
          · rcases Int.lt_trichotomy (dt o r v) 0 with s_orv | s_orv | s_orv
            · have q_g := gp5 r a o u v
              simp only [dt_201 a o r, dt_102 a r u, dt_102 o r v, dt_102 a r v, dt_102 o r u, Int.neg_mul, Int.mul_neg, Int.neg_neg] at q_g
              have q_0 := m_PN fh1 fh7
              have q_1 := m_NN fh4 s_orv
              have q_2 := m_PN fh5 s_oru
              omega
            · have q_g := gp5 r a o u v
              simp only [dt_201 a o r, dt_102 a r u, dt_102 o r v, dt_102 a r v, dt_102 o r u, Int.neg_mul, Int.mul_neg, Int.neg_neg] at q_g
              have q_0 := m_PN fh1 fh7
              have q_1 := m__Z (dt a r u) s_orv
              have q_2 := m_PN fh5 s_oru
              omega
            · rcases Int.lt_trichotomy (dt o s v) 0 with s_osv | s_osv | s_osv
              · have q_g := gp5 o a s r v
                simp only [dt_102 a o s, dt_102 a o r, dt_102 a o v, Int.neg_mul, Int.mul_neg, Int.neg_neg] at q_g
                have q_0 := m_PP fh0 s_orv
                have q_1 := m_PN fh1 s_osv
                have q_2 := m_pp (Int.le_of_lt s_aov) fh2
                omega
              · have q_g := gp5 o a s r v
                simp only [dt_102 a o s, dt_102 a o r, dt_102 a o v, Int.neg_mul, Int.mul_neg, Int.neg_neg] at q_g
                have q_0 := m_PP fh0 s_orv
                have q_1 := m__Z (dt a o r) s_osv
                have q_2 := m_pp (Int.le_of_lt s_aov) fh2
                omega
              · rcases Int.lt_trichotomy (dt o u v) 0 with s_ouv | s_ouv | s_ouv
                · have q_g := gp5 o a s u v
                  simp only [dt_102 a o s, dt_102 a o u, dt_102 a o v, Int.neg_mul, Int.mul_neg, Int.neg_neg] at q_g
                  have q_0 := m_PN fh0 s_ouv
                  have q_1 := m_Z_ (dt o s v) s_aou
                  have q_2 := m_PN s_aov s_osu
                  omega
                · have q_g := gp5 o a s u v
                  simp only [dt_102 a o s, dt_102 a o u, dt_102 a o v, Int.neg_mul, Int.mul_neg, Int.neg_neg] at q_g
                  have q_0 := m__Z (dt a o s) s_ouv
                  have q_1 := m_Z_ (dt o s v) s_aou
                  have q_2 := m_PN s_aov s_osu
                  omega
                · rcases Int.lt_trichotomy (dt s r u) 0 with s_sru | s_sru | s_sru
                  · have q_g := gp5 s a o r u
                    simp only [dt_201 a o s, dt_102 a s r, dt_102 o s u, dt_102 a s u, dt_102 o s r, Int.neg_mul, Int.mul_neg, Int.neg_neg] at q_g
                    have q_0 := m_PN fh0 s_sru
                    have q_1 := m_nn fh3 (Int.le_of_lt s_osu)
                    have q_2 := m_np (Int.le_of_lt s_asu) fh2
                    omega
                  · rcases Int.lt_trichotomy (dt s u v) 0 with s_suv | s_suv | s_suv
                    · exact k4 ⟨(by have q_e := dt_012 o s v; omega), (by have q_e := dt_012 o s u; omega), (by have q_e := dt_120 o u v; omega), (by have q_e := dt_120 s u v; omega)⟩
                    · have q_g := gp5 u a s r v
                      simp only [dt_201 a s u, dt_102 r u v, dt_201 a r u, dt_102 s u v, dt_102 a u v, dt_201 s r u, Int.neg_mul, Int.mul_neg, Int.neg_neg] at q_g
                      have q_0 := m_NN s_asu fh7
                      have q_1 := m__Z (dt a r u) s_suv
                      have q_2 := m__Z (dt a u v) s_sru
                      omega
                    · have q_g := gp5 u a s r v
                      simp only [dt_201 a s u, dt_102 r u v, dt_201 a r u, dt_102 s u v, dt_102 a u v, dt_201 s r u, Int.neg_mul, Int.mul_neg, Int.neg_neg] at q_g
                      have q_0 := m_NN s_asu fh7
                      have q_1 := m_NP fh4 s_suv
                      have q_2 := m__Z (dt a u v) s_sru
                      omega
                  · rcases Int.lt_trichotomy (dt s u v) 0 with s_suv | s_suv | s_suv
                    · exact k4 ⟨(by have q_e := dt_012 o s v; omega), (by have q_e := dt_012 o s u; omega), (by have q_e := dt_120 o u v; omega), (by have q_e := dt_120 s u v; omega)⟩
                    · have q_g := gp5 u a s r v
                      simp only [dt_201 a s u, dt_102 r u v, dt_201 a r u, dt_102 s u v, dt_102 a u v, dt_201 s r u, Int.neg_mul, Int.mul_neg, Int.neg_neg] at q_g
                      have q_0 := m_NN s_asu fh7
                      have q_1 := m__Z (dt a r u) s_suv
                      have q_2 := m_PP fh6 s_sru
                      omega
                    · have q_g := gp5 u a s r v
                      simp only [dt_201 a s u, dt_102 r u v, dt_201 a r u, dt_102 s u v, dt_102 a u v, dt_201 s r u, Int.neg_mul, Int.mul_neg, Int.neg_neg] at q_g
                      have q_0 := m_NN s_asu fh7
                      have q_1 := m_NP fh4 s_suv
                      have q_2 := m_PP fh6 s_sru
                      omega
          · have q_g := gp5 o a s r u
            simp only [dt_102 a o s, dt_102 a o r, dt_102 a o u, Int.neg_mul, Int.mul_neg, Int.neg_neg] at q_g
            have q_0 := m__Z (dt a o s) s_oru
            have q_1 := m_PN fh1 s_osu
            have q_2 := m_Z_ (dt o s r) s_aou
            omega
          · have q_g := gp5 o a s r u
            simp only [dt_102 a o s, dt_102 a o r, dt_102 a o u, Int.neg_mul, Int.mul_neg, Int.neg_neg] at q_g
            have q_0 := m_PP fh0 s_oru
            have q_1 := m_PN fh1 s_osu
            have q_2 := m_Z_ (dt o s r) s_aou
            omega
        · exact k9 (by have q_e := dt_012 a o u; omega) (by have q_e := dt_021 a s u; omega) (by have q_e := dt_201 o s u; omega)
        · exact k9 (by have q_e := dt_012 a o u; omega) (by have q_e := dt_021 a s u; omega) (by have q_e := dt_201 o s u; omega)
      · have q_g := gp5 a o s r u
        have q_0 := m_PN fh0 fh4
        have q_1 := m__Z (dt a o r) s_asu
        have q_2 := m_Z_ (dt a s r) s_aou
        omega
      · have q_g := gp5 a o s r u
        have q_0 := m_PN fh0 fh4
        have q_1 := m_PP fh1 s_asu
        have q_2 := m_Z_ (dt a s r) s_aou
        omega
  · rcases Int.lt_trichotomy (dt a s u) 0 with s_asu | s_asu | s_asu
    · rcases Int.lt_trichotomy (dt o s u) 0 with s_osu | s_osu | s_osu
      · rcases Int.lt_trichotomy (dt o r u) 0 with s_oru | s_oru | s_oru
        · rcases Int.lt_trichotomy (dt o r v) 0 with s_orv | s_orv | s_orv
          · have q_g := gp5 r a o u v
            simp only [dt_201 a o r, dt_102 a r u, dt_102 o r v, dt_102 a r v, dt_102 o r u, Int.neg_mul, Int.mul_neg, Int.neg_neg] at q_g
            have q_0 := m_PN fh1 fh7
            have q_1 := m_NN fh4 s_orv
            have q_2 := m_PN fh5 s_oru
            omega
          · have q_g := gp5 r a o u v
            simp only [dt_201 a o r, dt_102 a r u, dt_102 o r v, dt_102 a r v, dt_102 o r u, Int.neg_mul, Int.mul_neg, Int.neg_neg] at q_g
            have q_0 := m_PN fh1 fh7
            have q_1 := m__Z (dt a r u) s_orv
            have q_2 := m_PN fh5 s_oru
            omega
          · rcases Int.lt_trichotomy (dt o u v) 0 with s_ouv | s_ouv | s_ouv
            · have q_g := gp5 u a o r v
              simp only [dt_201 a o u, dt_102 r u v, dt_201 a r u, dt_102 o u v, dt_102 a u v, dt_201 o r u, Int.neg_mul, Int.mul_neg, Int.neg_neg] at q_g
              have q_0 := m_PN s_aou fh7
              have q_1 := m_NN fh4 s_ouv
              have q_2 := m_PN fh6 s_oru
              omega
            · have q_g := gp5 u a o r v
              simp only [dt_201 a o u, dt_102 r u v, dt_201 a r u, dt_102 o u v, dt_102 a u v, dt_201 o r u, Int.neg_mul, Int.mul_neg, Int.neg_neg] at q_g
              have q_0 := m_PN s_aou fh7
              have q_1 := m__Z (dt a r u) s_ouv
              have q_2 := m_PN fh6 s_oru
              omega
            · rcases Int.lt_trichotomy (dt o s v) 0 with s_osv | s_osv | s_osv
              · have q_g := gp5 o s r u v
                have q_0 := m_pp fh2 (Int.le_of_lt s_ouv)
                have q_1 := m_NP s_osu s_orv
                have q_2 := m_NN s_osv s_oru
                omega
              · have q_g := gp5 o s r u v
                have q_0 := m_pp fh2 (Int.le_of_lt s_ouv)
                have q_1 := m_NP s_osu s_orv
                have q_2 := m_Z_ (dt o r u) s_osv
                omega
              · rcases Int.lt_trichotomy (dt s r u) 0 with s_sru | s_sru | s_sru
                · have q_g := gp5 s a o r u
                  simp only [dt_201 a o s, dt_102 a s r, dt_102 o s u, dt_102 a s u, dt_102 o s r, Int.neg_mul, Int.mul_neg, Int.neg_neg] at q_g
                  have q_0 := m_PN fh0 s_sru
                  have q_1 := m_nn fh3 (Int.le_of_lt s_osu)
                  have q_2 := m_np (Int.le_of_lt s_asu) fh2
                  omega
                · rcases Int.lt_trichotomy (dt s u v) 0 with s_suv | s_suv | s_suv
                  · exact k4 ⟨(by have q_e := dt_012 o s v; omega), (by have q_e := dt_012 o s u; omega), (by have q_e := dt_120 o u v; omega), (by have q_e := dt_120 s u v; omega)⟩
                  · have q_g := gp5 u a s r v
                    simp only [dt_201 a s u, dt_102 r u v, dt_201 a r u, dt_102 s u v, dt_102 a u v, dt_201 s r u, Int.neg_mul, Int.mul_neg, Int.neg_neg] at q_g
                    have q_0 := m_NN s_asu fh7
                    have q_1 := m__Z (dt a r u) s_suv
                    have q_2 := m__Z (dt a u v) s_sru
                    omega
                  · have q_g := gp5 u a s r v
                    simp only [dt_201 a s u, dt_102 r u v, dt_201 a r u, dt_102 s u v, dt_102 a u v, dt_201 s r u, Int.neg_mul, Int.mul_neg, Int.neg_neg] at q_g
                    have q_0 := m_NN s_asu fh7
                    have q_1 := m_NP fh4 s_suv
                    have q_2 := m__Z (dt a u v) s_sru
                    omega
                · rcases Int.lt_trichotomy (dt s u v) 0 with s_suv | s_suv | s_suv
                  · exact k4 ⟨(by have q_e := dt_012 o s v; omega), (by have q_e := dt_012 o s u; omega), (by have q_e := dt_120 o u v; omega), (by have q_e := dt_120 s u v; omega)⟩
                  · have q_g := gp5 u a s r v
                    simp only [dt_201 a s u, dt_102 r u v, dt_201 a r u, dt_102 s u v, dt_102 a u v, dt_201 s r u, Int.neg_mul, Int.mul_neg, Int.neg_neg] at q_g
                    have q_0 := m_NN s_asu fh7
                    have q_1 := m__Z (dt a r u) s_suv
                    have q_2 := m_PP fh6 s_sru
                    omega
                  · have q_g := gp5 u a s r v
                    simp only [dt_201 a s u, dt_102 r u v, dt_201 a r u, dt_102 s u v, dt_102 a u v, dt_201 s r u, Int.neg_mul, Int.mul_neg, Int.neg_neg] at q_g
                    have q_0 := m_NN s_asu fh7
                    have q_1 := m_NP fh4 s_suv
                    have q_2 := m_PP fh6 s_sru
                    omega
        · have q_g := gp5 o a s r u
          simp only [dt_102 a o s, dt_102 a o r, dt_102 a o u, Int.neg_mul, Int.mul_neg, Int.neg_neg] at q_g
          have q_0 := m__Z (dt a o s) s_oru
          have q_1 := m_PN fh1 s_osu
          have q_2 := m_pp (Int.le_of_lt s_aou) fh2
          omega
        · have q_g := gp5 o a s r u
          simp only [dt_102 a o s, dt_102 a o r, dt_102 a o u, Int.neg_mul, Int.mul_neg, Int.neg_neg] at q_g
          have q_0 := m_PP fh0 s_oru
          have q_1 := m_PN fh1 s_osu
          have q_2 := m_pp (Int.le_of_lt s_aou) fh2
          omega
      · exact k0 (by have q_e := dt_012 a o u; omega) (by have q_e := dt_012 o s u; omega) (by have q_e := dt_102 a s u; omega)
      · exact k0 (by have q_e := dt_012 a o u; omega) (by have q_e := dt_012 o s u; omega) (by have q_e := dt_102 a s u; omega)
    · have q_g := gp5 a o s r u
      have q_0 := m_PN fh0 fh4
      have q_1 := m__Z (dt a o r) s_asu
      have q_2 := m_pn (Int.le_of_lt s_aou) fh3
      omega
    · have q_g := gp5 a o s r u
      have q_0 := m_PN fh0 fh4
      have q_1 := m_PP fh1 s_asu
      have q_2 := m_pn (Int.le_of_lt s_aou) fh3
      omega
theorem sl_h2 (a o s t u v : Int × Int × Int) (h0 : 0 < dt a o s) (h1 : dt a o t < 0) (h2 : 0 < dt t s a) (h3 : dt t s o = 0) (h4 : 0 < dt o s u) (h5 : dt o s v < 0) (h6 : 0 < dt v u o) (h7 : dt v u s < 0) (k0 : 0 < dt t s u → dt t s v < 0 → 0 < dt v u t → dt v u s < 0 → False) : False := by
  have fh0 : 0 < dt a o s := by have q_e := dt_012 a o s; omega
  have fh1 : dt a o t < 0 := by have q_e := dt_012 a o t; omega
  have fh2 : dt a s t < 0 := by have q_e := dt_210 a s t; omega
  have fh3 : dt o s t = 0 := by have q_e := dt_210 o s t; omega
  have fh4 : 0 < dt o s u := by have q_e := dt_012 o s u; omega
  have fh5 : dt o s v < 0 := by have q_e := dt_012 o s v; omega
  have fh6 : dt o u v < 0 := by have q_e := dt_210 o u v; omega
  have fh7 : 0 < dt s u v := by have q_e := dt_210 s u v; omega
  rcases Int.lt_trichotomy (dt o t u) 0 with s_otu | s_otu | s_otu
  · rcases Int.lt_trichotomy (dt s t u) 0 with s_stu | s_stu | s_stu
    · rcases Int.lt_trichotomy (dt s t v) 0 with s_stv | s_stv | s_stv
      · have q_g := gp5 s a o t v
        simp only [dt_201 a o s, dt_102 a s t, dt_102 o s v, dt_102 a s v, dt_102 o s t, Int.neg_mul, Int.mul_neg, Int.neg_neg] at q_g
        have q_0 := m_PN fh0 s_stv
        have q_1 := m_NN fh2 fh5
        have q_2 := m__Z (dt a s v) fh3
        omega
      · have q_g := gp5 s a o t v
        simp only [dt_201 a o s, dt_102 a s t, dt_102 o s v, dt_102 a s v, dt_102 o s t, Int.neg_mul, Int.mul_neg, Int.neg_neg] at q_g
        have q_0 := m__Z (dt a o s) s_stv
        have q_1 := m_NN fh2 fh5
        have q_2 := m__Z (dt a s v) fh3
        omega
      · rcases Int.lt_trichotomy (dt t u v) 0 with s_tuv | s_tuv | s_tuv
        · exact k0 (by have q_e := dt_102 s t u; omega) (by have q_e := dt_102 s t v; omega) (by have q_e := dt_210 t u v; omega) (by have q_e := dt_210 s u v; omega)
        · have q_g := gp5 u o s t v
          simp only [dt_201 o s u, dt_102 t u v, dt_201 o t u, dt_102 s u v, dt_102 o u v, dt_201 s t u, Int.neg_mul, Int.mul_neg, Int.neg_neg] at q_g
          have q_0 := m__Z (dt o s u) s_tuv
          have q_1 := m_NP s_otu fh7
          have q_2 := m_NN fh6 s_stu
          omega
        · have q_g := gp5 u o s t v
          simp only [dt_201 o s u, dt_102 t u v, dt_201 o t u, dt_102 s u v, dt_102 o u v, dt_201 s t u, Int.neg_mul, Int.mul_neg, Int.neg_neg] at q_g
          have q_0 := m_PP fh4 s_tuv
          have q_1 := m_NP s_otu fh7
          have q_2 := m_NN fh6 s_stu
          omega
    · have q_g := gp5 s a o t u
      simp only [dt_201 a o s, dt_102 a s t, dt_102 o s u, dt_102 a s u, dt_102 o s t, Int.neg_mul, Int.mul_neg, Int.neg_neg] at q_g
      have q_0 := m__Z (dt a o s) s_stu
      have q_1 := m_NP fh2 fh4
      have q_2 := m__Z (dt a s u) fh3
      omega
    · have q_g := gp5 s a o t u
      simp only [dt_201 a o s, dt_102 a s t, dt_102 o s u, dt_102 a s u, dt_102 o s t, Int.neg_mul, Int.mul_neg, Int.neg_neg] at q_g
      have q_0 := m_PP fh0 s_stu
      have q_1 := m_NP fh2 fh4
      have q_2 := m__Z (dt a s u) fh3
      omega
  · have q_g := gp5 o a s t u
    simp only [dt_102 a o s, dt_102 a o t, dt_102 a o u, Int.neg_mul, Int.mul_neg, Int.neg_neg] at q_g
    have q_0 := m__Z (dt a o s) s_otu
    have q_1 := m_NP fh1 fh4
    have q_2 := m__Z (dt a o u) fh3
    omega
  · have q_g := gp5 o a s t u
    simp only [dt_102 a o s, dt_102 a o t, dt_102 a o u, Int.neg_mul, Int.mul_neg, Int.neg_neg] at q_g
    have q_0 := m_PP fh0 s_otu
    have q_1 := m_NP fh1 fh4
    have q_2 := m__Z (dt a o u) fh3
    omega
theorem sl_h3a (a o s t u v : Int × Int × Int) (w1a : a.2.2 = 1) (wo : 0 < o.2.2) (w1s : s.2.2 = 1) (w1t : t.2.2 = 1) (w1u : u.2.2 = 1) (w1v : v.2.2 = 1) (h0 : 0 < dt a o s) (h1 : dt a o t < 0) (h2 : 0 < dt t s a) (h3 : dt t s o = 0) (h4 : dt u v o = 0) (h5 : 0 < dt a o u) (h6 : dt a o v < 0) (h7 : 0 < dt u v s) (k0 : ¬ xc t s u v) : False := by
  have wa : 0 < a.2.2 := by omega
  have ws : 0 < s.2.2 := by omega
  have wt : 0 < t.2.2 := by omega
  have wu : 0 < u.2.2 := by omega
  have wv : 0 < v.2.2 := by omega
  have fh0 : 0 < dt a o s := by have q_e := dt_012 a o s; omega
  have fh1 : dt a o t < 0 := by have q_e := dt_012 a o t; omega
  have fh2 : dt a s t < 0 := by have q_e := dt_210 a s t; omega
  have fh3 : dt o s t = 0 := by have q_e := dt_210 o s t; omega
  have fh4 : dt o u v = 0 := by have q_e := dt_120 o u v; omega
  have fh5 : 0 < dt a o u := by have q_e := dt_012 a o u; omega
  have fh6 : dt a o v < 0 := by have q_e := dt_012 a o v; omega
  have fh7 : 0 < dt s u v := by have q_e := dt_120 s u v; omega
  rcases Int.lt_trichotomy (dt a u v) 0 with s_auv | s_auv | s_auv
  · rcases Int.lt_trichotomy (dt o s u) 0 with s_osu | s_osu | s_osu
    · have q_g := gp5 u a o s v
      simp only [dt_201 a o u, dt_102 s u v, dt_201 a s u, dt_102 o u v, dt_102 a u v, dt_201 o s u, Int.neg_mul, Int.mul_neg, Int.neg_neg] at q_g
      have q_0 := m_PP fh5 fh7
      have q_1 := m__Z (dt a s u) fh4
      have q_2 := m_NN s_auv s_osu
      omega
    · have q_g := gp5 u a o s v
      simp only [dt_201 a o u, dt_102 s u v, dt_201 a s u, dt_102 o u v, dt_102 a u v, dt_201 o s u, Int.neg_mul, Int.mul_neg, Int.neg_neg] at q_g
      have q_0 := m_PP fh5 fh7
      have q_1 := m__Z (dt a s u) fh4
      have q_2 := m__Z (dt a u v) s_osu
      omega
    · rcases Int.lt_trichotomy (dt o s v) 0 with s_osv | s_osv | s_osv
      · rcases Int.lt_trichotomy (dt a s v) 0 with s_asv | s_asv | s_asv
        · rcases Int.lt_trichotomy (dt o t u) 0 with s_otu | s_otu | s_otu
          · rcases Int.lt_trichotomy (dt s t u) 0 with s_stu | s_stu | s_stu
            · rcases Int.lt_trichotomy (dt s t v) 0 with s_stv | s_stv | s_stv
              · have q_g := gp5 s a o t v
                simp only [dt_201 a o s, dt_102 a s t, dt_102 o s v, dt_102 a s v, dt_102 o s t, Int.neg_mul, Int.mul_neg, Int.neg_neg] at q_g
                have q_0 := m_PN fh0 s_stv
                have q_1 := m_NN fh2 s_osv
                have q_2 := m__Z (dt a s v) fh3
                omega
              · have q_g := gp5 s a o t v
                simp only [dt_201 a o s, dt_102 a s t, dt_102 o s v, dt_102 a s v, dt_102 o s t, Int.neg_mul, Int.mul_neg, Int.neg_neg] at q_g
                have q_0 := m__Z (dt a o s) s_stv
                have q_1 := m_NN fh2 s_osv
                have q_2 := m__Z (dt a s v) fh3
                omega
              · rcases Int.lt_trichotomy (dt t u v) 0 with s_tuv | s_tuv | s_tuv
                · exact k0 ⟨(by have q_e := dt_102 s t u; omega), (by have q_e := dt_102 s t v; omega), (by have q_e := dt_210 t u v; omega), (by have q_e := dt_210 s u v; omega)⟩
                · have q_g := gp5 u a o t v
                  simp only [dt_201 a o u, dt_102 t u v, dt_201 a t u, dt_102 o u v, dt_102 a u v, dt_201 o t u, Int.neg_mul, Int.mul_neg, Int.neg_neg] at q_g
                  have q_0 := m__Z (dt a o u) s_tuv
                  have q_1 := m__Z (dt a t u) fh4
                  have q_2 := m_NN s_auv s_otu
                  omega
                · have q_g := gp5 u a o t v
                  simp only [dt_201 a o u, dt_102 t u v, dt_201 a t u, dt_102 o u v, dt_102 a u v, dt_201 o t u, Int.neg_mul, Int.mul_neg, Int.neg_neg] at q_g
                  have q_0 := m_PP fh5 s_tuv
                  have q_1 := m__Z (dt a t u) fh4
                  have q_2 := m_NN s_auv s_otu
                  omega
            · have q_g := gp5 s a o t u
              simp only [dt_201 a o s, dt_102 a s t, dt_102 o s u, dt_102 a s u, dt_102 o s t, Int.neg_mul, Int.mul_neg, Int.neg_neg] at q_g
              have q_0 := m__Z (dt a o s) s_stu
              have q_1 := m_NP fh2 s_osu
              have q_2 := m__Z (dt a s u) fh3
              omega
            · have q_g := gp5 s a o t u
              simp only [dt_201 a o s, dt_102 a s t, dt_102 o s u, dt_102 a s u, dt_102 o s t, Int.neg_mul, Int.mul_neg, Int.neg_neg] at q_g
              have q_0 := m_PP fh0 s_stu
              have q_1 := m_NP fh2 s_osu
              have q_2 := m__Z (dt a s u) fh3
              omega
          · have q_g := gp5 o a s t u
            simp only [dt_102 a o s, dt_102 a o t, dt_102 a o u, Int.neg_mul, Int.mul_neg, Int.neg_neg] at q_g
            have q_0 := m__Z (dt a o s) s_otu
            have q_1 := m_NP fh1 s_osu
            have q_2 := m__Z (dt a o u) fh3
            omega
          · have q_g := gp5 o a s t u
            simp only [dt_102 a o s, dt_102 a o t, dt_102 a o u, Int.neg_mul, Int.mul_neg, Int.neg_neg] at q_g
            have q_0 := m_PP fh0 s_otu
            have q_1 := m_NP fh1 s_osu
            have q_2 := m__Z (dt a o u) fh3
            omega
        · have q_g := gw4 a o s v
          have q_0 := m_PP wv fh0
          have q_1 := m_PN ws fh6
          have q_2 := m__Z o.2.2 s_asv
          have q_3 := m_PN wa s_osv
          omega
        · have q_g := gw4 a o s v
          have q_0 := m_PP wv fh0
          have q_1 := m_PN ws fh6
          have q_2 := m_PP wo s_asv
          have q_3 := m_PN wa s_osv
          omega
      · have q_g := gp5 o a s u v
        simp only [dt_102 a o s, dt_102 a o u, dt_102 a o v, Int.neg_mul, Int.mul_neg, Int.neg_neg] at q_g
        have q_0 := m__Z (dt a o s) fh4
        have q_1 := m__Z (dt a o u) s_osv
        have q_2 := m_NP fh6 s_osu
        omega
      · have q_g := gp5 o a s u v
        simp only [dt_102 a o s, dt_102 a o u, dt_102 a o v, Int.neg_mul, Int.mul_neg, Int.neg_neg] at q_g
        have q_0 := m__Z (dt a o s) fh4
        have q_1 := m_PP fh5 s_osv
        have q_2 := m_NP fh6 s_osu
        omega
  · have q_g := gp5 u a o s v
    simp only [dt_201 a o u, dt_102 s u v, dt_201 a s u, dt_102 o u v, dt_102 a u v, dt_201 o s u, Int.neg_mul, Int.mul_neg, Int.neg_neg] at q_g
    have q_0 := m_PP fh5 fh7
    have q_1 := m__Z (dt a s u) fh4
    have q_2 := m_Z_ (dt o s u) s_auv
    omega
  · have q_g := gw4 a o u v
    have q_0 := m_PP wv fh5
    have q_1 := m_PN wu fh6
    have q_2 := m_PP wo s_auv
    have q_3 := m__Z a.2.2 fh4
    omega
theorem sl_h3b (a o s t u v : Int × Int × Int) (w1a : a.2.2 = 1) (wo : 0 < o.2.2) (w1s : s.2.2 = 1) (w1t : t.2.2 = 1) (w1u : u.2.2 = 1) (w1v : v.2.2 = 1) (h0 : 0 < dt a o s) (h1 : dt a o t < 0) (h2 : 0 < dt t s a) (h3 : dt t s o = 0) (h4 : dt u v o = 0) (h5 : 0 < dt a o u) (h6 : dt a o v < 0) (h7 : dt u v s < 0) (k1 : ¬ xc t s v u) : False := by
  have wa : 0 < a.2.2 := by omega
  have ws : 0 < s.2.2 := by omega
  have wt : 0 < t.2.2 := by omega
  have wu : 0 < u.2.2 := by omega
  have wv : 0 < v.2.2 := by omega
  have fh0 : 0 < dt a o s := by have q_e := dt_012 a o s; omega
  have fh1 : dt a o t < 0 := by have q_e := dt_012 a o t; omega
  have fh2 : dt a s t < 0 := by have q_e := dt_210 a s t; omega
  have fh3 : dt o s t = 0 := by have q_e := dt_210 o s t; omega
  have fh4 : dt o u v = 0 := by have q_e := dt_120 o u v; omega
  have fh5 : 0 < dt a o u := by have q_e := dt_012 a o u; omega
  have fh6 : dt a o v < 0 := by have q_e := dt_012 a o v; omega
  have fh7 : dt s u v < 0 := by have q_e := dt_120 s u v; omega
  rcases Int.lt_trichotomy (dt a u v) 0 with s_auv | s_auv | s_auv
  · rcases Int.lt_trichotomy (dt o s u) 0 with s_osu | s_osu | s_osu
    · rcases Int.lt_trichotomy (dt o s v) 0 with s_osv | s_osv | s_osv
      · have q_g := gp5 o a s u v
        simp only [dt_102 a o s, dt_102 a o u, dt_102 a o v, Int.neg_mul, Int.mul_neg, Int.neg_neg] at q_g
        have q_0 := m__Z (dt a o s) fh4
        have q_1 := m_PN fh5 s_osv
        have q_2 := m_NN fh6 s_osu
        omega
      · have q_g := gp5 o a s u v
        simp only [dt_102 a o s, dt_102 a o u, dt_102 a o v, Int.neg_mul, Int.mul_neg, Int.neg_neg] at q_g
        have q_0 := m__Z (dt a o s) fh4
        have q_1 := m__Z (dt a o u) s_osv
        have q_2 := m_NN fh6 s_osu
        omega
      · rcases Int.lt_trichotomy (dt o t u) 0 with s_otu | s_otu | s_otu
        · have q_g := gp5 o a s t u
          simp only [dt_102 a o s, dt_102 a o t, dt_102 a o u, Int.neg_mul, Int.mul_neg, Int.neg_neg] at q_g
          have q_0 := m_PN fh0 s_otu
          have q_1 := m_NN fh1 s_osu
          have q_2 := m__Z (dt a o u) fh3
          omega
        · have q_g := gp5 o a s t u
          simp only [dt_102 a o s, dt_102 a o t, dt_102 a o u, Int.neg_mul, Int.mul_neg, Int.neg_neg] at q_g
          have q_0 := m__Z (dt a o s) s_otu
          have q_1 := m_NN fh1 s_osu
          have q_2 := m__Z (dt a o u) fh3
          omega
        · rcases Int.lt_trichotomy (dt a t u) 0 with s_atu | s_atu | s_atu
          · have q_g := gw4 a o t u
            have q_0 := m_PN wu fh1
            have q_1 := m_PP wt fh5
            have q_2 := m_PN wo s_atu
            have q_3 := m_PP wa s_otu
            omega
          · have q_g := gw4 a o t u
            have q_0 := m_PN wu fh1
            have q_1 := m_PP wt fh5
            have q_2 := m__Z o.2.2 s_atu
            have q_3 := m_PP wa s_otu
            omega
          · rcases Int.lt_trichotomy (dt s t u) 0 with s_stu | s_stu | s_stu
            · have q_g := gp5 s a o t u
              simp only [dt_201 a o s, dt_102 a s t, dt_102 o s u, dt_102 a s u, dt_102 o s t, Int.neg_mul, Int.mul_neg, Int.neg_neg] at q_g
              have q_0 := m_PN fh0 s_stu
              have q_1 := m_NN fh2 s_osu
              have q_2 := m__Z (dt a s u) fh3
              omega
            · have q_g := gp5 s a o t u
              simp only [dt_201 a o s, dt_102 a s t, dt_102 o s u, dt_102 a s u, dt_102 o s t, Int.neg_mul, Int.mul_neg, Int.neg_neg] at q_g
              have q_0 := m__Z (dt a o s) s_stu
              have q_1 := m_NN fh2 s_osu
              have q_2 := m__Z (dt a s u) fh3
              omega
            · rcases Int.lt_trichotomy (dt s t v) 0 with s_stv | s_stv | s_stv
              · rcases Int.lt_trichotomy (dt t u v) 0 with s_tuv | s_tuv | s_tuv
                · have q_g := gp5 u a o t v
                  simp only [dt_201 a o u, dt_102 t u v, dt_201 a t u, dt_102 o u v, dt_102 a u v, dt_201 o t u, Int.neg_mul, Int.mul_neg, Int.neg_neg] at q_g
                  have q_0 := m_PN fh5 s_tuv
                  have q_1 := m__Z (dt a t u) fh4
                  have q_2 := m_NP s_auv s_otu
                  omega
                · have q_g := gp5 u a o t v
                  simp only [dt_201 a o u, dt_102 t u v, dt_201 a t u, dt_102 o u v, dt_102 a u v, dt_201 o t u, Int.neg_mul, Int.mul_neg, Int.neg_neg] at q_g
                  have q_0 := m__Z (dt a o u) s_tuv
                  have q_1 := m__Z (dt a t u) fh4
                  have q_2 := m_NP s_auv s_otu
                  omega
                · exact k1 ⟨(by have q_e := dt_102 s t v; omega), (by have q_e := dt_102 s t u; omega), (by have q_e := dt_120 t u v; omega), (by have q_e := dt_120 s u v; omega)⟩
              · have q_g := gp5 s a o t v
                simp only [dt_201 a o s, dt_102 a s t, dt_102 o s v, dt_102 a s v, dt_102 o s t, Int.neg_mul, Int.mul_neg, Int.neg_neg] at q_g
                have q_0 := m__Z (dt a o s) s_stv
                have q_1 := m_NP fh2 s_osv
                have q_2 := m__Z (dt a s v) fh3
                omega
              · have q_g := gp5 s a o t v
                simp only [dt_201 a o s, dt_102 a s t, dt_102 o s v, dt_102 a s v, dt_102 o s t, Int.neg_mul, Int.mul_neg, Int.neg_neg] at q_g
                have q_0 := m_PP fh0 s_stv
                have q_1 := m_NP fh2 s_osv
                have q_2 := m__Z (dt a s v) fh3
                omega
    · have q_g := gp5 u a o s v
      simp only [dt_201 a o u, dt_102 s u v, dt_201 a s u, dt_102 o u v, dt_102 a u v, dt_201 o s u, Int.neg_mul, Int.mul_neg, Int.neg_neg] at q_g
      have q_0 := m_PN fh5 fh7
      have q_1 := m__Z (dt a s u) fh4
      have q_2 := m__Z (dt a u v) s_osu
      omega
    · have q_g := gp5 u a o s v
      simp only [dt_201 a o u, dt_102 s u v, dt_201 a s u, dt_102 o u v, dt_102 a u v, dt_201 o s u, Int.neg_mul, Int.mul_neg, Int.neg_neg] at q_g
      have q_0 := m_PN fh5 fh7
      have q_1 := m__Z (dt a s u) fh4
      have q_2 := m_NP s_auv s_osu
      omega
  · have q_g := gp5 u a o s v
    simp only [dt_201 a o u, dt_102 s u v, dt_201 a s u, dt_102 o u v, dt_102 a u v, dt_201 o s u, Int.neg_mul, Int.mul_neg, Int.neg_neg] at q_g
    have q_0 := m_PN fh5 fh7
    have q_1 := m__Z (dt a s u) fh4
    have q_2 := m_Z_ (dt o s u) s_auv
    omega
  · have q_g := gw4 a o u v
    have q_0 := m_PP wv fh5
    have q_1 := m_PN wu fh6
    have q_2 := m_PP wo s_auv
    have q_3 := m__Z a.2.2 fh4
    omega
theorem sl_h4 (a o q s p : Int × Int × Int) (w1a : a.2.2 = 1) (wo : 0 < o.2.2) (w1q : q.2.2 = 1) (w1s : s.2.2 = 1) (w1p : p.2.2 = 1) (h0 : dt a q o = 0) (h1 : 0 < dt a o s) (h2 : 0 < dt o q s) (h3 : 0 < dt a p s) (h4 : 0 ≤ dt p o s) (h6 : dt p q s ≤ 0) : False := by
  have wa : 0 < a.2.2 := by omega
  have wq : 0 < q.2.2 := by omega
  have ws : 0 < s.2.2 := by omega
  have wp : 0 < p.2.2 := by omega
  have fh0 : dt a o q = 0 := by have q_e := dt_021 a o q; omega
  have fh1 : 0 < dt a o s := by have q_e := dt_012 a o s; omega
  have fh2 : 0 < dt o q s := by have q_e := dt_012 o q s; omega
  have fh3 : dt a s p < 0 := by have q_e := dt_021 a s p; omega
  have fh4 : 0 ≤ dt o s p := by have q_e := dt_201 o s p; omega
  have fh6 : dt q s p ≤ 0 := by have q_e := dt_201 q s p; omega
  rcases Int.lt_trichotomy (dt a q s) 0 with s_aqs | s_aqs | s_aqs
  · have q_g := gw4 a o q s
    have q_0 := m__Z s.2.2 fh0
    have q_1 := m_PP wq fh1
    have q_2 := m_PN wo s_aqs
    have q_3 := m_PP wa fh2
    omega
  · have q_g := gp5 s a o q p
    simp only [dt_201 a o s, dt_102 q s p, dt_201 a q s, dt_102 o s p, dt_102 a s p, dt_201 o q s, Int.neg_mul, Int.mul_neg, Int.neg_neg] at q_g
    have q_0 := m_pn (Int.le_of_lt fh1) fh6
    have q_1 := m_Z_ (dt o s p) s_aqs
    have q_2 := m_NP fh3 fh2
    omega
  · have q_g := gp5 s a o q p
    simp only [dt_201 a o s, dt_102 q s p, dt_201 a q s, dt_102 o s p, dt_102 a s p, dt_201 o q s, Int.neg_mul, Int.mul_neg, Int.neg_neg] at q_g
    have q_0 := m_pn (Int.le_of_lt fh1) fh6
    have q_1 := m_pp (Int.le_of_lt s_aqs) fh4
    have q_2 := m_NP fh3 fh2
    omega
theorem sl_m1 (a b q s t r : Int × Int × Int) (h0 : 0 < dt a b q) (h1 : 0 < dt a q s) (h5 : 0 < dt a q r) (h7 : 0 ≤ dt s a r) (h8 : 0 < dt a b s) (h9 : dt a b r ≤ 0) : False := by
  have fh0 : 0 < dt a b q := by have q_e := dt_012 a b q; omega
  have fh1 : 0 < dt a q s := by have q_e := dt_012 a q s; omega
  have fh5 : 0 < dt a q r := by have q_e := dt_012 a q r; omega
  have fh7 : dt a s r ≤ 0 := by have q_e := dt_102 a s r; omega
  have fh8 : 0 < dt a b s := by have q_e := dt_012 a b s; omega
  have fh9 : dt a b r ≤ 0 := by have q_e := dt_012 a b r; omega
  rcases (show dt a b r < 0 ∨ dt a b r = 0 by omega) with s_abr | s_abr
  · have q_g := gp5 a b q s r
    have q_0 := m_pn (Int.le_of_lt fh0) fh7
    have q_1 := m_PP fh8 fh5
    have q_2 := m_NP s_abr fh1
    omega
  · have q_g := gp5 a b q s r
    have q_0 := m_pn (Int.le_of_lt fh0) fh7
    have q_1 := m_PP fh8 fh5
    have q_2 := m_Z_ (dt a q s) s_abr
    omega
theorem sl_m2 (a b q s t : Int × Int × Int) (h0 : 0 < dt a b q) (h1 : 0 < dt a q s) (h2 : dt a q t < 0) (h3 : 0 < dt t s a) (h5 : dt a b s ≤ 0) (h6 : dt a b t ≤ 0) : False := by
  have fh0 : 0 < dt a b q := by have q_e := dt_012 a b q; omega
  have fh1 : 0 < dt a q s := by have q_e := dt_012 a q s; omega
  have fh2 : dt a q t < 0 := by have q_e := dt_012 a q t; omega
  have fh3 : dt a s t < 0 := by have q_e := dt_210 a s t; omega
  have fh5 : dt a b s ≤ 0 := by have q_e := dt_012 a b s; omega
  have fh6 : dt a b t ≤ 0 := by have q_e := dt_012 a b t; omega
  rcases (show dt a b s < 0 ∨ dt a b s = 0 by omega) with s_abs | s_abs
  · have q_g := gp5 a b q s t
    have q_0 := m_PN fh0 fh3
    have q_1 := m_NN s_abs fh2
    have q_2 := m_np fh6 (Int.le_of_lt fh1)
    omega
  · have q_g := gp5 a b q s t
    have q_0 := m_PN fh0 fh3
    have q_1 := m_Z_ (dt a q t) s_abs
    have q_2 := m_np fh6 (Int.le_of_lt fh1)
    omega
theorem sl_m3 (a b q s t r : Int × Int × Int) (h0 : 0 < dt a b q) (h2 : dt a q t < 0) (h5 : dt a q r < 0) (h7 : 0 ≤ dt a t r) (h8 : 0 < dt a b t) (h9 : dt a b r ≤ 0) : False := by
  have fh0 : 0 < dt a b q := by have q_e := dt_012 a b q; omega
  have fh2 : dt a q t < 0 := by have q_e := dt_012 a q t; omega
  have fh5 : dt a q r < 0 := by have q_e := dt_012 a q r; omega
  have fh7 : 0 ≤ dt a t r := by have q_e := dt_012 a t r; omega
  have fh8 : 0 < dt a b t := by have q_e := dt_012 a b t; omega
  have fh9 : dt a b r ≤ 0 := by have q_e := dt_012 a b r; omega
  rcases (show dt a b r < 0 ∨ dt a b r = 0 by omega) with s_abr | s_abr
  · have q_g := gp5 a b q t r
    have q_0 := m_pp (Int.le_of_lt fh0) fh7
    have q_1 := m_PN fh8 fh5
    have q_2 := m_NN s_abr fh2
    omega
  · have q_g := gp5 a b q t r
    have q_0 := m_pp (Int.le_of_lt fh0) fh7
    have q_1 := m_PN fh8 fh5
    have q_2 := m_Z_ (dt a q t) s_abr
    omega
theorem sl_m4 (a b c q s : Int × Int × Int) (h0 : 0 < dt a b q) (h1 : 0 < dt a q c) (h2 : 0 < dt a q s) (h3 : 0 < dt a s c) (h4 : 0 < dt a b c) (h5 : dt a b s ≤ 0) : False := by
  have fh0 : 0 < dt a b q := by have q_e := dt_012 a b q; omega
  have fh1 : dt a c q < 0 := by have q_e := dt_021 a c q; omega
  have fh2 : 0 < dt a q s := by have q_e := dt_012 a q s; omega
  have fh3 : dt a c s < 0 := by have q_e := dt_021 a c s; omega
  have fh4 : 0 < dt a b c := by have q_e := dt_012 a b c; omega
  have fh5 : dt a b s ≤ 0 := by have q_e := dt_012 a b s; omega
  rcases (show dt a b s < 0 ∨ dt a b s = 0 by omega) with s_abs | s_abs
  · have q_g := gp5 a b c q s
    have q_0 := m_PP fh4 fh2
    have q_1 := m_PN fh0 fh3
    have q_2 := m_NN s_abs fh1
    omega
  · have q_g := gp5 a b c q s
    have q_0 := m_PP fh4 fh2
    have q_1 := m_PN fh0 fh3
    have q_2 := m_Z_ (dt a c q) s_abs
    omega
theorem sl_m5 (a c q s r : Int × Int × Int) (h0 : 0 < dt a q s) (h1 : 0 < dt a s c) (h2 : 0 < dt a q c) (h3 : 0 < dt a q r) (h4 : 0 ≤ dt s a r) (h5 : dt a r c ≤ 0) : False := by
  have fh0 : 0 < dt a q s := by have q_e := dt_012 a q s; omega
  have fh1 : dt a c s < 0 := by have q_e := dt_021 a c s; omega
  have fh2 : dt a c q < 0 := by have q_e := dt_021 a c q; omega
  have fh3 : 0 < dt a q r := by have q_e := dt_012 a q r; omega
  have fh4 : dt a s r ≤ 0 := by have q_e := dt_102 a s r; omega
  have fh5 : 0 ≤ dt a c r := by have q_e := dt_021 a c r; omega
  rcases (show dt a c r = 0 ∨ 0 < dt a c r by omega) with s_acr | s_acr
  · have q_g := gp5 a c q s r
    have q_0 := m_nn (Int.le_of_lt fh2) fh4
    have q_1 := m_NP fh1 fh3
    have q_2 := m_Z_ (dt a q s) s_acr
    omega
  · have q_g := gp5 a c q s r
    have q_0 := m_nn (Int.le_of_lt fh2) fh4
    have q_1 := m_NP fh1 fh3
    have q_2 := m_PP s_acr fh0
    omega
theorem sl_m6 (a b q t r : Int × Int × Int) (h0 : 0 < dt a b t) (h1 : dt a q t < 0) (h2 : 0 < dt a b q) (h3 : dt a q r < 0) (h4 : 0 ≤ dt a t r) (h5 : dt a b r ≤ 0) : False := by
  have fh0 : 0 < dt a b t := by have q_e := dt_012 a b t; omega
  have fh1 : dt a q t < 0 := by have q_e := dt_012 a q t; omega
  have fh2 : 0 < dt a b q := by have q_e := dt_012 a b q; omega
  have fh3 : dt a q r < 0 := by have q_e := dt_012 a q r; omega
  have fh4 : 0 ≤ dt a t r := by have q_e := dt_012 a t r; omega
  have fh5 : dt a b r ≤ 0 := by have q_e := dt_012 a b r; omega
  rcases (show dt a b r < 0 ∨ dt a b r = 0 by omega) with s_abr | s_abr
  · have q_g := gp5 a b q t r
    have q_0 := m_pp (Int.le_of_lt fh2) fh4
    have q_1 := m_PN fh0 fh3
    have q_2 := m_NN s_abr fh1
    omega
  · have q_g := gp5 a b q t r
    have q_0 := m_pp (Int.le_of_lt fh2) fh4
    have q_1 := m_PN fh0 fh3
    have q_2 := m_Z_ (dt a q t) s_abr
    omega
theorem sl_m7 (a b c q r : Int × Int × Int) (h0 : 0 < dt a b r) (h1 : 0 < dt a b c) (h2 : 0 < dt a b q) (h3 : dt a q r < 0) (h4 : 0 < dt a q c) (h5 : dt a r c ≤ 0) : False := by
  have fh0 : 0 < dt a b r := by have q_e := dt_012 a b r; omega
  have fh1 : 0 < dt a b c := by have q_e := dt_012 a b c; omega
  have fh2 : 0 < dt a b q := by have q_e := dt_012 a b q; omega
  have fh3 : dt a q r < 0 := by have q_e := dt_012 a q r; omega
  have fh4 : dt a c q < 0 := by have q_e := dt_021 a c q; omega
  have fh5 : 0 ≤ dt a c r := by have q_e := dt_021 a c r; omega
  rcases (show dt a c r = 0 ∨ 0 < dt a c r by omega) with s_acr | s_acr
  · have q_g := gp5 a b c q r
    have q_0 := m_PN fh1 fh3
    have q_1 := m__Z (dt a b q) s_acr
    have q_2 := m_PN fh0 fh4
    omega
  · have q_g := gp5 a b c q r
    have q_0 := m_PN fh1 fh3
    have q_1 := m_PP fh2 s_acr
    have q_2 := m_PN fh0 fh4
    omega
theorem sl_m8 (a b c q s t : Int × Int × Int) (w1a : a.2.2 = 1) (w1b : b.2.2 = 1) (w1c : c.2.2 = 1) (w1s : s.2.2 = 1) (w1t : t.2.2 = 1) (h0 : 0 < dt a b c) (h1 : 0 < dt a b q) (h2 : 0 < dt a q c) (h3 : 0 ≤ dt b c q) (h4 : 0 < dt a q s) (h5 : dt a q t < 0) (h6 : 0 < dt t s a) (h7 : dt t s q < 0) (h8 : dt a s c ≤ 0) (h9 : dt a b t ≤ 0) (k0 : ¬ xc t s a c) (k2 : ¬ xc t s a b) (k5 : ¬ cov a c s) (k6 : ¬ cov a b t) (k8 : ¬ cov t s c) (k10 : ¬ cov t s b) : False := by
  have fh0 : 0 < dt a b c := by have q_e := dt_012 a b c; omega
  have fh1 : 0 < dt a b q := by have q_e := dt_012 a b q; omega
  have fh2 : dt a c q < 0 := by have q_e := dt_021 a c q; omega
  have fh3 : 0 ≤ dt b c q := by have q_e := dt_012 b c q; omega
  have fh4 : 0 < dt a q s := by have q_e := dt_012 a q s; omega
  have fh5 : dt a q t < 0 := by have q_e := dt_012 a q t; omega
  have fh6 : dt a s t < 0 := by have q_e := dt_210 a s t; omega
  have fh7 : 0 < dt q s t := by have q_e := dt_210 q s t; omega
  have fh8 : 0 ≤ dt a c s := by have q_e := dt_021 a c s; omega
  have fh9 : dt a b t ≤ 0 := by have q_e := dt_012 a b t; omega
  rcases Int.lt_trichotomy (dt a b s) 0 with s_abs | s_abs | s_abs
  · have q_g := gp5 a b q s t
    have q_0 := m_PN fh1 fh6
    have q_1 := m_NN s_abs fh5
    have q_2 := m_np fh9 (Int.le_of_lt fh4)
    omega
  · have q_g := gp5 a b c s t
    have q_0 := m_PN fh0 fh6
    have q_1 := m_Z_ (dt a c t) s_abs
    have q_2 := m_np fh9 fh8
    omega
  · rcases Int.lt_trichotomy (dt a c t) 0 with s_act | s_act | s_act
    · rcases Int.lt_trichotomy (dt c s t) 0 with s_cst | s_cst | s_cst
      · rcases Int.lt_trichotomy (dt c q s) 0 with s_cqs | s_cqs | s_cqs
        · have q_g := gp5 s a c q t
          simp only [dt_201 a c s, dt_102 q s t, dt_201 a q s, dt_102 c s t, dt_102 a s t, dt_201 c q s, Int.neg_mul, Int.mul_neg, Int.neg_neg] at q_g
          have q_0 := m_pp fh8 (Int.le_of_lt fh7)
          have q_1 := m_PN fh4 s_cst
          have q_2 := m_NN fh6 s_cqs
          omega
        · have q_g := gp5 s a c q t
          simp only [dt_201 a c s, dt_102 q s t, dt_201 a q s, dt_102 c s t, dt_102 a s t, dt_201 c q s, Int.neg_mul, Int.mul_neg, Int.neg_neg] at q_g
          have q_0 := m_pp fh8 (Int.le_of_lt fh7)
          have q_1 := m_PN fh4 s_cst
          have q_2 := m__Z (dt a s t) s_cqs
          omega
        · rcases Int.lt_trichotomy (dt b c s) 0 with s_bcs | s_bcs | s_bcs
          · rcases Int.lt_trichotomy (dt b q s) 0 with s_bqs | s_bqs | s_bqs
            · rcases Int.lt_trichotomy (dt b q t) 0 with s_bqt | s_bqt | s_bqt
              · have q_g := gp5 q a b s t
                simp only [dt_201 a b q, dt_102 a q s, dt_102 b q t, dt_102 a q t, dt_102 b q s, Int.neg_mul, Int.mul_neg, Int.neg_neg] at q_g
                have q_0 := m_PP fh1 fh7
                have q_1 := m_PN fh4 s_bqt
                have q_2 := m_NN fh5 s_bqs
                omega
              · have q_g := gp5 q a b s t
                simp only [dt_201 a b q, dt_102 a q s, dt_102 b q t, dt_102 a q t, dt_102 b q s, Int.neg_mul, Int.mul_neg, Int.neg_neg] at q_g
                have q_0 := m_PP fh1 fh7
                have q_1 := m__Z (dt a q s) s_bqt
                have q_2 := m_NN fh5 s_bqs
                omega
              · rcases Int.lt_trichotomy (dt b s t) 0 with s_bst | s_bst | s_bst
                · have q_g := gp5 s a b q t
                  simp only [dt_201 a b s, dt_102 q s t, dt_201 a q s, dt_102 b s t, dt_102 a s t, dt_201 b q s, Int.neg_mul, Int.mul_neg, Int.neg_neg] at q_g
                  have q_0 := m_PP s_abs fh7
                  have q_1 := m_PN fh4 s_bst
                  have q_2 := m_NN fh6 s_bqs
                  omega
                · have q_g := gp5 s a b q t
                  simp only [dt_201 a b s, dt_102 q s t, dt_201 a q s, dt_102 b s t, dt_102 a s t, dt_201 b q s, Int.neg_mul, Int.mul_neg, Int.neg_neg] at q_g
                  have q_0 := m_PP s_abs fh7
                  have q_1 := m__Z (dt a q s) s_bst
                  have q_2 := m_NN fh6 s_bqs
                  omega
                · rcases (show dt a b t < 0 ∨ dt a b t = 0 by omega) with s_abt | s_abt
                  · exact k2 ⟨(by have q_e := dt_210 a s t; omega), (by have q_e := dt_210 b s t; omega), (by have q_e := dt_102 a b t; omega), (by have q_e := dt_102 a b s; omega)⟩
                  · rcases Int.lt_trichotomy (dt b c t) 0 with s_bct | s_bct | s_bct
                    · have q_g := gp5 b a c q t
                      simp only [dt_102 a b c, dt_102 a b q, dt_102 a b t, Int.neg_mul, Int.mul_neg, Int.neg_neg] at q_g
                      have q_0 := m_PP fh0 s_bqt
                      have q_1 := m_PN fh1 s_bct
                      have q_2 := m_Z_ (dt b c q) s_abt
                      omega
                    · have q_g := gp5 b a c q t
                      simp only [dt_102 a b c, dt_102 a b q, dt_102 a b t, Int.neg_mul, Int.mul_neg, Int.neg_neg] at q_g
                      have q_0 := m_PP fh0 s_bqt
                      have q_1 := m__Z (dt a b q) s_bct
                      have q_2 := m_Z_ (dt b c q) s_abt
                      omega
                    · exact k6 (cov_p (z := c) w1a w1b w1t (by have q_e := dt_012 a b t; omega) (by have q_e := dt_021 a c t; omega) (by have q_e := dt_201 b c t; omega))
            · have q_g := gp5 b a c q s
              simp only [dt_102 a b c, dt_102 a b q, dt_102 a b s, Int.neg_mul, Int.mul_neg, Int.neg_neg] at q_g
              have q_0 := m__Z (dt a b c) s_bqs
              have q_1 := m_PN fh1 s_bcs
              have q_2 := m_pp (Int.le_of_lt s_abs) fh3
              omega
            · have q_g := gp5 b a c q s
              simp only [dt_102 a b c, dt_102 a b q, dt_102 a b s, Int.neg_mul, Int.mul_neg, Int.neg_neg] at q_g
              have q_0 := m_PP fh0 s_bqs
              have q_1 := m_PN fh1 s_bcs
              have q_2 := m_pp (Int.le_of_lt s_abs) fh3
              omega
          · have q_g := gp5 c a b q s
            simp only [dt_201 a b c, dt_102 a c q, dt_102 b c s, dt_102 a c s, dt_102 b c q, Int.neg_mul, Int.mul_neg, Int.neg_neg] at q_g
            have q_0 := m_PP fh0 s_cqs
            have q_1 := m__Z (dt a c q) s_bcs
            have q_2 := m_pp fh8 fh3
            omega
          · have q_g := gp5 c a b q s
            simp only [dt_201 a b c, dt_102 a c q, dt_102 b c s, dt_102 a c s, dt_102 b c q, Int.neg_mul, Int.mul_neg, Int.neg_neg] at q_g
            have q_0 := m_PP fh0 s_cqs
            have q_1 := m_NP fh2 s_bcs
            have q_2 := m_pp fh8 fh3
            omega
      · rcases (show dt a c s = 0 ∨ 0 < dt a c s by omega) with s_acs | s_acs
        · rcases Int.lt_trichotomy (dt b c s) 0 with s_bcs | s_bcs | s_bcs
          · have q_g := gp5 c a b s t
            simp only [dt_201 a b c, dt_102 a c s, dt_102 b c t, dt_102 a c t, dt_102 b c s, Int.neg_mul, Int.mul_neg, Int.neg_neg] at q_g
            have q_0 := m__Z (dt a b c) s_cst
            have q_1 := m_Z_ (dt b c t) s_acs
            have q_2 := m_NN s_act s_bcs
            omega
          · rcases Int.lt_trichotomy (dt c q s) 0 with s_cqs | s_cqs | s_cqs
            · have q_g := gp5 c a b q s
              simp only [dt_201 a b c, dt_102 a c q, dt_102 b c s, dt_102 a c s, dt_102 b c q, Int.neg_mul, Int.mul_neg, Int.neg_neg] at q_g
              have q_0 := m_PN fh0 s_cqs
              have q_1 := m__Z (dt a c q) s_bcs
              have q_2 := m_Z_ (dt b c q) s_acs
              omega
            · rcases Int.lt_trichotomy (dt c q t) 0 with s_cqt | s_cqt | s_cqt
              · rcases Int.lt_trichotomy (dt b c t) 0 with s_bct | s_bct | s_bct
                · have q_g := gp5 c a b q t
                  simp only [dt_201 a b c, dt_102 a c q, dt_102 b c t, dt_102 a c t, dt_102 b c q, Int.neg_mul, Int.mul_neg, Int.neg_neg] at q_g
                  have q_0 := m_PN fh0 s_cqt
                  have q_1 := m_NN fh2 s_bct
                  have q_2 := m_np (Int.le_of_lt s_act) fh3
                  omega
                · have q_g := gp5 c a b q t
                  simp only [dt_201 a b c, dt_102 a c q, dt_102 b c t, dt_102 a c t, dt_102 b c q, Int.neg_mul, Int.mul_neg, Int.neg_neg] at q_g
                  have q_0 := m_PN fh0 s_cqt
                  have q_1 := m__Z (dt a c q) s_bct
                  have q_2 := m_np (Int.le_of_lt s_act) fh3
                  omega
                · rcases (show dt a b t < 0 ∨ dt a b t = 0 by omega) with s_abt | s_abt
                  · rcases Int.lt_trichotomy (dt b s t) 0 with s_bst | s_bst | s_bst
                    · have q_g := gp5 b a c s t
                      simp only [dt_102 a b c, dt_102 a b s, dt_102 a b t, Int.neg_mul, Int.mul_neg, Int.neg_neg] at q_g
                      have q_0 := m_PN fh0 s_bst
                      have q_1 := m_PP s_abs s_bct
                      have q_2 := m__Z (dt a b t) s_bcs
                      omega
                    · exact k10 (cov_p (z := a) w1t w1s w1b (by have q_e := dt_210 b s t; omega) (by have q_e := dt_210 a b t; omega) (by have q_e := dt_120 a b s; omega))
                    · exact k2 ⟨(by have q_e := dt_210 a s t; omega), (by have q_e := dt_210 b s t; omega), (by have q_e := dt_102 a b t; omega), (by have q_e := dt_102 a b s; omega)⟩
                  · exact k6 (cov_p (z := c) w1a w1b w1t (by have q_e := dt_012 a b t; omega) (by have q_e := dt_021 a c t; omega) (by have q_e := dt_201 b c t; omega))
              · have q_g := gp5 q a c s t
                simp only [dt_201 a c q, dt_102 a q s, dt_102 c q t, dt_102 a q t, dt_102 c q s, Int.neg_mul, Int.mul_neg, Int.neg_neg] at q_g
                have q_0 := m_NP fh2 fh7
                have q_1 := m__Z (dt a q s) s_cqt
                have q_2 := m__Z (dt a q t) s_cqs
                omega
              · have q_g := gp5 q a c s t
                simp only [dt_201 a c q, dt_102 a q s, dt_102 c q t, dt_102 a q t, dt_102 c q s, Int.neg_mul, Int.mul_neg, Int.neg_neg] at q_g
                have q_0 := m_NP fh2 fh7
                have q_1 := m_PP fh4 s_cqt
                have q_2 := m__Z (dt a q t) s_cqs
                omega
            · have q_g := gp5 c a b q s
              simp only [dt_201 a b c, dt_102 a c q, dt_102 b c s, dt_102 a c s, dt_102 b c q, Int.neg_mul, Int.mul_neg, Int.neg_neg] at q_g
              have q_0 := m_PP fh0 s_cqs
              have q_1 := m__Z (dt a c q) s_bcs
              have q_2 := m_Z_ (dt b c q) s_acs
              omega
          · exact k5 (cov_n (z := b) w1a w1c w1s (by have q_e := dt_012 a c s; omega) (by have q_e := dt_021 a b s; omega) (by have q_e := dt_210 b c s; omega))
        · exact k8 (cov_p (z := a) w1t w1s w1c (by have q_e := dt_210 c s t; omega) (by have q_e := dt_210 a c t; omega) (by have q_e := dt_120 a c s; omega))
      · rcases (show dt a c s = 0 ∨ 0 < dt a c s by omega) with s_acs | s_acs
        · rcases Int.lt_trichotomy (dt b c s) 0 with s_bcs | s_bcs | s_bcs
          · have q_g := gp5 c a b s t
            simp only [dt_201 a b c, dt_102 a c s, dt_102 b c t, dt_102 a c t, dt_102 b c s, Int.neg_mul, Int.mul_neg, Int.neg_neg] at q_g
            have q_0 := m_PP fh0 s_cst
            have q_1 := m_Z_ (dt b c t) s_acs
            have q_2 := m_NN s_act s_bcs
            omega
          · have q_g := gp5 c a b s t
            simp only [dt_201 a b c, dt_102 a c s, dt_102 b c t, dt_102 a c t, dt_102 b c s, Int.neg_mul, Int.mul_neg, Int.neg_neg] at q_g
            have q_0 := m_PP fh0 s_cst
            have q_1 := m_Z_ (dt b c t) s_acs
            have q_2 := m__Z (dt a c t) s_bcs
            omega
          · exact k5 (cov_n (z := b) w1a w1c w1s (by have q_e := dt_012 a c s; omega) (by have q_e := dt_021 a b s; omega) (by have q_e := dt_210 b c s; omega))
        · exact k0 ⟨(by have q_e := dt_210 a s t; omega), (by have q_e := dt_210 c s t; omega), (by have q_e := dt_102 a c t; omega), (by have q_e := dt_102 a c s; omega)⟩
    · have q_g := gp5 a b c s t
      have q_0 := m_PN fh0 fh6
      have q_1 := m__Z (dt a b s) s_act
      have q_2 := m_np fh9 fh8
      omega
    · have q_g := gp5 a b c s t
      have q_0 := m_PN fh0 fh6
      have q_1 := m_PP s_abs s_act
      have q_2 := m_np fh9 fh8
      omega
theorem sl_m9 (a b c u v : Int × Int × Int) (w1a : a.2.2 = 1) (w1u : u.2.2 = 1) (w1v : v.2.2 = 1) (h0 : 0 < dt a b c) (h1 : 0 < dt b c u) (h2 : dt b c v < 0) (h3 : 0 < dt v u b) (h4 : dt v u c < 0) (k0 : ¬ xc u v a b) (k3 : ¬ xc u v c a) (k5 : ¬ cov u v a) (k8 : ¬ tin a b c u) : False := by
  have fh0 : 0 < dt a b c := by have q_e := dt_012 a b c; omega
  have fh1 : 0 < dt b c u := by have q_e := dt_012 b c u; omega
  have fh2 : dt b c v < 0 := by have q_e := dt_012 b c v; omega
  have fh3 : dt b u v < 0 := by have q_e := dt_210 b u v; omega
  have fh4 : 0 < dt c u v := by have q_e := dt_210 c u v; omega
  rcases Int.lt_trichotomy (dt a b u) 0 with s_abu | s_abu | s_abu
  · rcases Int.lt_trichotomy (dt a b v) 0 with s_abv | s_abv | s_abv
    · have q_g := gp5 b a c u v
      simp only [dt_102 a b c, dt_102 a b u, dt_102 a b v, Int.neg_mul, Int.mul_neg, Int.neg_neg] at q_g
      have q_0 := m_PN fh0 fh3
      have q_1 := m_NN s_abu fh2
      have q_2 := m_NP s_abv fh1
      omega
    · have q_g := gp5 b a c u v
      simp only [dt_102 a b c, dt_102 a b u, dt_102 a b v, Int.neg_mul, Int.mul_neg, Int.neg_neg] at q_g
      have q_0 := m_PN fh0 fh3
      have q_1 := m_NN s_abu fh2
      have q_2 := m_Z_ (dt b c u) s_abv
      omega
    · rcases Int.lt_trichotomy (dt a u v) 0 with s_auv | s_auv | s_auv
      · rcases Int.lt_trichotomy (dt a c u) 0 with s_acu | s_acu | s_acu
        · have q_g := gp5 u a b c v
          simp only [dt_201 a b u, dt_102 c u v, dt_201 a c u, dt_102 b u v, dt_102 a u v, dt_201 b c u, Int.neg_mul, Int.mul_neg, Int.neg_neg] at q_g
          have q_0 := m_NP s_abu fh4
          have q_1 := m_NN s_acu fh3
          have q_2 := m_NP s_auv fh1
          omega
        · have q_g := gp5 u a b c v
          simp only [dt_201 a b u, dt_102 c u v, dt_201 a c u, dt_102 b u v, dt_102 a u v, dt_201 b c u, Int.neg_mul, Int.mul_neg, Int.neg_neg] at q_g
          have q_0 := m_NP s_abu fh4
          have q_1 := m_Z_ (dt b u v) s_acu
          have q_2 := m_NP s_auv fh1
          omega
        · rcases Int.lt_trichotomy (dt a c v) 0 with s_acv | s_acv | s_acv
          · exact k3 ⟨(by have q_e := dt_120 c u v; omega), (by have q_e := dt_120 a u v; omega), (by have q_e := dt_012 a c u; omega), (by have q_e := dt_012 a c v; omega)⟩
          · have q_g := gp5 c a b u v
            simp only [dt_201 a b c, dt_102 a c u, dt_102 b c v, dt_102 a c v, dt_102 b c u, Int.neg_mul, Int.mul_neg, Int.neg_neg] at q_g
            have q_0 := m_PP fh0 fh4
            have q_1 := m_PN s_acu fh2
            have q_2 := m_Z_ (dt b c u) s_acv
            omega
          · have q_g := gp5 c a b u v
            simp only [dt_201 a b c, dt_102 a c u, dt_102 b c v, dt_102 a c v, dt_102 b c u, Int.neg_mul, Int.mul_neg, Int.neg_neg] at q_g
            have q_0 := m_PP fh0 fh4
            have q_1 := m_PN s_acu fh2
            have q_2 := m_PP s_acv fh1
            omega
      · exact k5 (cov_n (z := b) w1u w1v w1a (by have q_e := dt_120 a u v; omega) (by have q_e := dt_201 a b u; omega) (by have q_e := dt_021 a b v; omega))
      · exact k0 ⟨(by have q_e := dt_120 a u v; omega), (by have q_e := dt_120 b u v; omega), (by have q_e := dt_102 a b u; omega), (by have q_e := dt_102 a b v; omega)⟩
  · rcases Int.lt_trichotomy (dt a b v) 0 with s_abv | s_abv | s_abv
    · have q_g := gp5 b a c u v
      simp only [dt_102 a b c, dt_102 a b u, dt_102 a b v, Int.neg_mul, Int.mul_neg, Int.neg_neg] at q_g
      have q_0 := m_PN fh0 fh3
      have q_1 := m_Z_ (dt b c v) s_abu
      have q_2 := m_NP s_abv fh1
      omega
    · have q_g := gp5 b a c u v
      simp only [dt_102 a b c, dt_102 a b u, dt_102 a b v, Int.neg_mul, Int.mul_neg, Int.neg_neg] at q_g
      have q_0 := m_PN fh0 fh3
      have q_1 := m_Z_ (dt b c v) s_abu
      have q_2 := m_Z_ (dt b c u) s_abv
      omega
    · rcases Int.lt_trichotomy (dt a c u) 0 with s_acu | s_acu | s_acu
      · exact k8 ⟨(by have q_e := dt_012 a b u; omega), (by have q_e := dt_012 b c u; omega), (by have q_e := dt_102 a c u; omega)⟩
      · exact k8 ⟨(by have q_e := dt_012 a b u; omega), (by have q_e := dt_012 b c u; omega), (by have q_e := dt_102 a c u; omega)⟩
      · rcases Int.lt_trichotomy (dt a c v) 0 with s_acv | s_acv | s_acv
        · rcases Int.lt_trichotomy (dt a u v) 0 with s_auv | s_auv | s_auv
          · exact k3 ⟨(by have q_e := dt_120 c u v; omega), (by have q_e := dt_120 a u v; omega), (by have q_e := dt_012 a c u; omega), (by have q_e := dt_012 a c v; omega)⟩
          · exact k5 (cov_p (z := c) w1u w1v w1a (by have q_e := dt_120 a u v; omega) (by have q_e := dt_201 a c u; omega) (by have q_e := dt_021 a c v; omega))
          · have q_g := gp5 a b c u v
            have q_0 := m_PP fh0 s_auv
            have q_1 := m_Z_ (dt a c v) s_abu
            have q_2 := m_PP s_abv s_acu
            omega
        · have q_g := gp5 c a b u v
          simp only [dt_201 a b c, dt_102 a c u, dt_102 b c v, dt_102 a c v, dt_102 b c u, Int.neg_mul, Int.mul_neg, Int.neg_neg] at q_g
          have q_0 := m_PP fh0 fh4
          have q_1 := m_PN s_acu fh2
          have q_2 := m_Z_ (dt b c u) s_acv
          omega
        · have q_g := gp5 c a b u v
          simp only [dt_201 a b c, dt_102 a c u, dt_102 b c v, dt_102 a c v, dt_102 b c u, Int.neg_mul, Int.mul_neg, Int.neg_neg] at q_g
          have q_0 := m_PP fh0 fh4
          have q_1 := m_PN s_acu fh2
          have q_2 := m_PP s_acv fh1
          omega
  · rcases Int.lt_trichotomy (dt a c u) 0 with s_acu | s_acu | s_acu
    · exact k8 ⟨(by have q_e := dt_012 a b u; omega), (by have q_e := dt_012 b c u; omega), (by have q_e := dt_102 a c u; omega)⟩
    · exact k8 ⟨(by have q_e := dt_012 a b u; omega), (by have q_e := dt_012 b c u; omega), (by have q_e := dt_102 a c u; omega)⟩
    · rcases Int.lt_trichotomy (dt a c v) 0 with s_acv | s_acv | s_acv
      · rcases Int.lt_trichotomy (dt a u v) 0 with s_auv | s_auv | s_auv
        · exact k3 ⟨(by have q_e := dt_120 c u v; omega), (by have q_e := dt_120 a u v; omega), (by have q_e := dt_012 a c u; omega), (by have q_e := dt_012 a c v; omega)⟩
        · exact k5 (cov_p (z := c) w1u w1v w1a (by have q_e := dt_120 a u v; omega) (by have q_e := dt_201 a c u; omega) (by have q_e := dt_021 a c v; omega))
        · have q_g := gp5 u a b c v
          simp only [dt_201 a b u, dt_102 c u v, dt_201 a c u, dt_102 b u v, dt_102 a u v, dt_201 b c u, Int.neg_mul, Int.mul_neg, Int.neg_neg] at q_g
          have q_0 := m_PP s_abu fh4
          have q_1 := m_PN s_acu fh3
          have q_2 := m_PP s_auv fh1
          omega
      · have q_g := gp5 c a b u v
        simp only [dt_201 a b c, dt_102 a c u, dt_102 b c v, dt_102 a c v, dt_102 b c u, Int.neg_mul, Int.mul_neg, Int.neg_neg] at q_g
        have q_0 := m_PP fh0 fh4
        have q_1 := m_PN s_acu fh2
        have q_2 := m_Z_ (dt b c u) s_acv
        omega
      · have q_g := gp5 c a b u v
        simp only [dt_201 a b c, dt_102 a c u, dt_102 b c v, dt_102 a c v, dt_102 b c u, Int.neg_mul, Int.mul_neg, Int.neg_neg] at q_g
        have q_0 := m_PP fh0 fh4
        have q_1 := m_PN s_acu fh2
        have q_2 := m_PP s_acv fh1
        omega
