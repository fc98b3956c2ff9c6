theorem sl_u (u v w x : Int × Int × Int) (h0 : 0 < dt u v w) (h1 : 0 < dt u v x) (k1 : ¬ xc u w x v) (k2 : ¬ xc v w u x) (k4 : ¬ tin u v w x) (k5 : ¬ tin u v x w) : False := by
  have fh0 : 0 < dt u v w := by have q_e := dt_012 u v w; omega
  have fh1 : 0 < dt u v x := by have q_e := dt_012 u v x; omega
  rcases Int.lt_trichotomy (dt u w x) 0 with s_uwx | s_uwx | s_uwx
  · rcases Int.lt_trichotomy (dt v w x) 0 with s_vwx | s_vwx | s_vwx
    · exact k2 ⟨(by have q_e := dt_120 u v w; omega), (by have q_e := dt_012 v w x; omega), (by have q_e := dt_201 u v x; omega), (by have q_e := dt_201 u w x; omega)⟩
    · exact k4 ⟨(by have q_e := dt_012 u v x; omega), (by have q_e := dt_012 v w x; omega), (by have q_e := dt_102 u w x; omega)⟩
    · exact k4 ⟨(by have q_e := dt_012 u v x; omega), (by have q_e := dt_012 v w x; omega), (by have q_e := dt_102 u w x; omega)⟩
  · rcases Int.lt_trichotomy (dt v w x) 0 with s_vwx | s_vwx | s_vwx
    · exact k5 ⟨(by have q_e := dt_012 u v w; omega), (by have q_e := dt_021 v w x; omega), (by have q_e := dt_201 u w x; omega)⟩
    · exact k4 ⟨(by have q_e := dt_012 u v x; omega), (by have q_e := dt_012 v w x; omega), (by have q_e := dt_102 u w x; omega)⟩
    · exact k4 ⟨(by have q_e := dt_012 u v x; omega), (by have q_e := dt_012 v w x; omega), (by have q_e := dt_102 u w x; omega)⟩
  · rcases Int.lt_trichotomy (dt v w x) 0 with s_vwx | s_vwx | s_vwx
    · exact k5 ⟨(by have q_e := dt_012 u v w; omega), (by have q_e := dt_021 v w x; omega), (by have q_e := dt_201 u w x; omega)⟩
    · exact k5 ⟨(by have q_e := dt_012 u v w; omega), (by have q_e := dt_021 v w x; omega), (by have q_e := dt_201 u w x; omega)⟩
    · exact k1 ⟨(by have q_e := dt_012 u w x; omega), (by have q_e := dt_021 u v w; omega), (by have q_e := dt_120 u v x; omega), (by have q_e := dt_021 v w x; omega)⟩
theorem sl_f1 (a b c d u v : Int × Int × Int) (w1a : a.2.2 = 1) (w1b : b.2.2 = 1) (w1c : c.2.2 = 1) (w1d : d.2.2 = 1) (w1u : u.2.2 = 1) (w1v : v.2.2 = 1) (h0 : 0 < dt a b c) (h1 : 0 < dt b a d) (h2 : 0 < dt a d c) (h3 : 0 < dt d b c) (h4 : 0 < dt c d u) (h5 : dt c d v < 0) (h6 : 0 < dt v u c) (h7 : dt v u d < 0) (k0 : ¬ xc u v b c) (k3 : ¬ xc u v d b) (k4 : ¬ xc u v a c) (k7 : ¬ xc u v d a) (k8 : ¬ cov u v a) (k11 : ¬ cov u v b) (k17 : ¬ cov a c u) (k24 : ¬ tin a b c u) (k26 : ¬ tin a b c v) (k27 : ¬ tin b a d v) : False := by
  have wa : 0 < a.2.2 := by omega
  have wb : 0 < b.2.2 := by omega
  have wc : 0 < c.2.2 := by omega
  have wd : 0 < d.2.2 := by omega
  have wu : 0 < u.2.2 := by omega
  have wv : 0 < v.2.2 := by omega
  have fh0 : 0 < dt a b c := by have q_e := dt_012 a b c; omega
  have fh1 : dt a b d < 0 := by have q_e := dt_102 a b d; omega
  have fh2 : dt a c d < 0 := by have q_e := dt_021 a c d; omega
  have fh3 : 0 < dt b c d := by have q_e := dt_201 b c d; omega
  have fh4 : 0 < dt c d u := by have q_e := dt_012 c d u; omega
  have fh5 : dt c d v < 0 := by have q_e := dt_012 c d v; omega
  have fh6 : dt c u v < 0 := by have q_e := dt_210 c u v; omega
  have fh7 : 0 < dt d u v := by have q_e := dt_210 d u v; omega
  rcases Int.lt_trichotomy (dt a c u) 0 with s_acu | s_acu | s_acu
  · rcases Int.lt_trichotomy (dt a u v) 0 with s_auv | s_auv | s_auv
    · rcases Int.lt_trichotomy (dt a d u) 0 with s_adu | s_adu | s_adu
      · have q_g := gp5 u a c d v
        simp only [dt_201 a c u, dt_102 d u v, dt_201 a d u, dt_102 c u v, dt_102 a u v, dt_201 c d u, Int.neg_mul, Int.mul_neg, Int.neg_neg] at q_g
        have q_0 := m_NP s_acu fh7
        have q_1 := m_NN s_adu fh6
        have q_2 := m_NP s_auv fh4
        omega
      · have q_g := gp5 u a c d v
        simp only [dt_201 a c u, dt_102 d u v, dt_201 a d u, dt_102 c u v, dt_102 a u v, dt_201 c d u, Int.neg_mul, Int.mul_neg, Int.neg_neg] at q_g
        have q_0 := m_NP s_acu fh7
        have q_1 := m_Z_ (dt c u v) s_adu
        have q_2 := m_NP s_auv fh4
        omega
      · rcases Int.lt_trichotomy (dt a d v) 0 with s_adv | s_adv | s_adv
        · exact k7 ⟨(by have q_e := dt_120 d u v; omega), (by have q_e := dt_120 a u v; omega), (by have q_e := dt_012 a d u; omega), (by have q_e := dt_012 a d v; omega)⟩
        · rcases Int.lt_trichotomy (dt a b v) 0 with s_abv | s_abv | s_abv
          · rcases Int.lt_trichotomy (dt b d v) 0 with s_bdv | s_bdv | s_bdv
            · exact k27 ⟨(by have q_e := dt_102 a b v; omega), (by have q_e := dt_012 a d v; omega), (by have q_e := dt_102 b d v; omega)⟩
            · exact k27 ⟨(by have q_e := dt_102 a b v; omega), (by have q_e := dt_012 a d v; omega), (by have q_e := dt_102 b d v; omega)⟩
            · have q_g := gp5 d a b c v
              simp only [dt_201 a b d, dt_102 c d v, dt_201 a c d, dt_102 b d v, dt_102 a d v, dt_201 b c d, Int.neg_mul, Int.mul_neg, Int.neg_neg] at q_g
              have q_0 := m_NN fh1 fh5
              have q_1 := m_NP fh2 s_bdv
              have q_2 := m_Z_ (dt b c d) s_adv
              omega
          · have q_g := gp5 a b d u v
            have q_0 := m_NN fh1 s_auv
            have q_1 := m__Z (dt a b u) s_adv
            have q_2 := m_Z_ (dt a d u) s_abv
            omega
          · have q_g := gp5 a b d u v
            have q_0 := m_NN fh1 s_auv
            have q_1 := m__Z (dt a b u) s_adv
            have q_2 := m_PP s_abv s_adu
            omega
        · rcases Int.lt_trichotomy (dt a c v) 0 with s_acv | s_acv | s_acv
          · rcases Int.lt_trichotomy (dt b c v) 0 with s_bcv | s_bcv | s_bcv
            · have q_g := gp5 c a b d v
              simp only [dt_201 a b c, dt_102 a c d, dt_102 b c v, dt_102 a c v, dt_102 b c d, Int.neg_mul, Int.mul_neg, Int.neg_neg] at q_g
              have q_0 := m_PN fh0 fh5
              have q_1 := m_NN fh2 s_bcv
              have q_2 := m_NP s_acv fh3
              omega
            · have q_g := gp5 c a b d v
              simp only [dt_201 a b c, dt_102 a c d, dt_102 b c v, dt_102 a c v, dt_102 b c d, Int.neg_mul, Int.mul_neg, Int.neg_neg] at q_g
              have q_0 := m_PN fh0 fh5
              have q_1 := m__Z (dt a c d) s_bcv
              have q_2 := m_NP s_acv fh3
              omega
            · rcases Int.lt_trichotomy (dt a b v) 0 with s_abv | s_abv | s_abv
              · rcases Int.lt_trichotomy (dt b d v) 0 with s_bdv | s_bdv | s_bdv
                · exact k27 ⟨(by have q_e := dt_102 a b v; omega), (by have q_e := dt_012 a d v; omega), (by have q_e := dt_102 b d v; omega)⟩
                · exact k27 ⟨(by have q_e := dt_102 a b v; omega), (by have q_e := dt_012 a d v; omega), (by have q_e := dt_102 b d v; omega)⟩
                · have q_g := gp5 d a b c v
                  simp only [dt_201 a b d, dt_102 c d v, dt_201 a c d, dt_102 b d v, dt_102 a d v, dt_201 b c d, Int.neg_mul, Int.mul_neg, Int.neg_neg] at q_g
                  have q_0 := m_NN fh1 fh5
                  have q_1 := m_NP fh2 s_bdv
                  have q_2 := m_PP s_adv fh3
                  omega
              · exact k26 ⟨(by have q_e := dt_012 a b v; omega), (by have q_e := dt_012 b c v; omega), (by have q_e := dt_102 a c v; omega)⟩
              · exact k26 ⟨(by have q_e := dt_012 a b v; omega), (by have q_e := dt_012 b c v; omega), (by have q_e := dt_102 a c v; omega)⟩
          · have q_g := gp5 a c d u v
            have q_0 := m_NN fh2 s_auv
            have q_1 := m_NP s_acu s_adv
            have q_2 := m_Z_ (dt a d u) s_acv
            omega
          · have q_g := gp5 a c d u v
            have q_0 := m_NN fh2 s_auv
            have q_1 := m_NP s_acu s_adv
            have q_2 := m_PP s_acv s_adu
            omega
    · rcases Int.lt_trichotomy (dt a d u) 0 with s_adu | s_adu | s_adu
      · have q_g := gp5 u a c d v
        simp only [dt_201 a c u, dt_102 d u v, dt_201 a d u, dt_102 c u v, dt_102 a u v, dt_201 c d u, Int.neg_mul, Int.mul_neg, Int.neg_neg] at q_g
        have q_0 := m_NP s_acu fh7
        have q_1 := m_NN s_adu fh6
        have q_2 := m_Z_ (dt c d u) s_auv
        omega
      · have q_g := gp5 u a c d v
        simp only [dt_201 a c u, dt_102 d u v, dt_201 a d u, dt_102 c u v, dt_102 a u v, dt_201 c d u, Int.neg_mul, Int.mul_neg, Int.neg_neg] at q_g
        have q_0 := m_NP s_acu fh7
        have q_1 := m_Z_ (dt c u v) s_adu
        have q_2 := m_Z_ (dt c d u) s_auv
        omega
      · rcases Int.lt_trichotomy (dt a c v) 0 with s_acv | s_acv | s_acv
        · rcases Int.lt_trichotomy (dt a d v) 0 with s_adv | s_adv | s_adv
          · exact k8 (cov_p (z := d) w1u w1v w1a (by have q_e := dt_120 a u v; omega) (by have q_e := dt_201 a d u; omega) (by have q_e := dt_021 a d v; omega))
          · have q_g := gp5 a c d u v
            have q_0 := m__Z (dt a c d) s_auv
            have q_1 := m__Z (dt a c u) s_adv
            have q_2 := m_NP s_acv s_adu
            omega
          · rcases Int.lt_trichotomy (dt b c v) 0 with s_bcv | s_bcv | s_bcv
            · have q_g := gp5 c a b d v
              simp only [dt_201 a b c, dt_102 a c d, dt_102 b c v, dt_102 a c v, dt_102 b c d, Int.neg_mul, Int.mul_neg, Int.neg_neg] at q_g
              have q_0 := m_PN fh0 fh5
              have q_1 := m_NN fh2 s_bcv
              have q_2 := m_NP s_acv fh3
              omega
            · have q_g := gp5 c a b d v
              simp only [dt_201 a b c, dt_102 a c d, dt_102 b c v, dt_102 a c v, dt_102 b c d, Int.neg_mul, Int.mul_neg, Int.neg_neg] at q_g
              have q_0 := m_PN fh0 fh5
              have q_1 := m__Z (dt a c d) s_bcv
              have q_2 := m_NP s_acv fh3
              omega
            · rcases Int.lt_trichotomy (dt a b v) 0 with s_abv | s_abv | s_abv
              · rcases Int.lt_trichotomy (dt b d v) 0 with s_bdv | s_bdv | s_bdv
                · exact k27 ⟨(by have q_e := dt_102 a b v; omega), (by have q_e := dt_012 a d v; omega), (by have q_e := dt_102 b d v; omega)⟩
                · exact k27 ⟨(by have q_e := dt_102 a b v; omega), (by have q_e := dt_012 a d v; omega), (by have q_e := dt_102 b d v; omega)⟩
                · have q_g := gp5 d a b c v
                  simp only [dt_201 a b d, dt_102 c d v, dt_201 a c d, dt_102 b d v, dt_102 a d v, dt_201 b c d, Int.neg_mul, Int.mul_neg, Int.neg_neg] at q_g
                  have q_0 := m_NN fh1 fh5
                  have q_1 := m_NP fh2 s_bdv
                  have q_2 := m_PP s_adv fh3
                  omega
              · exact k26 ⟨(by have q_e := dt_012 a b v; omega), (by have q_e := dt_012 b c v; omega), (by have q_e := dt_102 a c v; omega)⟩
              · exact k26 ⟨(by have q_e := dt_012 a b v; omega), (by have q_e := dt_012 b c v; omega), (by have q_e := dt_102 a c v; omega)⟩
        · rcases Int.lt_trichotomy (dt a b v) 0 with s_abv | s_abv | s_abv
          · have q_g := gp5 a b c u v
            have q_0 := m__Z (dt a b c) s_auv
            have q_1 := m__Z (dt a b u) s_acv
            have q_2 := m_NN s_abv s_acu
            omega
          · rcases Int.lt_trichotomy (dt b c v) 0 with s_bcv | s_bcv | s_bcv
            · have q_g := gp5 c a b d v
              simp only [dt_201 a b c, dt_102 a c d, dt_102 b c v, dt_102 a c v, dt_102 b c d, Int.neg_mul, Int.mul_neg, Int.neg_neg] at q_g
              have q_0 := m_PN fh0 fh5
              have q_1 := m_NN fh2 s_bcv
              have q_2 := m_Z_ (dt b c d) s_acv
              omega
            · exact k26 ⟨(by have q_e := dt_012 a b v; omega), (by have q_e := dt_012 b c v; omega), (by have q_e := dt_102 a c v; omega)⟩
            · exact k26 ⟨(by have q_e := dt_012 a b v; omega), (by have q_e := dt_012 b c v; omega), (by have q_e := dt_102 a c v; omega)⟩
          · have q_g := gp5 a b c u v
            have q_0 := m__Z (dt a b c) s_auv
            have q_1 := m__Z (dt a b u) s_acv
            have q_2 := m_PN s_abv s_acu
            omega
        · exact k8 (cov_n (z := c) w1u w1v w1a (by have q_e := dt_120 a u v; omega) (by have q_e := dt_201 a c u; omega) (by have q_e := dt_021 a c v; omega))
    · rcases Int.lt_trichotomy (dt a c v) 0 with s_acv | s_acv | s_acv
      · rcases Int.lt_trichotomy (dt a d v) 0 with s_adv | s_adv | s_adv
        · have q_g := gp5 v a c d u
          simp only [dt_201 a c v, dt_201 d u v, dt_201 a d v, dt_201 c u v, dt_201 a u v, dt_201 c d v, Int.neg_mul, Int.mul_neg, Int.neg_neg] at q_g
          have q_0 := m_NP s_acv fh7
          have q_1 := m_NN s_adv fh6
          have q_2 := m_PN s_auv fh5
          omega
        · have q_g := gp5 v a c d u
          simp only [dt_201 a c v, dt_201 d u v, dt_201 a d v, dt_201 c u v, dt_201 a u v, dt_201 c d v, Int.neg_mul, Int.mul_neg, Int.neg_neg] at q_g
          have q_0 := m_NP s_acv fh7
          have q_1 := m_Z_ (dt c u v) s_adv
          have q_2 := m_PN s_auv fh5
          omega
        · rcases Int.lt_trichotomy (dt b c v) 0 with s_bcv | s_bcv | s_bcv
          · have q_g := gp5 c a b d v
            simp only [dt_201 a b c, dt_102 a c d, dt_102 b c v, dt_102 a c v, dt_102 b c d, Int.neg_mul, Int.mul_neg, Int.neg_neg] at q_g
            have q_0 := m_PN fh0 fh5
            have q_1 := m_NN fh2 s_bcv
            have q_2 := m_NP s_acv fh3
            omega
          · have q_g := gp5 c a b d v
            simp only [dt_201 a b c, dt_102 a c d, dt_102 b c v, dt_102 a c v, dt_102 b c d, Int.neg_mul, Int.mul_neg, Int.neg_neg] at q_g
            have q_0 := m_PN fh0 fh5
            have q_1 := m__Z (dt a c d) s_bcv
            have q_2 := m_NP s_acv fh3
            omega
          · rcases Int.lt_trichotomy (dt a b v) 0 with s_abv | s_abv | s_abv
            · rcases Int.lt_trichotomy (dt b d v) 0 with s_bdv | s_bdv | s_bdv
              · exact k27 ⟨(by have q_e := dt_102 a b v; omega), (by have q_e := dt_012 a d v; omega), (by have q_e := dt_102 b d v; omega)⟩
              · exact k27 ⟨(by have q_e := dt_102 a b v; omega), (by have q_e := dt_012 a d v; omega), (by have q_e := dt_102 b d v; omega)⟩
              · have q_g := gp5 d a b c v
                simp only [dt_201 a b d, dt_102 c d v, dt_201 a c d, dt_102 b d v, dt_102 a d v, dt_201 b c d, Int.neg_mul, Int.mul_neg, Int.neg_neg] at q_g
                have q_0 := m_NN fh1 fh5
                have q_1 := m_NP fh2 s_bdv
                have q_2 := m_PP s_adv fh3
                omega
            · exact k26 ⟨(by have q_e := dt_012 a b v; omega), (by have q_e := dt_012 b c v; omega), (by have q_e := dt_102 a c v; omega)⟩
            · exact k26 ⟨(by have q_e := dt_012 a b v; omega), (by have q_e := dt_012 b c v; omega), (by have q_e := dt_102 a c v; omega)⟩
      · rcases Int.lt_trichotomy (dt a b v) 0 with s_abv | s_abv | s_abv
        · have q_g := gp5 a b c u v
          have q_0 := m_PP fh0 s_auv
          have q_1 := m__Z (dt a b u) s_acv
          have q_2 := m_NN s_abv s_acu
          omega
        · have q_g := gp5 a b c u v
          have q_0 := m_PP fh0 s_auv
          have q_1 := m__Z (dt a b u) s_acv
          have q_2 := m_Z_ (dt a c u) s_abv
          omega
        · rcases Int.lt_trichotomy (dt b c v) 0 with s_bcv | s_bcv | s_bcv
          · have q_g := gp5 c a b d v
            simp only [dt_201 a b c, dt_102 a c d, dt_102 b c v, dt_102 a c v, dt_102 b c d, Int.neg_mul, Int.mul_neg, Int.neg_neg] at q_g
            have q_0 := m_PN fh0 fh5
            have q_1 := m_NN fh2 s_bcv
            have q_2 := m_Z_ (dt b c d) s_acv
            omega
          · exact k26 ⟨(by have q_e := dt_012 a b v; omega), (by have q_e := dt_012 b c v; omega), (by have q_e := dt_102 a c v; omega)⟩
          · exact k26 ⟨(by have q_e := dt_012 a b v; omega), (by have q_e := dt_012 b c v; omega), (by have q_e := dt_102 a c v; omega)⟩
      · exact k4 ⟨(by have q_e := dt_120 a u v; omega), (by have q_e := dt_120 c u v; omega), (by have q_e := dt_102 a c u; omega), (by have q_e := dt_102 a c v; omega)⟩
  · rcases Int.lt_trichotomy (dt a c v) 0 with s_acv | s_acv | s_acv
    · rcases Int.lt_trichotomy (dt a d u) 0 with s_adu | s_adu | s_adu
      · have q_g := gw4 a c d u
        have q_0 := m_PN wu fh2
        have q_1 := m__Z d.2.2 s_acu
        have q_2 := m_PN wc s_adu
        have q_3 := m_PP wa fh4
        omega
      · have q_g := gw4 a c d u
        have q_0 := m_PN wu fh2
        have q_1 := m__Z d.2.2 s_acu
        have q_2 := m__Z c.2.2 s_adu
        have q_3 := m_PP wa fh4
        omega
      · rcases Int.lt_trichotomy (dt a b u) 0 with s_abu | s_abu | s_abu
        · have q_g := gp5 a b c d u
          have q_0 := m_PP fh0 s_adu
          have q_1 := m__Z (dt a b d) s_acu
          have q_2 := m_NN s_abu fh2
          omega
        · have q_g := gp5 a b c d u
          have q_0 := m_PP fh0 s_adu
          have q_1 := m__Z (dt a b d) s_acu
          have q_2 := m_Z_ (dt a c d) s_abu
          omega
        · rcases Int.lt_trichotomy (dt a u v) 0 with s_auv | s_auv | s_auv
          · rcases Int.lt_trichotomy (dt b c u) 0 with s_bcu | s_bcu | s_bcu
            · rcases Int.lt_trichotomy (dt b c v) 0 with s_bcv | s_bcv | s_bcv
              · have q_g := gp5 c a b d v
                simp only [dt_201 a b c, dt_102 a c d, dt_102 b c v, dt_102 a c v, dt_102 b c d, Int.neg_mul, Int.mul_neg, Int.neg_neg] at q_g
                have q_0 := m_PN fh0 fh5
                have q_1 := m_NN fh2 s_bcv
                have q_2 := m_NP s_acv fh3
                omega
              · have q_g := gp5 c a b d v
                simp only [dt_201 a b c, dt_102 a c d, dt_102 b c v, dt_102 a c v, dt_102 b c d, Int.neg_mul, Int.mul_neg, Int.neg_neg] at q_g
                have q_0 := m_PN fh0 fh5
                have q_1 := m__Z (dt a c d) s_bcv
                have q_2 := m_NP s_acv fh3
                omega
              · rcases Int.lt_trichotomy (dt b u v) 0 with s_buv | s_buv | s_buv
                · rcases Int.lt_trichotomy (dt b d u) 0 with s_bdu | s_bdu | s_bdu
                  · have q_g := gp5 u a b d v
                    simp only [dt_201 a b u, dt_102 d u v, dt_201 a d u, dt_102 b u v, dt_102 a u v, dt_201 b d u, Int.neg_mul, Int.mul_neg, Int.neg_neg] at q_g
                    have q_0 := m_PP s_abu fh7
                    have q_1 := m_PN s_adu s_buv
                    have q_2 := m_NN s_auv s_bdu
                    omega
                  · have q_g := gp5 u a b d v
                    simp only [dt_201 a b u, dt_102 d u v, dt_201 a d u, dt_102 b u v, dt_102 a u v, dt_201 b d u, Int.neg_mul, Int.mul_neg, Int.neg_neg] at q_g
                    have q_0 := m_PP s_abu fh7
                    have q_1 := m_PN s_adu s_buv
                    have q_2 := m__Z (dt a u v) s_bdu
                    omega
                  · rcases Int.lt_trichotomy (dt b d v) 0 with s_bdv | s_bdv | s_bdv
                    · exact k3 ⟨(by have q_e := dt_120 d u v; omega), (by have q_e := dt_120 b u v; omega), (by have q_e := dt_012 b d u; omega), (by have q_e := dt_012 b d v; omega)⟩
                    · have q_g := gp5 d b c u v
                      simp only [dt_201 b c d, dt_102 b d u, dt_102 c d v, dt_102 b d v, dt_102 c d u, Int.neg_mul, Int.mul_neg, Int.neg_neg] at q_g
                      have q_0 := m_PP fh3 fh7
                      have q_1 := m_PN s_bdu fh5
                      have q_2 := m_Z_ (dt c d u) s_bdv
                      omega
                    · have q_g := gp5 d b c u v
                      simp only [dt_201 b c d, dt_102 b d u, dt_102 c d v, dt_102 b d v, dt_102 c d u, Int.neg_mul, Int.mul_neg, Int.neg_neg] at q_g
                      have q_0 := m_PP fh3 fh7
                      have q_1 := m_PN s_bdu fh5
                      have q_2 := m_PP s_bdv fh4
                      omega
                · exact k11 (cov_n (z := c) w1u w1v w1b (by have q_e := dt_120 b u v; omega) (by have q_e := dt_201 b c u; omega) (by have q_e := dt_021 b c v; omega))
                · exact k0 ⟨(by have q_e := dt_120 b u v; omega), (by have q_e := dt_120 c u v; omega), (by have q_e := dt_102 b c u; omega), (by have q_e := dt_102 b c v; omega)⟩
            · exact k24 ⟨(by have q_e := dt_012 a b u; omega), (by have q_e := dt_012 b c u; omega), (by have q_e := dt_102 a c u; omega)⟩
            · exact k17 (cov_n (z := b) w1a w1c w1u (by have q_e := dt_012 a c u; omega) (by have q_e := dt_021 a b u; omega) (by have q_e := dt_210 b c u; omega))
          · have q_g := gp5 a b c u v
            have q_0 := m__Z (dt a b c) s_auv
            have q_1 := m_PN s_abu s_acv
            have q_2 := m__Z (dt a b v) s_acu
            omega
          · have q_g := gp5 a b c u v
            have q_0 := m_PP fh0 s_auv
            have q_1 := m_PN s_abu s_acv
            have q_2 := m__Z (dt a b v) s_acu
            omega
    · have q_g := gp5 c a b u v
      simp only [dt_201 a b c, dt_102 a c u, dt_102 b c v, dt_102 a c v, dt_102 b c u, Int.neg_mul, Int.mul_neg, Int.neg_neg] at q_g
      have q_0 := m_PN fh0 fh6
      have q_1 := m_Z_ (dt b c v) s_acu
      have q_2 := m_Z_ (dt b c u) s_acv
      omega
    · have q_g := gp5 c a d u v
      simp only [dt_102 a c d, dt_102 a c u, dt_102 a c v, Int.neg_mul, Int.mul_neg, Int.neg_neg] at q_g
      have q_0 := m_NN fh2 fh6
      have q_1 := m_Z_ (dt c d v) s_acu
      have q_2 := m_PP s_acv fh4
      omega
  · rcases Int.lt_trichotomy (dt a c v) 0 with s_acv | s_acv | s_acv
    · rcases Int.lt_trichotomy (dt a d u) 0 with s_adu | s_adu | s_adu
      · have q_g := gw4 a c d u
        have q_0 := m_PN wu fh2
        have q_1 := m_PP wd s_acu
        have q_2 := m_PN wc s_adu
        have q_3 := m_PP wa fh4
        omega
      · have q_g := gw4 a c d u
        have q_0 := m_PN wu fh2
        have q_1 := m_PP wd s_acu
        have q_2 := m__Z c.2.2 s_adu
        have q_3 := m_PP wa fh4
        omega
      · rcases Int.lt_trichotomy (dt a b u) 0 with s_abu | s_abu | s_abu
        · have q_g := gp5 a b c d u
          have q_0 := m_PP fh0 s_adu
          have q_1 := m_NP fh1 s_acu
          have q_2 := m_NN s_abu fh2
          omega
        · have q_g := gp5 a b c d u
          have q_0 := m_PP fh0 s_adu
          have q_1 := m_NP fh1 s_acu
          have q_2 := m_Z_ (dt a c d) s_abu
          omega
        · rcases Int.lt_trichotomy (dt a u v) 0 with s_auv | s_auv | s_auv
          · rcases Int.lt_trichotomy (dt b c u) 0 with s_bcu | s_bcu | s_bcu
            · rcases Int.lt_trichotomy (dt b c v) 0 with s_bcv | s_bcv | s_bcv
              · have q_g := gp5 c a b d v
                simp only [dt_201 a b c, dt_102 a c d, dt_102 b c v, dt_102 a c v, dt_102 b c d, Int.neg_mul, Int.mul_neg, Int.neg_neg] at q_g
                have q_0 := m_PN fh0 fh5
                have q_1 := m_NN fh2 s_bcv
                have q_2 := m_NP s_acv fh3
                omega
              · have q_g := gp5 c a b d v
                simp only [dt_201 a b c, dt_102 a c d, dt_102 b c v, dt_102 a c v, dt_102 b c d, Int.neg_mul, Int.mul_neg, Int.neg_neg] at q_g
                have q_0 := m_PN fh0 fh5
                have q_1 := m__Z (dt a c d) s_bcv
                have q_2 := m_NP s_acv fh3
                omega
              · rcases Int.lt_trichotomy (dt b u v) 0 with s_buv | s_buv | s_buv
                · rcases Int.lt_trichotomy (dt b d u) 0 with s_bdu | s_bdu | s_bdu
                  · have q_g := gp5 u a b d v
                    simp only [dt_201 a b u, dt_102 d u v, dt_201 a d u, dt_102 b u v, dt_102 a u v, dt_201 b d u, Int.neg_mul, Int.mul_neg, Int.neg_neg] at q_g
                    have q_0 := m_PP s_abu fh7
                    have q_1 := m_PN s_adu s_buv
                    have q_2 := m_NN s_auv s_bdu
                    omega
                  · have q_g := gp5 u a b d v
                    simp only [dt_201 a b u, dt_102 d u v, dt_201 a d u, dt_102 b u v, dt_102 a u v, dt_201 b d u, Int.neg_mul, Int.mul_neg, Int.neg_neg] at q_g
                    have q_0 := m_PP s_abu fh7
                    have q_1 := m_PN s_adu s_buv
                    have q_2 := m__Z (dt a u v) s_bdu
                    omega
                  · rcases Int.lt_trichotomy (dt b d v) 0 with s_bdv | s_bdv | s_bdv
                    · exact k3 ⟨(by have q_e := dt_120 d u v; omega), (by have q_e := dt_120 b u v; omega), (by have q_e := dt_012 b d u; omega), (by have q_e := dt_012 b d v; omega)⟩
                    · have q_g := gp5 d b c u v
                      simp only [dt_201 b c d, dt_102 b d u, dt_102 c d v, dt_102 b d v, dt_102 c d u, Int.neg_mul, Int.mul_neg, Int.neg_neg] at q_g
                      have q_0 := m_PP fh3 fh7
                      have q_1 := m_PN s_bdu fh5
                      have q_2 := m_Z_ (dt c d u) s_bdv
                      omega
                    · have q_g := gp5 d b c u v
                      simp only [dt_201 b c d, dt_102 b d u, dt_102 c d v, dt_102 b d v, dt_102 c d u, Int.neg_mul, Int.mul_neg, Int.neg_neg] at q_g
                      have q_0 := m_PP fh3 fh7
                      have q_1 := m_PN s_bdu fh5
                      have q_2 := m_PP s_bdv fh4
                      omega
                · exact k11 (cov_n (z := c) w1u w1v w1b (by have q_e := dt_120 b u v; omega) (by have q_e := dt_201 b c u; omega) (by have q_e := dt_021 b c v; omega))
                · exact k0 ⟨(by have q_e := dt_120 b u v; omega), (by have q_e := dt_120 c u v; omega), (by have q_e := dt_102 b c u; omega), (by have q_e := dt_102 b c v; omega)⟩
            · have q_g := gp5 c a b d u
              simp only [dt_201 a b c, dt_102 a c d, dt_102 b c u, dt_102 a c u, dt_102 b c d, Int.neg_mul, Int.mul_neg, Int.neg_neg] at q_g
              have q_0 := m_PP fh0 fh4
              have q_1 := m__Z (dt a c d) s_bcu
              have q_2 := m_PP s_acu fh3
              omega
            · have q_g := gp5 c a b d u
              simp only [dt_201 a b c, dt_102 a c d, dt_102 b c u, dt_102 a c u, dt_102 b c d, Int.neg_mul, Int.mul_neg, Int.neg_neg] at q_g
              have q_0 := m_PP fh0 fh4
              have q_1 := m_NP fh2 s_bcu
              have q_2 := m_PP s_acu fh3
              omega
          · exact k8 (cov_p (z := c) w1u w1v w1a (by have q_e := dt_120 a u v; omega) (by have q_e := dt_201 a c u; omega) (by have q_e := dt_021 a c v; omega))
          · have q_g := gp5 u a c d v
            simp only [dt_201 a c u, dt_102 d u v, dt_201 a d u, dt_102 c u v, dt_102 a u v, dt_201 c d u, Int.neg_mul, Int.mul_neg, Int.neg_neg] at q_g
            have q_0 := m_PP s_acu fh7
            have q_1 := m_PN s_adu fh6
            have q_2 := m_PP s_auv fh4
            omega
    · have q_g := gp5 c a d u v
      simp only [dt_102 a c d, dt_102 a c u, dt_102 a c v, Int.neg_mul, Int.mul_neg, Int.neg_neg] at q_g
      have q_0 := m_NN fh2 fh6
      have q_1 := m_PN s_acu fh5
      have q_2 := m_Z_ (dt c d u) s_acv
      omega
    · have q_g := gp5 c a d u v
      simp only [dt_102 a c d, dt_102 a c u, dt_102 a c v, Int.neg_mul, Int.mul_neg, Int.neg_neg] at q_g
      have q_0 := m_NN fh2 fh6
      have q_1 := m_PN s_acu fh5
      have q_2 := m_PP s_acv fh4
      omega
theorem sl_f2 (a b c d v : Int × Int × Int) (w1a : a.2.2 = 1) (w1b : b.2.2 = 1) (w1c : c.2.2 = 1) (w1d : d.2.2 = 1) (w1v : v.2.2 = 1) (h0 : 0 < dt a b c) (h1 : 0 < dt b a d) (h5 : 0 < dt v b c) (h6 : dt v b d < 0) (k0 : ¬ xc b v a c) (k3 : ¬ xc b v d a) (k5 : ¬ cov b v a) (k9 : ¬ cov a c v) (k10 : ¬ cov a d v) (k12 : ¬ tin a b c v) (k13 : ¬ tin b a d v) : False := by
  have fh0 : 0 < dt a b c := by have q_e := dt_012 a b c; omega
  have fh1 : dt a b d < 0 := by have q_e := dt_102 a b d; omega
  have fh5 : 0 < dt b c v := by have q_e := dt_201 b c v; omega
  have fh6 : dt b d v < 0 := by have q_e := dt_201 b d v; omega
  rcases Int.lt_trichotomy (dt a c v) 0 with s_acv | s_acv | s_acv
  · rcases Int.lt_trichotomy (dt a b v) 0 with s_abv | s_abv | s_abv
    · rcases Int.lt_trichotomy (dt a d v) 0 with s_adv | s_adv | s_adv
      · exact k3 ⟨(by have q_e := dt_021 b d v; omega), (by have q_e := dt_120 a b v; omega), (by have q_e := dt_021 a b d; omega), (by have q_e := dt_012 a d v; omega)⟩
      · exact k10 (cov_p (z := b) w1a w1d w1v (by have q_e := dt_012 a d v; omega) (by have q_e := dt_021 a b v; omega) (by have q_e := dt_210 b d v; omega))
      · exact k13 ⟨(by have q_e := dt_102 a b v; omega), (by have q_e := dt_012 a d v; omega), (by have q_e := dt_102 b d v; omega)⟩
    · exact k12 ⟨(by have q_e := dt_012 a b v; omega), (by have q_e := dt_012 b c v; omega), (by have q_e := dt_102 a c v; omega)⟩
    · exact k12 ⟨(by have q_e := dt_012 a b v; omega), (by have q_e := dt_012 b c v; omega), (by have q_e := dt_102 a c v; omega)⟩
  · rcases Int.lt_trichotomy (dt a b v) 0 with s_abv | s_abv | s_abv
    · rcases Int.lt_trichotomy (dt a d v) 0 with s_adv | s_adv | s_adv
      · exact k3 ⟨(by have q_e := dt_021 b d v; omega), (by have q_e := dt_120 a b v; omega), (by have q_e := dt_021 a b d; omega), (by have q_e := dt_012 a d v; omega)⟩
      · exact k10 (cov_p (z := b) w1a w1d w1v (by have q_e := dt_012 a d v; omega) (by have q_e := dt_021 a b v; omega) (by have q_e := dt_210 b d v; omega))
      · exact k13 ⟨(by have q_e := dt_102 a b v; omega), (by have q_e := dt_012 a d v; omega), (by have q_e := dt_102 b d v; omega)⟩
    · exact k12 ⟨(by have q_e := dt_012 a b v; omega), (by have q_e := dt_012 b c v; omega), (by have q_e := dt_102 a c v; omega)⟩
    · exact k9 (cov_n (z := b) w1a w1c w1v (by have q_e := dt_012 a c v; omega) (by have q_e := dt_021 a b v; omega) (by have q_e := dt_210 b c v; omega))
  · rcases Int.lt_trichotomy (dt a b v) 0 with s_abv | s_abv | s_abv
    · rcases Int.lt_trichotomy (dt a d v) 0 with s_adv | s_adv | s_adv
      · exact k3 ⟨(by have q_e := dt_021 b d v; omega), (by have q_e := dt_120 a b v; omega), (by have q_e := dt_021 a b d; omega), (by have q_e := dt_012 a d v; omega)⟩
      · exact k10 (cov_p (z := b) w1a w1d w1v (by have q_e := dt_012 a d v; omega) (by have q_e := dt_021 a b v; omega) (by have q_e := dt_210 b d v; omega))
      · exact k13 ⟨(by have q_e := dt_102 a b v; omega), (by have q_e := dt_012 a d v; omega), (by have q_e := dt_102 b d v; omega)⟩
    · exact k5 (cov_n (z := c) w1b w1v w1a (by have q_e := dt_120 a b v; omega) (by have q_e := dt_102 a b c; omega) (by have q_e := dt_021 a c v; omega))
    · exact k0 ⟨(by have q_e := dt_120 a b v; omega), (by have q_e := dt_021 b c v; omega), (by have q_e := dt_201 a b c; omega), (by have q_e := dt_102 a c v; omega)⟩
theorem sl_f3 (a b c d u : Int × Int × Int) (w1a : a.2.2 = 1) (w1b : b.2.2 = 1) (w1c : c.2.2 = 1) (w1d : d.2.2 = 1) (w1u : u.2.2 = 1) (h0 : 0 < dt a b c) (h1 : 0 < dt b a d) (h5 : 0 < dt a u c) (h6 : dt a u d < 0) (k1 : ¬ xc a u c b) (k2 : ¬ xc a u b d) (k4 : ¬ cov a u b) (k8 : ¬ cov b c u) (k11 : ¬ cov b d u) (k12 : ¬ tin a b c u) (k13 : ¬ tin b a d u) : False := by
  have fh0 : 0 < dt a b c := by have q_e := dt_012 a b c; omega
  have fh1 : dt a b d < 0 := by have q_e := dt_102 a b d; omega
  have fh5 : dt a c u < 0 := by have q_e := dt_021 a c u; omega
  have fh6 : 0 < dt a d u := by have q_e := dt_021 a d u; omega
  rcases Int.lt_trichotomy (dt b c u) 0 with s_bcu | s_bcu | s_bcu
  · rcases Int.lt_trichotomy (dt a b u) 0 with s_abu | s_abu | s_abu
    · rcases Int.lt_trichotomy (dt b d u) 0 with s_bdu | s_bdu | s_bdu
      · exact k13 ⟨(by have q_e := dt_102 a b u; omega), (by have q_e := dt_012 a d u; omega), (by have q_e := dt_102 b d u; omega)⟩
      · exact k11 (cov_n (z := a) w1b w1d w1u (by have q_e := dt_012 b d u; omega) (by have q_e := dt_120 a b u; omega) (by have q_e := dt_210 a d u; omega))
      · exact k2 ⟨(by have q_e := dt_021 a b u; omega), (by have q_e := dt_021 a d u; omega), (by have q_e := dt_210 a b d; omega), (by have q_e := dt_102 b d u; omega)⟩
    · exact k4 (cov_p (z := c) w1a w1u w1b (by have q_e := dt_021 a b u; omega) (by have q_e := dt_012 a b c; omega) (by have q_e := dt_021 b c u; omega))
    · exact k1 ⟨(by have q_e := dt_021 a c u; omega), (by have q_e := dt_021 a b u; omega), (by have q_e := dt_120 a b c; omega), (by have q_e := dt_012 b c u; omega)⟩
  · rcases Int.lt_trichotomy (dt a b u) 0 with s_abu | s_abu | s_abu
    · rcases Int.lt_trichotomy (dt b d u) 0 with s_bdu | s_bdu | s_bdu
      · exact k13 ⟨(by have q_e := dt_102 a b u; omega), (by have q_e := dt_012 a d u; omega), (by have q_e := dt_102 b d u; omega)⟩
      · exact k11 (cov_n (z := a) w1b w1d w1u (by have q_e := dt_012 b d u; omega) (by have q_e := dt_120 a b u; omega) (by have q_e := dt_210 a d u; omega))
      · exact k2 ⟨(by have q_e := dt_021 a b u; omega), (by have q_e := dt_021 a d u; omega), (by have q_e := dt_210 a b d; omega), (by have q_e := dt_102 b d u; omega)⟩
    · exact k12 ⟨(by have q_e := dt_012 a b u; omega), (by have q_e := dt_012 b c u; omega), (by have q_e := dt_102 a c u; omega)⟩
    · exact k8 (cov_p (z := a) w1b w1c w1u (by have q_e := dt_012 b c u; omega) (by have q_e := dt_120 a b u; omega) (by have q_e := dt_210 a c u; omega))
  · rcases Int.lt_trichotomy (dt a b u) 0 with s_abu | s_abu | s_abu
    · rcases Int.lt_trichotomy (dt b d u) 0 with s_bdu | s_bdu | s_bdu
      · exact k13 ⟨(by have q_e := dt_102 a b u; omega), (by have q_e := dt_012 a d u; omega), (by have q_e := dt_102 b d u; omega)⟩
      · exact k11 (cov_n (z := a) w1b w1d w1u (by have q_e := dt_012 b d u; omega) (by have q_e := dt_120 a b u; omega) (by have q_e := dt_210 a d u; omega))
      · exact k2 ⟨(by have q_e := dt_021 a b u; omega), (by have q_e := dt_021 a d u; omega), (by have q_e := dt_210 a b d; omega), (by have q_e := dt_102 b d u; omega)⟩
    · exact k12 ⟨(by have q_e := dt_012 a b u; omega), (by have q_e := dt_012 b c u; omega), (by have q_e := dt_102 a c u; omega)⟩
    · exact k12 ⟨(by have q_e := dt_012 a b u; omega), (by have q_e := dt_012 b c u; omega), (by have q_e := dt_102 a c u; omega)⟩
theorem sl_f4 (a b c d p : Int × Int × Int) (h0 : 0 < dt a b c) (h2 : 0 < dt a d c) (h3 : 0 < dt d b c) (h5 : 0 ≤ dt d c p) (h6 : 0 ≤ dt c a p) (h8 : dt b c p < 0) : False := by
  have fh0 : 0 < dt a b c := by have q_e := dt_012 a b c; omega
  have fh2 : dt a c d < 0 := by have q_e := dt_021 a c d; omega
  have fh3 : 0 < dt b c d := by have q_e := dt_201 b c d; omega
  have fh5 : dt c d p ≤ 0 := by have q_e := dt_102 c d p; omega
  have fh6 : dt a c p ≤ 0 := by have q_e := dt_102 a c p; omega
  have fh8 : dt b c p < 0 := by have q_e := dt_012 b c p; omega
  rcases (show dt a c p < 0 ∨ dt a c p = 0 by omega) with s_acp | s_acp
  · have q_g := gp5 c a b d p
    simp only [dt_201 a b c, dt_102 a c d, dt_102 b c p, dt_102 a c p, dt_102 b c d, Int.neg_mul, Int.mul_neg, Int.neg_neg] at q_g
    have q_0 := m_pn (Int.le_of_lt fh0) fh5
    have q_1 := m_NN fh2 fh8
    have q_2 := m_NP s_acp fh3
    omega
  · have q_g := gp5 c a b d p
    simp only [dt_201 a b c, dt_102 a c d, dt_102 b c p, dt_102 a c p, dt_102 b c d, Int.neg_mul, Int.mul_neg, Int.neg_neg] at q_g
    have q_0 := m_pn (Int.le_of_lt fh0) fh5
    have q_1 := m_NN fh2 fh8
    have q_2 := m_Z_ (dt b c d) s_acp
    omega
theorem sl_f5 (a b c d p : Int × Int × Int) (h1 : 0 < dt b a d) (h2 : 0 < dt a d c) (h3 : 0 < dt d b c) (h4 : 0 ≤ dt a d p) (h5 : 0 ≤ dt d c p) (h8 : dt d b p < 0) : False := by
  have fh1 : dt a b d < 0 := by have q_e := dt_102 a b d; omega
  have fh2 : dt a c d < 0 := by have q_e := dt_021 a c d; omega
  have fh3 : 0 < dt b c d := by have q_e := dt_201 b c d; omega
  have fh4 : 0 ≤ dt a d p := by have q_e := dt_012 a d p; omega
  have fh5 : dt c d p ≤ 0 := by have q_e := dt_102 c d p; omega
  have fh8 : 0 < dt b d p := by have q_e := dt_102 b d p; omega
  rcases (show dt a d p = 0 ∨ 0 < dt a d p by omega) with s_adp | s_adp
  · have q_g := gp5 d a b c p
    simp only [dt_201 a b d, dt_102 c d p, dt_201 a c d, dt_102 b d p, dt_102 a d p, dt_201 b c d, Int.neg_mul, Int.mul_neg, Int.neg_neg] at q_g
    have q_0 := m_nn (Int.le_of_lt fh1) fh5
    have q_1 := m_NP fh2 fh8
    have q_2 := m_Z_ (dt b c d) s_adp
    omega
  · have q_g := gp5 d a b c p
    simp only [dt_201 a b d, dt_102 c d p, dt_201 a c d, dt_102 b d p, dt_102 a d p, dt_201 b c d, Int.neg_mul, Int.mul_neg, Int.neg_neg] at q_g
    have q_0 := m_nn (Int.le_of_lt fh1) fh5
    have q_1 := m_NP fh2 fh8
    have q_2 := m_PP s_adp fh3
    omega
