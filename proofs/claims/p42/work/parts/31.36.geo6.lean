/-- the determinant of four points with heights: positive where the last one lies below the plane of the first three, taken left -/
def De (hp hq hr hz : Int) (p q r z : Int × Int × Int) : Int :=
  hp * dt q r z - hq * dt p r z + hr * dt p q z - hz * dt p q r
def qh (v : Int × Int × Int) : Int := v.1 * v.1 + v.2.1 * v.2.1
def Dq (p q r z : Int × Int × Int) : Int := De (qh p) (qh q) (qh r) (qh z) p q r z
theorem dq_at1 {p q r z : Int × Int × Int} (w1 : p.2.2 = 1) (w2 : q.2.2 = 1) (w3 : r.2.2 = 1) (w4 : z.2.2 = 1) :
    Dq p q r z = - (sqd q p * dt p r z) + sqd r p * dt p q z - sqd z p * dt p q r := by
  simp only [Dq, De, qh, sqd, dt, w1, w2, w3, w4]; grind
theorem dq_at2 {p q r z : Int × Int × Int} (w1 : p.2.2 = 1) (w2 : q.2.2 = 1) (w3 : r.2.2 = 1) (w4 : z.2.2 = 1) :
    Dq p q r z = sqd p q * dt q r z + sqd r q * dt p q z - sqd z q * dt p q r := by
  simp only [Dq, De, qh, sqd, dt, w1, w2, w3, w4]; grind
theorem dq_at4 {p q r z : Int × Int × Int} (w1 : p.2.2 = 1) (w2 : q.2.2 = 1) (w3 : r.2.2 = 1) (w4 : z.2.2 = 1) :
    Dq p q r z = sqd p z * dt q r z + sqd q z * dt r p z + sqd r z * dt p q z := by
  simp only [Dq, De, qh, sqd, dt, w1, w2, w3, w4]; grind
theorem sqd_nn (p q : Int × Int × Int) : 0 ≤ sqd p q := by
  have h1 := sq_nn (p.1 - q.1)
  have h2 := sq_nn (p.2.1 - q.2.1)
  simp only [sqd]; omega
theorem sqd_pos {p q : Int × Int × Int} (wp : p.2.2 = 1) (wq : q.2.2 = 1) (h : p ≠ q) : 0 < sqd p q := by
  simp only [sqd]
  apply sq2_pos
  rintro ⟨h1, h2⟩
  exact h (Prod.ext (by omega) (Prod.ext (by omega) (by omega)))
theorem ne_of_dt {a b c : Int × Int × Int} (h : dt a b c ≠ 0) : a ≠ b ∧ b ≠ c ∧ a ≠ c := by
  refine ⟨?_, ?_, ?_⟩
  · intro e; rw [e, dt_aab] at h; exact h rfl
  · intro e; rw [e, dt_baa] at h; exact h rfl
  · intro e; rw [e, dt_aba] at h; exact h rfl
/-- an edge that is not good is the diagonal of a strictly convex quadrilateral -/
theorem bad_cv {a b c d : Int × Int × Int} (wa : a.2.2 = 1) (wb : b.2.2 = 1) (wc : c.2.2 = 1) (wd : d.2.2 = 1)
    (h1 : 0 < dt a b c) (h2 : 0 < dt b a d) (h : 0 ≤ Dq a b c d) : 0 < dt a d c ∧ 0 < dt d b c := by
  have e1 := dt_102 a b d
  have n2 := ne_of_dt (a := b) (b := a) (c := d) (by omega)
  constructor
  · rcases Int.lt_or_le 0 (dt a d c) with z | z
    · exact z
    · exfalso
      rw [dq_at1 wa wb wc wd] at h
      have e2 := dt_021 a d c
      have p1 := m_pp (sqd_nn b a) (show 0 ≤ dt a c d by omega)
      have p2 := m_pn (sqd_nn c a) (show dt a b d ≤ 0 by omega)
      have p3 := m_PP (sqd_pos wd wa (Ne.symm n2.2.1)) h1
      omega
  · rcases Int.lt_or_le 0 (dt d b c) with z | z
    · exact z
    · exfalso
      rw [dq_at2 wa wb wc wd] at h
      have e2 := dt_120 d b c
      have p1 := m_pn (sqd_nn a b) (show dt b c d ≤ 0 by omega)
      have p2 := m_pn (sqd_nn c b) (show dt a b d ≤ 0 by omega)
      have p3 := m_PP (sqd_pos wd wb (Ne.symm n2.2.2)) h1
      omega
/-- a point in a closed triangle lies below its plane -/
theorem in_pos {p q r z : Int × Int × Int} (w1 : p.2.2 = 1) (w2 : q.2.2 = 1) (w3 : r.2.2 = 1) (w4 : z.2.2 = 1)
    (h1 : 0 ≤ dt q r z) (h2 : 0 < dt r p z) (h3 : 0 ≤ dt p q z) (n : q ≠ z) : 0 < Dq p q r z := by
  rw [dq_at4 w1 w2 w3 w4]
  have p1 := m_pp (sqd_nn p z) h1
  have p2 := m_PP (sqd_pos w2 w4 n) h2
  have p3 := m_pp (sqd_nn r z) h3
  omega
theorem de_r1 (ha hb hc hd hp : Int) (a b c d p : Int × Int × Int) :
    dt a b c * De ha hd hc hp a d c p = dt a d c * De ha hb hc hp a b c p - De ha hb hc hd a b c d * dt a p c := by
  simp only [De, dt]; grind
theorem de_r3 (ha hb hc hd hp : Int) (a b c d p : Int × Int × Int) :
    dt a b c * De hd hb hc hp d b c p = dt d b c * De ha hb hc hp a b c p - De ha hb hc hd a b c d * dt p b c := by
  simp only [De, dt]; grind
theorem de_13 (ha hb hc hd : Int) (a b c d : Int × Int × Int) : De hc hb ha hd c b a d = - De ha hb hc hd a b c d := by
  simp only [De, dt]; grind
theorem de_12 (ha hb hc hd : Int) (a b c d : Int × Int × Int) : De hb ha hc hd b a c d = - De ha hb hc hd a b c d := by
  simp only [De, dt]; grind
theorem de_34 (ha hb hc hd : Int) (a b c d : Int × Int × Int) : De ha hb hd hc a b d c = - De ha hb hc hd a b c d := by
  simp only [De, dt]; grind
theorem de_14 (ha hb hc hd : Int) (a b c d : Int × Int × Int) : De hd hb hc ha d b c a = - De ha hb hc hd a b c d := by
  simp only [De, dt]; grind
theorem de_24 (ha hb hc hd : Int) (a b c d : Int × Int × Int) : De ha hd hc hb a d c b = - De ha hb hc hd a b c d := by
  simp only [De, dt]; grind
theorem de_rot (ha hb hc hd : Int) (a b c d : Int × Int × Int) : De hb hc ha hd b c a d = De ha hb hc hd a b c d := by
  simp only [De, dt]; grind
theorem de_sw (ha hb hc hd : Int) (a b c d : Int × Int × Int) : De hb ha hd hc b a d c = De ha hb hc hd a b c d := by
  simp only [De, dt]; grind
