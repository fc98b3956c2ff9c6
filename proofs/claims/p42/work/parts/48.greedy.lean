/-! crossings, as both sides count them -/
def Pc (P : Nat → Int × Int × Int) (a b c d : Nat) : Prop := xc (P a) (P b) (P c) (P d) ∨ xc (P a) (P b) (P d) (P c)
/-- two segments have a point in common that is no end of both -/
def Cr (P : Nat → Int × Int × Int) (a b c d : Nat) : Prop :=
  Pc P a b c d ∨ (dt (P a) (P b) (P c) = 0 ∧ dt (P a) (P b) (P d) = 0 ∧
    ((min a b = min c d ∧ max a b = max c d) ∨ cov (P a) (P b) (P c) ∨ cov (P a) (P b) (P d) ∨ cov (P c) (P d) (P a) ∨ cov (P c) (P d) (P b)))
theorem pc_iff {P : Nat → Int × Int × Int} {a b c d : Nat} (wa : (P a).2.2 = 1) (wb : (P b).2.2 = 1) (wc : (P c).2.2 = 1) (wd : (P d).2.2 = 1) :
    (dt (P a) (P b) (P c) * dt (P a) (P b) (P d) < 0 ∧ dt (P c) (P d) (P a) * dt (P c) (P d) (P b) < 0) ↔ Pc P a b c d := by
  have e1 := dt_102 (P c) (P d) (P a)
  have e2 := dt_102 (P c) (P d) (P b)
  have sgn : ∀ x y : Int, x * y < 0 → (0 < x ∧ y < 0) ∨ (x < 0 ∧ 0 < y) := by
    intro x y h
    rcases Int.lt_trichotomy x 0 with k | k | k
    · rcases Int.lt_trichotomy y 0 with l | l | l
      · have := m_NN k l; omega
      · rw [l, Int.mul_zero] at h; omega
      · exact Or.inr ⟨k, l⟩
    · rw [k, Int.zero_mul] at h; omega
    · rcases Int.lt_trichotomy y 0 with l | l | l
      · exact Or.inl ⟨k, l⟩
      · rw [l, Int.mul_zero] at h; omega
      · have := m_PP k l; omega
  constructor
  · rintro ⟨h1, h2⟩
    rcases sgn _ _ h1 with ⟨p1, p2⟩ | ⟨p1, p2⟩ <;> rcases sgn _ _ h2 with ⟨q1, q2⟩ | ⟨q1, q2⟩
    · exact (sl_or (P a) (P b) (P c) (P d) wa wb wc wd p1 p2 (by omega) (by omega)).elim
    · exact Or.inl ⟨p1, p2, by omega, by omega⟩
    · exact Or.inr ⟨p2, p1, by omega, by omega⟩
    · exact (sl_or (P a) (P b) (P d) (P c) wa wb wd wc p2 p1 (by omega) (by omega)).elim
  · rintro (⟨h1, h2, h3, h4⟩ | ⟨h1, h2, h3, h4⟩)
    · exact ⟨m_PN h1 h2, m_NP (by omega) (by omega)⟩
    · exact ⟨m_NP h2 h1, m_PN (by omega) (by omega)⟩
theorem imin_i {a b : Nat} (ha : a < 2147483648) (hb : b < 2147483648) : imin (i32 a) (i32 b) = i32 (min a b) := by
  unfold imin
  by_cases h : b < a
  · rw [if_pos (y_lt ha h), Nat.min_eq_right (by omega)]
  · rw [if_neg (n_lt hb (by omega)), Nat.min_eq_left (by omega)]
theorem imax_i {a b : Nat} (ha : a < 2147483648) (hb : b < 2147483648) : imax (i32 a) (i32 b) = i32 (max a b) := by
  unfold imax
  by_cases h : a < b
  · rw [if_pos (y_lt hb h), Nat.max_eq_right (by omega)]
  · rw [if_neg (n_lt ha (by omega)), Nat.max_eq_left (by omega)]
section CGREEDY
variable {n m : Nat} {X Y : Nat → Int} {L H : Nat → Nat} {pxs pys plo phi : Nat → Int32} {pn pm : Int32}
theorem c_cp (hC : CP n m X Y L H pxs pys plo phi pn pm) (hO : Ok n m X Y L H) (F : Nat) (hF : 300 ≤ F) {a b : Nat} (ha : a < n) (hb : b < n) :
    s_Plan_coversPoint F pxs pys pn (i32 a) (i32 b) = some (dB (∃ p, p < n ∧ cov (pt X Y a) (pt X Y b) (pt X Y p))) := by
  have hn := hO.1
  have h := ffB (fun k i => s_Plan_coversPoint_L2 pxs pys pn (i32 a) (i32 b) k (i32 i)) n (fun p => cov (pt X Y a) (pt X Y b) (pt X Y p)) (Sum.inl true) (Sum.inr (i32 n))
    (fun k => by simp only [s_Plan_coversPoint_L2, hC.1]; rw [if_pos (y_le (by omega) (by omega))])
    (fun k i hi h => by
      simp only [s_Plan_coversPoint_L2, c_covp hC hO ha hb hi, hC.1]
      rw [if_neg (n_le (by omega) hi), if_neg (bI_t h)])
    (fun k i hi h => by
      simp only [s_Plan_coversPoint_L2, c_covp hC hO ha hb hi, hC.1]
      rw [if_neg (n_le (by omega) hi), if_pos (bI_f h), i32_s])
    0 F (by omega) (by omega)
  unfold s_Plan_coversPoint
  rcases h with ⟨⟨j, _, h1, h2⟩, e⟩ | ⟨h1, e⟩
  · have e : s_Plan_coversPoint_L2 pxs pys pn (i32 a) (i32 b) F (0 : Int32) = some (Sum.inl true) := e
    rw [e, dB_t ⟨j, h1, h2⟩]; rfl
  · have e : s_Plan_coversPoint_L2 pxs pys pn (i32 a) (i32 b) F (0 : Int32) = some (Sum.inr (i32 n)) := e
    rw [e, dB_f (fun ⟨p, q1, q2⟩ => h1 p (by omega) q1 q2)]; rfl
theorem c_parts {P : Nat → Int × Int × Int} {lf : Nat → Int32} (hn : n ≤ 16) (hL : LF n P lf) {a b c d : Nat} (ha : a < n) (hb : b < n) (hc : c < n) (hd : d < n) :
    s_Mesh_parts lf (i32 a) (i32 b) (i32 c) (i32 d) = dB (dt (P a) (P b) (P c) * dt (P a) (P b) (P d) < 0) := by
  have l : ∀ j, j < n → bt (lf (a * 16 + b)) j = dB (0 < dt (P a) (P b) (P j)) := fun j hj => by
    rw [hL a b (by omega) (by omega) j (by omega)]; exact dB_cong ⟨fun h => h.2.2.2, fun h => ⟨ha, hb, hj, h⟩⟩
  have r : ∀ j, j < n → bt (lf (b * 16 + a)) j = dB (dt (P a) (P b) (P j) < 0) := fun j hj => by
    rw [hL b a (by omega) (by omega) j (by omega)]
    have := dt_102 (P a) (P b) (P j)
    exact dB_cong ⟨fun h => by have := h.2.2.2; omega, fun h => ⟨hb, ha, hj, by omega⟩⟩
  have s : ∀ (x : Int32) (j : Nat), j < 16 → bt (x >>> (i32 j &&& 31)) 0 = bt x j := fun x j hj => by
    rw [b_sshr j (by omega) x (by omega), if_pos (by omega)]; rfl
  have z : bt ((((lf (a * 16 + b)) >>> (i32 c &&& 31)) &&& ((lf (b * 16 + a)) >>> (i32 d &&& 31))) ||| (((lf (a * 16 + b)) >>> (i32 d &&& 31)) &&& ((lf (b * 16 + a)) >>> (i32 c &&& 31)))) 0
      = dB (dt (P a) (P b) (P c) * dt (P a) (P b) (P d) < 0) := by
    rw [b_or, b_and, b_and, s _ c (by omega), s _ d (by omega), s _ d (by omega), s _ c (by omega), l c hc, l d hd, r c hc, r d hd, dB_and, dB_and, dB_or]
    apply dB_cong
    constructor
    · rintro (⟨h1, h2⟩ | ⟨h1, h2⟩)
      · exact m_PN h1 h2
      · exact m_NP h2 h1
    · intro h
      rcases Int.lt_trichotomy (dt (P a) (P b) (P c)) 0 with k | k | k
      · rcases Int.lt_trichotomy (dt (P a) (P b) (P d)) 0 with l | l | l
        · have := m_NN k l; omega
        · rw [l, Int.mul_zero] at h; omega
        · exact Or.inr ⟨l, k⟩
      · rw [k, Int.zero_mul] at h; omega
      · rcases Int.lt_trichotomy (dt (P a) (P b) (P d)) 0 with l | l | l
        · exact Or.inl ⟨k, l⟩
        · rw [l, Int.mul_zero] at h; omega
        · have := m_PP k l; omega
  unfold s_Mesh_parts
  rw [tget 0 lf (by omega) (by omega), tget 0 lf (by omega) (by omega)]
  by_cases q : dt (P a) (P b) (P c) * dt (P a) (P b) (P d) < 0
  · rw [if_neg (fun k => by rw [b_and1, z, dB_t q] at k; cases k), dB_t q]
  · rw [if_pos (by rw [b_and1, z, dB_f q]), dB_f q]
theorem c_splits {P : Nat → Int × Int × Int} {lf : Nat → Int32} (hn : n ≤ 16) (hw : ∀ i, i < n → (P i).2.2 = 1) (hL : LF n P lf) {a b c d : Nat} (ha : a < n) (hb : b < n) (hc : c < n) (hd : d < n) :
    s_Mesh_splits lf (i32 a) (i32 b) (i32 c) (i32 d) = dB (Pc P a b c d) := by
  unfold s_Mesh_splits
  rw [c_parts hn hL ha hb hc hd, c_parts hn hL hc hd ha hb, ← dB_cong (pc_iff (hw a ha) (hw b hb) (hw c hc) (hw d hd)), ← dB_and]
  by_cases q : dt (P a) (P b) (P c) * dt (P a) (P b) (P d) < 0
  · rw [if_neg (bI_t q), ite_dB, dB_t q]; rfl
  · rw [if_pos (bI_f q), dB_f q]; rfl
theorem c_crE {P : Nat → Int × Int × Int} {lf el eh : Nat → Int32} (hn : n ≤ 16) (hw : ∀ i, i < n → (P i).2.2 = 1) (hL : LF n P lf) (F : Nat) (hF : 300 ≤ F) {a b : Nat} (ha : a < n) (hb : b < n)
    {c : Nat} {f g : Nat → Nat} (hc : c ≤ 42) (he : ∀ k, k < c → el k = i32 (f k) ∧ eh k = i32 (g k) ∧ f k < n ∧ g k < n) :
    s_Mesh_crossesEdge F lf el eh (i32 c) (i32 a) (i32 b) = some (dB (∃ k, k < c ∧ Pc P a b (f k) (g k))) := by
  have q : ∀ i, i < c → s_Mesh_splits lf (i32 a) (i32 b) (s_Row_get 42 el (i32 i)) (s_Row_get 42 eh (i32 i)) = dB (Pc P a b (f i) (g i)) := by
    intro i hi
    obtain ⟨h1, h2, h3, h4⟩ := he i hi
    rw [rget el (by omega) (by omega), rget eh (by omega) (by omega), h1, h2, c_splits hn hw hL ha hb h3 h4]
  have h := ffB (fun k i => s_Mesh_crossesEdge_L2 lf el eh (i32 c) (i32 a) (i32 b) k (i32 i)) c (fun k => Pc P a b (f k) (g k)) (Sum.inl true) (Sum.inr (i32 c))
    (fun k => by simp only [s_Mesh_crossesEdge_L2]; rw [if_pos (y_le (by omega) (by omega))])
    (fun k i hi h => by
      simp only [s_Mesh_crossesEdge_L2, q i hi]
      rw [if_neg (n_le (by omega) hi), if_neg (bI_t h)])
    (fun k i hi h => by
      simp only [s_Mesh_crossesEdge_L2, q i hi]
      rw [if_neg (n_le (by omega) hi), if_pos (bI_f h), i32_s])
    0 F (by omega) (by omega)
  unfold s_Mesh_crossesEdge
  rcases h with ⟨⟨j, _, h1, h2⟩, e⟩ | ⟨h1, e⟩
  · have e : s_Mesh_crossesEdge_L2 lf el eh (i32 c) (i32 a) (i32 b) F (0 : Int32) = some (Sum.inl true) := e
    rw [e, dB_t ⟨j, h1, h2⟩]; rfl
  · have e : s_Mesh_crossesEdge_L2 lf el eh (i32 c) (i32 a) (i32 b) F (0 : Int32) = some (Sum.inr (i32 c)) := e
    rw [e, dB_f (fun ⟨p, q1, q2⟩ => h1 p (by omega) q1 q2)]; rfl
theorem c_tied (hC : CP n m X Y L H pxs pys plo phi pn pm) (hO : Ok n m X Y L H) (F : Nat) (hF : 300 ≤ F) {a b : Nat} (ha : a < n) (hb : b < n) :
    s_Plan_isConstraint F plo phi pm (i32 a) (i32 b) = some (dB (∃ c, c < m ∧ L c = min a b ∧ H c = max a b)) := by
  have hn := hO.1
  have hm := hO.2.1
  have g : ∀ i, i < m → s_Row_get 10 plo (i32 i) = i32 (L i) ∧ s_Row_get 10 phi (i32 i) = i32 (H i) ∧ L i < 16 ∧ H i < 16 := by
    intro i hi
    have := hO.2.2.2.2.1 i hi
    rw [rget plo (by omega) (by omega), rget phi (by omega) (by omega)]
    exact ⟨(hC.2.2.2 i hi).1, (hC.2.2.2 i hi).2, by omega, by omega⟩
  have h := ffB (fun k i => s_Plan_isConstraint_L2 plo phi pm (i32 a) (i32 b) k (i32 i)) m (fun c => L c = min a b ∧ H c = max a b) (Sum.inl true) (Sum.inr (i32 m))
    (fun k => by simp only [s_Plan_isConstraint_L2, hC.2.1]; rw [if_pos (y_le (by omega) (by omega))])
    (fun k i hi h => by
      obtain ⟨g1, g2, g3, g4⟩ := g i hi
      simp only [s_Plan_isConstraint_L2, hC.2.1, g1, g2]
      rw [if_neg (n_le (by omega) hi), imin_i (by omega) (by omega), imax_i (by omega) (by omega), if_pos (by rw [h.1]), if_pos (by rw [h.2])])
    (fun k i hi h => by
      obtain ⟨g1, g2, g3, g4⟩ := g i hi
      simp only [s_Plan_isConstraint_L2, hC.2.1, g1, g2]
      rw [if_neg (n_le (by omega) hi), imin_i (by omega) (by omega), imax_i (by omega) (by omega), i32_s]
      by_cases c : L i = min a b
      · rw [if_pos (by rw [c]), if_neg (n_eq (by omega) (by omega) (fun z => h ⟨c, z⟩))]
      · rw [if_neg (n_eq (by omega) (by omega) c)])
    0 F (by omega) (by omega)
  unfold s_Plan_isConstraint
  rcases h with ⟨⟨j, _, h1, h2⟩, e⟩ | ⟨h1, e⟩
  · have e : s_Plan_isConstraint_L2 plo phi pm (i32 a) (i32 b) F (0 : Int32) = some (Sum.inl true) := e
    rw [e, dB_t ⟨j, h1, h2⟩]; rfl
  · have e : s_Plan_isConstraint_L2 plo phi pm (i32 a) (i32 b) F (0 : Int32) = some (Sum.inr (i32 m)) := e
    rw [e, dB_f (fun ⟨p, q1, q2⟩ => h1 p (by omega) q1 q2)]; rfl
end CGREEDY
/-- the reference's edges -/
def ME (medg : Nat → Int32) (E : Nat → Nat → Prop) : Prop := ∀ a b, a < 17 → b < 17 → medg (17 * a + b) = bI (dB (E a b))
theorem m_has {medg : Nat → Int32} {E : Nat → Nat → Prop} (h : ME medg E) {a b : Nat} (ha : a < 17) (hb : b < 17) : s_Mod_has medg (i32 a) (i32 b) = some (dB (E a b)) := by
  unfold s_Mod_has
  rw [show (17 : Int32) = i32 17 from rfl, i32_mul, i32_add, aget_i medg (by omega) (by omega), h a b ha hb]
  by_cases c : E a b
  · rw [dB_t c]; rfl
  · rw [dB_f c]; rfl
theorem vp_b (b : Bool) : vp_nar .boolean (bI b) = bI b := by cases b <;> rfl
theorem m_puts (medg : Nat → Int32) {a b : Nat} (ha : a < 17) (hb : b < 17) (v : Bool) :
    s_Mod_puts medg (i32 a) (i32 b) v = some (fun j => if j = 17 * b + a then bI v else if j = 17 * a + b then bI v else medg j) := by
  unfold s_Mod_puts
  rw [show (17 : Int32) = i32 17 from rfl, i32_mul, i32_add, i32_mul, i32_add, aset_i medg _ (by omega) (by omega)]
  simp only [Option.bind_some]
  rw [aset_i _ _ (by omega) (by omega)]
  simp only [Option.bind_some, vp_b]
theorem me_put {medg : Nat → Int32} {E E' : Nat → Nat → Prop} (h : ME medg E) {a b : Nat} (ha : a < 17) (hb : b < 17) (v : Bool)
    (h1 : E' a b ↔ v = true) (h2 : E' b a ↔ v = true) (h3 : ∀ x y, ¬ (x = a ∧ y = b) → ¬ (x = b ∧ y = a) → (E' x y ↔ E x y)) :
    ME (fun j => if j = 17 * b + a then bI v else if j = 17 * a + b then bI v else medg j) E' := by
  intro x y hx hy
  show (if 17 * x + y = 17 * b + a then bI v else if 17 * x + y = 17 * a + b then bI v else medg (17 * x + y)) = _
  by_cases c1 : x = b ∧ y = a
  · obtain ⟨rfl, rfl⟩ := c1
    rw [if_pos rfl, dB_eq h2.symm]
  · rw [if_neg (by omega)]
    by_cases c2 : x = a ∧ y = b
    · obtain ⟨rfl, rfl⟩ := c2
      rw [if_pos rfl, dB_eq h1.symm]
    · rw [if_neg (by omega), h x y hx hy, dB_cong (h3 x y c2 c1)]
section MGREEDY
variable {n m : Nat} {X Y : Nat → Int} {L H : Nat → Nat} {mnow : Nat → Int32}
theorem m_onp (hM : MP n m X Y L H mnow) (hO : Ok n m X Y L H) {a b p : Nat} (ha : a < n) (hb : b < n) (hp : p < n) :
    s_Mod_isOn mnow (i32 a) (i32 b) (mnow (2 + p)) (mnow (19 + p)) = some (dB (cov (pt X Y a) (pt X Y b) (pt X Y p))) :=
  m_on hM hO ha hb (m_rx hM hO hp) (m_ry hM hO hp)
theorem m_hp (hM : MP n m X Y L H mnow) (hO : Ok n m X Y L H) (F : Nat) (hF : 300 ≤ F) {a b : Nat} (ha : a < n) (hb : b < n) :
    s_Mod_hasPointOn F mnow (i32 a) (i32 b) = some (dB (∃ p, p < n ∧ cov (pt X Y a) (pt X Y b) (pt X Y p))) := by
  have hn := hO.1
  have h := ffB (fun k i => s_Mod_hasPointOn_L2 mnow (i32 a) (i32 b) k (i32 i)) n (fun p => cov (pt X Y a) (pt X Y b) (pt X Y p)) (Sum.inl true) (Sum.inr (i32 n))
    (fun k => by simp only [s_Mod_hasPointOn_L2, m_n hM, Option.bind_some]; rw [if_pos (y_le (by omega) (by omega))])
    (fun k i hi h => by
      simp only [s_Mod_hasPointOn_L2, m_n hM, Option.bind_some]
      rw [if_neg (n_le (by omega) hi), m_x mnow (by omega), m_y mnow (by omega)]
      simp only [Option.bind_some, m_onp hM hO ha hb hi]
      rw [if_neg (bI_t h)])
    (fun k i hi h => by
      simp only [s_Mod_hasPointOn_L2, m_n hM, Option.bind_some]
      rw [if_neg (n_le (by omega) hi), m_x mnow (by omega), m_y mnow (by omega)]
      simp only [Option.bind_some, m_onp hM hO ha hb hi]
      rw [if_pos (bI_f h), i32_s])
    0 F (by omega) (by omega)
  unfold s_Mod_hasPointOn
  rcases h with ⟨⟨j, _, h1, h2⟩, e⟩ | ⟨h1, e⟩
  · have e : s_Mod_hasPointOn_L2 mnow (i32 a) (i32 b) F (0 : Int32) = some (Sum.inl true) := e
    rw [e, dB_t ⟨j, h1, h2⟩]; rfl
  · have e : s_Mod_hasPointOn_L2 mnow (i32 a) (i32 b) F (0 : Int32) = some (Sum.inr (i32 n)) := e
    rw [e, dB_f (fun ⟨p, q1, q2⟩ => h1 p (by omega) q1 q2)]; rfl
theorem m_tied (hM : MP n m X Y L H mnow) (hO : Ok n m X Y L H) (F : Nat) (hF : 300 ≤ F) {a b : Nat} (ha : a < n) (hb : b < n) :
    s_Mod_isTied F mnow (i32 a) (i32 b) = some (dB (∃ c, c < m ∧ L c = min a b ∧ H c = max a b)) := by
  have hn := hO.1
  have hm := hO.2.1
  have g : ∀ i, i < m → L i < 16 ∧ H i < 16 := by
    intro i hi
    have := hO.2.2.2.2.1 i hi
    omega
  have h := ffB (fun k i => s_Mod_isTied_L2 mnow (i32 a) (i32 b) k (i32 i)) m (fun c => L c = min a b ∧ H c = max a b) (Sum.inl true) (Sum.inr (i32 m))
    (fun k => by simp only [s_Mod_isTied_L2, m_m hM, Option.bind_some]; rw [if_pos (y_le (by omega) (by omega))])
    (fun k i hi h => by
      have := g i hi
      simp only [s_Mod_isTied_L2, m_m hM, Option.bind_some, m_end0 hM hO hi, m_end1 hM hO hi]
      rw [if_neg (n_le (by omega) hi), imin_i (by omega) (by omega), imax_i (by omega) (by omega), if_pos (by rw [h.1]), if_pos (by rw [h.2])])
    (fun k i hi h => by
      have := g i hi
      simp only [s_Mod_isTied_L2, m_m hM, Option.bind_some, m_end0 hM hO hi, m_end1 hM hO hi]
      rw [if_neg (n_le (by omega) hi), imin_i (by omega) (by omega), imax_i (by omega) (by omega), i32_s]
      by_cases c : L i = min a b
      · rw [if_pos (by rw [c]), if_neg (n_eq (by omega) (by omega) (fun z => h ⟨c, z⟩))]
      · rw [if_neg (n_eq (by omega) (by omega) c)])
    0 F (by omega) (by omega)
  unfold s_Mod_isTied
  rcases h with ⟨⟨j, _, h1, h2⟩, e⟩ | ⟨h1, e⟩
  · have e : s_Mod_isTied_L2 mnow (i32 a) (i32 b) F (0 : Int32) = some (Sum.inl true) := e
    rw [e, dB_t ⟨j, h1, h2⟩]; rfl
  · have e : s_Mod_isTied_L2 mnow (i32 a) (i32 b) F (0 : Int32) = some (Sum.inr (i32 m)) := e
    rw [e, dB_f (fun ⟨p, q1, q2⟩ => h1 p (by omega) q1 q2)]; rfl
end MGREEDY
