/-! numbers of the machine with their values and bounds -/
def R32 (a : Int32) (A K : Int) : Prop := a.toInt = A ∧ -K ≤ A ∧ A ≤ K
def R64 (a : Int64) (A K : Int) : Prop := a.toInt = A ∧ -K ≤ A ∧ A ≤ K
theorem pb {A B K J : Int} (h1 : -K ≤ A) (h2 : A ≤ K) (h3 : -J ≤ B) (h4 : B ≤ J) : -(K * J) ≤ A * B ∧ A * B ≤ K * J := by
  have p1 := m_pp (show 0 ≤ K - A by omega) (show 0 ≤ J - B by omega)
  have p2 := m_pp (show 0 ≤ K + A by omega) (show 0 ≤ J + B by omega)
  have p3 := m_pp (show 0 ≤ K - A by omega) (show 0 ≤ J + B by omega)
  have p4 := m_pp (show 0 ≤ K + A by omega) (show 0 ≤ J - B by omega)
  have e1 : (K - A) * (J - B) + (K + A) * (J + B) = 2 * (K * J) + 2 * (A * B) := by grind
  have e2 : (K - A) * (J + B) + (K + A) * (J - B) = 2 * (K * J) - 2 * (A * B) := by grind
  omega
theorem r_add {a b : Int32} {A B K J : Int} (h : R32 a A K) (k : R32 b B J) (l : K + J < 2147483648) : R32 (a + b) (A + B) (K + J) := by
  obtain ⟨h1, h2, h3⟩ := h
  obtain ⟨k1, k2, k3⟩ := k
  refine ⟨?_, by omega, by omega⟩
  rw [ti_add (by omega) (by omega), h1, k1]
theorem r_sub {a b : Int32} {A B K J : Int} (h : R32 a A K) (k : R32 b B J) (l : K + J < 2147483648) : R32 (a - b) (A - B) (K + J) := by
  obtain ⟨h1, h2, h3⟩ := h
  obtain ⟨k1, k2, k3⟩ := k
  refine ⟨?_, by omega, by omega⟩
  rw [ti_sub (by omega) (by omega), h1, k1]
theorem r_mul {a b : Int32} {A B K J : Int} (h : R32 a A K) (k : R32 b B J) (l : K * J < 2147483648) : R32 (a * b) (A * B) (K * J) := by
  obtain ⟨h1, h2, h3⟩ := h
  obtain ⟨k1, k2, k3⟩ := k
  have := pb h2 h3 k2 k3
  refine ⟨?_, by omega, by omega⟩
  rw [ti_mul (by rw [h1, k1]; omega) (by rw [h1, k1]; omega), h1, k1]
theorem bm64 {x : Int} (h1 : -9223372036854775808 ≤ x) (h2 : x < 9223372036854775808) : x.bmod (2 ^ 64) = x := by
  rw [Int.bmod_def]
  have e : (((2 : Nat) ^ 64 : Nat) : Int) = 18446744073709551616 := by decide
  rw [e]
  split <;> omega
theorem r_64 {a : Int32} {A K : Int} (h : R32 a A K) : R64 a.toInt64 A K := ⟨by rw [Int32.toInt_toInt64, h.1], h.2⟩
theorem r6_add {a b : Int64} {A B K J : Int} (h : R64 a A K) (k : R64 b B J) (l : K + J < 9223372036854775808) : R64 (a + b) (A + B) (K + J) := by
  obtain ⟨h1, h2, h3⟩ := h
  obtain ⟨k1, k2, k3⟩ := k
  refine ⟨?_, by omega, by omega⟩
  rw [Int64.toInt_add, h1, k1, bm64 (by omega) (by omega)]
theorem r6_sub {a b : Int64} {A B K J : Int} (h : R64 a A K) (k : R64 b B J) (l : K + J < 9223372036854775808) : R64 (a - b) (A - B) (K + J) := by
  obtain ⟨h1, h2, h3⟩ := h
  obtain ⟨k1, k2, k3⟩ := k
  refine ⟨?_, by omega, by omega⟩
  rw [Int64.toInt_sub, h1, k1, bm64 (by omega) (by omega)]
theorem r6_mul {a b : Int64} {A B K J : Int} (h : R64 a A K) (k : R64 b B J) (l : K * J < 9223372036854775808) : R64 (a * b) (A * B) (K * J) := by
  obtain ⟨h1, h2, h3⟩ := h
  obtain ⟨k1, k2, k3⟩ := k
  have := pb h2 h3 k2 k3
  refine ⟨?_, by omega, by omega⟩
  rw [Int64.toInt_mul, h1, k1, bm64 (by omega) (by omega)]
theorem r_of {a : Int32} (h1 : 0 ≤ a.toInt) (h2 : a.toInt ≤ 100) : R32 a a.toInt 100 := ⟨rfl, by omega, h2⟩
/-- what is true, as a machine's word -/
noncomputable def dB (p : Prop) : Bool := @decide p (Classical.propDecidable p)
theorem dB_t {p : Prop} (h : p) : dB p = true := @decide_eq_true p (Classical.propDecidable p) h
theorem dB_f {p : Prop} (h : ¬ p) : dB p = false := @decide_eq_false p (Classical.propDecidable p) h
theorem dB_iff {p : Prop} : dB p = true ↔ p := ⟨fun h => @of_decide_eq_true p (Classical.propDecidable p) h, dB_t⟩
theorem dB_eq {b : Bool} {p : Prop} (h : b = true ↔ p) : b = dB p := by
  by_cases c : p
  · rw [dB_t c]; exact h.2 c
  · rw [dB_f c]
    cases b with
    | false => rfl
    | true => exact absurd (h.1 rfl) c
theorem dB_cong {p q : Prop} (h : p ↔ q) : dB p = dB q := by rw [propext h]
theorem bI_t {p : Prop} (h : p) : ¬ (bI (dB p) = 0) := by rw [dB_t h]; decide
theorem bI_f {p : Prop} (h : ¬ p) : bI (dB p) = 0 := by rw [dB_f h]; rfl
/-! the plan -/
def pt (X Y : Nat → Int) (i : Nat) : Int × Int × Int := (X i, Y i, 1)
theorem pt_w (X Y : Nat → Int) (i : Nat) : (pt X Y i).2.2 = 1 := rfl
/-- the class's plan -/
def CP (n m : Nat) (X Y : Nat → Int) (L H : Nat → Nat) (pxs pys plo phi : Nat → Int32) (pn pm : Int32) : Prop :=
  pn = i32 n ∧ pm = i32 m ∧ (∀ i, i < n → (pxs i).toInt = X i ∧ (pys i).toInt = Y i) ∧ (∀ c, c < m → plo c = i32 (L c) ∧ phi c = i32 (H c))
/-- the reference's plan -/
def MP (n m : Nat) (X Y : Nat → Int) (L H : Nat → Nat) (mnow : Nat → Int32) : Prop :=
  mnow 0 = i32 n ∧ mnow 1 = i32 m ∧ (∀ i, i < n → (mnow (2 + i)).toInt = X i ∧ (mnow (19 + i)).toInt = Y i) ∧
    (∀ c, c < m → mnow (36 + 2 * c) = i32 (L c) ∧ mnow (37 + 2 * c) = i32 (H c))
/-- what holds of each plan -/
def Ok (n m : Nat) (X Y : Nat → Int) (L H : Nat → Nat) : Prop :=
  n ≤ 16 ∧ m ≤ 10 ∧ Bx n (pt X Y) ∧ (∀ i j, i < n → j < n → pt X Y i = pt X Y j → i = j) ∧
    (∀ c, c < m → L c < H c ∧ H c < n) ∧ (∀ c d, c < m → d < m → L c = L d → H c = H d → c = d) ∧
    (∀ c p, c < m → p < n → ¬ cov (pt X Y (L c)) (pt X Y (H c)) (pt X Y p)) ∧
    (∀ c d, c < m → d < m → ¬ xc (pt X Y (L c)) (pt X Y (H c)) (pt X Y (L d)) (pt X Y (H d)) ∧ ¬ xc (pt X Y (L c)) (pt X Y (H c)) (pt X Y (H d)) (pt X Y (L d)))
theorem bx_r {n : Nat} {X Y : Nat → Int} (B : Bx n (pt X Y)) {i : Nat} (h : i < n) : 0 ≤ X i ∧ X i ≤ 100 ∧ 0 ≤ Y i ∧ Y i ≤ 100 := B i h
/-- the area, the product and the square as the machine counts them -/
theorem r_area {a b c d x y : Int32} {A B C D P Q : Int} (ha : R32 a A 100) (hb : R32 b B 100) (hc : R32 c C 100) (hd : R32 d D 100) (hx : R32 x P 100) (hy : R32 y Q 100) :
    R32 (((c - a) * (y - b)) - ((d - b) * (x - a))) ((C - A) * (Q - B) - (D - B) * (P - A)) 80000 := by
  have e1 := r_mul (r_sub hc ha (by omega)) (r_sub hy hb (by omega)) (by omega)
  have e2 := r_mul (r_sub hd hb (by omega)) (r_sub hx ha (by omega)) (by omega)
  exact r_sub e1 e2 (by omega)
theorem r_dot {a b c d x y : Int32} {A B C D P Q : Int} (ha : R32 a A 100) (hb : R32 b B 100) (hc : R32 c C 100) (hd : R32 d D 100) (hx : R32 x P 100) (hy : R32 y Q 100) :
    R32 (((a - x) * (c - x)) + ((b - y) * (d - y))) ((A - P) * (C - P) + (B - Q) * (D - Q)) 80000 := by
  have e1 := r_mul (r_sub ha hx (by omega)) (r_sub hc hx (by omega)) (by omega)
  have e2 := r_mul (r_sub hb hy (by omega)) (r_sub hd hy (by omega)) (by omega)
  exact r_add e1 e2 (by omega)
theorem r_dot2 {a b c d x y : Int32} {A B C D P Q : Int} (ha : R32 a A 100) (hb : R32 b B 100) (hc : R32 c C 100) (hd : R32 d D 100) (hx : R32 x P 100) (hy : R32 y Q 100) :
    R32 (((x - a) * (x - c)) + ((y - b) * (y - d))) ((P - A) * (P - C) + (Q - B) * (Q - D)) 80000 := by
  have e1 := r_mul (r_sub hx ha (by omega)) (r_sub hx hc (by omega)) (by omega)
  have e2 := r_mul (r_sub hy hb (by omega)) (r_sub hy hd (by omega)) (by omega)
  exact r_add e1 e2 (by omega)
section CLASSPLAN
variable {n m : Nat} {X Y : Nat → Int} {L H : Nat → Nat} {pxs pys plo phi : Nat → Int32} {pn pm : Int32}
theorem c_rx (hC : CP n m X Y L H pxs pys plo phi pn pm) (hO : Ok n m X Y L H) {i : Nat} (hi : i < n) : R32 (s_Row_get 16 pxs (i32 i)) (X i) 100 := by
  have hn := hO.1
  rw [rget pxs (by omega) (by omega)]
  have := bx_r hO.2.2.1 hi
  exact ⟨(hC.2.2.1 i hi).1, by omega, by omega⟩
theorem c_ry (hC : CP n m X Y L H pxs pys plo phi pn pm) (hO : Ok n m X Y L H) {i : Nat} (hi : i < n) : R32 (s_Row_get 16 pys (i32 i)) (Y i) 100 := by
  have hn := hO.1
  rw [rget pys (by omega) (by omega)]
  have := bx_r hO.2.2.1 hi
  exact ⟨(hC.2.2.1 i hi).2, by omega, by omega⟩
theorem c_tsa (hC : CP n m X Y L H pxs pys plo phi pn pm) (hO : Ok n m X Y L H) {a b : Nat} (ha : a < n) (hb : b < n) {x y : Int32} {P Q : Int} (hx : R32 x P 100) (hy : R32 y Q 100) :
    R32 (s_Plan_twiceSignedArea pxs pys (i32 a) (i32 b) x y) (dt (pt X Y a) (pt X Y b) (P, Q, 1)) 80000 := by
  have e : dt (pt X Y a) (pt X Y b) (P, Q, 1) = (X b - X a) * (Q - Y a) - (Y b - Y a) * (P - X a) := by
    simp only [dt, pt]; grind
  rw [e]
  exact r_area (c_rx hC hO ha) (c_ry hC hO ha) (c_rx hC hO hb) (c_ry hC hO hb) hx hy
theorem c_side (hC : CP n m X Y L H pxs pys plo phi pn pm) (hO : Ok n m X Y L H) {a b c : Nat} (ha : a < n) (hb : b < n) (hc : c < n) :
    s_Plan_side pxs pys (i32 a) (i32 b) (i32 c) = sg (dt (pt X Y a) (pt X Y b) (pt X Y c)) := by
  unfold s_Plan_side
  rw [sgOf, Int32.toInt_toInt64, (c_tsa hC hO ha hb (c_rx hC hO hc) (c_ry hC hO hc)).1]
  rfl
theorem c_cov (hC : CP n m X Y L H pxs pys plo phi pn pm) (hO : Ok n m X Y L H) {a b : Nat} (ha : a < n) (hb : b < n) {x y : Int32} {P Q : Int} (hx : R32 x P 100) (hy : R32 y Q 100) :
    s_Plan_covers pxs pys (i32 a) (i32 b) x y = dB (cov (pt X Y a) (pt X Y b) (P, Q, 1)) := by
  have h1 := (c_tsa hC hO ha hb hx hy).1
  have h2 := (r_dot (c_rx hC hO ha) (c_ry hC hO ha) (c_rx hC hO hb) (c_ry hC hO hb) hx hy).1
  have e : dotp (pt X Y a) (pt X Y b) (P, Q, 1) = (X a - P) * (X b - P) + (Y a - Q) * (Y b - Q) := rfl
  unfold s_Plan_covers
  by_cases c : dt (pt X Y a) (pt X Y b) (P, Q, 1) = 0
  · rw [if_pos (Int32.toInt_inj.1 (by rw [h1, c, Int32.toInt_zero]))]
    by_cases d : dotp (pt X Y a) (pt X Y b) (P, Q, 1) < 0
    · rw [if_neg (fun k => by rw [Int32.le_iff_toInt_le, h2, Int32.toInt_zero] at k; omega), dB_t ⟨c, d⟩]
    · rw [if_pos (by rw [Int32.le_iff_toInt_le, h2, Int32.toInt_zero]; omega), dB_f (fun k => d k.2)]
  · rw [if_neg (fun k => c (by rw [← h1, k, Int32.toInt_zero])), dB_f (fun k => c k.1)]
theorem c_covp (hC : CP n m X Y L H pxs pys plo phi pn pm) (hO : Ok n m X Y L H) {a b p : Nat} (ha : a < n) (hb : b < n) (hp : p < n) :
    s_Plan_covers pxs pys (i32 a) (i32 b) (s_Row_get 16 pxs (i32 p)) (s_Row_get 16 pys (i32 p)) = dB (cov (pt X Y a) (pt X Y b) (pt X Y p)) :=
  c_cov hC hO ha hb (c_rx hC hO hp) (c_ry hC hO hp)
theorem c_sqd (hC : CP n m X Y L H pxs pys plo phi pn pm) (hO : Ok n m X Y L H) {a b : Nat} (ha : a < n) (hb : b < n) :
    R32 (s_Plan_squaredDistance pxs pys (i32 a) (i32 b)) (sqd (pt X Y a) (pt X Y b)) 80000 := by
  have e1 := r_sub (c_rx hC hO ha) (c_rx hC hO hb) (by omega)
  have e2 := r_sub (c_ry hC hO ha) (c_ry hC hO hb) (by omega)
  exact r_add (r_mul e1 e1 (by omega)) (r_mul e2 e2 (by omega)) (by omega)
theorem c_taf (hC : CP n m X Y L H pxs pys plo phi pn pm) (hO : Ok n m X Y L H) {a b d : Nat} (ha : a < n) (hb : b < n) (hd : d < n) :
    R32 (s_Plan_twiceAreaFrom pxs pys (s_Row_get 16 pxs (i32 d)) (s_Row_get 16 pys (i32 d)) (i32 a) (i32 b)) (dt (pt X Y a) (pt X Y b) (pt X Y d)) 80000 := by
  have e : dt (pt X Y a) (pt X Y b) (pt X Y d) = (X a - X d) * (Y b - Y d) - (Y a - Y d) * (X b - X d) := by
    simp only [dt, pt]; grind
  rw [e]
  exact r_sub (r_mul (r_sub (c_rx hC hO ha) (c_rx hC hO hd) (by omega)) (r_sub (c_ry hC hO hb) (c_ry hC hO hd) (by omega)) (by omega))
    (r_mul (r_sub (c_ry hC hO ha) (c_ry hC hO hd) (by omega)) (r_sub (c_rx hC hO hb) (c_rx hC hO hd) (by omega)) (by omega)) (by omega)
theorem c_circ (hC : CP n m X Y L H pxs pys plo phi pn pm) (hO : Ok n m X Y L H) {a b c d : Nat} (ha : a < n) (hb : b < n) (hc : c < n) (hd : d < n) :
    s_Plan_circleSide pxs pys (i32 a) (i32 b) (i32 c) (i32 d) = sg (Dq (pt X Y a) (pt X Y b) (pt X Y c) (pt X Y d)) * sg (dt (pt X Y a) (pt X Y b) (pt X Y c)) := by
  unfold s_Plan_circleSide
  rw [sgOf, c_side hC hO ha hb hc, dq_at4 (pt_w X Y a) (pt_w X Y b) (pt_w X Y c) (pt_w X Y d)]
  have t1 := r6_mul (r_64 (c_sqd hC hO ha hd)) (r_64 (c_taf hC hO hb hc hd)) (by omega)
  have t2 := r6_mul (r_64 (c_sqd hC hO hb hd)) (r_64 (c_taf hC hO hc ha hd)) (by omega)
  have t3 := r6_mul (r_64 (c_sqd hC hO hc hd)) (r_64 (c_taf hC hO ha hb hd)) (by omega)
  have t := r6_add (r6_add t1 t2 (by omega)) t3 (by omega)
  rw [t.1]
end CLASSPLAN
section MODPLAN
variable {n m : Nat} {X Y : Nat → Int} {L H : Nat → Nat} {mnow : Nat → Int32}
theorem m_n (hM : MP n m X Y L H mnow) : s_Mod_n mnow = some (i32 n) := by
  unfold s_Mod_n
  rw [show (0 : Int32) = i32 0 from rfl, aget_i mnow (by omega) (by omega), hM.1]; rfl
theorem m_m (hM : MP n m X Y L H mnow) : s_Mod_m mnow = some (i32 m) := by
  unfold s_Mod_m
  rw [show (1 : Int32) = i32 1 from rfl, aget_i mnow (by omega) (by omega), hM.2.1]; rfl
theorem m_x (mnow : Nat → Int32) {i : Nat} (hi : i < 17) : s_Mod_x mnow (i32 i) = some (mnow (2 + i)) := by
  unfold s_Mod_x
  rw [show (2 : Int32) = i32 2 from rfl, i32_add, aget_i mnow (by omega) (by omega)]; rfl
theorem m_y (mnow : Nat → Int32) {i : Nat} (hi : i < 17) : s_Mod_y mnow (i32 i) = some (mnow (19 + i)) := by
  unfold s_Mod_y
  rw [show (19 : Int32) = i32 19 from rfl, i32_add, aget_i mnow (by omega) (by omega)]; rfl
theorem m_end0 (hM : MP n m X Y L H mnow) (hO : Ok n m X Y L H) {c : Nat} (hc : c < m) : s_Mod_end mnow (i32 c) (0 : Int32) = some (i32 (L c)) := by
  have := hO.2.1
  unfold s_Mod_end
  rw [show (36 : Int32) = i32 36 from rfl, show (2 : Int32) = i32 2 from rfl, show (0 : Int32) = i32 0 from rfl, i32_mul, i32_add, i32_add, aget_i mnow (by omega) (by omega),
    show 36 + 2 * c + 0 = 36 + 2 * c from rfl, (hM.2.2.2 c hc).1]; rfl
theorem m_end1 (hM : MP n m X Y L H mnow) (hO : Ok n m X Y L H) {c : Nat} (hc : c < m) : s_Mod_end mnow (i32 c) (1 : Int32) = some (i32 (H c)) := by
  have := hO.2.1
  unfold s_Mod_end
  rw [show (36 : Int32) = i32 36 from rfl, show (2 : Int32) = i32 2 from rfl, show (1 : Int32) = i32 1 from rfl, i32_mul, i32_add, i32_add, aget_i mnow (by omega) (by omega),
    show 36 + 2 * c + 1 = 37 + 2 * c by omega, (hM.2.2.2 c hc).2]; rfl
theorem m_rx (hM : MP n m X Y L H mnow) (hO : Ok n m X Y L H) {i : Nat} (hi : i < n) : R32 (mnow (2 + i)) (X i) 100 := by
  have := bx_r hO.2.2.1 hi
  exact ⟨(hM.2.2.1 i hi).1, by omega, by omega⟩
theorem m_ry (hM : MP n m X Y L H mnow) (hO : Ok n m X Y L H) {i : Nat} (hi : i < n) : R32 (mnow (19 + i)) (Y i) 100 := by
  have := bx_r hO.2.2.1 hi
  exact ⟨(hM.2.2.1 i hi).2, by omega, by omega⟩
theorem m_tof {a b c d x y : Int32} {A B C D P Q : Int} (ha : R32 a A 100) (hb : R32 b B 100) (hc : R32 c C 100) (hd : R32 d D 100) (hx : R32 x P 100) (hy : R32 y Q 100) :
    s_Mod_turnOf a b c d x y = sg (dt (A, B, 1) (C, D, 1) (P, Q, 1)) := by
  unfold s_Mod_turnOf
  have e : dt (A, B, 1) (C, D, 1) (P, Q, 1) = (C - A) * (Q - B) - (D - B) * (P - A) := by simp only [dt]; grind
  rw [sgn32, (r_area ha hb hc hd hx hy).1, e]
theorem m_turns (hM : MP n m X Y L H mnow) (hO : Ok n m X Y L H) {a b c : Nat} (ha : a < n) (hb : b < n) (hc : c < n) :
    s_Mod_turns mnow (i32 a) (i32 b) (i32 c) = some (sg (dt (pt X Y a) (pt X Y b) (pt X Y c))) := by
  have := hO.1
  unfold s_Mod_turns
  rw [m_x mnow (by omega), m_y mnow (by omega), m_x mnow (by omega), m_y mnow (by omega), m_x mnow (by omega), m_y mnow (by omega)]
  show some (s_Mod_turnOf _ _ _ _ _ _) = _
  rw [m_tof (m_rx hM hO ha) (m_ry hM hO ha) (m_rx hM hO hb) (m_ry hM hO hb) (m_rx hM hO hc) (m_ry hM hO hc)]; rfl
theorem m_on (hM : MP n m X Y L H mnow) (hO : Ok n m X Y L H) {a b : Nat} (ha : a < n) (hb : b < n) {x y : Int32} {P Q : Int} (hx : R32 x P 100) (hy : R32 y Q 100) :
    s_Mod_isOn mnow (i32 a) (i32 b) x y = some (dB (cov (pt X Y a) (pt X Y b) (P, Q, 1))) := by
  have := hO.1
  have h1 : s_Mod_turnOf (mnow (2 + a)) (mnow (19 + a)) (mnow (2 + b)) (mnow (19 + b)) x y = sg (dt (pt X Y a) (pt X Y b) (P, Q, 1)) := m_tof (m_rx hM hO ha) (m_ry hM hO ha) (m_rx hM hO hb) (m_ry hM hO hb) hx hy
  have h2 := (r_dot2 (m_rx hM hO ha) (m_ry hM hO ha) (m_rx hM hO hb) (m_ry hM hO hb) hx hy).1
  have e : dotp (pt X Y a) (pt X Y b) (P, Q, 1) = (P - X a) * (P - X b) + (Q - Y a) * (Q - Y b) := by
    simp only [dotp, pt]; grind
  unfold s_Mod_isOn
  rw [m_x mnow (by omega), m_y mnow (by omega), m_x mnow (by omega), m_y mnow (by omega)]
  simp only [Option.bind_some, h1]
  by_cases c : dt (pt X Y a) (pt X Y b) (P, Q, 1) = 0
  · rw [if_pos ((sg_0 _).2 c)]
    by_cases d : dotp (pt X Y a) (pt X Y b) (P, Q, 1) < 0
    · rw [if_neg (fun k => by rw [Int32.le_iff_toInt_le, h2, Int32.toInt_zero] at k; omega), dB_t ⟨c, d⟩]
    · rw [if_pos (by rw [Int32.le_iff_toInt_le, h2, Int32.toInt_zero]; omega), dB_f (fun k => d k.2)]
  · rw [if_neg (fun k => c ((sg_0 _).1 k)), dB_f (fun k => c k.1)]
theorem m_circ (hM : MP n m X Y L H mnow) (hO : Ok n m X Y L H) {a b c d : Nat} (ha : a < n) (hb : b < n) (hc : c < n) (hd : d < n) :
    s_Mod_circle mnow (i32 a) (i32 b) (i32 c) (i32 d) = some (sg (Dq (pt X Y a) (pt X Y b) (pt X Y c) (pt X Y d)) * sg (dt (pt X Y a) (pt X Y b) (pt X Y c))) := by
  have := hO.1
  unfold s_Mod_circle
  rw [m_turns hM hO ha hb hc, m_x mnow (by omega), m_y mnow (by omega), m_x mnow (by omega), m_y mnow (by omega), m_x mnow (by omega), m_y mnow (by omega), m_x mnow (by omega), m_y mnow (by omega)]
  simp only [Option.bind_some]
  rw [sgn64]
  have ax := r_64 (r_sub (m_rx hM hO ha) (m_rx hM hO hd) (by omega))
  have ay := r_64 (r_sub (m_ry hM hO ha) (m_ry hM hO hd) (by omega))
  have bx := r_64 (r_sub (m_rx hM hO hb) (m_rx hM hO hd) (by omega))
  have by' := r_64 (r_sub (m_ry hM hO hb) (m_ry hM hO hd) (by omega))
  have cx := r_64 (r_sub (m_rx hM hO hc) (m_rx hM hO hd) (by omega))
  have cy := r_64 (r_sub (m_ry hM hO hc) (m_ry hM hO hd) (by omega))
  have t1 := r6_mul (r6_add (r6_mul ax ax (by omega)) (r6_mul ay ay (by omega)) (by omega)) (r6_sub (r6_mul bx cy (by omega)) (r6_mul cx by' (by omega)) (by omega)) (by omega)
  have t2 := r6_mul (r6_add (r6_mul bx bx (by omega)) (r6_mul by' by' (by omega)) (by omega)) (r6_sub (r6_mul ax cy (by omega)) (r6_mul cx ay (by omega)) (by omega)) (by omega)
  have t3 := r6_mul (r6_add (r6_mul cx cx (by omega)) (r6_mul cy cy (by omega)) (by omega)) (r6_sub (r6_mul ax by' (by omega)) (r6_mul bx ay (by omega)) (by omega)) (by omega)
  have t := r6_add (r6_sub t1 t2 (by omega)) t3 (by omega)
  rw [t.1]
  congr 3
  simp only [Dq, De, qh, dt, pt]; grind
end MODPLAN
