section ROUNDS
variable {n m : Nat} {X Y : Nat → Int} {L H : Nat → Nat} {pxs pys plo phi : Nat → Int32} {pn pm : Int32} {mnow : Nat → Int32}
/-- what stands between the two sides while edges are flipped -/
def FI (n m : Nat) (X Y : Nat → Int) (L H : Nat → Nat) (E : Nat → Nat → Prop) (th lk medg : Nat → Int32) : Prop :=
  Gs n (pt X Y) E ∧ (∀ c, c < m → E (L c) (H c)) ∧ TH n (pt X Y) E th ∧ LK lk E ∧ ME medg E
theorem bd_ok (hO : Ok n m X Y L H) {E : Nat → Nat → Prop} (G : Ge n (pt X Y) E) {a b c d : Nat} (hab : a < b) (h : Ap n (pt X Y) E a b c) (k : Ap n (pt X Y) E b a d) (z : Bd (pt X Y) a b c d) :
    0 < dt (pt X Y a) (pt X Y d) (pt X Y c) ∧ 0 < dt (pt X Y d) (pt X Y b) (pt X Y c) ∧ 0 < Dh (pt X Y) a b c d := by
  obtain ⟨ha, hb, hc, ab, bc, ca⟩ := ap_lt G h
  obtain ⟨_, _, hd, _, ad, db⟩ := ap_lt G k
  have cv := bad_cv (pt_w X Y a) (pt_w X Y b) (pt_w X Y c) (pt_w X Y d) h.2.2.2.1 k.2.2.2.1 (z.elim Int.le_of_lt (fun y => by omega))
  refine ⟨cv.1, cv.2, ?_⟩
  rcases z with z | ⟨z1, z2⟩
  · exact dh_pos hO.1 (fun _ _ => rfl) hO.2.2.1 ha hb hc hd z
  · rw [Nat.max_eq_right (show a ≤ b by omega)] at z2
    have l1 := Nat.le_max_left c d
    have l2 := Nat.le_max_right c d
    exact dh_tie (fun _ _ => rfl) hO.2.2.1 ha hb hc hd z1 (Or.inr ⟨by omega, by omega⟩) cv.1 cv.2
/-- one pair, on both sides -/
theorem f_pair (hC : CP n m X Y L H pxs pys plo phi pn pm) (hM : MP n m X Y L H mnow) (hO : Ok n m X Y L H) (F : Nat) (hF : 300 ≤ F)
    {a b : Nat} (hab : a < b) (hb : b < n) {E : Nat → Nat → Prop} {th lk medg : Nat → Int32} (hI : FI n m X Y L H E th lk medg) :
    ∃ E' th' lk' medg' fl, FI n m X Y L H E' th' lk' medg' ∧ (fl = true → Phi n (pt X Y) E' + 6 ≤ Phi n (pt X Y) E) ∧ (fl = false → E' = E) ∧
      (∀ k x1, s_Mesh_flipBadEdges_L19 F pxs pys plo phi pn pm (i32 a) (k + 1) x1 (i32 b) th lk = s_Mesh_flipBadEdges_L19 F pxs pys plo phi pn pm (i32 a) k (if fl then (1 : Int32) else x1) (i32 (b + 1)) th' lk') ∧
      s_Mod_flips F mnow medg (i32 a) (i32 b) = some (fl, medg') := by
  have hn := hO.1
  obtain ⟨G, hc, hT, hK, hE⟩ := hI
  have ge := G.1.2.2.1
  have ha : a < n := by omega
  have inn := c_inner hn G.1 hT (show a < 16 by omega) (show b < 16 by omega)
  have mh := m_has hE (show a < 17 by omega) (show b < 17 by omega)
  have ct := c_tied hC hO F hF ha hb
  have mt := m_tied hM hO F hF ha hb
  have stay : ∀ x1 : Int32, (if false then (1 : Int32) else x1) = x1 := fun x1 => if_neg (by decide)
  by_cases e1 : E a b
  case neg =>
    refine ⟨E, th, lk, medg, false, ⟨G, hc, hT, hK, hE⟩, (fun z => by cases z), (fun _ => rfl), ?_, ?_⟩
    · intro k x1
      simp only [s_Mesh_flipBadEdges_L19, s_Plan_points, hC.1, inn]
      rw [if_neg (n_le (by omega) hb), if_pos (bI_f (fun z => z.1.elim (fun c h => e1 h.1))), i32_s]; rfl
    · unfold s_Mod_flips
      rw [mh]
      simp only [Option.bind_some]
      rw [if_pos (bI_f e1)]
  obtain ⟨x, hx, ax⟩ := m_apex hM hO hE G.1 F hF e1
  obtain ⟨y, hy, ay⟩ := m_apex hM hO hE G.1 F hF (ge a b e1).2.2.2
  by_cases t : ∃ c, c < m ∧ L c = min a b ∧ H c = max a b
  · refine ⟨E, th, lk, medg, false, ⟨G, hc, hT, hK, hE⟩, (fun z => by cases z), (fun _ => rfl), ?_, ?_⟩
    · intro k x1
      simp only [s_Mesh_flipBadEdges_L19, s_Plan_points, hC.1, inn]
      rw [if_neg (n_le (by omega) hb), i32_s]
      by_cases c1 : (∃ c, Ap n (pt X Y) E a b c) ∧ ∃ d, Ap n (pt X Y) E b a d
      · rw [if_neg (bI_t c1)]
        by_cases c2 : bI (s_Mesh_passesCircle pxs pys th (i32 a) (i32 b)) = 0
        · rw [if_pos c2, ct]
          simp only [Option.bind_some]
          rw [if_neg (bI_t t)]; rfl
        · rw [if_neg c2]; rfl
      · rw [if_pos (bI_f c1)]; rfl
    · unfold s_Mod_flips
      rw [mh]
      simp only [Option.bind_some]
      rw [if_neg (bI_t e1), mt]
      simp only [Option.bind_some]
      rw [if_neg (bI_t t)]
  have m1n : (-1 : Int32) < 0 := by decide
  rcases ax with ⟨c, h, rfl⟩ | ⟨h, rfl⟩
  case inr =>
    refine ⟨E, th, lk, medg, false, ⟨G, hc, hT, hK, hE⟩, (fun z => by cases z), (fun _ => rfl), ?_, ?_⟩
    · intro k x1
      simp only [s_Mesh_flipBadEdges_L19, s_Plan_points, hC.1, inn]
      rw [if_neg (n_le (by omega) hb), if_pos (bI_f (fun z => z.1.elim h)), i32_s]; rfl
    · unfold s_Mod_flips
      rw [mh]
      simp only [Option.bind_some]
      rw [if_neg (bI_t e1), mt]
      simp only [Option.bind_some]
      rw [if_pos (bI_f t), hx, hy]
      simp only [Option.bind_some]
      rw [if_pos m1n]
  rcases ay with ⟨d, k, rfl⟩ | ⟨k, rfl⟩
  case inr =>
    have cb := ap_lt G.1 h
    refine ⟨E, th, lk, medg, false, ⟨G, hc, hT, hK, hE⟩, (fun z => by cases z), (fun _ => rfl), ?_, ?_⟩
    · intro k1 x1
      simp only [s_Mesh_flipBadEdges_L19, s_Plan_points, hC.1, inn]
      rw [if_neg (n_le (by omega) hb), if_pos (bI_f (fun z => z.2.elim k)), i32_s]; rfl
    · unfold s_Mod_flips
      rw [mh]
      simp only [Option.bind_some]
      rw [if_neg (bI_t e1), mt]
      simp only [Option.bind_some]
      rw [if_pos (bI_f t), hx, hy]
      simp only [Option.bind_some]
      rw [if_neg (i32_neg (by omega)), if_pos m1n]
  obtain ⟨_, _, hcn, ab, bc, ca⟩ := ap_lt G.1 h
  obtain ⟨_, _, hdn, _, ad, db⟩ := ap_lt G.1 k
  have inn2 : (∃ c, Ap n (pt X Y) E a b c) ∧ ∃ d, Ap n (pt X Y) E b a d := ⟨⟨c, h⟩, d, k⟩
  have ps := c_pass hC hO G.1 hT h k
  have mg := m_good hM hO ha hb hcn hdn h.2.2.2.1
  by_cases z : Bd (pt X Y) a b c d
  case neg =>
    refine ⟨E, th, lk, medg, false, ⟨G, hc, hT, hK, hE⟩, (fun z => by cases z), (fun _ => rfl), ?_, ?_⟩
    · intro k1 x1
      simp only [s_Mesh_flipBadEdges_L19, s_Plan_points, hC.1, inn, ps]
      rw [if_neg (n_le (by omega) hb), if_neg (bI_t inn2), if_neg (bI_t z), i32_s]; rfl
    · unfold s_Mod_flips
      rw [mh]
      simp only [Option.bind_some]
      rw [if_neg (bI_t e1), mt]
      simp only [Option.bind_some]
      rw [if_pos (bI_f t), hx, hy]
      simp only [Option.bind_some]
      rw [if_neg (i32_neg (by omega)), if_neg (i32_neg (by omega)), mg]
      simp only [Option.bind_some]
      rw [if_neg (bI_t z)]
  obtain ⟨v1, v2, v3⟩ := bd_ok hO G.1 hab h k z
  have cf := c_flip hn G.1 hT hK h k v1 v2
  have cd : c ≠ d := by intro e; rw [e, dt_baa] at v1; omega
  refine ⟨Fl E a b c d, (s_Mesh_flip th lk (i32 a) (i32 b)).1, (s_Mesh_flip th lk (i32 a) (i32 b)).2, fun j => if j = 17 * d + c then bI true else if j = 17 * c + d then bI true else (if j = 17 * b + a then bI false else if j = 17 * a + b then bI false else medg j), true,
    ⟨fl_gs G h k v1 v2, ?_, cf.1, cf.2, ?_⟩, fun _ => phi_fl hn hO.2.2.1 G.1 h k v1 v2 v3, (fun w => by cases w), ?_, ?_⟩
  · intro i hi
    have lh := hO.2.2.2.2.1 i hi
    refine Or.inl ⟨hc i hi, ?_, ?_⟩
    · rintro ⟨w1, w2⟩
      exact t ⟨i, hi, by rw [Nat.min_eq_left (by omega)]; exact w1, by rw [Nat.max_eq_right (by omega)]; exact w2⟩
    · rintro ⟨w1, w2⟩
      omega
  · have p1 : ME (fun j => if j = 17 * b + a then bI false else if j = 17 * a + b then bI false else medg j) (fun x y => E x y ∧ ¬ (x = a ∧ y = b) ∧ ¬ (x = b ∧ y = a)) :=
      me_put hE (by omega) (by omega) false ⟨fun w => (w.2.1 ⟨rfl, rfl⟩).elim, (fun w => by cases w)⟩ ⟨fun w => (w.2.2 ⟨rfl, rfl⟩).elim, (fun w => by cases w)⟩
        (fun x y n1 n2 => ⟨fun w => w.1, fun w => ⟨w, n1, n2⟩⟩)
    rw [fl_ad]
    exact me_put p1 (by omega) (by omega) true ⟨fun _ => rfl, fun _ => Or.inr (Or.inl ⟨rfl, rfl⟩)⟩ ⟨fun _ => rfl, fun _ => Or.inr (Or.inr ⟨rfl, rfl⟩)⟩
      (fun x y n1 n2 => ⟨fun z => z.elim id (fun z => z.elim (fun z => (n1 z).elim) (fun z => (n2 z).elim)), Or.inl⟩)
  · intro k1 x1
    simp only [s_Mesh_flipBadEdges_L19, s_Plan_points, hC.1, inn, ps]
    rw [if_neg (n_le (by omega) hb), if_neg (bI_t inn2), if_pos (bI_f (fun w => w z)), ct]
    simp only [Option.bind_some]
    rw [if_pos (bI_f t), i32_s]; rfl
  · unfold s_Mod_flips
    rw [mh]
    simp only [Option.bind_some]
    rw [if_neg (bI_t e1), mt]
    simp only [Option.bind_some]
    rw [if_pos (bI_f t), hx, hy]
    simp only [Option.bind_some]
    rw [if_neg (i32_neg (by omega)), if_neg (i32_neg (by omega)), mg]
    simp only [Option.bind_some]
    rw [if_pos (bI_f (fun w => w z)), m_puts medg (by omega) (by omega)]
    simp only [Option.bind_some]
    rw [m_puts _ (by omega) (by omega)]
    rfl
/-- the flag of a sweep, and how far the count has fallen -/
def Fg (n : Nat) (X Y : Nat → Int) (E0 : Nat → Nat → Prop) (x : Int32) (E : Nat → Nat → Prop) : Prop :=
  (x = 0 ∧ E = E0) ∨ (x = 1 ∧ Phi n (pt X Y) E + 6 ≤ Phi n (pt X Y) E0)
theorem f_row (hC : CP n m X Y L H pxs pys plo phi pn pm) (hM : MP n m X Y L H mnow) (hO : Ok n m X Y L H) (F : Nat) (hF : 300 ≤ F) {p : Nat → Nat → Prop}
    {a : Nat} (ha : a < n) {E : Nat → Nat → Prop} {x : Int32} {th lk medg : Nat → Int32} (hI : FI n m X Y L H E th lk medg) (hx : Fg n X Y p x E) :
    ∃ E' x' th' lk' medg', FI n m X Y L H E' th' lk' medg' ∧ Fg n X Y p x' E' ∧
      s_Mesh_flipBadEdges_L19 F pxs pys plo phi pn pm (i32 a) F x (i32 (a + 1)) th lk = some (x', i32 n, th', lk') ∧
      s_Mod_builds_L158 F mnow (i32 a) F x (i32 (a + 1)) medg = some (x', i32 n, medg') := by
  have hn := hO.1
  obtain ⟨s', t', ⟨_, E', q0, q1, q2⟩, q3, q4⟩ := lpTwo
    (fun k i (s : Int32 × (Nat → Int32) × (Nat → Int32)) => s_Mesh_flipBadEdges_L19 F pxs pys plo phi pn pm (i32 a) k s.1 (i32 i) s.2.1 s.2.2)
    (fun k i (t : Int32 × (Nat → Int32)) => s_Mod_builds_L158 F mnow (i32 a) k t.1 (i32 i) t.2) n
    (fun i s t => a < i ∧ ∃ E, s.1 = t.1 ∧ FI n m X Y L H E s.2.1 s.2.2 t.2 ∧ Fg n X Y p s.1 E) (fun s => (s.1, i32 n, s.2.1, s.2.2)) (fun t => (t.1, i32 n, t.2))
    (fun k s t h => by simp only [s_Mesh_flipBadEdges_L19, s_Plan_points, hC.1]; rw [if_pos (y_le (by omega) (by omega))])
    (fun k s t h => by simp only [s_Mod_builds_L158, m_n hM, Option.bind_some]; rw [if_pos (y_le (by omega) (by omega))])
    (fun i s t hi ⟨hai, E, h0, h1, h2⟩ => by
      obtain ⟨E', th', lk', medg', fl, r1, r2, r3, r4, r5⟩ := f_pair hC hM hO F hF hai hi h1
      refine ⟨(if fl then (1 : Int32) else s.1, th', lk'), (if fl then (1 : Int32) else t.1, medg'), ⟨by omega, E', ?_, r1, ?_⟩, ?_, ?_⟩
      · show (if fl then (1 : Int32) else s.1) = (if fl then (1 : Int32) else t.1)
        rw [h0]
      · show Fg n X Y p (if fl then (1 : Int32) else s.1) E'
        cases fl with
        | true =>
          have := r2 rfl
          refine Or.inr ⟨rfl, ?_⟩
          rcases h2 with ⟨_, h2⟩ | h2
          · rw [← h2]; omega
          · omega
        | false =>
          rw [r3 rfl]; exact h2
      · intro k; exact r4 k s.1
      · intro k
        show s_Mod_builds_L158 F mnow (i32 a) (k + 1) t.1 (i32 i) t.2 = s_Mod_builds_L158 F mnow (i32 a) k (if fl then (1 : Int32) else t.1) (i32 (i + 1)) medg'
        simp only [s_Mod_builds_L158, m_n hM, Option.bind_some]
        rw [if_neg (n_le (by omega) hi), r5]
        simp only [Option.bind_some]
        cases fl with
        | true => rw [if_neg (by decide), i32_s]; rfl
        | false => rw [if_pos (show bI false = 0 from rfl), i32_s]; rfl)
    (n - (a + 1)) (a + 1) F F (x, th, lk) (x, medg) (by omega) (by omega) (by omega) ⟨by omega, E, rfl, hI, hx⟩
  rw [← q0] at q4
  exact ⟨E', s'.1, s'.2.1, s'.2.2, t'.2, q1, q2, q3, q4⟩
theorem f_sweep (hC : CP n m X Y L H pxs pys plo phi pn pm) (hM : MP n m X Y L H mnow) (hO : Ok n m X Y L H) (F : Nat) (hF : 300 ≤ F)
    {E : Nat → Nat → Prop} {th lk medg : Nat → Int32} (hI : FI n m X Y L H E th lk medg) :
    ∃ E' x' th' lk' medg', FI n m X Y L H E' th' lk' medg' ∧ Fg n X Y E x' E' ∧
      s_Mesh_flipBadEdges F pxs pys plo phi pn pm th lk = some (if x' = 0 then false else true, th', lk') ∧
      s_Mod_builds_L146 F mnow F (0 : Int32) (0 : Int32) medg = some (x', i32 n, medg') := by
  have hn := hO.1
  obtain ⟨s', t', ⟨E', q0, q1, q2⟩, q3, q4⟩ := lpTwo
    (fun k i (s : Int32 × (Nat → Int32) × (Nat → Int32)) => s_Mesh_flipBadEdges_L4 F pxs pys plo phi pn pm k s.1 (i32 i) s.2.1 s.2.2)
    (fun k i (t : Int32 × (Nat → Int32)) => s_Mod_builds_L146 F mnow k t.1 (i32 i) t.2) n
    (fun i s t => ∃ E', s.1 = t.1 ∧ FI n m X Y L H E' s.2.1 s.2.2 t.2 ∧ Fg n X Y E s.1 E') (fun s => (s.1, i32 n, s.2.1, s.2.2)) (fun t => (t.1, i32 n, t.2))
    (fun k s t h => by simp only [s_Mesh_flipBadEdges_L4, s_Plan_points, hC.1]; rw [if_pos (y_le (by omega) (by omega))])
    (fun k s t h => by simp only [s_Mod_builds_L146, m_n hM, Option.bind_some]; rw [if_pos (y_le (by omega) (by omega))])
    (fun i s t hi ⟨E1, h0, h1, h2⟩ => by
      obtain ⟨E', x', th', lk', medg', r1, r2, r3, r4⟩ := f_row hC hM hO F hF hi h1 h2
      rw [hC.1] at r3
      refine ⟨(x', th', lk'), (x', medg'), ⟨E', rfl, r1, r2⟩, ?_, ?_⟩
      · intro k
        simp only [s_Mesh_flipBadEdges_L4, s_Plan_points, hC.1]
        rw [if_neg (n_le (by omega) hi), i32_s, r3]
        simp only [Option.bind_some]
      · intro k
        simp only [s_Mod_builds_L146, m_n hM, Option.bind_some]
        rw [if_neg (n_le (by omega) hi), i32_s, ← h0, r4]
        simp only [Option.bind_some])
    n 0 F F ((0 : Int32), th, lk) ((0 : Int32), medg) (by omega) (by omega) (by omega) ⟨E, rfl, hI, Or.inl ⟨rfl, rfl⟩⟩
  rw [← q0] at q4
  refine ⟨E', s'.1, s'.2.1, s'.2.2, t'.2, q1, q2, ?_, q4⟩
  unfold s_Mesh_flipBadEdges
  have q3 : s_Mesh_flipBadEdges_L4 F pxs pys plo phi pn pm F (0 : Int32) (0 : Int32) th lk = some (s'.1, i32 n, s'.2.1, s'.2.2) := q3
  rw [q3]
  simp only [Option.bind_some]
  rcases q2 with ⟨z, _⟩ | ⟨z, _⟩
  · rw [if_pos z, if_pos z]
  · have n0 : ¬ (s'.1 = 0) := by rw [z]; decide
    rw [if_neg n0, if_pos z, if_neg n0]
theorem f_rounds (hC : CP n m X Y L H pxs pys plo phi pn pm) (hM : MP n m X Y L H mnow) (hO : Ok n m X Y L H) (F : Nat) (hF : 300 ≤ F) :
    ∀ j r k1 k2 (E : Nat → Nat → Prop) (th lk medg : Nat → Int32), FI n m X Y L H E th lk medg → Phi n (pt X Y) E < 6 * j → r + j < 1000 → j + 1 < k1 → j + 1 < k2 →
    ∃ E' r' th' lk' medg', FI n m X Y L H E' th' lk' medg' ∧ (Phi n (pt X Y) E < 6 → E' = E) ∧
      s_Mesh_draw_L16 F pxs pys plo phi pn pm k1 (1 : Int32) (i32 r) th lk = some ((0 : Int32), r', th', lk') ∧
      s_Mod_builds_L138 F mnow k2 (1 : Int32) medg = some ((0 : Int32), medg') := by
  intro j
  induction j with
  | zero => intro r k1 k2 E th lk medg _ h; omega
  | succ j ih =>
    intro r k1 k2 E th lk medg hI hp hr h1 h2
    obtain ⟨k1, rfl⟩ : ∃ j, k1 = j + 1 := ⟨k1 - 1, by omega⟩
    obtain ⟨k2, rfl⟩ : ∃ j, k2 = j + 1 := ⟨k2 - 1, by omega⟩
    obtain ⟨E', x', th', lk', medg', q1, q2, q3, q4⟩ := f_sweep hC hM hO F hF hI
    have a1 : s_Mesh_draw_L16 F pxs pys plo phi pn pm (k1 + 1) (1 : Int32) (i32 r) th lk = s_Mesh_draw_L16 F pxs pys plo phi pn pm k1 (bI (if x' = 0 then false else true)) (i32 (r + 1)) th' lk' := by
      simp only [s_Mesh_draw_L16]
      rw [if_neg (show ¬ ((1000 : Int32) ≤ i32 r) from n_le (a := 1000) (by omega) (by omega)), if_neg (by decide), q3]
      simp only [Option.bind_some]
      rw [i32_s]
    have a2 : s_Mod_builds_L138 F mnow (k2 + 1) (1 : Int32) medg = s_Mod_builds_L138 F mnow k2 x' medg' := by
      simp only [s_Mod_builds_L138]
      rw [if_neg (by decide), q4]
      simp only [Option.bind_some]
    rcases q2 with ⟨z, zE⟩ | ⟨z, z2⟩
    · subst z
      obtain ⟨k1, rfl⟩ : ∃ j, k1 = j + 1 := ⟨k1 - 1, by omega⟩
      obtain ⟨k2, rfl⟩ : ∃ j, k2 = j + 1 := ⟨k2 - 1, by omega⟩
      refine ⟨E', i32 (r + 1), th', lk', medg', q1, fun _ => zE, ?_, ?_⟩
      · rw [a1, if_pos rfl]
        show s_Mesh_draw_L16 F pxs pys plo phi pn pm (k1 + 1) (0 : Int32) (i32 (r + 1)) th' lk' = _
        simp only [s_Mesh_draw_L16]
        rw [if_neg (show ¬ ((1000 : Int32) ≤ i32 (r + 1)) from n_le (a := 1000) (by omega) (by omega)), if_pos trivial]
      · rw [a2]
        simp only [s_Mod_builds_L138]
        rw [if_pos trivial]
    · subst z
      obtain ⟨E2, r2, th2, lk2, medg2, w1, _, w2, w3⟩ := ih (r + 1) k1 k2 E' th' lk' medg' q1 (by omega) (by omega) (by omega) (by omega)
      refine ⟨E2, r2, th2, lk2, medg2, w1, fun w => by omega, ?_, ?_⟩
      · rw [a1, if_neg (by decide)]; exact w2
      · rw [a2]; exact w3
end ROUNDS
