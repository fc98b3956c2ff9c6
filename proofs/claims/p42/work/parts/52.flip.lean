theorem em_str {n : Nat} {P : Nat → Int × Int × Int} {E : Nat → Nat → Prop} (G : Ge n P E) {a b c : Nat} (h1 : E a b) (h2 : E b c) (h3 : E c a) (h4 : 0 < dt (P a) (P b) (P c)) :
    Em n P a b c ↔ ∀ p, p < n → ¬ (0 < dt (P a) (P b) (P p) ∧ 0 < dt (P b) (P c) (P p) ∧ 0 < dt (P c) (P a) (P p)) := by
  obtain ⟨ha, hb, _, _⟩ := G.2.2.1 a b h1
  obtain ⟨hc, _, _, _⟩ := G.2.2.1 c a h3
  constructor
  · intro h p hp ⟨q1, q2, q3⟩
    refine h p hp ?_ ?_ ?_ ⟨Int.le_of_lt q1, Int.le_of_lt q2, Int.le_of_lt q3⟩
    · intro e; rw [e, dt_aba] at q1; omega
    · intro e; rw [e, dt_baa] at q1; omega
    · intro e; rw [e, dt_baa] at q2; omega
  · intro h p hp pa pb pc t
    have r1 := dt_120 (P a) (P b) (P c)
    have r2 := dt_201 (P a) (P b) (P c)
    exact h p hp ⟨tin_str G h1 hp hc pa pb h4 t, tin_str G h2 hp ha pb pc (by omega) ⟨t.2.1, t.2.2, t.1⟩, tin_str G h3 hp hb pc pa (by omega) ⟨t.2.2, t.1, t.2.1⟩⟩
theorem th_ar {n : Nat} {P : Nat → Int × Int × Int} {E : Nat → Nat → Prop} {th : Nat → Int32} (h : TH n P E th) {u v : Nat} (hu : u < 16) (hv : v < 16) :
    Ar n P E u v (s_Tab_get (-1) th (i32 u) (i32 v)) := by
  rw [tget _ th hu hv]; exact h u v hu hv
section THIRDS
variable {n m : Nat} {X Y : Nat → Int} {L H : Nat → Nat} {pxs pys plo phi : Nat → Int32} {pn pm : Int32} {mnow : Nat → Int32}
theorem c_ec {P : Nat → Int × Int × Int} (hn : n ≤ 16) {E : Nat → Nat → Prop} (G : Ge n P E) {lf lk : Nat → Int32} (hL : LF n P lf) (hK : LK lk E) (F : Nat) (hF : 300 ≤ F) {a b : Nat} (hab : E a b) :
    ∃ x, s_Mesh_emptyCorner F (i32 n) lf lk (i32 a) (i32 b) = some x ∧ Ar n P E a b x := by
  have ge := G.2.2.1
  obtain ⟨ha, hb, ab, eba⟩ := ge a b hab
  have tst : ∀ i, i < n → ((((((s_Row_get 16 lk (i32 a)) &&& (s_Row_get 16 lk (i32 b))) &&& (s_Tab_get 0 lf (i32 a) (i32 b))) >>> ((i32 i) &&& 31)) &&& (1 : Int32)) = 0 ↔
      ¬ (E a i ∧ E b i ∧ 0 < dt (P a) (P b) (P i))) := by
    intro i hi
    rw [b_test _ (by omega), b_and, b_and, rget lk (by omega) (by omega), rget lk (by omega) (by omega), tget 0 lf (by omega) (by omega),
      hK a (by omega) i (by omega), hK b (by omega) i (by omega), hL a b (by omega) (by omega) i (by omega), dB_and, dB_and]
    constructor
    · intro h k
      exact dB_ff h ⟨⟨k.1, k.2.1⟩, ha, hb, hi, k.2.2⟩
    · intro h
      exact dB_f (fun k => h ⟨k.1.1, k.1.2, k.2.2.2.2⟩)
  have ins : ∀ i, i < n → ((((s_Tab_get 0 lf (i32 a) (i32 b)) &&& (s_Tab_get 0 lf (i32 b) (i32 i))) &&& (s_Tab_get 0 lf (i32 i) (i32 a))) = 0 ↔
      ∀ p, p < n → ¬ (0 < dt (P a) (P b) (P p) ∧ 0 < dt (P b) (P i) (P p) ∧ 0 < dt (P i) (P a) (P p))) := by
    intro i hi
    rw [b_zero, tget 0 lf (by omega) (by omega), tget 0 lf (by omega) (by omega), tget 0 lf (by omega) (by omega)]
    have e : ∀ j, j < 32 → bt (((lf (a * 16 + b)) &&& (lf (b * 16 + i))) &&& (lf (i * 16 + a))) j =
        dB (((a < n ∧ b < n ∧ j < n ∧ 0 < dt (P a) (P b) (P j)) ∧ (b < n ∧ i < n ∧ j < n ∧ 0 < dt (P b) (P i) (P j))) ∧ (i < n ∧ a < n ∧ j < n ∧ 0 < dt (P i) (P a) (P j))) := by
      intro j hj
      rw [b_and, b_and, hL a b (by omega) (by omega) j hj, hL b i (by omega) (by omega) j hj, hL i a (by omega) (by omega) j hj, dB_and, dB_and]
    constructor
    · intro h p hp ⟨q1, q2, q3⟩
      have := h p (by omega)
      rw [e p (by omega)] at this
      exact dB_ff this ⟨⟨⟨ha, hb, hp, q1⟩, hb, hi, hp, q2⟩, hi, ha, hp, q3⟩
    · intro h j hj
      rw [e j hj]
      exact dB_f (fun k => h j k.1.1.2.2.1 ⟨k.1.1.2.2.2, k.1.2.2.2.2, k.2.2.2.2⟩)
  have h := ff (fun k i => s_Mesh_emptyCorner_L31 (i32 n) lf (i32 a) (i32 b) (((s_Row_get 16 lk (i32 a)) &&& (s_Row_get 16 lk (i32 b))) &&& (s_Tab_get 0 lf (i32 a) (i32 b))) k (i32 i)) n
    (fun c => Ap n P E a b c) (fun c => Sum.inl (i32 c)) (Sum.inr (i32 n))
    (fun k => by
      simp only [s_Mesh_emptyCorner_L31]
      rw [if_pos (show s_Plan_points (i32 n) ≤ i32 n from y_le (by omega) (by omega))])
    (fun k i hi h => by
      obtain ⟨h1, h2, h3, h4, h5⟩ := h
      simp only [s_Mesh_emptyCorner_L31]
      rw [if_neg (show ¬ (s_Plan_points (i32 n) ≤ i32 i) from n_le (by omega) hi), if_neg (fun k => (tst i hi).1 k ⟨(ge i a h3).2.2.2, h2, h4⟩),
        if_pos ((ins i hi).2 ((em_str G h1 h2 h3 h4).1 h5))])
    (fun k i hi h => by
      simp only [s_Mesh_emptyCorner_L31]
      rw [if_neg (show ¬ (s_Plan_points (i32 n) ≤ i32 i) from n_le (by omega) hi), i32_s]
      by_cases c : E a i ∧ E b i ∧ 0 < dt (P a) (P b) (P i)
      · rw [if_neg (fun k => (tst i hi).1 k c), if_neg (fun k => h ⟨hab, c.2.1, (ge a i c.1).2.2.2, c.2.2, (em_str G hab c.2.1 (ge a i c.1).2.2.2 c.2.2).2 ((ins i hi).1 k)⟩)]
      · rw [if_pos ((tst i hi).2 c)])
    n 0 F (by omega) (by omega)
  unfold s_Mesh_emptyCorner
  rcases h with ⟨j, _, h1, h2, _, e⟩ | ⟨h1, e⟩
  · have e : s_Mesh_emptyCorner_L31 (i32 n) lf (i32 a) (i32 b) (((s_Row_get 16 lk (i32 a)) &&& (s_Row_get 16 lk (i32 b))) &&& (s_Tab_get 0 lf (i32 a) (i32 b))) F (0 : Int32) = some (Sum.inl (i32 j)) := e
    rw [e]
    exact ⟨i32 j, rfl, Or.inl ⟨j, h2, rfl⟩⟩
  · have e : s_Mesh_emptyCorner_L31 (i32 n) lf (i32 a) (i32 b) (((s_Row_get 16 lk (i32 a)) &&& (s_Row_get 16 lk (i32 b))) &&& (s_Tab_get 0 lf (i32 a) (i32 b))) F (0 : Int32) = some (Sum.inr (i32 n)) := e
    rw [e]
    exact ⟨-1, rfl, Or.inr ⟨fun w hw => h1 w (by omega) (ap_lt G hw).2.2.1 hw, rfl⟩⟩
/-- third corners that are found before (a, b) -/
def THp (n : Nat) (P : Nat → Int × Int × Int) (E : Nat → Nat → Prop) (a b : Nat) (th : Nat → Int32) : Prop :=
  ∀ u v, u < 16 → v < 16 → (((u < a ∨ (u = a ∧ v < b)) ∧ E u v) → Ar n P E u v (th (u * 16 + v))) ∧ (¬ ((u < a ∨ (u = a ∧ v < b)) ∧ E u v) → th (u * 16 + v) = (-1 : Int32))
theorem c_ft {P : Nat → Int × Int × Int} (hn : n ≤ 16) {E : Nat → Nat → Prop} (G : Ge n P E) {lf lk : Nat → Int32} (hL : LF n P lf) (hK : LK lk E) (F : Nat) (hF : 300 ≤ F) (th : Nat → Int32) :
    ∃ th', s_Mesh_findThirds F (i32 n) lf th lk = some th' ∧ TH n P E th' := by
  have ge := G.2.2.1
  obtain ⟨v1, hv1, hz⟩ := tab_clear F hF (-1) th
  have inner : ∀ a, a < n → ∀ th, THp n P E a 0 th → ∃ th', THp n P E (a + 1) 0 th' ∧ s_Mesh_findThirds_L22 F (i32 n) lf lk (i32 a) F (0 : Int32) th = some (i32 n, th') := by
    intro a ha th h0
    obtain ⟨s, h1, h2⟩ := lp (fun k i (th : Nat → Int32) => s_Mesh_findThirds_L22 F (i32 n) lf lk (i32 a) k (i32 i) th) n
      (fun i th => THp n P E a i th) (fun th => (i32 n, th))
      (fun k s hs => by
        simp only [s_Mesh_findThirds_L22]
        rw [if_pos (show s_Plan_points (i32 n) ≤ i32 n from y_le (by omega) (by omega))])
      (fun k i s hi hs => by
        by_cases c : E a i
        · obtain ⟨x, hx, ax⟩ := c_ec hn G hL hK F hF c
          refine ⟨s_Tab_set s (i32 a) (i32 i) x, ?_, ?_⟩
          · rw [tset _ _ (by omega) (by omega)]
            intro u v hu hv
            show (_ → Ar n P E u v (if u * 16 + v = a * 16 + i then x else s (u * 16 + v))) ∧ (_ → (if u * 16 + v = a * 16 + i then x else s (u * 16 + v)) = _)
            by_cases q : u = a ∧ v = i
            · obtain ⟨rfl, rfl⟩ := q
              rw [if_pos rfl]
              exact ⟨fun _ => ax, fun k => (k ⟨by omega, c⟩).elim⟩
            · rw [if_neg (by omega)]
              exact ⟨fun k => (hs u v hu hv).1 ⟨by omega, k.2⟩, fun k => (hs u v hu hv).2 (fun z => k ⟨by omega, z.2⟩)⟩
          · simp only [s_Mesh_findThirds_L22, c_link hK (show a < 16 by omega) (show i < 32 by omega)]
            rw [if_neg (show ¬ (s_Plan_points (i32 n) ≤ i32 i) from n_le (by omega) hi), if_neg (bI_t c), hx]
            simp only [Option.bind_some]
            rw [i32_s]
        · refine ⟨s, ?_, ?_⟩
          · intro u v hu hv
            refine ⟨fun k => (hs u v hu hv).1 ⟨?_, k.2⟩, fun k => (hs u v hu hv).2 (fun z => k ⟨by omega, z.2⟩)⟩
            by_cases q : u = a ∧ v = i
            · obtain ⟨rfl, rfl⟩ := q; exact (c k.2).elim
            · omega
          · simp only [s_Mesh_findThirds_L22, c_link hK (show a < 16 by omega) (show i < 32 by omega)]
            rw [if_neg (show ¬ (s_Plan_points (i32 n) ≤ i32 i) from n_le (by omega) hi), if_pos (bI_f c), i32_s])
      n 0 F th (by omega) (by omega) h0
    refine ⟨s, ?_, h2⟩
    intro u v hu hv
    refine ⟨fun k => (h1 u v hu hv).1 ⟨?_, k.2⟩, fun k => (h1 u v hu hv).2 (fun z => k ⟨by omega, z.2⟩)⟩
    have := (ge u v k.2).2.1
    omega
  obtain ⟨th', h1, h2⟩ := lp (fun k i (th : Nat → Int32) => s_Mesh_findThirds_L9 F (i32 n) lf lk k (i32 i) th) n
    (fun i th => THp n P E i 0 th) (fun th => (i32 n, th))
    (fun k s hs => by
      simp only [s_Mesh_findThirds_L9]
      rw [if_pos (show s_Plan_points (i32 n) ≤ i32 n from y_le (by omega) (by omega))])
    (fun k i s hi hs => by
      obtain ⟨s', q1, q2⟩ := inner i hi s hs
      refine ⟨s', q1, ?_⟩
      simp only [s_Mesh_findThirds_L9]
      rw [if_neg (show ¬ (s_Plan_points (i32 n) ≤ i32 i) from n_le (by omega) hi), i32_s, q2]
      simp only [Option.bind_some])
    n 0 F v1 (by omega) (by omega) (by
      intro u v hu hv
      exact ⟨fun k => by omega, fun _ => hz _ (by omega)⟩)
  refine ⟨th', ?_, ?_⟩
  · unfold s_Mesh_findThirds
    have h2 : s_Mesh_findThirds_L9 F (i32 n) lf lk F (0 : Int32) v1 = some (i32 n, th') := h2
    rw [hv1]
    simp only [Option.bind_some]
    rw [h2]; rfl
  · intro u v hu hv
    by_cases c : E u v
    · exact (h1 u v hu hv).1 ⟨Or.inl (ge u v c).1, c⟩
    · exact Or.inr ⟨fun w hw => c hw.1, (h1 u v hu hv).2 (fun z => c z.2)⟩
/-- an edge that is not good -/
def Bd (P : Nat → Int × Int × Int) (a b c d : Nat) : Prop :=
  0 < Dq (P a) (P b) (P c) (P d) ∨ (Dq (P a) (P b) (P c) (P d) = 0 ∧ max c d ≤ max a b)
theorem sg_one {x y : Int} (h : 0 < y) : sg x * sg y = sg x := by
  rw [sg_p h]; exact Int32.mul_one _
theorem c_pass (hC : CP n m X Y L H pxs pys plo phi pn pm) (hO : Ok n m X Y L H) {E : Nat → Nat → Prop} (G : Ge n (pt X Y) E) {th : Nat → Int32} (hT : TH n (pt X Y) E th) {a b c d : Nat}
    (h : Ap n (pt X Y) E a b c) (k : Ap n (pt X Y) E b a d) : s_Mesh_passesCircle pxs pys th (i32 a) (i32 b) = dB (¬ Bd (pt X Y) a b c d) := by
  have hn := hO.1
  obtain ⟨ha, hb, hc, ab, bc, ca⟩ := ap_lt G h
  obtain ⟨_, _, hd, _, ad, db⟩ := ap_lt G k
  have t1 : s_Tab_get (-1) th (i32 a) (i32 b) = i32 c := by
    rcases th_ar hT (show a < 16 by omega) (show b < 16 by omega) with ⟨w, q1, q2⟩ | ⟨q1, _⟩
    · rw [q2, ap_un G q1 h]
    · exact (q1 c h).elim
  have t2 : s_Tab_get (-1) th (i32 b) (i32 a) = i32 d := by
    rcases th_ar hT (show b < 16 by omega) (show a < 16 by omega) with ⟨w, q1, q2⟩ | ⟨q1, _⟩
    · rw [q2, ap_un G q1 k]
    · exact (q1 d k).elim
  unfold s_Mesh_passesCircle
  rw [t1, t2, c_circ hC hO ha hb hc hd, sg_one h.2.2.2.1, imax_i (by omega) (by omega), imax_i (by omega) (by omega)]
  rcases Int.lt_trichotomy (Dq (pt X Y a) (pt X Y b) (pt X Y c) (pt X Y d)) 0 with z | z | z
  · rw [if_pos ((sg_lt _).2 z), dB_t (fun q => q.elim (fun q => by omega) (fun q => by omega))]
  · rw [if_neg (fun q => by have := (sg_lt _).1 q; omega), if_pos ((sg_0 _).2 z)]
    by_cases q : max c d ≤ max a b
    · rw [if_pos (y_le (by omega) q), dB_f (fun y => y (Or.inr ⟨z, q⟩))]
    · rw [if_neg (n_le (by omega) (by omega)), dB_t (fun y => y.elim (fun y => by omega) (fun y => q y.2))]
  · rw [if_neg (fun q => by have := (sg_lt _).1 q; omega), if_neg (fun q => by have := (sg_0 _).1 q; omega), dB_f (fun y => y (Or.inl z))]
theorem m_good (hM : MP n m X Y L H mnow) (hO : Ok n m X Y L H) {a b c d : Nat} (ha : a < n) (hb : b < n) (hc : c < n) (hd : d < n) (h : 0 < dt (pt X Y a) (pt X Y b) (pt X Y c)) :
    s_Mod_good mnow (i32 a) (i32 b) (i32 c) (i32 d) = some (dB (¬ Bd (pt X Y) a b c d)) := by
  have hn := hO.1
  unfold s_Mod_good
  rw [m_circ hM hO ha hb hc hd, sg_one h]
  simp only [Option.bind_some]
  rw [imax_i (by omega) (by omega), imax_i (by omega) (by omega)]
  rcases Int.lt_trichotomy (Dq (pt X Y a) (pt X Y b) (pt X Y c) (pt X Y d)) 0 with z | z | z
  · rw [if_pos ((sg_lt _).2 z), dB_t (fun q => q.elim (fun q => by omega) (fun q => by omega))]
  · rw [if_neg (fun q => by have := (sg_lt _).1 q; omega), if_pos ((sg_0 _).2 z)]
    by_cases q : max c d ≤ max a b
    · rw [if_pos (y_le (by omega) q), dB_f (fun y => y (Or.inr ⟨z, q⟩))]
    · rw [if_neg (n_le (by omega) (by omega)), dB_t (fun y => y.elim (fun y => by omega) (fun y => q y.2))]
  · rw [if_neg (fun q => by have := (sg_lt _).1 q; omega), if_neg (fun q => by have := (sg_0 _).1 q; omega), dB_f (fun y => y (Or.inl z))]
theorem c_inner {P : Nat → Int × Int × Int} {E : Nat → Nat → Prop} {th : Nat → Int32} (hn : n ≤ 16) (G : Ge n P E) (hT : TH n P E th) {a b : Nat} (ha : a < 16) (hb : b < 16) :
    s_Mesh_isInner th (i32 a) (i32 b) = dB ((∃ c, Ap n P E a b c) ∧ ∃ d, Ap n P E b a d) := by
  unfold s_Mesh_isInner
  rcases th_ar hT ha hb with ⟨c, q1, q2⟩ | ⟨q1, q2⟩
  · rw [q2, if_neg (i32_m1 (by have := ap_lt G q1; omega))]
    rcases th_ar hT hb ha with ⟨d, q3, q4⟩ | ⟨q3, q4⟩
    · rw [q4, if_neg (i32_m1 (by have := ap_lt G q3; omega)), dB_t ⟨⟨c, q1⟩, d, q3⟩]
    · rw [q4, if_pos rfl, dB_f (fun k => k.2.elim q3)]
  · rw [q2, if_pos rfl, dB_f (fun k => k.1.elim q1)]
theorem lk_del {lk : Nat → Int32} {E : Nat → Nat → Prop} (h : LK lk E) {a b : Nat} (ha : a < 16) (hb : b < 16) (ab : a ≠ b) :
    LK (s_Mesh_unlink lk (i32 a) (i32 b)) (fun x y => E x y ∧ ¬ (x = a ∧ y = b) ∧ ¬ (x = b ∧ y = a)) := by
  unfold s_Mesh_unlink
  rw [rget lk ha (by omega), rset lk _ ha (by omega), rget _ hb (by omega), rset _ _ hb (by omega)]
  intro x hx j hj
  show bt (if x = b then (if b = a then lk a &&& (((1 : Int32) <<< (i32 b &&& 31)) ^^^ (-1 : Int32)) else lk b) &&& (((1 : Int32) <<< (i32 a &&& 31)) ^^^ (-1 : Int32)) else if x = a then lk a &&& (((1 : Int32) <<< (i32 b &&& 31)) ^^^ (-1 : Int32)) else lk x) j = _
  have h1 := h x hx j hj
  by_cases c1 : x = b
  · subst c1
    rw [if_pos rfl, if_neg (Ne.symm ab), b_clr _ (by omega) hj, h1]
    by_cases c3 : j = a
    · subst c3
      rw [decide_eq_true rfl, dB_f (p := E x j ∧ ¬ (x = j ∧ j = x) ∧ ¬ (x = x ∧ j = j)) (fun z => z.2.2 ⟨rfl, rfl⟩)]; simp
    · rw [decide_eq_false c3, Bool.not_false, Bool.and_true]
      exact dB_cong ⟨fun z => ⟨z, fun y => c3 (by omega), fun y => c3 y.2⟩, fun z => z.1⟩
  · rw [if_neg c1]
    by_cases c2 : x = a
    · subst c2
      rw [if_pos rfl, b_clr _ (by omega) hj, h1]
      by_cases c3 : j = b
      · subst c3
        rw [decide_eq_true rfl, dB_f (p := E x j ∧ ¬ (x = x ∧ j = j) ∧ ¬ (x = j ∧ j = x)) (fun z => z.2.1 ⟨rfl, rfl⟩)]; simp
      · rw [decide_eq_false c3, Bool.not_false, Bool.and_true]
        exact dB_cong ⟨fun z => ⟨z, fun y => c3 y.2, fun y => c1 y.1⟩, fun z => z.1⟩
    · rw [if_neg c2, h1]
      exact dB_cong ⟨fun z => ⟨z, fun y => c2 y.1, fun y => c1 y.1⟩, fun z => z.1⟩
theorem fl_ad (E : Nat → Nat → Prop) (a b c d : Nat) : Fl E a b c d = Ad (fun x y => E x y ∧ ¬ (x = a ∧ y = b) ∧ ¬ (x = b ∧ y = a)) c d := rfl
/-- the class's flip -/
theorem c_flip {P : Nat → Int × Int × Int} (hn : n ≤ 16) {E : Nat → Nat → Prop} (G : Ge n P E) {th lk : Nat → Int32} (hT : TH n P E th) (hK : LK lk E) {a b c d : Nat}
    (h : Ap n P E a b c) (k : Ap n P E b a d) (q1 : 0 < dt (P a) (P d) (P c)) (q2 : 0 < dt (P d) (P b) (P c)) :
    TH n P (Fl E a b c d) (s_Mesh_flip th lk (i32 a) (i32 b)).1 ∧ LK (s_Mesh_flip th lk (i32 a) (i32 b)).2 (Fl E a b c d) := by
  obtain ⟨ha, hb, hc, ab, bc, ca⟩ := ap_lt G h
  obtain ⟨_, _, hd, _, ad, db⟩ := ap_lt G k
  have cd : c ≠ d := by intro e; rw [e, dt_baa] at q1; omega
  have t1 : s_Tab_get (-1) th (i32 a) (i32 b) = i32 c := by
    rcases th_ar hT (show a < 16 by omega) (show b < 16 by omega) with ⟨w, q1, q2⟩ | ⟨q1, _⟩
    · rw [q2, ap_un G q1 h]
    · exact (q1 c h).elim
  have t2 : s_Tab_get (-1) th (i32 b) (i32 a) = i32 d := by
    rcases th_ar hT (show b < 16 by omega) (show a < 16 by omega) with ⟨w, q1, q2⟩ | ⟨q1, _⟩
    · rw [q2, ap_un G q1 k]
    · exact (q1 d k).elim
  have G' := fl_ge G h k q1 q2
  have A1 := fl_ap G h k q1 q2
  have A2 := fl_ap2 G h k q1 q2
  unfold s_Mesh_flip
  rw [t1, t2]
  constructor
  · show TH n P (Fl E a b c d) (s_Tab_turnRound (s_Tab_turnRound (s_Tab_set (s_Tab_set th (i32 a) (i32 b) (-1 : Int32)) (i32 b) (i32 a) (-1 : Int32)) (i32 a) (i32 d) (i32 c)) (i32 d) (i32 b) (i32 c))
    unfold s_Tab_turnRound
    rw [tset th _ (by omega) (by omega), tset _ _ (by omega) (by omega), tset _ _ (by omega) (by omega), tset _ _ (by omega) (by omega), tset _ _ (by omega) (by omega), tset _ _ (by omega) (by omega), tset _ _ (by omega) (by omega), tset _ _ (by omega) (by omega)]
    intro u v hu hv
    show Ar n P (Fl E a b c d) u v (if u * 16 + v = c * 16 + d then i32 b else if u * 16 + v = b * 16 + c then i32 d else if u * 16 + v = d * 16 + b then i32 c else
      if u * 16 + v = c * 16 + a then i32 d else if u * 16 + v = d * 16 + c then i32 a else if u * 16 + v = a * 16 + d then i32 c else
      if u * 16 + v = b * 16 + a then (-1 : Int32) else if u * 16 + v = a * 16 + b then (-1 : Int32) else th (u * 16 + v))
    by_cases e1 : u = c ∧ v = d
    · obtain ⟨rfl, rfl⟩ := e1
      rw [if_pos rfl]; exact Or.inl ⟨b, ap_rot (ap_rot A2), rfl⟩
    rw [if_neg (by omega)]
    by_cases e2 : u = b ∧ v = c
    · obtain ⟨rfl, rfl⟩ := e2
      rw [if_pos rfl]; exact Or.inl ⟨d, ap_rot A2, rfl⟩
    rw [if_neg (by omega)]
    by_cases e3 : u = d ∧ v = b
    · obtain ⟨rfl, rfl⟩ := e3
      rw [if_pos rfl]; exact Or.inl ⟨c, A2, rfl⟩
    rw [if_neg (by omega)]
    by_cases e4 : u = c ∧ v = a
    · obtain ⟨rfl, rfl⟩ := e4
      rw [if_pos rfl]; exact Or.inl ⟨d, ap_rot (ap_rot A1), rfl⟩
    rw [if_neg (by omega)]
    by_cases e5 : u = d ∧ v = c
    · obtain ⟨rfl, rfl⟩ := e5
      rw [if_pos rfl]; exact Or.inl ⟨a, ap_rot A1, rfl⟩
    rw [if_neg (by omega)]
    by_cases e6 : u = a ∧ v = d
    · obtain ⟨rfl, rfl⟩ := e6
      rw [if_pos rfl]; exact Or.inl ⟨c, A1, rfl⟩
    rw [if_neg (by omega)]
    by_cases e7 : u = b ∧ v = a
    · obtain ⟨rfl, rfl⟩ := e7
      rw [if_pos rfl]
      refine Or.inr ⟨fun w hw => ?_, rfl⟩
      rcases hw.1 with ⟨_, _, n1⟩ | z | z
      · exact n1 ⟨rfl, rfl⟩
      · exact bc z.1
      · exact db z.1.symm
    rw [if_neg (by omega)]
    by_cases e8 : u = a ∧ v = b
    · obtain ⟨rfl, rfl⟩ := e8
      rw [if_pos rfl]
      refine Or.inr ⟨fun w hw => ?_, rfl⟩
      rcases hw.1 with ⟨_, n1, _⟩ | z | z
      · exact n1 ⟨rfl, rfl⟩
      · exact ca z.1.symm
      · exact ad z.1
    rw [if_neg (by omega)]
    have ne : ¬ Eight a b c d u v := by
      unfold Eight
      omega
    rcases hT u v hu hv with ⟨w, w1, w2⟩ | ⟨w1, w2⟩
    · exact Or.inl ⟨w, (fl_old G h k q1 q2 ne).2 w1, w2⟩
    · exact Or.inr ⟨fun w hw => w1 w ((fl_old G h k q1 q2 ne).1 hw), w2⟩
  · show LK (s_Mesh_link (s_Mesh_unlink lk (i32 a) (i32 b)) (i32 c) (i32 d)) (Fl E a b c d)
    rw [fl_ad]
    exact lk_add (lk_del hK (by omega) (by omega) ab) (by omega) (by omega)
end THIRDS
