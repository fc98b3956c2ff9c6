theorem sumr_cut {N n : Nat} {f : Nat → Nat} (h : n ≤ N) (z : ∀ j, n ≤ j → j < N → f j = 0) : sumr N f = sumr n f := by
  induction N with
  | zero => rw [show n = 0 by omega]
  | succ N ih =>
    by_cases e : n = N + 1
    · rw [e]
    · simp only [sumr]
      rw [ih (by omega) (fun j h1 h2 => z j h1 (by omega)), z N (by omega) (by omega)]; omega
theorem sumr_bd (n : Nat) (Q : Nat → Prop) : sumr n (fun p => ind (Q p)) ≤ n := by
  have := sumr_le n (fun p => ind (Q p)) (fun _ => 1) (fun i _ => by rcases ind_c (Q i) with ⟨_, e⟩ | ⟨_, e⟩ <;> omega)
  rw [sumr_const] at this; omega
theorem sumr_mono {Q : Nat → Prop} {a b : Nat} (h : a ≤ b) : sumr a (fun p => ind (Q p)) ≤ sumr b (fun p => ind (Q p)) := by
  induction b with
  | zero => rw [show a = 0 by omega]; omega
  | succ b ih =>
    by_cases e : a = b + 1
    · rw [e]; omega
    · have := ih (by omega)
      simp only [sumr]; omega
theorem sumr_hit {Q : Nat → Prop} {q n : Nat} (hq : q < n) (h : Q q) : sumr q (fun p => ind (Q p)) < sumr n (fun p => ind (Q p)) := by
  have := sumr_mono (Q := Q) (show q + 1 ≤ n by omega)
  simp only [sumr] at this
  rw [ind_t h] at this; omega
theorem sumr_find {Q : Nat → Prop} {n k : Nat} (h : k < sumr n (fun p => ind (Q p))) : ∃ q, q < n ∧ Q q ∧ sumr q (fun p => ind (Q p)) = k := by
  induction n with
  | zero => simp only [sumr] at h; omega
  | succ n ih =>
    simp only [sumr] at h
    by_cases c : k < sumr n (fun p => ind (Q p))
    · obtain ⟨q, q1, q2⟩ := ih c
      exact ⟨q, by omega, q2⟩
    · rcases ind_c (Q n) with ⟨d, e⟩ | ⟨d, e⟩
      · exact ⟨n, by omega, d, by omega⟩
      · omega
section ASK4
variable {F n m : Nat} {X Y : Nat → Int} {L H : Nat → Nat} {pxs pys plo phi : Nat → Int32} {pn pm : Int32} {mnow : Nat → Int32}
variable {lf th ow lk el eh co hu : Nat → Int32} {ne nt nh : Int32} {medg mcor : Nat → Int32} {mtri : Int32} {xs : Nat → Int32} {fl : Nat → Int64} {x5 : Int32}
variable {E : Nat → Nat → Prop}
theorem c_deg (hn : n ≤ 16) (G : Ge n (pt X Y) E) (hK : LK lk E) {a : Nat} (ha : a < n) : s_Mesh_degreeOf lk (i32 a) = i32 (sumr n (fun p => ind (E a p))) := by
  unfold s_Mesh_degreeOf
  rw [rget lk (by omega) (by omega), bitcount (hK a (by omega)) (fun j h => by have := (G.2.2.1 a j h).2.1; omega)]
  rw [sumr_cut hn (fun j h1 _ => ind_f (fun e => by have := (G.2.2.1 a j e).2.1; omega))]
theorem an_deg (cx : Cx F n m X Y L H pxs pys plo phi pn pm mnow (lf, th, ow, lk, el, eh, co, hu, ne, nt, nh) medg mcor) (mtri a0 : Int32) :
    ∃ v thr r, s_Mod_degree F mnow medg mcor mtri a0 = some (v, thr, r) ∧ An ["java/lang/IndexOutOfBoundsException"] (s_Top_degree pn lk a0) v thr := by
  obtain ⟨hF, hC, hM, hO, o, hb, E, c, f, g, t, ta, tb, tc, T, hp, D, K, B⟩ := cx
  obtain ⟨k1, k2, k3, k4, k5, k6, k7, k8, k9, k10⟩ := K
  have hn := hO.1
  have e := hC.1
  subst e
  unfold s_Mod_degree s_Top_degree
  rw [m_isP hM hO]
  simp only [Option.bind_some]
  by_cases h : ∃ a, a < n ∧ a0 = i32 a
  case neg => rw [if_pos (bI_f h), c_rpN hn h]; exact ⟨_, _, _, rfl, an_1 _ _ _⟩
  rw [if_neg (bI_t h)]
  obtain ⟨a, ha, rfl⟩ := h
  rw [c_rpY hn ha, hb]
  simp only [Sum.elim_inr, Option.bind_some]
  obtain ⟨s, h1, h2⟩ := lp (fun fu i (s : Nat) => s_Mod_degree_L27 mnow o.1 (i32 a) fu (i32 s) (i32 i)) n (fun i s => s = sumr i (fun p => ind (E a p))) (fun s => (i32 s, i32 n))
    (fun fu s hs => by simp only [s_Mod_degree_L27, m_n hM, Option.bind_some]; rw [if_pos (y_le (by omega) (by omega))])
    (fun fu i s hi hs => by
      by_cases e : E a i
      · refine ⟨s + 1, by simp only [sumr]; rw [ind_t e, hs], ?_⟩
        simp only [s_Mod_degree_L27, m_n hM, Option.bind_some, m_has B.1 (show a < 17 by omega) (show i < 17 by omega)]
        rw [if_neg (n_le (by omega) hi), if_neg (bI_t e), i32_s, i32_s]
      · refine ⟨s, by simp only [sumr]; rw [ind_f e, hs]; rfl, ?_⟩
        simp only [s_Mod_degree_L27, m_n hM, Option.bind_some, m_has B.1 (show a < 17 by omega) (show i < 17 by omega)]
        rw [if_neg (n_le (by omega) hi), if_pos (bI_f e), i32_s])
    n 0 F 0 (by omega) (by omega) rfl
  have h2 : s_Mod_degree_L27 mnow o.1 (i32 a) F (0 : Int32) (0 : Int32) = some (i32 s, i32 n) := h2
  rw [h2, c_deg hn D.1.1 k4 ha, ← h1]
  exact ⟨_, _, _, rfl, an_v _ _⟩
theorem k_17 (cx : Cx F n m X Y L H pxs pys plo phi pn pm mnow (lf, th, ow, lk, el, eh, co, hu, ne, nt, nh) medg mcor) : ∃ out, s_case_17 F xs pn lk mnow medg mcor mtri fl x5 = some out := by
  obtain ⟨v, thr, r, h1, h2⟩ := an_deg cx mtri (xs (x5 + (1 : Int32)).toNatClampNeg)
  obtain ⟨fl', l1, l2⟩ := law1_an h2 fl
  exact ⟨_, caseG _ (show s_Law_degree pn lk _ fl = some (thr, fl') from l1) h1 l2⟩
theorem an_nei (cx : Cx F n m X Y L H pxs pys plo phi pn pm mnow (lf, th, ow, lk, el, eh, co, hu, ne, nt, nh) medg mcor) (mtri a0 a1 : Int32) :
    ∃ v thr r q, s_Mod_neighbour F mnow medg mcor mtri a0 a1 = some (v, thr, r) ∧ s_Top_neighbour F pn lk a0 a1 = some q ∧ An ["java/lang/IndexOutOfBoundsException", "java/util/NoSuchElementException"] q v thr := by
  obtain ⟨hF, hC, hM, hO, o, hb, E, c, f, g, t, ta, tb, tc, T, hp, D, K, B⟩ := cx
  obtain ⟨k1, k2, k3, k4, k5, k6, k7, k8, k9, k10⟩ := K
  have hn := hO.1
  have e := hC.1
  subst e
  unfold s_Mod_neighbour s_Top_neighbour
  rw [m_isP hM hO]
  simp only [Option.bind_some]
  by_cases h : ∃ a, a < n ∧ a0 = i32 a
  case neg => rw [if_pos (bI_f h), c_rpN hn h]; exact ⟨_, _, _, _, rfl, rfl, an_1 _ _ _⟩
  rw [if_neg (bI_t h)]
  obtain ⟨a, ha, rfl⟩ := h
  rw [c_rpY hn ha, hb, c_deg hn D.1.1 k4 ha]
  simp only [Sum.elim_inr, Option.bind_some]
  have sub0 : ∀ s : Nat, a1 - i32 s = 0 ↔ a1 = i32 s := by
    intro s
    constructor
    · intro h; grind
    · intro h; rw [h]; exact Int32.sub_self _
  have subs : ∀ s : Nat, a1 - i32 s + (-1 : Int32) = a1 - i32 (s + 1) := by
    intro s; rw [← i32_s]; grind
  -- the reference
  have mod := lpE (fun fu i (s : Nat) => s_Mod_neighbour_L28 (0 : Int32) mnow o.1 o.2.1 o.2.2 (i32 a) fu (a1 - i32 s) (i32 i)) n
    (fun i s => s = sumr i (fun p => ind (E a p)) ∧ ∀ q, q < i → E a q → a1 ≠ i32 (sumr q (fun p => ind (E a p))))
    (fun r => (∃ q, q < n ∧ E a q ∧ a1 = i32 (sumr q (fun p => ind (E a p))) ∧ r = Sum.inl (i32 q, (0 : Int32), o.1, o.2.1, o.2.2)) ∨
      (∃ y, r = Sum.inr y ∧ ∀ q, q < n → E a q → a1 ≠ i32 (sumr q (fun p => ind (E a p)))))
    (fun fu s ⟨hs, hs2⟩ => by
      refine ⟨Sum.inr (a1 - i32 s, i32 n), ?_, Or.inr ⟨_, rfl, hs2⟩⟩
      simp only [s_Mod_neighbour_L28, m_n hM, Option.bind_some]; rw [if_pos (y_le (by omega) (by omega))])
    (fun fu i s hi ⟨hs, hs2⟩ => by
      by_cases e : E a i
      · by_cases z : a1 = i32 s
        · left
          refine ⟨Sum.inl (i32 i, (0 : Int32), o.1, o.2.1, o.2.2), ?_, Or.inl ⟨i, hi, e, by rw [← hs]; exact z, rfl⟩⟩
          simp only [s_Mod_neighbour_L28, m_n hM, Option.bind_some, m_has B.1 (show a < 17 by omega) (show i < 17 by omega)]
          rw [if_neg (n_le (by omega) hi), if_neg (bI_t e), if_pos ((sub0 s).2 z)]
        · right
          refine ⟨s + 1, ⟨by simp only [sumr]; rw [ind_t e, hs], ?_⟩, ?_⟩
          · intro q hq eq
            by_cases w : q = i
            · rw [w, ← hs]; exact z
            · exact hs2 q (by omega) eq
          · simp only [s_Mod_neighbour_L28, m_n hM, Option.bind_some, m_has B.1 (show a < 17 by omega) (show i < 17 by omega)]
            rw [if_neg (n_le (by omega) hi), if_neg (bI_t e), if_neg (fun k => z ((sub0 s).1 k)), subs, i32_s]
      · right
        refine ⟨s, ⟨by simp only [sumr]; rw [ind_f e, hs]; rfl, ?_⟩, ?_⟩
        · intro q hq eq
          by_cases w : q = i
          · rw [w] at eq; exact (e eq).elim
          · exact hs2 q (by omega) eq
        · simp only [s_Mod_neighbour_L28, m_n hM, Option.bind_some, m_has B.1 (show a < 17 by omega) (show i < 17 by omega)]
          rw [if_neg (n_le (by omega) hi), if_pos (bI_f e), i32_s])
    n 0 F 0 (by omega) (by omega) ⟨rfl, fun q hq => by omega⟩
  obtain ⟨r, r1, r2⟩ := mod
  have r1 : s_Mod_neighbour_L28 (0 : Int32) mnow o.1 o.2.1 o.2.2 (i32 a) F a1 (0 : Int32) = some r := by
    have e : a1 - i32 0 = a1 := Int32.sub_zero a1
    rw [← e]; exact r1
  rw [r1]
  have dbd := sumr_bd n (fun p => E a p)
  rcases r2 with ⟨q, q1, q2, q3, rfl⟩ | ⟨y, rfl, q1⟩
  · -- found
    have hlt := sumr_hit (Q := fun p => E a p) q1 q2
    have cls := lpE (fun fu i (s : Nat) => s_Mesh_neighbourOf_L5 (i32 n) lk (i32 a) a1 fu (i32 s) (i32 i)) n
      (fun i s => s = sumr i (fun p => ind (E a p)) ∧ ∀ q, q < i → E a q → a1 ≠ i32 (sumr q (fun p => ind (E a p))))
      (fun r => r = Sum.inl (i32 q))
      (fun fu s ⟨hs, hs2⟩ => (hs2 q q1 q2 q3).elim)
      (fun fu i s hi ⟨hs, hs2⟩ => by
        have cl := c_link k4 (show a < 16 by omega) (show i < 32 by omega)
        have cl : s_Mesh_isLinked lk (i32 a) (i32 i) = dB (E a i) := cl
        by_cases e : E a i
        · by_cases z : a1 = i32 s
          · left
            refine ⟨_, ?_, rfl⟩
            have si := sumr_bd i (fun p => E a p)
            have sq := sumr_bd q (fun p => E a p)
            have e1 : sumr i (fun p => ind (E a p)) = sumr q (fun p => ind (E a p)) := by
              rw [q3, hs] at z
              exact ((i32_eq (by omega) (by omega)).1 z).symm
            have iq : i = q := by
              rcases Nat.lt_trichotomy i q with w | w | w
              · have := sumr_hit (Q := fun p => E a p) w e
                omega
              · exact w
              · have := sumr_hit (Q := fun p => E a p) w q2
                omega
            simp only [s_Mesh_neighbourOf_L5, cl]
            rw [if_neg (show ¬ (s_Plan_points (i32 n) ≤ i32 i) from n_le (by omega) hi), if_neg (bI_t e), if_pos z.symm, iq]
          · right
            refine ⟨s + 1, ⟨by simp only [sumr]; rw [ind_t e, hs], ?_⟩, ?_⟩
            · intro q hq eq
              by_cases w : q = i
              · rw [w, ← hs]; exact z
              · exact hs2 q (by omega) eq
            · simp only [s_Mesh_neighbourOf_L5, cl]
              rw [if_neg (show ¬ (s_Plan_points (i32 n) ≤ i32 i) from n_le (by omega) hi), if_neg (bI_t e), if_neg (fun k => z k.symm), i32_s, i32_s]
        · right
          refine ⟨s, ⟨by simp only [sumr]; rw [ind_f e, hs]; rfl, ?_⟩, ?_⟩
          · intro q hq eq
            by_cases w : q = i
            · rw [w] at eq; exact (e eq).elim
            · exact hs2 q (by omega) eq
          · simp only [s_Mesh_neighbourOf_L5, cl]
            rw [if_neg (show ¬ (s_Plan_points (i32 n) ≤ i32 i) from n_le (by omega) hi), if_pos (bI_f e), i32_s])
      n 0 F 0 (by omega) (by omega) ⟨rfl, fun q hq => by omega⟩
    obtain ⟨r', w1, rfl⟩ := cls
    have w1 : s_Mesh_neighbourOf_L5 (i32 n) lk (i32 a) a1 F (0 : Int32) (0 : Int32) = some (Sum.inl (i32 q)) := w1
    have sq := sumr_bd q (fun p => E a p)
    rw [q3, if_neg (i32_neg (by omega)), if_pos (y_lt (by omega) hlt)]
    unfold s_Mesh_neighbourOf
    rw [q3] at w1
    rw [w1]
    exact ⟨_, _, _, _, rfl, rfl, an_v _ _⟩
  · -- not there
    have no : ¬ ∃ k, k < sumr n (fun p => ind (E a p)) ∧ a1 = i32 k := by
      rintro ⟨k, w1, w2⟩
      obtain ⟨q, z1, z2, z3⟩ := sumr_find w1
      exact q1 q z1 z2 (by rw [z3]; exact w2)
    rcases rng (sumr n (fun p => ind (E a p))) (by omega) a1 with w | ⟨_, w | ⟨w1, w2⟩⟩
    · exact (no w).elim
    · rw [if_pos w]; exact ⟨_, _, _, _, rfl, rfl, an_2 _ _ _ _⟩
    · rw [if_neg w1, if_neg (nlt_of_le w2)]; exact ⟨_, _, _, _, rfl, rfl, an_2 _ _ _ _⟩
theorem k_18 (cx : Cx F n m X Y L H pxs pys plo phi pn pm mnow (lf, th, ow, lk, el, eh, co, hu, ne, nt, nh) medg mcor) : ∃ out, s_case_18 F xs pn lk mnow medg mcor mtri fl x5 = some out := by
  obtain ⟨v, thr, r, q, h1, h3, h2⟩ := an_nei cx mtri (xs (x5 + (1 : Int32)).toNatClampNeg) (xs (x5 + (2 : Int32)).toNatClampNeg)
  obtain ⟨fl', l1, l2⟩ := law2_an h2 (by decide) fl
  refine ⟨_, caseG _ (show s_Law_neighbour F pn lk _ _ fl = some (thr, fl') from ?_) h1 l2⟩
  unfold s_Law_neighbour
  rw [h3]; exact l1
/-- the reference's next point of the hull -/
theorem m_next (hM : MP n m X Y L H mnow) (hO : Ok n m X Y L H) (hE : ME medg E) (G : Ge n (pt X Y) E) (hF : 300 ≤ F) {p : Nat} (hp : p < 17) :
    ∃ x, s_Mod_hullNext F mnow medg (i32 p) = some x ∧ Nr n (pt X Y) E p x := by
  have hn := hO.1
  have h := ff (fun k i => s_Mod_hullNext_L2 F mnow medg (i32 p) k (i32 i)) n (fun q => Hu n (pt X Y) E p q) (fun q => Sum.inl (i32 q)) (Sum.inr (i32 n))
    (fun k => by simp only [s_Mod_hullNext_L2, m_n hM, Option.bind_some]; rw [if_pos (y_le (by omega) (by omega))])
    (fun k i hi ⟨⟨w, hw⟩, h⟩ => by
      have e := hw.1
      obtain ⟨x, hx, ax⟩ := m_apex hM hO hE G F hF e
      obtain ⟨y, hy, ay⟩ := m_apex hM hO hE G F hF (G.2.2.1 p i e).2.2.2
      simp only [s_Mod_hullNext_L2, m_n hM, Option.bind_some, m_has hE (show p < 17 by omega) (show i < 17 by omega), hx, hy]
      rw [if_neg (n_le (by omega) hi), if_neg (bI_t e)]
      rcases ax with ⟨w', h1, rfl⟩ | ⟨h1, _⟩
      · rw [if_neg (i32_neg (by have := ap_lt G h1; omega))]
        rcases ay with ⟨w', h2, _⟩ | ⟨h2, rfl⟩
        · exact (h w' h2).elim
        · rw [if_neg (by decide)]
      · exact (h1 w hw).elim)
    (fun k i hi h => by
      by_cases e : E p i
      · obtain ⟨x, hx, ax⟩ := m_apex hM hO hE G F hF e
        obtain ⟨y, hy, ay⟩ := m_apex hM hO hE G F hF (G.2.2.1 p i e).2.2.2
        simp only [s_Mod_hullNext_L2, m_n hM, Option.bind_some, m_has hE (show p < 17 by omega) (show i < 17 by omega), hx, hy]
        rw [if_neg (n_le (by omega) hi), if_neg (bI_t e), i32_s]
        rcases ax with ⟨w', h1, rfl⟩ | ⟨h1, rfl⟩
        · rw [if_neg (i32_neg (by have := ap_lt G h1; omega))]
          rcases ay with ⟨w'', h2, rfl⟩ | ⟨h2, rfl⟩
          · rw [if_pos (i32_nn (by have := ap_lt G h2; omega))]
          · exact (h ⟨⟨w', h1⟩, h2⟩).elim
        · rw [if_pos (by decide)]
      · simp only [s_Mod_hullNext_L2, m_n hM, Option.bind_some, m_has hE (show p < 17 by omega) (show i < 17 by omega)]
        rw [if_neg (n_le (by omega) hi), if_pos (bI_f e), i32_s])
    n 0 F (by omega) (by omega)
  unfold s_Mod_hullNext
  rcases h with ⟨j, _, h1, h2, _, e⟩ | ⟨h1, e⟩
  · have e : s_Mod_hullNext_L2 F mnow medg (i32 p) F (0 : Int32) = some (Sum.inl (i32 j)) := e
    rw [e]
    exact ⟨i32 j, rfl, Or.inl ⟨j, h2, rfl⟩⟩
  · have e : s_Mod_hullNext_L2 F mnow medg (i32 p) F (0 : Int32) = some (Sum.inr (i32 n)) := e
    rw [e]
    exact ⟨-1, rfl, Or.inr ⟨fun q hq => h1 q (by omega) (hu_lt G hq).2 hq, rfl⟩⟩
theorem m_hullE (hM : MP n m X Y L H mnow) (hO : Ok n m X Y L H) (hE : ME medg E) (G : Ge n (pt X Y) E) (hF : 300 ≤ F) {T : Nat} {hp : Nat → Nat} (hD : HuD n (pt X Y) E T hp) :
    s_Mod_hullEdges F mnow medg = some (i32 T) := by
  have hn := hO.1
  obtain ⟨s, h1, h2⟩ := lp (fun fu i (s : Nat) => s_Mod_hullEdges_L4 F mnow medg fu (i32 s) (i32 i)) n (fun i s => s = sumr i (fun p => ind (∃ q, Hu n (pt X Y) E p q))) (fun s => (i32 s, i32 n))
    (fun fu s hs => by simp only [s_Mod_hullEdges_L4, m_n hM, Option.bind_some]; rw [if_pos (y_le (by omega) (by omega))])
    (fun fu i s hi hs => by
      obtain ⟨x, hx, ax⟩ := m_next hM hO hE G hF (show i < 17 by omega)
      rcases ax with ⟨q, q1, rfl⟩ | ⟨q1, rfl⟩
      · refine ⟨s + 1, by simp only [sumr]; rw [ind_t ⟨q, q1⟩, hs], ?_⟩
        simp only [s_Mod_hullEdges_L4, m_n hM, Option.bind_some, hx]
        rw [if_neg (n_le (by omega) hi), if_neg (i32_neg (by have := hu_lt G q1; omega)), i32_s, i32_s]
      · refine ⟨s, by simp only [sumr]; rw [ind_f (fun ⟨q, z⟩ => q1 q z), hs]; rfl, ?_⟩
        simp only [s_Mod_hullEdges_L4, m_n hM, Option.bind_some, hx]
        rw [if_neg (n_le (by omega) hi), if_pos (by decide), i32_s])
    n 0 F 0 (by omega) (by omega) rfl
  have h2 : s_Mod_hullEdges_L4 F mnow medg F (0 : Int32) (0 : Int32) = some (i32 s, i32 n) := h2
  unfold s_Mod_hullEdges
  rw [h2, h1, hD.2.2.2.1]; rfl
theorem k_19 (cx : Cx F n m X Y L H pxs pys plo phi pn pm mnow (lf, th, ow, lk, el, eh, co, hu, ne, nt, nh) medg mcor) : ∃ out, s_case_19 F nh mnow medg mcor = some out := by
  obtain ⟨hF, hC, hM, hO, o, hb, E, c, f, g, t, ta, tb, tc, T, hp, D, K, B⟩ := cx
  obtain ⟨k1, k2, k3, k4, k5, k6, k7, k8, k9, k10⟩ := K
  unfold s_case_19 s_Mod_hullSize
  rw [hb]
  simp only [Option.bind_some]
  rw [m_hullE hM hO B.1 D.1.1 hF D.2.2.2.2.2]
  simp only [Option.bind_some]
  exact ⟨_, if_pos (show s_Top_hullSize nh = i32 T from k10)⟩
theorem an_hullp (cx : Cx F n m X Y L H pxs pys plo phi pn pm mnow (lf, th, ow, lk, el, eh, co, hu, ne, nt, nh) medg mcor) (a0 : Int32) :
    ∃ v thr r, s_Mod_hullPoint F mnow medg mcor a0 = some (v, thr, r) ∧ An ["java/lang/IndexOutOfBoundsException"] (s_Top_hullPoint hu nh a0) v thr := by
  obtain ⟨hF, hC, hM, hO, o, hb, E, c, f, g, t, ta, tb, tc, T, hp, D, K, B⟩ := cx
  obtain ⟨k1, k2, k3, k4, k5, k6, k7, k8, k9, k10⟩ := K
  have hn := hO.1
  have G := D.1.1
  have hD := D.2.2.2.2.2
  obtain ⟨d1, d2, d3, d4, d5⟩ := hD
  have w7 : ∀ k, k < T → hu k = i32 (hp k) := k7
  have k10 : nh = i32 T := k10
  subst k10
  unfold s_Mod_hullPoint s_Top_hullPoint
  rw [hb]
  simp only [Option.bind_some]
  rw [m_hullE hM hO B.1 G hF ⟨d1, d2, d3, d4, d5⟩]
  simp only [Option.bind_some]
  rw [m_in T (by omega)]
  rcases rng T (by omega) a0 with ⟨a, ha, rfl⟩ | ⟨no, w⟩
  · rw [if_neg (bI_t ⟨a, ha, rfl⟩), if_neg (i32_neg (by omega)), if_pos (show i32 a < s_Mesh_hullPoints (i32 T) from y_lt (by omega) ha)]
    have h0 := d2 0 (by omega)
    have lt0 := (hu_lt G h0).1
    -- the first
    obtain ⟨r, r1, r2⟩ := lpE (fun fu i (_ : Unit) => s_Mod_hullPoint_L31 F mnow o.1 fu (i32 i)) n (fun i _ => i ≤ hp 0) (fun r => r = i32 (hp 0))
      (fun fu _ hs => by omega)
      (fun fu i _ hi hs => by
        obtain ⟨x, hx, ax⟩ := m_next hM hO B.1 G hF (show i < 17 by omega)
        by_cases z : i = hp 0
        · left
          refine ⟨i32 (hp 0), ?_, rfl⟩
          simp only [s_Mod_hullPoint_L31, hx, Option.bind_some]
          rcases ax with ⟨q, q1, rfl⟩ | ⟨q1, rfl⟩
          · rw [if_pos (i32_nn (by have := hu_lt G q1; omega)), z]
          · rw [z] at q1; exact (q1 _ h0).elim
        · right
          refine ⟨(), by omega, ?_⟩
          simp only [s_Mod_hullPoint_L31, hx, Option.bind_some]
          rcases ax with ⟨q, q1, rfl⟩ | ⟨q1, rfl⟩
          · exact (d3 (by omega) i (by omega) ⟨q, q1⟩).elim
          · rw [if_neg (by decide), i32_s])
      n 0 F () (by omega) (by omega) (by omega)
    subst r2
    have r1 : s_Mod_hullPoint_L31 F mnow o.1 F (0 : Int32) = some (i32 (hp 0)) := r1
    rw [r1]
    simp only [Option.bind_some]
    obtain ⟨_, _, r2⟩ := lp (fun fu i (_ : Unit) => s_Mod_hullPoint_L47 F mnow o.1 (i32 a) fu (i32 (hp i)) (i32 i)) a (fun _ _ => True) (fun _ => (i32 (hp a), i32 a))
      (fun fu _ _ => by simp only [s_Mod_hullPoint_L47]; rw [if_pos (y_le (by omega) (by omega))])
      (fun fu i _ hi _ => by
        have h := d2 i (by omega)
        rw [if_pos (by omega)] at h
        obtain ⟨x, hx, ax⟩ := m_next hM hO B.1 G hF (show hp i < 17 by have := hu_lt G h; omega)
        refine ⟨(), trivial, ?_⟩
        simp only [s_Mod_hullPoint_L47, hx, Option.bind_some]
        rw [if_neg (n_le (by omega) hi)]
        rcases ax with ⟨q, q1, rfl⟩ | ⟨q1, rfl⟩
        · rw [hu_f G D.1.2.1 q1 h, i32_s]
        · exact (q1 _ h).elim)
      a 0 F () (by omega) (by omega) trivial
    have r2 : s_Mod_hullPoint_L47 F mnow o.1 (i32 a) F (i32 (hp 0)) (0 : Int32) = some (i32 (hp a), i32 a) := r2
    rw [r2]
    have e : s_Mesh_hullPointAt hu (i32 a) = i32 (hp a) := by
      unfold s_Mesh_hullPointAt
      rw [rget hu (by omega) (by omega), w7 a ha]
    rw [e]
    exact ⟨_, _, _, rfl, an_v _ _⟩
  · rw [if_pos (bI_f no)]
    rcases w with w | ⟨w1, w2⟩
    · rw [if_pos w]; exact ⟨_, _, _, rfl, an_1 _ _ _⟩
    · rw [if_neg w1, if_neg (show ¬ (a0 < s_Mesh_hullPoints (i32 T)) from nlt_of_le w2)]; exact ⟨_, _, _, rfl, an_1 _ _ _⟩
theorem k_20 (cx : Cx F n m X Y L H pxs pys plo phi pn pm mnow (lf, th, ow, lk, el, eh, co, hu, ne, nt, nh) medg mcor) : ∃ out, s_case_20 F xs hu nh mnow medg mcor fl x5 = some out := by
  obtain ⟨v, thr, r, h1, h2⟩ := an_hullp cx (xs (x5 + (1 : Int32)).toNatClampNeg)
  obtain ⟨fl', l1, l2⟩ := law1_an h2 fl
  exact ⟨_, caseG _ (show s_Law_hullPoint hu nh _ fl = some (thr, fl') from l1) h1 l2⟩
end ASK4
