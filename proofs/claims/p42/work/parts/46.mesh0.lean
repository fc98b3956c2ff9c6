/-! the tables of the mesh -/
theorem dB_or (p q : Prop) : (dB p || dB q) = dB (p ∨ q) := by
  by_cases h : p
  · rw [dB_t h, dB_t (Or.inl h)]; rfl
  · by_cases k : q
    · rw [dB_t k, dB_t (Or.inr k)]; simp
    · rw [dB_f h, dB_f k, dB_f (p := p ∨ q) (fun x => x.elim h k)]; rfl
theorem dB_and (p q : Prop) : (dB p && dB q) = dB (p ∧ q) := by
  by_cases h : p
  · by_cases k : q
    · rw [dB_t h, dB_t k, dB_t ⟨h, k⟩]; rfl
    · rw [dB_f k, dB_f (p := p ∧ q) (fun x => k x.2)]; simp
  · rw [dB_f h, dB_f (p := p ∧ q) (fun x => h x.1)]; rfl
theorem dB_ff {p : Prop} (h : dB p = false) : ¬ p := fun k => by rw [dB_t k] at h; cases h
theorem ite_dB (p : Prop) (h : Decidable (bI (dB p) = 0)) : (@ite Bool (bI (dB p) = 0) h false true) = dB p := by
  by_cases c : p
  · rw [if_neg (bI_t c), dB_t c]
  · rw [if_pos (bI_f c), dB_f c]
/-- the links of the points -/
def LK (lk : Nat → Int32) (E : Nat → Nat → Prop) : Prop := ∀ a, a < 16 → ∀ j, j < 32 → bt (lk a) j = dB (E a j)
/-- the points to the left of a line -/
def LF (n : Nat) (P : Nat → Int × Int × Int) (lf : Nat → Int32) : Prop :=
  ∀ a b, a < 16 → b < 16 → ∀ j, j < 32 → bt (lf (a * 16 + b)) j = dB (a < n ∧ b < n ∧ j < n ∧ 0 < dt (P a) (P b) (P j))
/-- the third corners -/
def TH (n : Nat) (P : Nat → Int × Int × Int) (E : Nat → Nat → Prop) (th : Nat → Int32) : Prop :=
  ∀ u v, u < 16 → v < 16 → (∃ w, Ap n P E u v w ∧ th (u * 16 + v) = i32 w) ∨ ((∀ w, ¬ Ap n P E u v w) ∧ th (u * 16 + v) = (-1 : Int32))
theorem c_link {lk : Nat → Int32} {E : Nat → Nat → Prop} (h : LK lk E) {a b : Nat} (ha : a < 16) (hb : b < 32) : s_Mesh_isLinked lk (i32 a) (i32 b) = dB (E a b) := by
  have e := h a ha b hb
  unfold s_Mesh_isLinked
  rw [rget lk ha (by omega)]
  by_cases c : E a b
  · rw [if_neg (fun k => by rw [b_test _ hb, e, dB_t c] at k; cases k), dB_t c]
  · rw [if_pos ((b_test _ hb).2 (by rw [e, dB_f c])), dB_f c]
theorem tab_clear (F : Nat) (hF : 300 ≤ F) (tb : Int32) (tf : Nat → Int32) : ∃ tf', s_Tab_clear F tb tf = some tf' ∧ ∀ k, k < 256 → tf' k = tb := by
  obtain ⟨s, h1, h2⟩ := lp (fun k i (tf : Nat → Int32) => s_Tab_clear_L2 tb k (i32 i) tf) 256 (fun i tf => ∀ k, k < i → tf k = tb) (fun tf => (i32 256, tf))
    (fun k s hs => by
      simp only [s_Tab_clear_L2]
      rw [if_pos (show (256 : Int32) ≤ i32 256 from y_le (a := 256) (by omega) (by omega))])
    (fun k i s hi hs => by
      refine ⟨fun j => if j = i then tb else s j, ?_, ?_⟩
      · intro j hj
        show (if j = i then tb else s j) = tb
        by_cases c : j = i
        · rw [if_pos c]
        · rw [if_neg c]; exact hs j (by omega)
      · simp only [s_Tab_clear_L2]
        rw [if_neg (show ¬ ((256 : Int32) ≤ i32 i) from n_le (a := 256) (by omega) (by omega)), aset_i s tb hi (by omega)]
        simp only [Option.bind_some]
        rw [i32_s])
    256 0 F tf (by omega) (by omega) (fun k hk => by omega)
  refine ⟨s, ?_, h1⟩
  unfold s_Tab_clear
  have h2 : s_Tab_clear_L2 tb F (0 : Int32) tf = some (i32 256, s) := h2
  rw [h2]; rfl
section SIDES
variable {n m : Nat} {X Y : Nat → Int} {L H : Nat → Nat} {pxs pys plo phi : Nat → Int32} {pn pm : Int32}
theorem c_sides_of (hC : CP n m X Y L H pxs pys plo phi pn pm) (hO : Ok n m X Y L H) (F : Nat) (hF : 300 ≤ F) (lf : Nat → Int32) {a b : Nat} (ha : a < n) (hb : b < n) :
    ∃ l r : Int32, s_Mesh_findSidesOf F pxs pys pn lf (i32 a) (i32 b) = some (s_Tab_set (s_Tab_set lf (i32 a) (i32 b) l) (i32 b) (i32 a) r) ∧
      (∀ j, j < 32 → bt l j = dB (j < n ∧ 0 < dt (pt X Y a) (pt X Y b) (pt X Y j))) ∧ (∀ j, j < 32 → bt r j = dB (j < n ∧ dt (pt X Y a) (pt X Y b) (pt X Y j) < 0)) := by
  have hn := hO.1
  obtain ⟨s, ⟨h1, h2⟩, h3⟩ := lp (fun k i (s : Int32 × Int32) => s_Mesh_findSidesOf_L8 pxs pys pn (i32 a) (i32 b) k s.1 s.2 (i32 i)) n
    (fun i s => (∀ j, j < 32 → bt s.1 j = dB (j < i ∧ 0 < dt (pt X Y a) (pt X Y b) (pt X Y j))) ∧ (∀ j, j < 32 → bt s.2 j = dB (j < i ∧ dt (pt X Y a) (pt X Y b) (pt X Y j) < 0)))
    (fun s => (s.1, s.2, i32 n))
    (fun k s hs => by
      simp only [s_Mesh_findSidesOf_L8, s_Plan_points, hC.1]
      rw [if_pos (y_le (by omega) (by omega))])
    (fun k i s hi hs => by
      obtain ⟨hs1, hs2⟩ := hs
      have same : ∀ z : Int, ∀ j, j ≠ i ∨ ¬ (0 < z) → True := fun _ _ _ => trivial
      have grow : ∀ (x : Int32) (Q : Nat → Prop), (∀ j, j < 32 → bt x j = dB (j < i ∧ Q j)) → ¬ Q i → ∀ j, j < 32 → bt x j = dB (j < i + 1 ∧ Q j) := by
        intro x Q hx nq j hj
        rw [hx j hj]
        apply dB_cong
        constructor
        · intro h; exact ⟨by omega, h.2⟩
        · intro h
          refine ⟨?_, h.2⟩
          by_cases c : j = i
          · subst c; exact (nq h.2).elim
          · omega
      have add : ∀ (x : Int32) (Q : Nat → Prop), (∀ j, j < 32 → bt x j = dB (j < i ∧ Q j)) → Q i → ∀ j, j < 32 → bt (x ||| ((1 : Int32) <<< (i32 i &&& 31))) j = dB (j < i + 1 ∧ Q j) := by
        intro x Q hx yq j hj
        rw [b_bit x (by omega), hx j hj]
        by_cases c : j = i
        · subst c
          rw [dB_t (show j < j + 1 ∧ Q j from ⟨by omega, yq⟩)]; simp
        · rw [decide_eq_false c, Bool.or_false]
          apply dB_cong
          constructor
          · intro h; exact ⟨by omega, h.2⟩
          · intro h; exact ⟨by omega, h.2⟩
      have hside := c_side hC hO ha hb (c := i) (by omega)
      rcases Int.lt_trichotomy (dt (pt X Y a) (pt X Y b) (pt X Y i)) 0 with z | z | z
      · refine ⟨(s.1, s.2 ||| ((1 : Int32) <<< (i32 i &&& 31))), ⟨grow _ _ hs1 (by omega), add _ (fun j => dt (pt X Y a) (pt X Y b) (pt X Y j) < 0) hs2 z⟩, ?_⟩
        simp only [s_Mesh_findSidesOf_L8, s_Plan_points, hC.1, hside]
        rw [if_neg (n_le (by omega) hi), if_pos ((sg_le _).2 (by omega)), if_neg (fun k => by have := (sg_ge _).1 k; omega), i32_s]
      · refine ⟨(s.1, s.2), ⟨grow _ _ hs1 (by omega), grow _ (fun j => dt (pt X Y a) (pt X Y b) (pt X Y j) < 0) hs2 (by omega)⟩, ?_⟩
        simp only [s_Mesh_findSidesOf_L8, s_Plan_points, hC.1, hside]
        rw [if_neg (n_le (by omega) hi), if_pos ((sg_le _).2 (by omega)), if_pos ((sg_ge _).2 (by omega)), i32_s]
      · refine ⟨(s.1 ||| ((1 : Int32) <<< (i32 i &&& 31)), s.2), ⟨add _ _ hs1 z, grow _ (fun j => dt (pt X Y a) (pt X Y b) (pt X Y j) < 0) hs2 (by omega)⟩, ?_⟩
        simp only [s_Mesh_findSidesOf_L8, s_Plan_points, hC.1, hside]
        rw [if_neg (n_le (by omega) hi), if_neg (fun k => by have := (sg_le _).1 k; omega), i32_s])
    n 0 F ((0 : Int32), (0 : Int32)) (by omega) (by omega)
    ⟨fun j hj => by rw [b_0, dB_f (fun h => by omega)], fun j hj => by rw [b_0, dB_f (fun h => by omega)]⟩
  refine ⟨s.1, s.2, ?_, h1, h2⟩
  unfold s_Mesh_findSidesOf
  have h3 : s_Mesh_findSidesOf_L8 pxs pys pn (i32 a) (i32 b) F (0 : Int32) (0 : Int32) (0 : Int32) = some (s.1, s.2, i32 n) := h3
  rw [h3]; rfl
/-- the sides that are found once all pairs before (a, b) have been looked at -/
def LFp (n : Nat) (P : Nat → Int × Int × Int) (a b : Nat) (lf : Nat → Int32) : Prop :=
  ∀ u v, u < 16 → v < 16 → ∀ j, j < 32 → bt (lf (u * 16 + v)) j =
    dB ((((u < v ∧ (u < a ∨ (u = a ∧ v < b))) ∨ (v < u ∧ (v < a ∨ (v = a ∧ u < b)))) ∧ u < n ∧ v < n) ∧ j < n ∧ 0 < dt (P u) (P v) (P j))
theorem c_sides (hC : CP n m X Y L H pxs pys plo phi pn pm) (hO : Ok n m X Y L H) (F : Nat) (hF : 300 ≤ F) (lf : Nat → Int32) :
    ∃ lf', s_Mesh_findSides F pxs pys pn lf = some lf' ∧ LF n (pt X Y) lf' := by
  have hn := hO.1
  obtain ⟨v1, hv1, hz⟩ := tab_clear F hF 0 lf
  have inner : ∀ a, a < n → ∀ lf, LFp n (pt X Y) a (a + 1) lf → ∃ lf', LFp n (pt X Y) a n lf' ∧
      s_Mesh_findSides_L24 F pxs pys pn (i32 a) F (i32 (a + 1)) lf = some (i32 n, lf') := by
    intro a ha lf h0
    exact lp (fun k i (lf : Nat → Int32) => s_Mesh_findSides_L24 F pxs pys pn (i32 a) k (i32 i) lf) n
      (fun i lf => a < i ∧ LFp n (pt X Y) a i lf) (fun lf => (i32 n, lf))
      (fun k s hs => by
        simp only [s_Mesh_findSides_L24, s_Plan_points, hC.1]
        rw [if_pos (y_le (by omega) (by omega))])
      (fun k i s hi hs => by
        obtain ⟨l, r, e, hl, hr⟩ := c_sides_of hC hO F hF s (a := a) (b := i) ha hi
        refine ⟨s_Tab_set (s_Tab_set s (i32 a) (i32 i) l) (i32 i) (i32 a) r, ⟨by omega, ?_⟩, ?_⟩
        · rw [tset _ _ (by omega) (by omega), tset _ _ (by omega) (by omega)]
          intro u v hu hv j hj
          show bt (if u * 16 + v = i * 16 + a then r else if u * 16 + v = a * 16 + i then l else s (u * 16 + v)) j = _
          by_cases c1 : u = i ∧ v = a
          · obtain ⟨rfl, rfl⟩ := c1
            rw [if_pos rfl, hr j hj]
            apply dB_cong
            have e := dt_102 (pt X Y v) (pt X Y u) (pt X Y j)
            constructor
            · intro h; exact ⟨⟨Or.inr ⟨hs.1, Or.inr ⟨rfl, by omega⟩⟩, hi, ha⟩, h.1, by omega⟩
            · intro h; exact ⟨h.2.1, by omega⟩
          · rw [if_neg (by omega)]
            by_cases c2 : u = a ∧ v = i
            · obtain ⟨rfl, rfl⟩ := c2
              rw [if_pos rfl, hl j hj]
              apply dB_cong
              constructor
              · intro h; exact ⟨⟨Or.inl ⟨hs.1, Or.inr ⟨rfl, by omega⟩⟩, ha, hi⟩, h.1, h.2⟩
              · intro h; exact ⟨h.2.1, h.2.2⟩
            · rw [if_neg (by omega), hs.2 u v hu hv j hj]
              apply dB_cong
              constructor
              · rintro ⟨⟨h1, h2⟩, h3⟩
                exact ⟨⟨by omega, h2⟩, h3⟩
              · rintro ⟨⟨h1, h2⟩, h3⟩
                exact ⟨⟨by omega, h2⟩, h3⟩
        · simp only [s_Mesh_findSides_L24, s_Plan_points, hC.1]
          rw [if_neg (n_le (by omega) hi), ← hC.1, e]
          simp only [Option.bind_some, hC.1]
          rw [i32_s])
      (n - (a + 1)) (a + 1) F lf (by omega) (by omega) ⟨by omega, h0⟩ |>.elim fun s h => ⟨s, h.1.2, h.2⟩
  obtain ⟨lf', h1, h2⟩ := lp (fun k i (lf : Nat → Int32) => s_Mesh_findSides_L9 F pxs pys pn k (i32 i) lf) n
    (fun i lf => LFp n (pt X Y) i (i + 1) lf) (fun lf => (i32 n, lf))
    (fun k s hs => by
      simp only [s_Mesh_findSides_L9, s_Plan_points, hC.1]
      rw [if_pos (y_le (by omega) (by omega))])
    (fun k i s hi hs => by
      obtain ⟨s', h1, h2⟩ := inner i hi s hs
      refine ⟨s', ?_, ?_⟩
      · intro u v hu hv j hj
        rw [h1 u v hu hv j hj]
        apply dB_cong
        constructor
        · rintro ⟨⟨h1, h2⟩, h3⟩
          exact ⟨⟨by omega, h2⟩, h3⟩
        · rintro ⟨⟨h1, h2⟩, h3⟩
          exact ⟨⟨by omega, h2⟩, h3⟩
      · simp only [s_Mesh_findSides_L9, s_Plan_points, hC.1]
        rw [if_neg (n_le (by omega) hi), i32_s, ← hC.1, h2]
        simp only [Option.bind_some, hC.1])
    n 0 F v1 (by omega) (by omega) (by
      intro u v hu hv j hj
      rw [hz _ (by omega), b_0, dB_f (fun h => by omega)])
  refine ⟨lf', ?_, ?_⟩
  · unfold s_Mesh_findSides
    have h2 : s_Mesh_findSides_L9 F pxs pys pn F (0 : Int32) v1 = some (i32 n, lf') := h2
    rw [hv1]
    simp only [Option.bind_some]
    rw [h2]; rfl
  · intro u v hu hv j hj
    rw [h1 u v hu hv j hj]
    apply dB_cong
    constructor
    · rintro ⟨⟨h1, h2, h3⟩, h4, h5⟩
      exact ⟨h2, h3, h4, h5⟩
    · rintro ⟨h2, h3, h4, h5⟩
      refine ⟨⟨?_, h2, h3⟩, h4, h5⟩
      have : u ≠ v := by intro e; subst e; rw [dt_aab] at h5; omega
      omega
end SIDES
