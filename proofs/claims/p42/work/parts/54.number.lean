/-- one pair stands before another -/
def Bf (u v x y : Nat) : Prop := u < x ∨ (u = x ∧ v < y)
/-- the pairs of R before (x, y), in order -/
def Lst (R : Nat → Nat → Prop) (c : Nat) (f g : Nat → Nat) (x y : Nat) : Prop :=
  (∀ k, k < c → R (f k) (g k) ∧ Bf (f k) (g k) x y) ∧ (∀ j k, j < k → k < c → Bf (f j) (g j) (f k) (g k)) ∧
    (∀ u v, R u v → Bf u v x y → ∃ k, k < c ∧ f k = u ∧ g k = v)
theorem lst_add {R : Nat → Nat → Prop} {c : Nat} {f g : Nat → Nat} {x y : Nat} (h : Lst R c f g x y) (r : R x y) :
    Lst R (c + 1) (fun k => if k = c then x else f k) (fun k => if k = c then y else g k) x (y + 1) := by
  obtain ⟨h1, h2, h3⟩ := h
  refine ⟨?_, ?_, ?_⟩
  · intro k hk
    show R (if k = c then x else f k) (if k = c then y else g k) ∧ Bf (if k = c then x else f k) (if k = c then y else g k) x (y + 1)
    by_cases q : k = c
    · rw [if_pos q, if_pos q]; exact ⟨r, Or.inr ⟨rfl, by omega⟩⟩
    · rw [if_neg q, if_neg q]
      obtain ⟨q1, q2⟩ := h1 k (by omega)
      refine ⟨q1, ?_⟩
      unfold Bf at q2 ⊢; omega
  · intro j k hjk hk
    show Bf (if j = c then x else f j) (if j = c then y else g j) (if k = c then x else f k) (if k = c then y else g k)
    rw [if_neg (show ¬ j = c by omega), if_neg (show ¬ j = c by omega)]
    by_cases q : k = c
    · rw [if_pos q, if_pos q]; exact (h1 j (by omega)).2
    · rw [if_neg q, if_neg q]; exact h2 j k hjk (by omega)
  · intro u v ruv b
    by_cases q : u = x ∧ v = y
    · refine ⟨c, by omega, ?_⟩
      show (if c = c then x else f c) = u ∧ (if c = c then y else g c) = v
      rw [if_pos rfl, if_pos rfl]; exact ⟨q.1.symm, q.2.symm⟩
    · obtain ⟨k, q1, q2⟩ := h3 u v ruv (by unfold Bf at b ⊢; omega)
      refine ⟨k, by omega, ?_⟩
      show (if k = c then x else f k) = u ∧ (if k = c then y else g k) = v
      rw [if_neg (show ¬ k = c by omega), if_neg (show ¬ k = c by omega)]; exact q2
theorem lst_skip {R : Nat → Nat → Prop} {c : Nat} {f g : Nat → Nat} {x y : Nat} (h : Lst R c f g x y) (r : ¬ R x y) : Lst R c f g x (y + 1) := by
  obtain ⟨h1, h2, h3⟩ := h
  refine ⟨fun k hk => ⟨(h1 k hk).1, ?_⟩, h2, fun u v ruv b => h3 u v ruv ?_⟩
  · have := (h1 k hk).2
    unfold Bf at this ⊢; omega
  · by_cases q : u = x ∧ v = y
    · obtain ⟨rfl, rfl⟩ := q; exact (r ruv).elim
    · unfold Bf at b ⊢; omega
theorem lst_row {R : Nat → Nat → Prop} {n c : Nat} {f g : Nat → Nat} {x : Nat} (hR : ∀ u v, R u v → u < v ∧ v < n) (h : Lst R c f g x n) : Lst R c f g (x + 1) (x + 2) := by
  obtain ⟨h1, h2, h3⟩ := h
  refine ⟨fun k hk => ⟨(h1 k hk).1, ?_⟩, h2, fun u v ruv b => h3 u v ruv ?_⟩
  · have := (h1 k hk).2
    unfold Bf at this ⊢; omega
  · have := hR u v ruv
    unfold Bf at b ⊢; omega
theorem lst_0 (R : Nat → Nat → Prop) (hR : ∀ u v, R u v → u < v) (f g : Nat → Nat) : Lst R 0 f g 0 1 := by
  refine ⟨fun k hk => by omega, fun j k _ hk => by omega, fun u v ruv b => ?_⟩
  have := hR u v ruv
  unfold Bf at b; omega
/-- all of them -/
def Lsa (R : Nat → Nat → Prop) (c : Nat) (f g : Nat → Nat) : Prop :=
  (∀ k, k < c → R (f k) (g k)) ∧ (∀ j k, j < k → k < c → Bf (f j) (g j) (f k) (g k)) ∧ (∀ u v, R u v → ∃ k, k < c ∧ f k = u ∧ g k = v)
theorem lst_end {R : Nat → Nat → Prop} {n c : Nat} {f g : Nat → Nat} (hR : ∀ u v, R u v → u < v ∧ v < n) (h : Lst R c f g n (n + 1)) : Lsa R c f g :=
  ⟨fun k hk => (h.1 k hk).1, h.2.1, fun u v r => h.2.2 u v r (Or.inl (by have := hR u v r; omega))⟩
theorem lst_inj {c : Nat} {f g : Nat → Nat} (h : ∀ j k, j < k → k < c → Bf (f j) (g j) (f k) (g k)) :
    ∀ j k, j < c → k < c → f j = f k → g j = g k → j = k := by
  intro j k hj hk e1 e2
  rcases Nat.lt_trichotomy j k with q | q | q
  · have := h j k q hk
    unfold Bf at this; omega
  · exact q
  · have := h k j q hj
    unfold Bf at this; omega
section NUMBER
variable {n m : Nat} {X Y : Nat → Int} {L H : Nat → Nat} {mnow : Nat → Int32}
/-- the edges by their numbers -/
def EdR (c : Nat) (f g : Nat → Nat) (el eh : Nat → Int32) : Prop := ∀ k, k < c → el k = i32 (f k) ∧ eh k = i32 (g k)
theorem edr_add {c : Nat} {f g : Nat → Nat} {el eh : Nat → Int32} (h : EdR c f g el eh) (hc : c < 42) (x y : Nat) :
    EdR (c + 1) (fun k => if k = c then x else f k) (fun k => if k = c then y else g k) (s_Row_set 42 el (i32 c) (i32 x)) (s_Row_set 42 eh (i32 c) (i32 y)) := by
  intro k hk
  rw [rset el _ hc (by omega), rset eh _ hc (by omega)]
  show (if k = c then i32 x else el k) = i32 (if k = c then x else f k) ∧ (if k = c then i32 y else eh k) = i32 (if k = c then y else g k)
  by_cases q : k = c
  · rw [if_pos q, if_pos q, if_pos q, if_pos q]; exact ⟨rfl, rfl⟩
  · rw [if_neg q, if_neg q, if_neg q, if_neg q]; exact h k (by omega)
theorem ed_bd {P : Nat → Int × Int × Int} {E : Nat → Nat → Prop} (hn : n ≤ 16) (G : Ge n P E) (B : Bx n P) {c : Nat} {f g : Nat → Nat} {x y : Nat} (h : Lst (fun u v => E u v ∧ u < v) c f g x y) : c ≤ 42 :=
  row_bd hn G B c f g (fun k hk => (h.1 k hk).1) (fun k j hk hj => lst_inj h.2.1 k j hk hj)
theorem c_numE {P : Nat → Int × Int × Int} {E : Nat → Nat → Prop} (hn : n ≤ 16) (G : Ge n P E) (B : Bx n P) {lk : Nat → Int32} (hK : LK lk E) (F : Nat) (hF : 300 ≤ F) (el eh : Nat → Int32) :
    ∃ el' eh' c f g, s_Mesh_numberEdges F (i32 n) lk el eh = some (el', eh', i32 c) ∧ c ≤ 42 ∧ EdR c f g el' eh' ∧ Lsa (fun u v => E u v ∧ u < v) c f g := by
  have hR : ∀ u v, E u v ∧ u < v → u < v ∧ v < n := fun u v h => ⟨h.2, (G.2.2.1 u v h.1).2.1⟩
  have inner : ∀ a, a < n → ∀ (s : (Nat → Int32) × (Nat → Int32) × Int32), (∃ c f g, s.2.2 = i32 c ∧ EdR c f g s.1 s.2.1 ∧ Lst (fun u v => E u v ∧ u < v) c f g a (a + 1)) →
      ∃ s' : (Nat → Int32) × (Nat → Int32) × Int32, (∃ c f g, s'.2.2 = i32 c ∧ EdR c f g s'.1 s'.2.1 ∧ Lst (fun u v => E u v ∧ u < v) c f g (a + 1) (a + 2)) ∧
        s_Mesh_numberEdges_L22 (i32 n) lk (i32 a) F (i32 (a + 1)) s.1 s.2.1 s.2.2 = some (i32 n, s'.1, s'.2.1, s'.2.2) := by
    intro a ha s hs
    obtain ⟨s', ⟨_, c, f, g, q1, q2, q3⟩, q4⟩ := lp (fun k i (s : (Nat → Int32) × (Nat → Int32) × Int32) => s_Mesh_numberEdges_L22 (i32 n) lk (i32 a) k (i32 i) s.1 s.2.1 s.2.2) n
      (fun i s => a < i ∧ ∃ c f g, s.2.2 = i32 c ∧ EdR c f g s.1 s.2.1 ∧ Lst (fun u v => E u v ∧ u < v) c f g a i) (fun s => (i32 n, s.1, s.2.1, s.2.2))
      (fun k s hs => by
        simp only [s_Mesh_numberEdges_L22]
        rw [if_pos (show s_Plan_points (i32 n) ≤ i32 n from y_le (by omega) (by omega))])
      (fun k i s hi ⟨hai, c, f, g, h1, h2, h3⟩ => by
        have cl := c_link hK (show a < 16 by omega) (show i < 32 by omega)
        by_cases e : E a i
        · have l' := lst_add h3 (show E a i ∧ a < i from ⟨e, hai⟩)
          have bd := ed_bd hn G B l'
          refine ⟨(s_Row_set 42 s.1 (i32 c) (i32 a), s_Row_set 42 s.2.1 (i32 c) (i32 i), i32 (c + 1)), ⟨by omega, c + 1, _, _, rfl, edr_add h2 (by omega) a i, l'⟩, ?_⟩
          simp only [s_Mesh_numberEdges_L22, cl]
          rw [if_neg (show ¬ (s_Plan_points (i32 n) ≤ i32 i) from n_le (by omega) hi), if_neg (bI_t e), h1, i32_s, i32_s]
        · refine ⟨s, ⟨by omega, c, f, g, h1, h2, lst_skip h3 (fun z => e z.1)⟩, ?_⟩
          simp only [s_Mesh_numberEdges_L22, cl]
          rw [if_neg (show ¬ (s_Plan_points (i32 n) ≤ i32 i) from n_le (by omega) hi), if_pos (bI_f e), i32_s])
      (n - (a + 1)) (a + 1) F s (by omega) (by omega) ⟨by omega, hs⟩
    exact ⟨s', ⟨c, f, g, q1, q2, lst_row hR q3⟩, q4⟩
  obtain ⟨s', ⟨c, f, g, q1, q2, q3⟩, q4⟩ := lp (fun k i (s : (Nat → Int32) × (Nat → Int32) × Int32) => s_Mesh_numberEdges_L7 F (i32 n) lk k (i32 i) s.1 s.2.1 s.2.2) n
    (fun i s => ∃ c f g, s.2.2 = i32 c ∧ EdR c f g s.1 s.2.1 ∧ Lst (fun u v => E u v ∧ u < v) c f g i (i + 1)) (fun s => (i32 n, s.1, s.2.1, s.2.2))
    (fun k s hs => by
      simp only [s_Mesh_numberEdges_L7]
      rw [if_pos (show s_Plan_points (i32 n) ≤ i32 n from y_le (by omega) (by omega))])
    (fun k i s hi hs => by
      obtain ⟨s', q1, q2⟩ := inner i hi s hs
      refine ⟨s', q1, ?_⟩
      simp only [s_Mesh_numberEdges_L7]
      rw [if_neg (show ¬ (s_Plan_points (i32 n) ≤ i32 i) from n_le (by omega) hi), i32_s, q2]
      simp only [Option.bind_some])
    n 0 F (el, eh, (0 : Int32)) (by omega) (by omega) ⟨0, fun _ => 0, fun _ => 0, rfl, fun k hk => by omega, lst_0 _ (fun u v h => h.2) _ _⟩
  refine ⟨s'.1, s'.2.1, c, f, g, ?_, ed_bd hn G B q3, q2, lst_end hR q3⟩
  unfold s_Mesh_numberEdges
  have q4 : s_Mesh_numberEdges_L7 F (i32 n) lk F (0 : Int32) el eh (0 : Int32) = some (i32 n, s'.1, s'.2.1, s'.2.2) := q4
  rw [q4, ← q1]; rfl
/-- a triangle whose first corner is its least -/
def Tr (n : Nat) (P : Nat → Int × Int × Int) (E : Nat → Nat → Prop) (u v : Nat) : Prop := ∃ w, Ap n P E u v w ∧ u < v ∧ u < w
theorem tr_bd {P : Nat → Int × Int × Int} {E : Nat → Nat → Prop} (hn : n ≤ 16) (G : Ge n P E) (B : Bx n P) {c : Nat} {f g : Nat → Nat} {x y : Nat} (h : Lst (Tr n P E) c f g x y) : c ≤ 27 := by
  by_cases q : ∃ a b c, a < n ∧ b < n ∧ c < n ∧ dt (P a) (P b) (P c) ≠ 0
  · have := tri_bd G B q ((List.range c).map (fun k => (f k, g k))) (by
      unfold List.Nodup
      rw [List.pairwise_map]
      apply List.Pairwise.imp_of_mem (R := fun a b => a ≠ b) _ List.nodup_range
      intro a b ha hb ne e
      exact ne (lst_inj h.2.1 a b (List.mem_range.1 ha) (List.mem_range.1 hb) (congrArg Prod.fst e) (congrArg Prod.snd e)))
      (by
        intro x hx
        obtain ⟨k, hk, e⟩ := List.mem_map.1 hx
        rw [← e]
        obtain ⟨w, w1, w2, w3⟩ := (h.1 k (List.mem_range.1 hk)).1
        exact ⟨w, w1, w2, w3⟩)
    rw [List.length_map, List.length_range] at this
    omega
  · by_cases z : c = 0
    · omega
    · obtain ⟨w, w1, _⟩ := (h.1 0 (by omega)).1
      obtain ⟨h1, h2, h3, _⟩ := ap_lt G w1
      exact (q ⟨_, _, _, h1, h2, h3, by have := w1.2.2.2.1; omega⟩).elim
/-- the corners of the triangles by their numbers -/
def CoR (t : Nat) (ta tb tc : Nat → Nat) (co : Nat → Int32) : Prop := ∀ k, k < t → co (3 * k) = i32 (ta k) ∧ co (3 * k + 1) = i32 (tb k) ∧ co (3 * k + 2) = i32 (tc k)
/-- whose triangle a directed edge is -/
def OwR (t : Nat) (ta tb tc : Nat → Nat) (ow : Nat → Int32) : Prop :=
  ∀ u v, u < 16 → v < 16 → (∃ k, k < t ∧ ((u = ta k ∧ v = tb k) ∨ (u = tb k ∧ v = tc k) ∨ (u = tc k ∧ v = ta k)) ∧ ow (u * 16 + v) = i32 k) ∨
    ((∀ k, k < t → ¬ ((u = ta k ∧ v = tb k) ∨ (u = tb k ∧ v = tc k) ∨ (u = tc k ∧ v = ta k))) ∧ ow (u * 16 + v) = (-1 : Int32))
theorem cor_add {N t : Nat} {ta tb tc : Nat → Nat} {co : Nat → Int32} (h : CoR t ta tb tc co) (a b c : Nat) :
    CoR (t + 1) (fun k => if k = t then a else ta k) (fun k => if k = t then b else tb k) (fun k => if k = t then c else tc k)
      (fun j => if j = 3 * t + 2 then i32 c else if j = 3 * t + 1 then i32 b else if j = 3 * t then i32 a else co j) := by
  intro k hk
  show (if 3 * k = 3 * t + 2 then i32 c else if 3 * k = 3 * t + 1 then i32 b else if 3 * k = 3 * t then i32 a else co (3 * k)) = i32 (if k = t then a else ta k) ∧
    (if 3 * k + 1 = 3 * t + 2 then i32 c else if 3 * k + 1 = 3 * t + 1 then i32 b else if 3 * k + 1 = 3 * t then i32 a else co (3 * k + 1)) = i32 (if k = t then b else tb k) ∧
    (if 3 * k + 2 = 3 * t + 2 then i32 c else if 3 * k + 2 = 3 * t + 1 then i32 b else if 3 * k + 2 = 3 * t then i32 a else co (3 * k + 2)) = i32 (if k = t then c else tc k)
  by_cases q : k = t
  · subst q
    rw [if_neg (show ¬ 3 * k = 3 * k + 2 by omega), if_neg (show ¬ 3 * k = 3 * k + 1 by omega), if_pos rfl, if_pos rfl, if_neg (show ¬ 3 * k + 1 = 3 * k + 2 by omega), if_pos rfl, if_pos rfl, if_pos rfl, if_pos rfl]
    exact ⟨rfl, rfl, rfl⟩
  · rw [if_neg (show ¬ 3 * k = 3 * t + 2 by omega), if_neg (show ¬ 3 * k = 3 * t + 1 by omega), if_neg (show ¬ 3 * k = 3 * t by omega),
      if_neg (show ¬ 3 * k + 1 = 3 * t + 2 by omega), if_neg (show ¬ 3 * k + 1 = 3 * t + 1 by omega), if_neg (show ¬ 3 * k + 1 = 3 * t by omega),
      if_neg (show ¬ 3 * k + 2 = 3 * t + 2 by omega), if_neg (show ¬ 3 * k + 2 = 3 * t + 1 by omega), if_neg (show ¬ 3 * k + 2 = 3 * t by omega), if_neg q, if_neg q, if_neg q]
    exact h k (by omega)
theorem owr_add {t : Nat} {ta tb tc : Nat → Nat} {ow : Nat → Int32} (h : OwR t ta tb tc ow) {a b c : Nat} (ha : a < 16) (hb : b < 16) (hc : c < 16) :
    OwR (t + 1) (fun k => if k = t then a else ta k) (fun k => if k = t then b else tb k) (fun k => if k = t then c else tc k)
      (s_Tab_set (s_Tab_set (s_Tab_set ow (i32 a) (i32 b) (i32 t)) (i32 b) (i32 c) (i32 t)) (i32 c) (i32 a) (i32 t)) := by
  rw [tset ow _ ha hb, tset _ _ hb hc, tset _ _ hc ha]
  intro u v hu hv
  show (∃ k, k < t + 1 ∧ ((u = (if k = t then a else ta k) ∧ v = (if k = t then b else tb k)) ∨ (u = (if k = t then b else tb k) ∧ v = (if k = t then c else tc k)) ∨ (u = (if k = t then c else tc k) ∧ v = (if k = t then a else ta k))) ∧
      (if u * 16 + v = c * 16 + a then i32 t else if u * 16 + v = b * 16 + c then i32 t else if u * 16 + v = a * 16 + b then i32 t else ow (u * 16 + v)) = i32 k) ∨
    ((∀ k, k < t + 1 → ¬ ((u = (if k = t then a else ta k) ∧ v = (if k = t then b else tb k)) ∨ (u = (if k = t then b else tb k) ∧ v = (if k = t then c else tc k)) ∨ (u = (if k = t then c else tc k) ∧ v = (if k = t then a else ta k)))) ∧
      (if u * 16 + v = c * 16 + a then i32 t else if u * 16 + v = b * 16 + c then i32 t else if u * 16 + v = a * 16 + b then i32 t else ow (u * 16 + v)) = (-1 : Int32))
  by_cases q : (u = a ∧ v = b) ∨ (u = b ∧ v = c) ∨ (u = c ∧ v = a)
  · refine Or.inl ⟨t, by omega, ?_, ?_⟩
    · rw [if_pos rfl, if_pos rfl, if_pos rfl]; exact q
    · by_cases e1 : u * 16 + v = c * 16 + a
      · rw [if_pos e1]
      · rw [if_neg e1]
        by_cases e2 : u * 16 + v = b * 16 + c
        · rw [if_pos e2]
        · rw [if_neg e2, if_pos (by omega)]
  · rw [if_neg (by omega), if_neg (by omega), if_neg (by omega)]
    rcases h u v hu hv with ⟨k, h1, h2, h3⟩ | ⟨h1, h2⟩
    · refine Or.inl ⟨k, by omega, ?_, h3⟩
      rw [if_neg (show ¬ k = t by omega), if_neg (show ¬ k = t by omega), if_neg (show ¬ k = t by omega)]; exact h2
    · refine Or.inr ⟨?_, h2⟩
      intro k hk
      by_cases e : k = t
      · rw [if_pos e, if_pos e, if_pos e]; exact q
      · rw [if_neg e, if_neg e, if_neg e]; exact h1 k (by omega)
theorem m_lists (hM : MP n m X Y L H mnow) (hO : Ok n m X Y L H) {medg : Nat → Int32} {E : Nat → Nat → Prop} (hE : ME medg E) (G : Ge n (pt X Y) E) (F : Nat) (hF : 300 ≤ F)
    {a b c t : Nat} (ha : a < n) (hb : b < n) (hc : c < n) (ht : t < 40) (mcor : Nat → Int32) :
    (Ap n (pt X Y) E a b c → s_Mod_lists F mnow medg mcor (i32 t) (i32 a) (i32 b) (i32 c) =
      some ((fun j => if j = 3 * t + 2 then i32 c else if j = 3 * t + 1 then i32 b else if j = 3 * t then i32 a else mcor j), i32 (t + 1))) ∧
    (¬ Ap n (pt X Y) E a b c → s_Mod_lists F mnow medg mcor (i32 t) (i32 a) (i32 b) (i32 c) = some (mcor, i32 t)) := by
  have hn := hO.1
  constructor
  · intro h
    obtain ⟨_, _, _, ab, bc, ca⟩ := ap_lt G h
    obtain ⟨h1, h2, h3, h4, h5⟩ := h
    unfold s_Mod_lists
    rw [if_neg (n_eq (by omega) (by omega) bc), m_has hE (by omega) (by omega), m_has hE (by omega) (by omega), m_has hE (by omega) (by omega), m_turns hM hO ha hb hc, m_empty hM hO F hF ha hb hc]
    simp only [Option.bind_some]
    rw [if_neg (bI_t h1), if_neg (bI_t h2), if_neg (bI_t h3), if_neg (fun k => by have := (sg_le _).1 k; omega), if_neg (bI_t h5),
      show (3 : Int32) = i32 3 from rfl, i32_mul, show (1 : Int32) = i32 1 from rfl, i32_add, show (2 : Int32) = i32 2 from rfl, i32_add, i32_add, aset_i mcor _ (by omega) (by omega)]
    simp only [Option.bind_some]
    rw [aset_i _ _ (by omega) (by omega)]
    simp only [Option.bind_some]
    rw [aset_i _ _ (by omega) (by omega)]
    simp only [Option.bind_some]
  · intro h
    unfold s_Mod_lists
    by_cases e0 : b = c
    · rw [if_pos (by rw [e0])]
    rw [if_neg (n_eq (by omega) (by omega) e0), m_has hE (by omega) (by omega), m_has hE (by omega) (by omega), m_has hE (by omega) (by omega), m_turns hM hO ha hb hc, m_empty hM hO F hF ha hb hc]
    simp only [Option.bind_some]
    by_cases h1 : E a b
    case neg => rw [if_pos (bI_f h1)]
    rw [if_neg (bI_t h1)]
    by_cases h2 : E b c
    case neg => rw [if_pos (bI_f h2)]
    rw [if_neg (bI_t h2)]
    by_cases h3 : E c a
    case neg => rw [if_pos (bI_f h3)]
    rw [if_neg (bI_t h3)]
    by_cases h4 : dt (pt X Y a) (pt X Y b) (pt X Y c) ≤ 0
    case pos => rw [if_pos ((sg_le _).2 h4)]
    rw [if_neg (fun k => h4 ((sg_le _).1 k))]
    rw [if_pos (bI_f (fun h5 => h ⟨h1, h2, h3, by omega, h5⟩))]
/-- the third corner is looked for -/
theorem m_row3 (hM : MP n m X Y L H mnow) (hO : Ok n m X Y L H) {medg : Nat → Int32} {E : Nat → Nat → Prop} (hE : ME medg E) (G : Ge n (pt X Y) E) (F : Nat) (hF : 300 ≤ F)
    {a b t : Nat} (hab : a < b) (hb : b < n) (ht : t < 39) (mcor : Nat → Int32) :
    (∀ c, Ap n (pt X Y) E a b c → a < c → s_Mod_builds_L219 F mnow medg (i32 a) (i32 b) F (i32 (a + 1)) mcor (i32 t) =
      some (i32 n, (fun j => if j = 3 * t + 2 then i32 c else if j = 3 * t + 1 then i32 b else if j = 3 * t then i32 a else mcor j), i32 (t + 1))) ∧
    ((¬ ∃ c, Ap n (pt X Y) E a b c ∧ a < c) → s_Mod_builds_L219 F mnow medg (i32 a) (i32 b) F (i32 (a + 1)) mcor (i32 t) = some (i32 n, mcor, i32 t)) := by
  have hn := hO.1
  obtain ⟨s, ⟨_, h1⟩, h2⟩ := lp (fun k i (s : (Nat → Int32) × Int32) => s_Mod_builds_L219 F mnow medg (i32 a) (i32 b) k (i32 i) s.1 s.2) n
    (fun i s => a < i ∧ ((∃ c, Ap n (pt X Y) E a b c ∧ a < c ∧ c < i ∧ s = ((fun j => if j = 3 * t + 2 then i32 c else if j = 3 * t + 1 then i32 b else if j = 3 * t then i32 a else mcor j), i32 (t + 1))) ∨
      ((∀ c, Ap n (pt X Y) E a b c → a < c → ¬ (c < i)) ∧ s = (mcor, i32 t)))) (fun s => (i32 n, s.1, s.2))
    (fun k s hs => by simp only [s_Mod_builds_L219, m_n hM, Option.bind_some]; rw [if_pos (y_le (by omega) (by omega))])
    (fun k i s hi ⟨hai, hs⟩ => by
      rcases hs with ⟨c, q1, q2, q3, rfl⟩ | ⟨q1, rfl⟩
      · refine ⟨_, ⟨by omega, Or.inl ⟨c, q1, q2, by omega, rfl⟩⟩, ?_⟩
        simp only [s_Mod_builds_L219, m_n hM, Option.bind_some]
        rw [if_neg (n_le (by omega) hi), (m_lists hM hO hE G F hF (by omega) hb hi (show t + 1 < 40 by omega) _).2 (fun z => by
          have := ap_un G q1 z
          omega)]
        simp only [Option.bind_some]
        rw [i32_s]
      · by_cases z : Ap n (pt X Y) E a b i
        · refine ⟨_, ⟨by omega, Or.inl ⟨i, z, hai, by omega, rfl⟩⟩, ?_⟩
          simp only [s_Mod_builds_L219, m_n hM, Option.bind_some]
          rw [if_neg (n_le (by omega) hi), (m_lists hM hO hE G F hF (by omega) hb hi (show t < 40 by omega) _).1 z]
          simp only [Option.bind_some]
          rw [i32_s]
        · refine ⟨_, ⟨by omega, Or.inr ⟨fun c w1 w2 w3 => ?_, rfl⟩⟩, ?_⟩
          · by_cases e : c = i
            · rw [e] at w1; exact z w1
            · exact q1 c w1 w2 (by omega)
          · simp only [s_Mod_builds_L219, m_n hM, Option.bind_some]
            rw [if_neg (n_le (by omega) hi), (m_lists hM hO hE G F hF (by omega) hb hi (show t < 40 by omega) _).2 z]
            simp only [Option.bind_some]
            rw [i32_s])
    (n - (a + 1)) (a + 1) F (mcor, i32 t) (by omega) (by omega) ⟨by omega, Or.inr ⟨fun c _ w1 w2 => by omega, rfl⟩⟩
  constructor
  · intro c hc hac
    rcases h1 with ⟨c', q1, _, _, e⟩ | ⟨q1, _⟩
    · have := ap_un G hc q1
      subst this
      rw [e] at h2
      exact h2
    · exact (q1 c hc hac (ap_lt G hc).2.2.1).elim
  · intro hc
    rcases h1 with ⟨c', q1, q2, _, e⟩ | ⟨q1, e⟩
    · exact (hc ⟨c', q1, q2⟩).elim
    · rw [e] at h2
      exact h2
end NUMBER
