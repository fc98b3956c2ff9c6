/-! the least tree -/
def Bits (x : Int32) (S : Nat → Prop) : Prop := ∀ j, j < 16 → bt x j = dB (S j)
theorem dB_same {p q : Prop} : dB p = dB q ↔ (p ↔ q) :=
  ⟨fun h => ⟨fun a => dB_iff.1 (by rw [← h]; exact dB_t a), fun a => dB_iff.1 (by rw [h]; exact dB_t a)⟩, dB_cong⟩
theorem lv_test {x : Int32} {S : Nat → Prop} (h : Bits x S) {a b : Nat} (ha : a < 16) (hb : b < 16) :
    (((x >>> (i32 a &&& 31)) ^^^ (x >>> (i32 b &&& 31))) &&& (1 : Int32)) = 0 ↔ (S a ↔ S b) := by
  rw [b_and1, b_xor, b_sshr a (by omega) x (by omega), b_sshr b (by omega) x (by omega), if_pos (by omega), if_pos (by omega), Nat.add_zero, Nat.add_zero, h a ha, h b hb, ← @dB_same (S a) (S b)]
  cases dB (S a) <;> cases dB (S b) <;> decide
theorem bt_1s {j : Nat} (hj : j < 32) (i : Nat) : bt ((1 : Int32) <<< (i32 j &&& 31)) i = decide (i = j) := by
  have h := b_bit 0 hj i
  rw [b_or, b_0] at h
  simpa using h
theorem bits_add {x : Int32} {S : Nat → Prop} (h : Bits x S) {a b : Nat} (ha : a < 16) (hb : b < 16) :
    Bits (x ||| (((1 : Int32) <<< (i32 a &&& 31)) ||| ((1 : Int32) <<< (i32 b &&& 31)))) (fun j => S j ∨ j = a ∨ j = b) := by
  intro j hj
  rw [b_or, b_or, bt_1s (by omega), bt_1s (by omega), h j hj]
  apply dB_eq
  simp only [Bool.or_eq_true, decide_eq_true_eq, dB_iff]
theorem bits_c {x : Int32} {S T : Nat → Prop} (h : Bits x S) (k : ∀ j, j < 16 → (S j ↔ T j)) : Bits x T := fun j hj => by rw [h j hj, dB_cong (k j hj)]
/-- the tree after i points -/
def TrI (n : Nat) (E : Nat → Nat → Prop) (wt : Nat → Nat → Nat) (i s : Nat) (S : Nat → Prop) : Prop :=
  S 0 ∧ (∀ x, S x → x < n) ∧ sumr n (fun x => ind (S x)) = i ∧ Pot n E wt 80001 S = Pot n E wt 80001 (fun x => x = 0) + s
theorem sumr_comp (n : Nat) (S : Nat → Prop) : sumr n (fun x => ind (S x)) + sumr n (fun x => ind (¬ S x)) = n := by
  rw [← sumr_add, sumr_ext n _ (fun _ => 1) (fun i _ => ?_), sumr_const]
  · omega
  · show ind (S i) + ind (¬ S i) = 1
    by_cases h : S i
    · rw [ind_t h, ind_f (fun z => z h)]
    · rw [ind_f h, ind_t h]
section TREE
variable {n : Nat} {E : Nat → Nat → Prop} {wt : Nat → Nat → Nat}
theorem tri_leave (hc : Ct n E) {i s : Nat} {S : Nat → Prop} (h : TrI n E wt i s S) (hi : i < n) : ∃ u v, E u v ∧ S u ∧ ¬ S v := by
  obtain ⟨h1, h2, h3, _⟩ := h
  have c := sumr_comp n S
  obtain ⟨p, hp, np, _⟩ := sumr_find (Q := fun x => ¬ S x) (n := n) (k := 0) (by omega)
  exact hc S ⟨0, h2 0 h1, h1⟩ ⟨p, hp, np⟩
theorem tri_end {s : Nat} {S : Nat → Prop} (h : TrI n E wt n s S) : Pot n E wt 80001 (fun _ => True) = Pot n E wt 80001 (fun x => x = 0) + s := by
  obtain ⟨h1, h2, h3, h4⟩ := h
  have c := sumr_comp n S
  rw [← h4]
  apply pot_ext
  intro x hx
  refine ⟨fun _ => ?_, fun _ => trivial⟩
  by_cases z : S x
  · exact z
  · have := sumr_hit (Q := fun x => ¬ S x) hx z
    omega
theorem tri_step (hs : ∀ u v, E u v → E v u ∧ wt v u = wt u v) {i s : Nat} {S : Nat → Prop} (h : TrI n E wt i s S) {u v : Nat} (hu : u < n) (hv : v < n) (su : S u) (sv : ¬ S v) (e : E u v) (hw : wt u v ≤ 80001)
    (m : ∀ a b, E a b → S a → ¬ S b → wt u v ≤ wt a b) : TrI n E wt (i + 1) (s + wt u v) (fun x => S x ∨ x = v) := by
  obtain ⟨h1, h2, h3, h4⟩ := h
  refine ⟨Or.inl h1, ?_, ?_, ?_⟩
  · rintro x (z | z)
    · exact h2 x z
    · omega
  · have := sumr_J n (fun x => ind (S x)) (fun x => ind (S x ∨ x = v)) [v] (by simp) (by intro j hj; rw [List.mem_singleton] at hj; omega) (by
      intro y hy hj
      rw [List.mem_singleton] at hj
      exact ind_iff ⟨fun z => Or.inl z, fun z => Or.elim z (fun w => w) (fun w => (hj w).elim)⟩)
    simp only [List.map_cons, List.map_nil, List.sum_cons, List.sum_nil, ind_f sv, ind_t (show S v ∨ True from Or.inr trivial)] at this
    show sumr n (fun x => ind (S x ∨ x = v)) = i + 1
    omega
  · rw [pot_step hs hu hv su sv e hw m, h4]; omega
theorem tri_0 (hn : 0 < n) : TrI n E wt 1 0 (fun x => x = 0) := by
  refine ⟨rfl, fun x z => by omega, ?_, (Nat.add_zero _).symm⟩
  show sumr n (fun x => ind (x = 0)) = 1
  have : (fun x => ind (x = 0)) = fun x => if x = 0 then 1 else 0 := by
    funext x
    by_cases z : x = 0
    · rw [ind_t z, if_pos z]
    · rw [ind_f z, if_neg z]
  rw [this]; exact sumr_one n 0 hn 1
end TREE
section ASKT
variable {F n m : Nat} {X Y : Nat → Int} {L H : Nat → Nat} {pxs pys plo phi : Nat → Int32} {pn pm : Int32} {mnow : Nat → Int32}
variable {lf th ow lk el eh co hu : Nat → Int32} {ne nt nh : Int32} {medg mcor : Nat → Int32} {mtri : Int32} {xs : Nat → Int32} {fl : Nat → Int64} {x5 : Int32}
variable {E : Nat → Nat → Prop} {c : Nat} {f g : Nat → Nat}
theorem c_short (hC : CP n m X Y L H pxs pys plo phi pn pm) (hO : Ok n m X Y L H) (hF : 300 ≤ F) (G : Ge n (pt X Y) E) (hE : EdR c f g el eh) (hc : c ≤ 42) (h : Lsa (fun u v => E u v ∧ u < v) c f g) {x : Int32} {S : Nat → Prop} (hx : Bits x S) :
    ∃ r, s_Mesh_shortestLeaving F pxs pys el eh (i32 c) x = some r ∧
      ((∃ k, k < c ∧ ¬ (S (f k) ↔ S (g k)) ∧ (∀ j, j < c → ¬ (S (f j) ↔ S (g j)) → wl X Y (f k) (g k) ≤ wl X Y (f j) (g j)) ∧ r = i32 k) ∨ ((∀ j, j < c → (S (f j) ↔ S (g j))) ∧ r = (-1 : Int32))) := by
  have hn := hO.1
  obtain ⟨o, o1, o2⟩ := lp (fun fu i (o : Option Nat) => s_Mesh_shortestLeaving_L4 pxs pys el eh (i32 c) x fu (match o with | none => (-1 : Int32) | some k => i32 k) (i32 i)) c
    (fun i o => (o = none ∧ ∀ j, j < i → (S (f j) ↔ S (g j))) ∨ ∃ k, o = some k ∧ k < c ∧ ¬ (S (f k) ↔ S (g k)) ∧ ∀ j, j < i → ¬ (S (f j) ↔ S (g j)) → wl X Y (f k) (g k) ≤ wl X Y (f j) (g j))
    (fun o => ((match o with | none => (-1 : Int32) | some k => i32 k), i32 c))
    (fun fu s _ => by simp only [s_Mesh_shortestLeaving_L4]; rw [if_pos (y_le (by omega) (by omega))])
    (fun fu i o hi hs => by
      obtain ⟨q1, q2, _, _⟩ := fg_lt G h hi
      have t := lv_test hx (show f i < 16 by omega) (show g i < 16 by omega)
      have l := c_len hC hO G hE hc h hi
      by_cases z : S (f i) ↔ S (g i)
      · refine ⟨o, ?_, ?_⟩
        · rcases hs with ⟨a1, a2⟩ | ⟨k, a1, a2, a3, a4⟩
          · refine Or.inl ⟨a1, fun j hj => ?_⟩
            by_cases y : j = i
            · rw [y]; exact z
            · exact a2 j (by omega)
          · refine Or.inr ⟨k, a1, a2, a3, fun j hj w => ?_⟩
            by_cases y : j = i
            · rw [y] at w; exact (w z).elim
            · exact a4 j (by omega) w
        · simp only [s_Mesh_shortestLeaving_L4]
          rw [rget el (by omega) (by omega), rget eh (by omega) (by omega), (hE i hi).1, (hE i hi).2, if_neg (n_le (by omega) hi), if_pos (t.2 z), if_pos trivial, i32_s]
      · rcases hs with ⟨a1, a2⟩ | ⟨k, a1, a2, a3, a4⟩
        · subst a1
          refine ⟨some i, Or.inr ⟨i, rfl, hi, z, fun j hj w => ?_⟩, ?_⟩
          · by_cases y : j = i
            · rw [y]; omega
            · exact (w (a2 j (by omega))).elim
          · simp only [s_Mesh_shortestLeaving_L4]
            rw [rget el (by omega) (by omega), rget eh (by omega) (by omega), (hE i hi).1, (hE i hi).2, if_neg (n_le (by omega) hi), if_neg (fun y => z (t.1 y)), if_neg (by decide), if_pos trivial, i32_s]
        · subst a1
          have lk := c_len hC hO G hE hc h a2
          obtain ⟨p1, p2, _, _⟩ := fg_lt G h a2
          have b1 := wl_bd hC hO q1 q2
          have b2 := wl_bd hC hO p1 p2
          by_cases y : wl X Y (f k) (g k) ≤ wl X Y (f i) (g i)
          · refine ⟨some k, Or.inr ⟨k, rfl, a2, a3, fun j hj w => ?_⟩, ?_⟩
            · by_cases v : j = i
              · rw [v]; exact y
              · exact a4 j (by omega) w
            · simp only [s_Mesh_shortestLeaving_L4]
              rw [rget el (by omega) (by omega), rget eh (by omega) (by omega), (hE i hi).1, (hE i hi).2, if_neg (n_le (by omega) hi), if_neg (fun y => z (t.1 y)), if_neg (by decide), if_neg (i32_m1 (by omega)), l, lk, if_pos (y_le (by omega) y), i32_s]
          · refine ⟨some i, Or.inr ⟨i, rfl, hi, z, fun j hj w => ?_⟩, ?_⟩
            · by_cases v : j = i
              · rw [v]; omega
              · have := a4 j (by omega) w; omega
            · simp only [s_Mesh_shortestLeaving_L4]
              rw [rget el (by omega) (by omega), rget eh (by omega) (by omega), (hE i hi).1, (hE i hi).2, if_neg (n_le (by omega) hi), if_neg (fun y => z (t.1 y)), if_neg (by decide), if_neg (i32_m1 (by omega)), l, lk, if_neg (n_le (by omega) (by omega)), i32_s])
    c 0 F none (by omega) (by omega) (Or.inl ⟨rfl, fun j hj => by omega⟩)
  have o2 : s_Mesh_shortestLeaving_L4 pxs pys el eh (i32 c) x F (-1 : Int32) (0 : Int32) = _ := o2
  unfold s_Mesh_shortestLeaving
  rw [o2]
  simp only [Option.bind_some]
  rcases o1 with ⟨rfl, a2⟩ | ⟨k, rfl, a2, a3, a4⟩
  · exact ⟨-1, rfl, Or.inr ⟨a2, rfl⟩⟩
  · exact ⟨i32 k, rfl, Or.inl ⟨k, a2, a3, a4, rfl⟩⟩
theorem c_tree (hC : CP n m X Y L H pxs pys plo phi pn pm) (hO : Ok n m X Y L H) (hF : 300 ≤ F) (G : Ge n (pt X Y) E) (T : Ct n E) (hE : EdR c f g el eh) (hc : c ≤ 42) (h : Lsa (fun u v => E u v ∧ u < v) c f g) (h0 : 0 < n) :
    ∃ s, s_Mesh_leastTree F pxs pys (i32 n) el eh (i32 c) = some (i32 s) ∧ Pot n E (wl X Y) 80001 (fun _ => True) = Pot n E (wl X Y) 80001 (fun x => x = 0) + s := by
  have hn := hO.1
  have hs : ∀ u v, E u v → E v u ∧ wl X Y v u = wl X Y u v := fun u v e => ⟨(G.2.2.1 u v e).2.2.2, wl_sy _ _ _ _⟩
  obtain ⟨⟨s, x, S⟩, ⟨o1, o2⟩, o3⟩ := lp (fun fu i (st : Nat × Int32 × (Nat → Prop)) => s_Mesh_leastTree_L6 F pxs pys (i32 n) el eh (i32 c) fu (i32 st.1) st.2.1 (i32 i)) n
    (fun i st => TrI n E (wl X Y) i st.1 st.2.2 ∧ Bits st.2.1 st.2.2) (fun st => (i32 st.1, st.2.1, i32 n))
    (fun fu s _ => by simp only [s_Mesh_leastTree_L6]; rw [if_pos (show s_Plan_points (i32 n) ≤ i32 n from y_le (by omega) (by omega))])
    (fun fu i ⟨s, x, S⟩ hi ⟨a1, a2⟩ => by
      have a1 : TrI n E (wl X Y) i s S := a1
      have a2 : Bits x S := a2
      obtain ⟨u, v, l1, l2, l3⟩ := tri_leave T a1 hi
      obtain ⟨r, r1, r2⟩ := c_short hC hO hF G hE hc h a2
      rcases r2 with ⟨k, k1, k2, k3, rfl⟩ | ⟨r2, _⟩
      · obtain ⟨q1, q2, q3, q4⟩ := fg_lt G h k1
        have mn : ∀ a b, E a b → S a → ¬ S b → wl X Y (f k) (g k) ≤ wl X Y a b := by
          intro a b e sa sb
          obtain ⟨j, j1, ⟨j2, j3⟩ | ⟨j2, j3⟩⟩ := in_list G h e
          · have := k3 j j1 (by rw [j2, j3]; exact fun z => sb (z.1 sa))
            rw [j2, j3] at this; exact this
          · have := k3 j j1 (by rw [j2, j3]; exact fun z => sb (z.2 sa))
            rw [j2, j3, wl_sy X Y a b] at this; exact this
        have wb := wl_bd hC hO q1 q2
        have go : ∀ S' : Nat → Prop, (∀ j, j < 16 → ((S j ∨ j = f k ∨ j = g k) ↔ S' j)) → TrI n E (wl X Y) (i + 1) (s + wl X Y (f k) (g k)) S' →
            ∃ s' : Nat × Int32 × (Nat → Prop), (TrI n E (wl X Y) (i + 1) s'.1 s'.2.2 ∧ Bits s'.2.1 s'.2.2) ∧ s_Mesh_leastTree_L6 F pxs pys (i32 n) el eh (i32 c) (fu + 1) (i32 s) x (i32 i) = s_Mesh_leastTree_L6 F pxs pys (i32 n) el eh (i32 c) fu (i32 s'.1) s'.2.1 (i32 (i + 1)) := by
          intro S' e1 e2
          refine ⟨(s + wl X Y (f k) (g k), _, S'), ⟨e2, bits_c (bits_add a2 (show f k < 16 by omega) (show g k < 16 by omega)) e1⟩, ?_⟩
          simp only [s_Mesh_leastTree_L6]
          rw [if_neg (show ¬ (s_Plan_points (i32 n) ≤ i32 i) from n_le (by omega) hi), r1]
          simp only [Option.bind_some]
          rw [if_neg (i32_m1 (by omega)), c_len hC hO G hE hc h k1, i32_add, rget el (by omega) (by omega), rget eh (by omega) (by omega), (hE k k1).1, (hE k k1).2, i32_s]
        by_cases z : S (f k)
        · have y : ¬ S (g k) := fun y => k2 ⟨fun _ => y, fun _ => z⟩
          exact go (fun j => S j ∨ j = g k) (fun j _ => ⟨fun w => by
            rcases w with w | w | w
            · exact Or.inl w
            · exact Or.inl (by rw [w]; exact z)
            · exact Or.inr w, fun w => by
            rcases w with w | w
            · exact Or.inl w
            · exact Or.inr (Or.inr w)⟩) (tri_step hs a1 q1 q2 z y q4 (by omega) mn)
        · have y : S (g k) := by
            by_cases y : S (g k)
            · exact y
            · exact (k2 ⟨fun w => (z w).elim, fun w => (y w).elim⟩).elim
          have e := tri_step hs a1 q2 q1 y z (G.2.2.1 _ _ q4).2.2.2 (by rw [wl_sy]; omega) (by rw [wl_sy]; exact mn)
          rw [wl_sy] at e
          exact go (fun j => S j ∨ j = f k) (fun j _ => ⟨fun w => by
            rcases w with w | w | w
            · exact Or.inl w
            · exact Or.inr w
            · exact Or.inl (by rw [w]; exact y), fun w => by
            rcases w with w | w
            · exact Or.inl w
            · exact Or.inr (Or.inl w)⟩) e
      · obtain ⟨j, j1, ⟨j2, j3⟩ | ⟨j2, j3⟩⟩ := in_list G h l1
        · have := r2 j j1
          rw [j2, j3] at this; exact (l3 (this.1 l2)).elim
        · have := r2 j j1
          rw [j2, j3] at this; exact (l3 (this.2 l2)).elim)
    (n - 1) 1 F (0, 1, fun x => x = 0) (by omega) (by omega) ⟨tri_0 h0, fun j hj => by rw [b_1]; apply dB_eq; rw [decide_eq_true_eq]⟩
  have o3 : s_Mesh_leastTree_L6 F pxs pys (i32 n) el eh (i32 c) F (0 : Int32) (1 : Int32) (1 : Int32) = some (i32 s, x, i32 n) := o3
  refine ⟨s, ?_, tri_end o1⟩
  unfold s_Mesh_leastTree
  rw [o3]; rfl
/-- the reference's mark of the points it has met -/
def MetS (n : Nat) (mmet : Nat → Int32) (S : Nat → Prop) : Prop := ∀ j, j < n → mmet j = bI (dB (S j))
theorem m_tree (hM : MP n m X Y L H mnow) (hC : CP n m X Y L H pxs pys plo phi pn pm) (hO : Ok n m X Y L H) (hF : 300 ≤ F) (G : Ge n (pt X Y) E) (T : Ct n E) (hE : ME medg E) (h0 : 0 < n) (mmet : Nat → Int32) :
    ∃ s r, s_Mod_connects F mnow medg mmet = some (i32 s, r) ∧ Pot n E (wl X Y) 80001 (fun _ => True) = Pot n E (wl X Y) 80001 (fun x => x = 0) + s := by
  have hn := hO.1
  have hs : ∀ u v, E u v → E v u ∧ wl X Y v u = wl X Y u v := fun u v e => ⟨(G.2.2.1 u v e).2.2.2, wl_sy _ _ _ _⟩
  have v1 : vp_nar .boolean (1 : Int32) = 1 := vp_b true
  have v0 : vp_nar .boolean (0 : Int32) = 0 := vp_b false
  obtain ⟨m1, a1, a2⟩ := lp (fun fu i (mm : Nat → Int32) => s_Mod_connects_L2 mnow fu (i32 i) mm) n (fun i mm => ∀ j, j < i → mm j = bI (dB (j = 0))) (fun mm => (i32 n, mm))
    (fun fu s _ => by simp only [s_Mod_connects_L2, m_n hM, Option.bind_some]; rw [if_pos (y_le (by omega) (by omega))])
    (fun fu i mm hi hs => by
      by_cases z : i = 0
      · refine ⟨fun j => if j = i then 1 else mm j, fun j hj => ?_, ?_⟩
        · by_cases y : j = i
          · show (if j = i then (1 : Int32) else mm j) = _
            rw [if_pos y, dB_t (by omega)]; rfl
          · omega
        · simp only [s_Mod_connects_L2, m_n hM, Option.bind_some]
          rw [if_neg (n_le (by omega) hi), if_pos (by rw [z]; rfl), v1, aset_i mm 1 (show i < 17 by omega) (by omega), i32_s]
          rfl
      · refine ⟨fun j => if j = i then 0 else mm j, fun j hj => ?_, ?_⟩
        · by_cases y : j = i
          · show (if j = i then (0 : Int32) else mm j) = _
            rw [if_pos y, dB_f (by omega)]; rfl
          · show (if j = i then (0 : Int32) else mm j) = _
            rw [if_neg y]; exact hs j (by omega)
        · simp only [s_Mod_connects_L2, m_n hM, Option.bind_some]
          rw [if_neg (n_le (by omega) hi), if_neg (fun w => z ((i32_0 (by omega)).1 w)), v0, aset_i mm 0 (show i < 17 by omega) (by omega), i32_s]
          rfl)
    n 0 F mmet (by omega) (by omega) (fun j hj => by omega)
  have a2 : s_Mod_connects_L2 mnow F (0 : Int32) mmet = some (i32 n, m1) := a2
  -- the shortest leaving edge
  have sh : ∀ (mm : Nat → Int32) (S : Nat → Prop), MetS n mm S → (∃ u v, E u v ∧ S u ∧ ¬ S v) → ∃ b v u, s_Mod_connects_L52 F mnow medg mm F (2147483647 : Int32) (0 : Int32) (0 : Int32) = some (i32 b, i32 v, i32 n) ∧
      E u v ∧ S u ∧ ¬ S v ∧ b = wl X Y u v ∧ ∀ a b, E a b → S a → ¬ S b → wl X Y u v ≤ wl X Y a b := by
    intro mm S hm hlv
    have row : ∀ x (st : Nat × Nat), x < n → ((st = (2147483647, 0)) ∨ ∃ u, E u st.2 ∧ S u ∧ ¬ S st.2 ∧ st.1 = wl X Y u st.2) → ∃ st' : Nat × Nat, s_Mod_connects_L64 mnow medg mm (i32 x) F (i32 st.1) (i32 st.2) (0 : Int32) = some (i32 st'.1, i32 st'.2, i32 n) ∧
        ((st' = (2147483647, 0)) ∨ ∃ u, E u st'.2 ∧ S u ∧ ¬ S st'.2 ∧ st'.1 = wl X Y u st'.2) ∧ st'.1 ≤ st.1 ∧ ∀ y, y < n → E x y → S x → ¬ S y → st'.1 ≤ wl X Y x y := by
      intro x st hx hst
      obtain ⟨st', ⟨b1, b2, b3⟩, b4⟩ := lp (fun fu i (st : Nat × Nat) => s_Mod_connects_L64 mnow medg mm (i32 x) fu (i32 st.1) (i32 st.2) (i32 i)) n
        (fun i st' => ((st' = (2147483647, 0)) ∨ ∃ u, E u st'.2 ∧ S u ∧ ¬ S st'.2 ∧ st'.1 = wl X Y u st'.2) ∧ st'.1 ≤ st.1 ∧ ∀ y, y < i → E x y → S x → ¬ S y → st'.1 ≤ wl X Y x y) (fun st => (i32 st.1, i32 st.2, i32 n))
        (fun fu s _ => by simp only [s_Mod_connects_L64, m_n hM, Option.bind_some]; rw [if_pos (y_le (by omega) (by omega))])
        (fun fu i s hi ⟨p1, p2, p3⟩ => by
          have keep : ¬ (S x ∧ ¬ S i ∧ E x i ∧ wl X Y x i < s.1) → ((s = (2147483647, 0)) ∨ ∃ u, E u s.2 ∧ S u ∧ ¬ S s.2 ∧ s.1 = wl X Y u s.2) ∧ s.1 ≤ st.1 ∧ ∀ y, y < i + 1 → E x y → S x → ¬ S y → s.1 ≤ wl X Y x y := by
            intro ng
            refine ⟨p1, p2, fun y hy e sx sy => ?_⟩
            by_cases z : y = i
            · subst z
              by_cases w : wl X Y x y < s.1
              · exact (ng ⟨sx, sy, e, w⟩).elim
              · omega
            · exact p3 y (by omega) e sx sy
          have sb : s.1 < 2147483648 := by
            rcases p1 with z | ⟨u, z1, _, _, z⟩
            · rw [z]; decide
            · obtain ⟨y1, y2, _⟩ := G.2.2.1 _ _ z1
              have := wl_bd hC hO y1 y2; omega
          have gx : aget 17 mm (i32 x) = some (bI (dB (S x))) := by rw [aget_i mm (by omega) (by omega), hm x hx]
          have gi : aget 17 mm (i32 i) = some (bI (dB (S i))) := by rw [aget_i mm (by omega) (by omega), hm i hi]
          have wb := wl_bd hC hO hx hi
          by_cases sx : S x
          case neg =>
            refine ⟨s, keep (fun z => sx z.1), ?_⟩
            simp only [s_Mod_connects_L64, m_n hM, Option.bind_some, gx]
            rw [if_neg (n_le (by omega) hi), if_pos (bI_f sx), i32_s]
          by_cases si : S i
          case pos =>
            refine ⟨s, keep (fun z => z.2.1 si), ?_⟩
            simp only [s_Mod_connects_L64, m_n hM, Option.bind_some, gx, gi]
            rw [if_neg (n_le (by omega) hi), if_neg (bI_t sx), if_neg (bI_t si), i32_s]
          by_cases e : E x i
          case neg =>
            refine ⟨s, keep (fun z => e z.2.2.1), ?_⟩
            simp only [s_Mod_connects_L64, m_n hM, Option.bind_some, gx, gi, m_has hE (show x < 17 by omega) (show i < 17 by omega)]
            rw [if_neg (n_le (by omega) hi), if_neg (bI_t sx), if_pos (bI_f si), if_pos (bI_f e), i32_s]
          by_cases w : wl X Y x i < s.1
          case neg =>
            refine ⟨s, keep (fun z => w z.2.2.2), ?_⟩
            simp only [s_Mod_connects_L64, m_n hM, Option.bind_some, gx, gi, m_has hE (show x < 17 by omega) (show i < 17 by omega), m_sq hM hO hx hi]
            rw [if_neg (n_le (by omega) hi), if_neg (bI_t sx), if_pos (bI_f si), if_neg (bI_t e), if_neg (n_lt (by omega) (by omega)), i32_s]
          refine ⟨(wl X Y x i, i), ⟨Or.inr ⟨x, e, sx, si, rfl⟩, ?_, fun y hy e sx sy => ?_⟩, ?_⟩
          · show wl X Y x i ≤ st.1
            omega
          · show wl X Y x i ≤ wl X Y x y
            by_cases z : y = i
            · rw [z]; omega
            · have := p3 y (by omega) e sx sy; omega
          · simp only [s_Mod_connects_L64, m_n hM, Option.bind_some, gx, gi, m_has hE (show x < 17 by omega) (show i < 17 by omega), m_sq hM hO hx hi]
            rw [if_neg (n_le (by omega) hi), if_neg (bI_t sx), if_pos (bI_f si), if_neg (bI_t e), if_pos (y_lt sb w), i32_s])
        n 0 F st (by omega) (by omega) ⟨hst, by omega, fun y hy => by omega⟩
      exact ⟨st', b4, b1, b2, b3⟩
    obtain ⟨st', ⟨b1, b2⟩, b4⟩ := lp (fun fu i (st : Nat × Nat) => s_Mod_connects_L52 F mnow medg mm fu (i32 st.1) (i32 st.2) (i32 i)) n
      (fun i st' => ((st' = (2147483647, 0)) ∨ ∃ u, E u st'.2 ∧ S u ∧ ¬ S st'.2 ∧ st'.1 = wl X Y u st'.2) ∧ ∀ x y, x < i → y < n → E x y → S x → ¬ S y → st'.1 ≤ wl X Y x y) (fun st => (i32 st.1, i32 st.2, i32 n))
      (fun fu s _ => by simp only [s_Mod_connects_L52, m_n hM, Option.bind_some]; rw [if_pos (y_le (by omega) (by omega))])
      (fun fu i s hi ⟨p1, p2⟩ => by
        obtain ⟨st', c1, c2, c3, c4⟩ := row i s hi p1
        refine ⟨st', ⟨c2, fun x y hx hy e sx sy => ?_⟩, ?_⟩
        · by_cases z : x = i
          · subst z; exact c4 y hy e sx sy
          · have := p2 x y (by omega) hy e sx sy; omega
        · simp only [s_Mod_connects_L52, m_n hM, Option.bind_some]
          rw [if_neg (n_le (by omega) hi), c1, i32_s]
          simp only [Option.bind_some])
      n 0 F (2147483647, 0) (by omega) (by omega) ⟨Or.inl rfl, fun x y hx => by omega⟩
    have b4 : s_Mod_connects_L52 F mnow medg mm F (2147483647 : Int32) (0 : Int32) (0 : Int32) = some (i32 st'.1, i32 st'.2, i32 n) := b4
    obtain ⟨u, v, l1, l2, l3⟩ := hlv
    obtain ⟨y1, y2, _⟩ := G.2.2.1 _ _ l1
    have z := b2 u v y1 y2 l1 l2 l3
    have wb := wl_bd hC hO y1 y2
    rcases b1 with w | ⟨q, w1, w2, w3, w4⟩
    · rw [w] at z
      have z : 2147483647 ≤ wl X Y u v := z
      omega
    · refine ⟨st'.1, st'.2, q, b4, w1, w2, w3, w4, fun a b e sa sb => ?_⟩
      obtain ⟨y1, y2, _⟩ := G.2.2.1 _ _ e
      rw [← w4]
      exact b2 a b y1 y2 e sa sb
  obtain ⟨⟨s, mm, S⟩, ⟨o1, o2⟩, o3⟩ := lp (fun fu i (st : Nat × (Nat → Int32) × (Nat → Prop)) => s_Mod_connects_L35 F mnow medg fu (i32 st.1) (i32 i) st.2.1) n
    (fun i st => TrI n E (wl X Y) i st.1 st.2.2 ∧ MetS n st.2.1 st.2.2) (fun st => (i32 st.1, i32 n, st.2.1))
    (fun fu s _ => by simp only [s_Mod_connects_L35, m_n hM, Option.bind_some]; rw [if_pos (y_le (by omega) (by omega))])
    (fun fu i ⟨s, mm, S⟩ hi ⟨c1, c2⟩ => by
      have c1 : TrI n E (wl X Y) i s S := c1
      have c2 : MetS n mm S := c2
      obtain ⟨b, v, u, d1, d2, d3, d4, d5, d6⟩ := sh mm S c2 (tri_leave T c1 hi)
      obtain ⟨y1, y2, _⟩ := G.2.2.1 _ _ d2
      have wb := wl_bd hC hO y1 y2
      refine ⟨(s + wl X Y u v, fun j => if j = v then 1 else mm j, fun x => S x ∨ x = v), ⟨tri_step hs c1 y1 y2 d3 d4 d2 (by omega) d6, fun j hj => ?_⟩, ?_⟩
      · show (if j = v then (1 : Int32) else mm j) = bI (dB (S j ∨ j = v))
        by_cases z : j = v
        · rw [if_pos z, dB_t (Or.inr z)]; rfl
        · rw [if_neg z, c2 j hj]
          congr 1
          exact dB_cong ⟨fun w => Or.inl w, fun w => Or.elim w (fun w => w) (fun w => (z w).elim)⟩
      · simp only [s_Mod_connects_L35, m_n hM, Option.bind_some]
        rw [if_neg (n_le (by omega) hi), d1]
        simp only [Option.bind_some]
        rw [v1, aset_i mm 1 (show v < 17 by omega) (by omega), i32_s, i32_add, d5]
        rfl)
    (n - 1) 1 F (0, m1, fun x => x = 0) (by omega) (by omega) ⟨tri_0 h0, a1⟩
  have o3 : s_Mod_connects_L35 F mnow medg F (0 : Int32) (1 : Int32) m1 = some (i32 s, i32 n, mm) := o3
  refine ⟨s, mm, ?_, tri_end o1⟩
  unfold s_Mod_connects
  rw [a2]
  simp only [Option.bind_some]
  rw [o3]; rfl
end ASKT
