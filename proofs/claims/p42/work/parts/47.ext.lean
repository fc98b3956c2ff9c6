/-- one edge more -/
def Ad (E : Nat → Nat → Prop) (a b x y : Nat) : Prop := E x y ∨ (x = a ∧ y = b) ∨ (x = b ∧ y = a)
theorem ad_ge {n : Nat} {P : Nat → Int × Int × Int} {E : Nat → Nat → Prop} (G : Ge n P E) {a b : Nat} (ha : a < n) (hb : b < n) (ab : a ≠ b)
    (h1 : ∀ p, p < n → ¬ cov (P a) (P b) (P p)) (h2 : ∀ c d, E c d → ¬ xc (P a) (P b) (P c) (P d)) : Ge n P (Ad E a b) := by
  obtain ⟨gw, gd, ge, gc, gp⟩ := G
  refine ⟨gw, gd, ?_, ?_, ?_⟩
  · rintro i j (h | ⟨rfl, rfl⟩ | ⟨rfl, rfl⟩)
    · obtain ⟨q1, q2, q3, q4⟩ := ge i j h
      exact ⟨q1, q2, q3, Or.inl q4⟩
    · exact ⟨ha, hb, ab, Or.inr (Or.inr ⟨rfl, rfl⟩)⟩
    · exact ⟨hb, ha, Ne.symm ab, Or.inr (Or.inl ⟨rfl, rfl⟩)⟩
  · rintro x y u v (h | ⟨rfl, rfl⟩ | ⟨rfl, rfl⟩) (k | ⟨rfl, rfl⟩ | ⟨rfl, rfl⟩) hx
    · exact gc x y u v h k hx
    · exact h2 y x (ge x y h).2.2.2 (xc_sw hx)
    · exact h2 x y h (xc_rv (xc_sw hx))
    · exact h2 u v k hx
    · have := hx.1; rw [dt_aba] at this; omega
    · have := hx.1; rw [dt_baa] at this; omega
    · exact h2 v u (ge u v k).2.2.2 (xc_rv hx)
    · have := hx.1; rw [dt_baa] at this; omega
    · have := hx.1; rw [dt_aba] at this; omega
  · rintro x y p (h | ⟨rfl, rfl⟩ | ⟨rfl, rfl⟩) hp hx
    · exact gp x y p h hp hx
    · exact h1 p hp hx
    · exact h1 p hp (cov_sw hx)
noncomputable def gaps (n : Nat) (E : Nat → Nat → Prop) : Nat := sumr n (fun a => sumr n (fun b => ind (¬ E a b)))
theorem sumr_lt (N : Nat) (f g : Nat → Nat) (h : ∀ i, i < N → f i ≤ g i) (j : Nat) (hj : j < N) (k : f j < g j) : sumr N f < sumr N g := by
  induction N with
  | zero => omega
  | succ N ih =>
    simp only [sumr]
    have a := sumr_le N f g (fun i hi => h i (by omega))
    have b := h N (by omega)
    by_cases c : j = N
    · subst c; omega
    · have := ih (fun i hi => h i (by omega)) (by omega)
      omega
/-- each set of edges that do not cross lies in one that has no room -/
theorem ge_ext {n : Nat} {P : Nat → Int × Int × Int} : ∀ (g : Nat) (E : Nat → Nat → Prop), gaps n E ≤ g → Ge n P E →
    ∃ F, Ge n P F ∧ Mx n P F ∧ ∀ x y, E x y → F x y := by
  intro g
  induction g with
  | zero =>
    intro E h G
    refine ⟨E, G, ?_, fun x y h => h⟩
    intro a b ha hb _ _ _
    by_cases c : E a b
    · exact c
    · exfalso
      have : 0 < gaps n E := by
        have z : sumr n (fun _ => 0) = 0 := by rw [sumr_const]; omega
        have := sumr_lt n (fun _ => 0) (fun a => sumr n (fun b => ind (¬ E a b))) (fun i _ => Nat.zero_le _) a ha (by
          have := sumr_lt n (fun _ => 0) (fun b => ind (¬ E a b)) (fun i _ => Nat.zero_le _) b hb (by show 0 < ind (¬ E a b); rw [ind_t c]; omega)
          omega)
        simp only [gaps]; omega
      omega
  | succ g ih =>
    intro E h G
    by_cases M : Mx n P E
    · exact ⟨E, G, M, fun x y h => h⟩
    · by_cases q : ∃ a b, a < n ∧ b < n ∧ a ≠ b ∧ (∀ p, p < n → ¬ cov (P a) (P b) (P p)) ∧ (∀ c d, E c d → ¬ xc (P a) (P b) (P c) (P d)) ∧ ¬ E a b
      · obtain ⟨a, b, ha, hb, ab, h1, h2, nE⟩ := q
        have G' := ad_ge G ha hb ab h1 h2
        obtain ⟨F, f1, f2, f3⟩ := ih (Ad E a b) (by
          have : gaps n (Ad E a b) < gaps n E := by
            have le : ∀ x y, ind (¬ Ad E a b x y) ≤ ind (¬ E x y) := by
              intro x y
              rcases ind_c (¬ E x y) with ⟨c, e⟩ | ⟨c, e⟩
              · rw [e]; rcases ind_c (¬ Ad E a b x y) with ⟨_, e2⟩ | ⟨_, e2⟩ <;> omega
              · rw [ind_f (fun k => c (fun z => k (Or.inl z)))]; omega
            apply sumr_lt n _ _ (fun x _ => sumr_le n _ _ (fun y _ => le x y)) a ha
            apply sumr_lt n _ _ (fun y _ => le a y) b hb
            show ind (¬ Ad E a b a b) < ind (¬ E a b)
            rw [ind_f (fun k => k (Or.inr (Or.inl ⟨rfl, rfl⟩))), ind_t nE]; omega
          omega) G'
        exact ⟨F, f1, f2, fun x y e => f3 x y (Or.inl e)⟩
      · exfalso
        apply M
        intro a b ha hb ab h1 h2
        by_cases c : E a b
        · exact c
        · exact (q ⟨a, b, ha, hb, ab, h1, h2, c⟩).elim
theorem edges_bd {n : Nat} {P : Nat → Int × Int × Int} {E : Nat → Nat → Prop} (hn : n ≤ 16) (G : Ge n P E) (B : Bx n P)
    (L : List (Nat × Nat)) (nd : L.Nodup) (hL : ∀ x, x ∈ L → E x.1 x.2) : L.length ≤ 84 := by
  obtain ⟨F, f1, f2, f3⟩ := ge_ext (gaps n E) E (Nat.le_refl _) G
  have g := gs_mx f1 B f2
  by_cases h : ∃ a b c, a < n ∧ b < n ∧ c < n ∧ dt (P a) (P b) (P c) ≠ 0
  · have := dir_bd f1 B g.2.1 h L nd (fun x hx => f3 _ _ (hL x hx))
    omega
  · by_cases z : n = 0
    · cases L with
      | nil => simp
      | cons x L =>
        have := G.2.2.1 _ _ (hL x List.mem_cons_self)
        omega
    · have := lin_bd f1 B g.2.1 (by omega) (fun a b c ha hb hc => by
        by_cases q : dt (P a) (P b) (P c) = 0
        · exact q
        · exact (h ⟨a, b, c, ha, hb, hc, q⟩).elim) L nd (fun x hx => f3 _ _ (hL x hx))
      omega
/-- the same for edges in a row -/
theorem row_bd {n : Nat} {P : Nat → Int × Int × Int} {E : Nat → Nat → Prop} (hn : n ≤ 16) (G : Ge n P E) (B : Bx n P)
    (c : Nat) (f g : Nat → Nat) (h : ∀ k, k < c → E (f k) (g k) ∧ f k < g k) (inj : ∀ k j, k < c → j < c → f k = f j → g k = g j → k = j) : c ≤ 42 := by
  have a := edges_bd hn G B ((List.range c).map (fun k => (f k, g k)) ++ (List.range c).map (fun k => (g k, f k))) (by
    have nd : ∀ (q : Nat → Nat × Nat), (∀ k j, k < c → j < c → q k = q j → k = j) → ((List.range c).map q).Nodup := by
      intro q hq
      unfold List.Nodup
      rw [List.pairwise_map]
      apply List.Pairwise.imp_of_mem (R := fun a b => a ≠ b) _ List.nodup_range
      intro a b ha hb ne e
      exact ne (hq a b (List.mem_range.1 ha) (List.mem_range.1 hb) e)
    rw [List.nodup_append]
    refine ⟨nd _ (fun k j hk hj e => inj k j hk hj (congrArg Prod.fst e) (congrArg Prod.snd e)), nd _ (fun k j hk hj e => inj k j hk hj (congrArg Prod.snd e) (congrArg Prod.fst e)), ?_⟩
    intro x hx y hy e
    obtain ⟨k, hk, e1⟩ := List.mem_map.1 hx
    obtain ⟨j, hj, e2⟩ := List.mem_map.1 hy
    have l1 := (h k (List.mem_range.1 hk)).2
    have l2 := (h j (List.mem_range.1 hj)).2
    have c1 : f k = g j := by have := congrArg Prod.fst (e1.trans (e.trans e2.symm)); exact this
    have c2 : g k = f j := by have := congrArg Prod.snd (e1.trans (e.trans e2.symm)); exact this
    omega)
    (by
      intro x hx
      rcases List.mem_append.1 hx with hx | hx
      · obtain ⟨k, hk, e⟩ := List.mem_map.1 hx
        rw [← e]
        exact (h k (List.mem_range.1 hk)).1
      · obtain ⟨k, hk, e⟩ := List.mem_map.1 hx
        rw [← e]
        exact (G.2.2.1 _ _ (h k (List.mem_range.1 hk)).1).2.2.2)
  rw [List.length_append, List.length_map, List.length_map, List.length_range] at a
  omega
