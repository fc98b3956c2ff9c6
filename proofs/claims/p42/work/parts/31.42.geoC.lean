/-- T keeps what edges no longer than w reach -/
def Clo (E : Nat → Nat → Prop) (wt : Nat → Nat → Nat) (w : Nat) (T : Nat → Prop) : Prop :=
  ∀ u v, E u v → wt u v ≤ w → T u → T v
def Cn (E : Nat → Nat → Prop) (wt : Nat → Nat → Nat) (w x y : Nat) : Prop := ∀ T, Clo E wt w T → T x → T y
def Rep (n : Nat) (E : Nat → Nat → Prop) (wt : Nat → Nat → Nat) (w y : Nat) : Prop := ∀ z, z < n → Cn E wt w y z → y ≤ z
noncomputable def Nw (n : Nat) (E : Nat → Nat → Prop) (wt : Nat → Nat → Nat) (w : Nat) (S : Nat → Prop) : Nat :=
  sumr n (fun y => ind (Rep n E wt w y ∧ ∃ x, x < n ∧ S x ∧ Cn E wt w x y))
noncomputable def Pot (n : Nat) (E : Nat → Nat → Prop) (wt : Nat → Nat → Nat) (W : Nat) (S : Nat → Prop) : Nat :=
  sumr W (fun w => Nw n E wt w S)
theorem cn_refl (E : Nat → Nat → Prop) (wt : Nat → Nat → Nat) (w x : Nat) : Cn E wt w x x := fun _ _ h => h
theorem cn_tr {E : Nat → Nat → Prop} {wt : Nat → Nat → Nat} {w x y z : Nat} (h : Cn E wt w x y) (k : Cn E wt w y z) : Cn E wt w x z :=
  fun T c t => k T c (h T c t)
theorem cn_sy {E : Nat → Nat → Prop} {wt : Nat → Nat → Nat} (hs : ∀ u v, E u v → E v u ∧ wt v u = wt u v) {w x y : Nat}
    (h : Cn E wt w x y) : Cn E wt w y x := by
  intro T c ty
  by_cases tx : T x
  · exact tx
  · exfalso
    exact h (fun z => ¬ T z) (fun u v e l nu tv => nu (c v u (hs u v e).1 (by rw [(hs u v e).2]; exact l) tv)) tx ty
theorem cn_e {E : Nat → Nat → Prop} {wt : Nat → Nat → Nat} {w u v : Nat} (e : E u v) (l : wt u v ≤ w) : Cn E wt w u v :=
  fun _ c t => c u v e l t
theorem nw_same {n : Nat} {E : Nat → Nat → Prop} {wt : Nat → Nat → Nat} {w : Nat} {S : Nat → Prop}
    {u v : Nat} (hu : u < n) (su : S u) (e : E u v) (l : wt u v ≤ w) :
    Nw n E wt w (fun x => S x ∨ x = v) = Nw n E wt w S := by
  simp only [Nw]
  apply sumr_ext
  intro y _
  apply ind_iff
  constructor
  · rintro ⟨h1, x, h2, h3, h4⟩
    refine ⟨h1, ?_⟩
    rcases h3 with h3 | h3
    · exact ⟨x, h2, h3, h4⟩
    · subst h3
      exact ⟨u, hu, su, cn_tr (cn_e e l) h4⟩
  · rintro ⟨h1, x, h2, h3, h4⟩
    exact ⟨h1, x, h2, Or.inl h3, h4⟩
theorem nw_more {n : Nat} {E : Nat → Nat → Prop} {wt : Nat → Nat → Nat} (hs : ∀ u v, E u v → E v u ∧ wt v u = wt u v) {w : Nat} {S : Nat → Prop}
    {v : Nat} (hv : v < n) (sv : ¬ S v) (c : Clo E wt w S) :
    Nw n E wt w (fun x => S x ∨ x = v) = Nw n E wt w S + 1 := by
  obtain ⟨y0, ⟨hy0, cy0⟩, m0⟩ := min_f n (fun z => z < n ∧ Cn E wt w v z) (fun z => (z : Int)) (fun z h => h.1) ⟨v, hv, cn_refl E wt w v⟩
  have rep0 : Rep n E wt w y0 := by
    intro z hz cz
    have := m0 z ⟨hz, cn_tr cy0 cz⟩
    omega
  have out : ¬ (Rep n E wt w y0 ∧ ∃ x, x < n ∧ S x ∧ Cn E wt w x y0) := by
    rintro ⟨_, x, _, sx, cx⟩
    exact sv (cn_tr cx (cn_sy hs cy0) S c sx)
  have inn : Rep n E wt w y0 ∧ ∃ x, x < n ∧ (S x ∨ x = v) ∧ Cn E wt w x y0 := ⟨rep0, v, hv, Or.inr rfl, cy0⟩
  have s := sumr_J n (fun y => ind (Rep n E wt w y ∧ ∃ x, x < n ∧ S x ∧ Cn E wt w x y))
    (fun y => ind (Rep n E wt w y ∧ ∃ x, x < n ∧ (S x ∨ x = v) ∧ Cn E wt w x y)) [y0] (by simp) (by
      intro j hj
      rw [List.mem_singleton] at hj
      omega)
    (by
      intro y hy hj
      rw [List.mem_singleton] at hj
      apply ind_iff
      constructor
      · rintro ⟨h1, x, h2, h3, h4⟩
        exact ⟨h1, x, h2, Or.inl h3, h4⟩
      · rintro ⟨h1, x, h2, h3, h4⟩
        refine ⟨h1, ?_⟩
        rcases h3 with h3 | h3
        · exact ⟨x, h2, h3, h4⟩
        · subst h3
          exfalso
          apply hj
          have a := h1 y0 hy0 (cn_tr (cn_sy hs h4) cy0)
          have b := m0 y ⟨hy, h4⟩
          omega)
  simp only [List.map_cons, List.map_nil, List.sum_cons, List.sum_nil, ind_f out, ind_t inn] at s
  simp only [Nw]
  omega
theorem sumr_low (W k : Nat) (h : k ≤ W) : sumr W (fun w => if w < k then 1 else 0) = k := by
  induction W with
  | zero => simp [sumr]; omega
  | succ W ih =>
    simp only [sumr]
    by_cases e : k ≤ W
    · rw [ih e, if_neg (by omega), Nat.add_zero]
    · have : k = W + 1 := by omega
      subst this
      rw [sumr_ext W _ (fun _ => 1) (fun i hi => if_pos (by omega)), sumr_const, if_pos (by omega)]
      omega
/-- a shortest leaving edge adds its length -/
theorem pot_step {n W : Nat} {E : Nat → Nat → Prop} {wt : Nat → Nat → Nat} (hs : ∀ u v, E u v → E v u ∧ wt v u = wt u v) {S : Nat → Prop}
    {u v : Nat} (hu : u < n) (hv : v < n) (su : S u) (sv : ¬ S v) (e : E u v) (hw : wt u v ≤ W)
    (m : ∀ a b, E a b → S a → ¬ S b → wt u v ≤ wt a b) :
    Pot n E wt W (fun x => S x ∨ x = v) = Pot n E wt W S + wt u v := by
  have h : ∀ w, Nw n E wt w (fun x => S x ∨ x = v) = Nw n E wt w S + (if w < wt u v then 1 else 0) := by
    intro w
    by_cases l : w < wt u v
    · rw [if_pos l]
      exact nw_more hs hv sv (by
        intro a b eab lab sa
        by_cases sb : S b
        · exact sb
        · have := m a b eab sa sb
          omega)
    · rw [if_neg l]
      exact nw_same hu su e (by omega)
  simp only [Pot]
  rw [sumr_ext W _ _ (fun w _ => h w), sumr_add, sumr_low W _ hw]
theorem pot_ext {n W : Nat} {E : Nat → Nat → Prop} {wt : Nat → Nat → Nat} {S T : Nat → Prop} (h : ∀ x, x < n → (S x ↔ T x)) :
    Pot n E wt W S = Pot n E wt W T := by
  simp only [Pot]
  apply sumr_ext
  intro w _
  simp only [Nw]
  apply sumr_ext
  intro y _
  apply ind_iff
  constructor
  · rintro ⟨h1, x, h2, h3, h4⟩
    exact ⟨h1, x, h2, (h x h2).1 h3, h4⟩
  · rintro ⟨h1, x, h2, h3, h4⟩
    exact ⟨h1, x, h2, (h x h2).2 h3, h4⟩
