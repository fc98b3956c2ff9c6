noncomputable def wgt (n : Nat) (P : Nat → Int × Int × Int) (u v w : Nat) : Nat := sumr n (fun p => ind (0 < Dh P u v w p))
noncomputable def cel (n : Nat) (P : Nat → Int × Int × Int) (E : Nat → Nat → Prop) (k : Nat) : Nat :=
  sumr n (fun p => ind (∃ w, Ap n P E (k / 16) (k % 16) w ∧ 0 < Dh P (k / 16) (k % 16) w p))
noncomputable def Phi (n : Nat) (P : Nat → Int × Int × Int) (E : Nat → Nat → Prop) : Nat := sumr 256 (cel n P E)
theorem cel_v {n : Nat} {P : Nat → Int × Int × Int} {E : Nat → Nat → Prop} (G : Ge n P E) {u v w : Nat} (hv : v < 16)
    (h : Ap n P E u v w) : cel n P E (u * 16 + v) = wgt n P u v w := by
  have e1 : (u * 16 + v) / 16 = u := by omega
  have e2 : (u * 16 + v) % 16 = v := by omega
  simp only [cel, wgt, e1, e2]
  apply sumr_ext
  intro p _
  apply ind_iff
  constructor
  · rintro ⟨x, hx, hd⟩
    rw [ap_un G h hx]; exact hd
  · intro hd
    exact ⟨w, h, hd⟩
theorem cel_n {n : Nat} {P : Nat → Int × Int × Int} {E : Nat → Nat → Prop} {u v : Nat} (hv : v < 16)
    (h : ∀ w, ¬ Ap n P E u v w) : cel n P E (u * 16 + v) = 0 := by
  have e1 : (u * 16 + v) / 16 = u := by omega
  have e2 : (u * 16 + v) % 16 = v := by omega
  simp only [cel, e1, e2]
  rw [sumr_ext n _ (fun _ => 0) (fun p _ => ind_f (fun ⟨w, hw, _⟩ => h w hw)), sumr_const]
  omega
theorem wgt_rot (n : Nat) (P : Nat → Int × Int × Int) (u v w : Nat) : wgt n P v w u = wgt n P u v w := by
  simp only [wgt]
  apply sumr_ext
  intro p _
  have := de_rot (Hh P u) (Hh P v) (Hh P w) (Hh P p) (P u) (P v) (P w) (P p)
  simp only [Dh, this]
theorem wgt_lt {n : Nat} {P : Nat → Int × Int × Int} (hn : n ≤ 16) (W : ∀ i, i < n → (P i).2.2 = 1) (B : Bx n P) {a b c d : Nat}
    (ha : a < n) (hb : b < n) (hc : c < n) (hd : d < n) (cd : c ≠ d)
    (h1 : 0 < dt (P a) (P b) (P c)) (h2 : 0 < dt (P b) (P a) (P d)) (h3 : 0 < dt (P a) (P d) (P c)) (h4 : 0 < dt (P d) (P b) (P c))
    (hE : 0 < Dh P a b c d) : wgt n P a d c + wgt n P d b c + 2 ≤ wgt n P a b c + wgt n P b a d := by
  simp only [wgt]
  rw [← sumr_add, ← sumr_add]
  have e : sumr n (fun i => (ind (0 < Dh P a d c i) + ind (0 < Dh P d b c i)) + ((if i = c then 1 else 0) + (if i = d then 1 else 0)))
      = sumr n (fun i => ind (0 < Dh P a d c i) + ind (0 < Dh P d b c i)) + 2 := by
    rw [sumr_add, sumr_add, sumr_add n (fun i => if i = c then 1 else 0), sumr_one n c hc, sumr_one n d hd]
  rw [← e]
  apply sumr_le
  intro p hp
  have z3 : ∀ x y z : Nat, ¬ (0 < Dh P x y z z) := by
    intro x y z h
    simp only [Dh, De] at h
    rw [dt_baa, dt_baa, Int.mul_zero, Int.mul_zero] at h
    omega
  have z2 : ∀ x y z : Nat, ¬ (0 < Dh P x y z y) := by
    intro x y z h
    have e1 := dt_102 (P y) (P z) (P y)
    simp only [Dh, De] at h
    rw [dt_aba (P y) (P z), dt_baa, dt_021 (P x) (P y) (P z)] at h
    grind
  by_cases ec : p = c
  · subst ec
    have k : 0 < Dh P b a d p := by
      have := de_sw (Hh P a) (Hh P b) (Hh P p) (Hh P d) (P a) (P b) (P p) (P d)
      simp only [Dh] at hE ⊢; omega
    rw [ind_f (z3 a d p), ind_f (z3 d b p), ind_t k]
    simp only [if_pos, if_neg cd]; omega
  · by_cases ed : p = d
    · subst ed
      have y2 : ¬ (0 < Dh P p b c p) := by
        intro h
        simp only [Dh, De] at h
        rw [dt_aba, dt_aba, dt_120 (P p) (P b) (P c)] at h
        grind
      rw [ind_f (z2 a p c), ind_f y2, ind_t hE]
      simp only [if_neg ec, if_pos]; omega
    · simp only [if_neg ec, if_neg ed, Nat.add_zero]
      exact cnt2 hn W B ha hb hc hd hp h1 h2 h3 h4 hE
theorem phi_bd {n : Nat} {P : Nat → Int × Int × Int} {E : Nat → Nat → Prop} (hn : n ≤ 16) : Phi n P E ≤ 4096 := by
  have h : ∀ k, k < 256 → cel n P E k ≤ 16 := by
    intro k _
    have h1 := sumr_le n (fun p => ind (∃ w, Ap n P E (k / 16) (k % 16) w ∧ 0 < Dh P (k / 16) (k % 16) w p)) (fun _ => 1) (fun p _ => by
      rcases ind_c (∃ w, Ap n P E (k / 16) (k % 16) w ∧ 0 < Dh P (k / 16) (k % 16) w p) with ⟨_, e⟩ | ⟨_, e⟩ <;> omega)
    rw [sumr_const] at h1
    simp only [cel]; omega
  have := sumr_le 256 (cel n P E) (fun _ => 16) h
  rw [sumr_const] at this
  simp only [Phi]; omega
theorem fl_no {n : Nat} {P : Nat → Int × Int × Int} {E : Nat → Nat → Prop} (G : Ge n P E) {a b c d : Nat}
    (h : Ap n P E a b c) (k : Ap n P E b a d) (q1 : 0 < dt (P a) (P d) (P c)) (q2 : 0 < dt (P d) (P b) (P c)) : ¬ E c d := by
  intro e
  apply G.2.2.2.1 a b c d h.1 e
  have := dt_102 (P a) (P b) (P d)
  have := dt_120 (P a) (P d) (P c)
  have := dt_021 (P d) (P b) (P c)
  exact ⟨h.2.2.2.1, by have := k.2.2.2.1; omega, by omega, by omega⟩
theorem phi_fl {n : Nat} {P : Nat → Int × Int × Int} {E : Nat → Nat → Prop} (hn : n ≤ 16) (B : Bx n P) (G : Ge n P E) {a b c d : Nat}
    (h : Ap n P E a b c) (k : Ap n P E b a d) (q1 : 0 < dt (P a) (P d) (P c)) (q2 : 0 < dt (P d) (P b) (P c)) (hE : 0 < Dh P a b c d) :
    Phi n P (Fl E a b c d) + 6 ≤ Phi n P E := by
  have G' := fl_ge G h k q1 q2
  have A1 := fl_ap G h k q1 q2
  have A2 := fl_ap2 G h k q1 q2
  obtain ⟨ha, hb, hc, ab, bc, ca⟩ := ap_lt G h
  obtain ⟨_, _, hd, _, ad, db⟩ := ap_lt G k
  have cd : c ≠ d := by intro e; rw [e, dt_baa] at q1; omega
  have nE := fl_no G h k q1 q2
  have W := wgt_lt hn G.1 B ha hb hc hd cd h.2.2.2.1 k.2.2.2.1 q1 q2 hE
  have S := sumr_J 256 (cel n P E) (cel n P (Fl E a b c d))
    [a * 16 + b, b * 16 + a, a * 16 + d, d * 16 + c, c * 16 + a, d * 16 + b, b * 16 + c, c * 16 + d]
    (by simp only [List.nodup_cons, List.mem_cons, List.not_mem_nil, List.nodup_nil, or_false, not_false_eq_true, and_true]; omega)
    (by intro j hj; simp only [List.mem_cons, List.not_mem_nil, or_false] at hj; omega)
    (by
      intro i hi hj
      have ne : ¬ Eight a b c d (i / 16) (i % 16) := by
        intro e
        apply hj
        simp only [Eight] at e
        simp only [List.mem_cons, List.not_mem_nil, or_false]
        omega
      simp only [cel]
      apply sumr_ext
      intro p _
      apply ind_iff
      constructor
      · rintro ⟨w, hw, x⟩
        exact ⟨w, (fl_old G h k q1 q2 ne).2 hw, x⟩
      · rintro ⟨w, hw, x⟩
        exact ⟨w, (fl_old G h k q1 q2 ne).1 hw, x⟩)
  have o1 := cel_v G (by omega) h
  have o2 := cel_v G (by omega) k
  have o3 := cel_v G (by omega) (ap_rot k)
  have o4 : cel n P E (d * 16 + c) = 0 := cel_n (by omega) (fun w hw => nE (G.2.2.1 d c hw.1).2.2.2)
  have o5 := cel_v G (by omega) (ap_rot (ap_rot h))
  have o6 := cel_v G (by omega) (ap_rot (ap_rot k))
  have o7 := cel_v G (by omega) (ap_rot h)
  have o8 : cel n P E (c * 16 + d) = 0 := cel_n (by omega) (fun w hw => nE hw.1)
  have n1 : cel n P (Fl E a b c d) (a * 16 + b) = 0 := cel_n (by omega) (fun w hw => by
    rcases hw.1 with ⟨_, n1, _⟩ | z | z
    · exact n1 ⟨rfl, rfl⟩
    · exact ca z.1.symm
    · exact ad z.1)
  have n2 : cel n P (Fl E a b c d) (b * 16 + a) = 0 := cel_n (by omega) (fun w hw => by
    rcases hw.1 with ⟨_, _, n1⟩ | z | z
    · exact n1 ⟨rfl, rfl⟩
    · exact bc z.1
    · exact db z.1.symm)
  have n3 := cel_v G' (by omega) A1
  have n4 := cel_v G' (by omega) (ap_rot A1)
  have n5 := cel_v G' (by omega) (ap_rot (ap_rot A1))
  have n6 := cel_v G' (by omega) A2
  have n7 := cel_v G' (by omega) (ap_rot A2)
  have n8 := cel_v G' (by omega) (ap_rot (ap_rot A2))
  have r1 := wgt_rot n P a b c
  have r2 := wgt_rot n P b c a
  have r3 := wgt_rot n P b a d
  have r4 := wgt_rot n P a d b
  have r5 := wgt_rot n P a d c
  have r6 := wgt_rot n P d c a
  have r7 := wgt_rot n P d b c
  have r8 := wgt_rot n P b c d
  simp only [List.map_cons, List.map_nil, List.sum_cons, List.sum_nil, o1, o2, o3, o4, o5, o6, o7, o8, n1, n2, n3, n4, n5, n6, n7, n8] at S
  simp only [Phi]
  omega
