/-! changes: the plan of both sides, and what was before -/
def PR (P : PlanS) (mn : Nat → Int32) : Prop :=
  ∃ n m X Y L H, CP n m X Y L H P.1 P.2.1 P.2.2.1 P.2.2.2.1 P.2.2.2.2.1 P.2.2.2.2.2 ∧ MP n m X Y L H mn ∧ Ok n m X Y L H
theorem pr_ext {P : PlanS} {mn mn' : Nat → Int32} (h : PR P mn) (e : ∀ j, j < 56 → mn' j = mn j) : PR P mn' := by
  obtain ⟨n, m, X, Y, L, H, h1, h2, h3⟩ := h
  exact ⟨n, m, X, Y, L, H, h1, mp_ext h3 h2 e, h3⟩
theorem pr_copy {pxs pys plo phi pxs' pys' plo' phi' : Nat → Int32} {pn pm : Int32} {mn : Nat → Int32} (h : PR (pxs, pys, plo, phi, pn, pm) mn)
    (e : ∀ j, j < 16 → pxs' j = pxs j ∧ pys' j = pys j) (k : ∀ j, j < 10 → plo' j = plo j ∧ phi' j = phi j) : PR (pxs', pys', plo', phi', pn, pm) mn := by
  obtain ⟨n, m, X, Y, L, H, h1, h2, h3⟩ := h
  exact ⟨n, m, X, Y, L, H, cp_ext h3 h1 e k, h2, h3⟩
/-- what can be undone -/
def HR (hp : Nat → PlanS) (hnx hkp : Int32) (mold : Nat → Int32) (mols : Int32) : Prop :=
  ∃ q k, q < 12 ∧ k ≤ 12 ∧ hnx = i32 q ∧ hkp = i32 k ∧ mols = i32 k ∧ ∀ j, j < k → PR (hp ((q + 12 - k + j) % 12)) (fun i => mold (56 * j + i))
theorem m_rec51 (F : Nat) (hF : 1000 ≤ F) (mnow mold : Nat → Int32) {k : Nat} (hk : k < 12) :
    ∃ mold', s_Mod_records_L51 mnow (i32 k) F (0 : Int32) mold = some (i32 56, mold') ∧ (∀ i, i < 56 → mold' (56 * k + i) = mnow i) ∧ ∀ t, t < 56 * k → mold' t = mold t := by
  have e : ∀ i, (56 : Int32) * i32 k + i32 i = i32 (56 * k + i) := fun i => by rw [show (56 : Int32) = i32 56 from rfl, i32_mul, i32_add]
  obtain ⟨s', h1, h2, h3⟩ := cg_copy (fun fu i s => s_Mod_records_L51 mnow (i32 k) fu (i32 i) s) 56 mnow (56 * k)
    (fun fu s => by simp only [s_Mod_records_L51]; rw [if_pos (show (56 : Int32) ≤ i32 56 from y_le (a := 56) (by omega) (by omega))])
    (fun fu i s hi => by
      simp only [s_Mod_records_L51]
      rw [if_neg (show ¬ ((56 : Int32) ≤ i32 i) from n_le (a := 56) (by omega) hi), aget_i mnow hi (by omega)]
      simp only [Option.bind_some]
      rw [e i, aset_i s _ (show 56 * k + i < 672 by omega) (by omega), i32_s]
      simp only [Option.bind_some])
    F (by omega) mold
  exact ⟨s', h1, h2, fun t ht => h3 t (by omega)⟩
theorem m_rec11 (F : Nat) (hF : 1000 ≤ F) (mold : Nat → Int32) :
    ∃ mold', s_Mod_records_L11 F (0 : Int32) mold = some (i32 616, mold') ∧ ∀ t, t < 616 → mold' t = mold (t + 56) := by
  have e : ∀ i, (56 : Int32) + i32 i = i32 (i + 56) := fun i => by rw [show (56 : Int32) = i32 56 from rfl, i32_add, Nat.add_comm]
  obtain ⟨s', h1, h2, _⟩ := cg_shift (fun fu i s => s_Mod_records_L11 fu (i32 i) s) 0 616 0 56 (by omega) (by omega) mold
    (fun fu s _ => by simp only [s_Mod_records_L11]; rw [if_pos (show (616 : Int32) ≤ i32 616 from y_le (a := 616) (by omega) (by omega))])
    (fun fu i s _ hi _ => by
      simp only [s_Mod_records_L11]
      rw [if_neg (show ¬ ((616 : Int32) ≤ i32 i) from n_le (a := 616) (by omega) hi), e i, aget_i s (show i + 56 < 672 by omega) (by omega)]
      simp only [Option.bind_some]
      rw [aset_i s _ (show i < 672 by omega) (by omega), i32_s]
      simp only [Option.bind_some, Nat.zero_add])
    F (by omega)
  refine ⟨s', h1, fun t ht => ?_⟩
  have := h2 t (by omega) ht
  rwa [Nat.zero_add] at this
theorem m_rec (F : Nat) (hF : 1000 ≤ F) (mnow mold : Nat → Int32) {k : Nat} (hk : k ≤ 12) :
    ∃ mold', s_Mod_records F mnow mold (i32 k) = some (mold', i32 (min (k + 1) 12)) ∧ (k < 12 → (∀ i, i < 56 → mold' (56 * k + i) = mnow i) ∧ ∀ t, t < 56 * k → mold' t = mold t) ∧
      (k = 12 → (∀ i, i < 56 → mold' (616 + i) = mnow i) ∧ ∀ t, t < 616 → mold' t = mold (t + 56)) := by
  unfold s_Mod_records
  by_cases z : k = 12
  · subst z
    obtain ⟨a, a1, a2⟩ := m_rec11 F hF mold
    obtain ⟨b, b1, b2, b3⟩ := m_rec51 F hF mnow a (k := 11) (by omega)
    have b1 : s_Mod_records_L51 mnow (i32 12 - (1 : Int32)) F (0 : Int32) a = some (i32 56, b) := b1
    rw [if_pos (show i32 12 = (12 : Int32) from rfl), a1]
    simp only [Option.bind_some]
    rw [b1]
    refine ⟨b, rfl, fun h => by omega, fun _ => ⟨fun i hi => ?_, fun t ht => ?_⟩⟩
    · have := b2 i hi
      exact this
    · rw [b3 t (by omega)]; exact a2 t ht
  · obtain ⟨b, b1, b2, b3⟩ := m_rec51 F hF mnow mold (k := k) (by omega)
    rw [if_neg (show ¬ (i32 k = (12 : Int32)) from n_eq (b := 12) (by omega) (by omega) z), b1]
    simp only [Option.bind_some]
    rw [i32_s, Nat.min_eq_left (by omega)]
    exact ⟨b, rfl, fun _ => ⟨b2, b3⟩, fun h => (z h).elim⟩
theorem h_rem {pxs pys plo phi : Nat → Int32} {pn pm : Int32} {mnow mold : Nat → Int32} {hp : Nat → PlanS} {hnx hkp mols : Int32} (hP : PR (pxs, pys, plo, phi, pn, pm) mnow) (h : HR hp hnx hkp mold mols) (F : Nat) (hF : 1000 ≤ F) :
    ∃ hp' hnx' hkp' mold' mols', s_Hist_remember F hp hnx hkp pxs pys plo phi pn pm = some (hp', hnx', hkp') ∧ s_Mod_records F mnow mold mols = some (mold', mols') ∧ HR hp' hnx' hkp' mold' mols' := by
  obtain ⟨q, k, hq, hk, rfl, rfl, rfl, hj⟩ := h
  obtain ⟨mold', r1, r2, r3⟩ := m_rec F hF mnow mold hk
  obtain ⟨v1, v2, v3, v4, c1, c2, c3⟩ := c_pcopy F (by omega) (hp q).1 (hp q).2.1 (hp q).2.2.1 (hp q).2.2.2.1 pxs pys plo phi pn pm
  have hP' : PR (v1, v2, v3, v4, pn, pm) mnow := pr_copy hP c2 c3
  have en : (if (12 : Int32) ≤ i32 q + (1 : Int32) then (0 : Int32) else i32 q + (1 : Int32)) = i32 ((q + 1) % 12) := by
    rw [i32_s]
    by_cases z : q = 11
    · subst z; rfl
    · rw [if_neg (show ¬ ((12 : Int32) ≤ i32 (q + 1)) from n_le (a := 12) (by omega) (by omega)), Nat.mod_eq_of_lt (by omega)]
  have ek : imin (i32 k + (1 : Int32)) 12 = i32 (min (k + 1) 12) := by
    rw [i32_s]
    exact imin_i (a := k + 1) (b := 12) (by omega) (by omega)
  refine ⟨va_up hp q (v1, v2, v3, v4, pn, pm), i32 ((q + 1) % 12), i32 (min (k + 1) 12), mold', i32 (min (k + 1) 12), ?_, r1, ?_⟩
  · unfold s_Hist_remember
    rw [if_neg (i32_neg (by omega)), if_neg (show ¬ ((12 : Int32) ≤ i32 q) from n_le (a := 12) (by omega) hq), i32_nc (show q < 2147483648 by omega), c1, en, ek]
    rfl
  · refine ⟨(q + 1) % 12, min (k + 1) 12, Nat.mod_lt _ (by omega), by omega, rfl, rfl, rfl, fun j hj9 => ?_⟩
    by_cases z : k = 12
    · subst z
      obtain ⟨s1, s2⟩ := r3 rfl
      by_cases y : j = 11
      · subst y
        rw [show ((q + 1) % 12 + 12 - min (12 + 1) 12 + 11) % 12 = q by omega, va_up_self]
        exact pr_ext hP' s1
      · rw [show ((q + 1) % 12 + 12 - min (12 + 1) 12 + j) % 12 = (q + 12 - 12 + (j + 1)) % 12 by omega, va_up_ne _ _ (show (q + 12 - 12 + (j + 1)) % 12 ≠ q by omega)]
        refine pr_ext (hj (j + 1) (by omega)) (fun i hi => ?_)
        show mold' (56 * j + i) = mold (56 * (j + 1) + i)
        rw [s2 _ (by omega)]
        congr 1; omega
    · obtain ⟨s1, s2⟩ := r2 (by omega)
      have mk : min (k + 1) 12 = k + 1 := by omega
      rw [mk]
      rw [mk] at hj9
      by_cases y : j = k
      · subst y
        rw [show ((q + 1) % 12 + 12 - (j + 1) + j) % 12 = q by omega, va_up_self]
        exact pr_ext hP' s1
      · rw [show ((q + 1) % 12 + 12 - (k + 1) + j) % 12 = (q + 12 - k + j) % 12 by omega, va_up_ne _ _ (show (q + 12 - k + j) % 12 ≠ q by omega)]
        refine pr_ext (hj j (by omega)) (fun i hi => ?_)
        exact s2 _ (by omega)
/-- the plan before the last change -/
theorem h_back {hp : Nat → PlanS} {hnx hkp mols : Int32} {mold : Nat → Int32} (h : HR hp hnx hkp mold mols) :
    (hkp = 0 ∧ mols = 0) ∨ ∃ k q, k < 12 ∧ q < 12 ∧ hkp = i32 (k + 1) ∧ mols = i32 (k + 1) ∧ HR hp (i32 q) (i32 k) mold (i32 k) ∧ (if hnx ≤ 0 then (11 : Int32) else hnx - (1 : Int32)) = i32 q ∧ PR (hp q) (fun i => mold (56 * k + i)) := by
  obtain ⟨q, k, hq, hk, rfl, rfl, rfl, hj⟩ := h
  rcases k with _ | k
  · exact Or.inl ⟨rfl, rfl⟩
  · refine Or.inr ⟨k, (q + 11) % 12, by omega, Nat.mod_lt _ (by omega), rfl, rfl, ⟨(q + 11) % 12, k, Nat.mod_lt _ (by omega), by omega, rfl, rfl, rfl, fun j hj9 => ?_⟩, ?_, ?_⟩
    · rw [show ((q + 11) % 12 + 12 - k + j) % 12 = (q + 12 - (k + 1) + j) % 12 by omega]
      exact hj j (by omega)
    · by_cases z : q = 0
      · subst z; rfl
      · rw [if_neg (show ¬ (i32 q ≤ (0 : Int32)) from n_le (b := 0) (by omega) (by omega)), show i32 q - (1 : Int32) = i32 (q - 1) from i32_sub (a := q) (b := 1) (by omega), show (q + 11) % 12 = q - 1 by omega]
    · have := hj k (by omega)
      rwa [show (q + 12 - (k + 1) + k) % 12 = (q + 11) % 12 by omega] at this
theorem m_sets (mnow : Nat → Int32) {p : Nat} (hp : p < 17) (x y : Int32) : s_Mod_sets mnow (i32 p) x y = some (fun j => if j = 19 + p then y else if j = 2 + p then x else mnow j) := by
  unfold s_Mod_sets
  have e1 : (2 : Int32) + i32 p = i32 (2 + p) := i32_add 2 p
  have e2 : (19 : Int32) + i32 p = i32 (19 + p) := i32_add 19 p
  rw [e1, e2, aset_i mnow x (show 2 + p < 56 by omega) (by omega)]
  simp only [Option.bind_some]
  rw [aset_i _ y (show 19 + p < 56 by omega) (by omega)]
  rfl
/-- the whole of 56 numbers is copied -/
theorem m_copy56 (g : Nat → Nat → (Nat → Int32) → Option (Int32 × (Nat → Int32))) (src : Nat → Int32)
    (stop : ∀ k s, g (k + 1) 56 s = some (i32 56, s))
    (step : ∀ k i s, i < 56 → g (k + 1) i s = g k (i + 1) (fun j => if j = i then src i else s j)) (F : Nat) (hF : 1000 ≤ F) (s0 : Nat → Int32) :
    ∃ s', g F 0 s0 = some (i32 56, s') ∧ ∀ j, j < 56 → s' j = src j := by
  obtain ⟨s', h1, h2, _⟩ := cg_copy g 56 src 0 stop (fun k i s hi => by rw [Nat.zero_add]; exact step k i s hi) F (by omega) s0
  exact ⟨s', h1, fun j hj => by have := h2 j hj; rwa [Nat.zero_add] at this⟩
theorem m_back (F : Nat) (hF : 1000 ≤ F) (mold mnow : Nat → Int32) {k : Nat} (hk : k < 12) : ∃ mn', s_Mod_undo_L30 mold (i32 k) F (0 : Int32) mnow = some (i32 56, mn') ∧ ∀ j, j < 56 → mn' j = mold (56 * k + j) := by
  have e : ∀ i, (56 : Int32) * i32 k + i32 i = i32 (56 * k + i) := fun i => by rw [show (56 : Int32) = i32 56 from rfl, i32_mul, i32_add]
  exact m_copy56 (fun fu i s => s_Mod_undo_L30 mold (i32 k) fu (i32 i) s) (fun j => mold (56 * k + j))
    (fun fu s => by simp only [s_Mod_undo_L30]; rw [if_pos (show (56 : Int32) ≤ i32 56 from y_le (a := 56) (by omega) (by omega))])
    (fun fu i s hi => by
      simp only [s_Mod_undo_L30]
      rw [if_neg (show ¬ ((56 : Int32) ≤ i32 i) from n_le (a := 56) (by omega) hi), e i, aget_i mold (show 56 * k + i < 672 by omega) (by omega)]
      simp only [Option.bind_some]
      rw [aset_i s _ (show i < 56 by omega) (by omega), i32_s]
      simp only [Option.bind_some]) F hF mnow
theorem m_save (F : Nat) (hF : 1000 ≤ F) (mnow msav : Nat → Int32) : ∃ ms', s_Mod_save_L12 mnow F (0 : Int32) msav = some (i32 56, ms') ∧ ∀ j, j < 56 → ms' j = mnow j :=
  m_copy56 (fun fu i s => s_Mod_save_L12 mnow fu (i32 i) s) mnow
    (fun fu s => by simp only [s_Mod_save_L12]; rw [if_pos (show (56 : Int32) ≤ i32 56 from y_le (a := 56) (by omega) (by omega))])
    (fun fu i s hi => by
      simp only [s_Mod_save_L12]
      rw [if_neg (show ¬ ((56 : Int32) ≤ i32 i) from n_le (a := 56) (by omega) hi), aget_i mnow (show i < 56 by omega) (by omega)]
      simp only [Option.bind_some]
      rw [aset_i s _ (show i < 56 by omega) (by omega), i32_s]
      simp only [Option.bind_some]) F hF msav
theorem m_rest (F : Nat) (hF : 1000 ≤ F) (msav mnow : Nat → Int32) : ∃ ms', s_Mod_restore_L20 msav F (0 : Int32) mnow = some (i32 56, ms') ∧ ∀ j, j < 56 → ms' j = msav j :=
  m_copy56 (fun fu i s => s_Mod_restore_L20 msav fu (i32 i) s) msav
    (fun fu s => by simp only [s_Mod_restore_L20]; rw [if_pos (show (56 : Int32) ≤ i32 56 from y_le (a := 56) (by omega) (by omega))])
    (fun fu i s hi => by
      simp only [s_Mod_restore_L20]
      rw [if_neg (show ¬ ((56 : Int32) ≤ i32 i) from n_le (a := 56) (by omega) hi), aget_i msav (show i < 56 by omega) (by omega)]
      simp only [Option.bind_some]
      rw [aset_i s _ (show i < 56 by omega) (by omega), i32_s]
      simp only [Option.bind_some]) F hF mnow
theorem m_goes (F : Nat) (hF : 1000 ≤ F) (mwor mnow : Nat → Int32) : ∃ ms', s_Mod_goesBack F mnow mwor = some ms' ∧ ∀ j, j < 56 → ms' j = mwor j := by
  obtain ⟨s, h1, h2⟩ := m_copy56 (fun fu i s => s_Mod_goesBack_L2 mwor fu (i32 i) s) mwor
    (fun fu s => by simp only [s_Mod_goesBack_L2]; rw [if_pos (show (56 : Int32) ≤ i32 56 from y_le (a := 56) (by omega) (by omega))])
    (fun fu i s hi => by
      simp only [s_Mod_goesBack_L2]
      rw [if_neg (show ¬ ((56 : Int32) ≤ i32 i) from n_le (a := 56) (by omega) hi), aget_i mwor (show i < 56 by omega) (by omega)]
      simp only [Option.bind_some]
      rw [aset_i s _ (show i < 56 by omega) (by omega), i32_s]
      simp only [Option.bind_some]) F hF mnow
  have h1 : s_Mod_goesBack_L2 mwor F (0 : Int32) mnow = some (i32 56, s) := h1
  refine ⟨s, ?_, h2⟩
  unfold s_Mod_goesBack
  rw [h1]; rfl
/-- what the reference keeps while it tries a change -/
theorem m_keeps (F : Nat) (hF : 1000 ≤ F) (mnow medg mcor mkep mkee mwor : Nat → Int32) {t : Nat} (ht : t ≤ 27) : ∃ k1 k2 k3, s_Mod_keeps F mnow medg mcor (i32 t) mkep mkee mwor = some (k1, k2, k3) ∧
    (∀ j, j < 3 * t → k1 j = mcor j) ∧ (∀ j, j < 289 → k2 j = vp_nar .boolean (medg j)) ∧ ∀ j, j < 56 → k3 j = mnow j := by
  obtain ⟨w, h1, h2⟩ := m_copy56 (fun fu i s => s_Mod_keeps_L2 mnow fu (i32 i) s) mnow
    (fun fu s => by simp only [s_Mod_keeps_L2]; rw [if_pos (show (56 : Int32) ≤ i32 56 from y_le (a := 56) (by omega) (by omega))])
    (fun fu i s hi => by
      simp only [s_Mod_keeps_L2]
      rw [if_neg (show ¬ ((56 : Int32) ≤ i32 i) from n_le (a := 56) (by omega) hi), aget_i mnow (show i < 56 by omega) (by omega)]
      simp only [Option.bind_some]
      rw [aset_i s _ (show i < 56 by omega) (by omega), i32_s]
      simp only [Option.bind_some]) F hF mwor
  have h1 : s_Mod_keeps_L2 mnow F (0 : Int32) mwor = some (i32 56, w) := h1
  have e3 : (3 : Int32) * i32 t = i32 (3 * t) := i32_mul 3 t
  obtain ⟨c, c1, c2, _⟩ := cg_copy (fun fu i s => s_Mod_keeps_L28 mcor (i32 t) fu (i32 i) s) (3 * t) mcor 0
    (fun fu s => by simp only [s_Mod_keeps_L28]; rw [e3, if_pos (y_le (by omega) (by omega))])
    (fun fu i s hi => by
      simp only [s_Mod_keeps_L28]
      rw [e3, if_neg (n_le (by omega) hi), aget_i mcor (show i < 120 by omega) (by omega)]
      simp only [Option.bind_some]
      rw [aset_i s _ (show i < 120 by omega) (by omega), i32_s]
      simp only [Option.bind_some, Nat.zero_add]) F (by omega) mkep
  have c1 : s_Mod_keeps_L28 mcor (i32 t) F (0 : Int32) mkep = some (i32 (3 * t), c) := c1
  obtain ⟨b, b1, b2, _⟩ := cg_copy (fun fu i s => s_Mod_keeps_L58 medg fu (i32 i) s) 289 (fun j => vp_nar .boolean (medg j)) 0
    (fun fu s => by simp only [s_Mod_keeps_L58]; rw [if_pos (show (289 : Int32) ≤ i32 289 from y_le (a := 289) (by omega) (by omega))])
    (fun fu i s hi => by
      simp only [s_Mod_keeps_L58]
      rw [if_neg (show ¬ ((289 : Int32) ≤ i32 i) from n_le (a := 289) (by omega) hi), aget_i medg (show i < 289 by omega) (by omega)]
      simp only [Option.bind_some]
      rw [aset_i s _ (show i < 289 by omega) (by omega), i32_s]
      simp only [Option.bind_some, Nat.zero_add]) F (by omega) mkee
  have b1 : s_Mod_keeps_L58 medg F (0 : Int32) mkee = some (i32 289, b) := b1
  refine ⟨c, b, w, ?_, fun j hj => by have := c2 j hj; rwa [Nat.zero_add] at this, fun j hj => by have := b2 j hj; rwa [Nat.zero_add] at this, h2⟩
  unfold s_Mod_keeps
  rw [h1]; simp only [Option.bind_some]
  rw [c1]; simp only [Option.bind_some]
  rw [b1]; rfl
