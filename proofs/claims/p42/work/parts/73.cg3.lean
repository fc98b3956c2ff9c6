/-! changes: what becomes of the plan, on both sides -/
def pX (X : Nat → Int) (a : Nat) (P : Int) : Nat → Int := fun i => if i = a then P else X i
theorem pX_s (X : Nat → Int) (a : Nat) (P : Int) : pX X a P a = P := if_pos rfl
theorem pX_n (X : Nat → Int) {a i : Nat} (P : Int) (h : i ≠ a) : pX X a P i = X i := if_neg h
theorem m_n0 {s : Nat → Int32} {k : Int32} (h : s 0 = k) : s_Mod_n s = some k := by
  unfold s_Mod_n
  rw [show (0 : Int32) = i32 0 from rfl, aget_i s (by omega) (by omega), h]; rfl
theorem m_m0 {s : Nat → Int32} {k : Int32} (h : s 1 = k) : s_Mod_m s = some k := by
  unfold s_Mod_m
  rw [show (1 : Int32) = i32 1 from rfl, aget_i s (by omega) (by omega), h]; rfl
section CG3
variable {F n m : Nat} {X Y : Nat → Int} {L H : Nat → Nat} {pxs pys plo phi : Nat → Int32} {pn pm : Int32} {mnow : Nat → Int32}
theorem cp_put (hC : CP n m X Y L H pxs pys plo phi pn pm) {n' a : Nat} (hi : ∀ i, i < n' → i ≠ a → i < n) (ha : a < 16) {P Q : Nat} (hP : P < 101) (hQ : Q < 101) :
    CP n' m (pX X a P) (pX Y a Q) L H (s_Row_set 16 pxs (i32 a) (i32 P)) (s_Row_set 16 pys (i32 a) (i32 Q)) plo phi (i32 n') pm := by
  refine ⟨rfl, hC.2.1, fun i hi9 => ?_, hC.2.2.2⟩
  rw [rset pxs _ ha (by omega), rset pys _ ha (by omega)]
  show (if i = a then i32 P else pxs i).toInt = pX X a P i ∧ (if i = a then i32 Q else pys i).toInt = pX Y a Q i
  by_cases z : i = a
  · subst z
    rw [pX_s, pX_s, if_pos rfl, if_pos rfl]
    exact ⟨i32_ti (by omega), i32_ti (by omega)⟩
  · rw [pX_n _ _ z, pX_n _ _ z, if_neg z, if_neg z]
    exact hC.2.2.1 i (hi i hi9 z)
theorem mp_put (hM : MP n m X Y L H mnow) {n' a : Nat} (hi : ∀ i, i < n' → i ≠ a → i < n) (hn' : n' ≤ 16) (ha : a < 16) {P Q : Nat} (hP : P < 101) (hQ : Q < 101) :
    MP n' m (pX X a P) (pX Y a Q) L H (fun j => if j = 0 then i32 n' else if j = 19 + a then i32 Q else if j = 2 + a then i32 P else mnow j) := by
  have g : ∀ j, j ≠ 0 → j ≠ 19 + a → j ≠ 2 + a → (if j = 0 then i32 n' else if j = 19 + a then i32 Q else if j = 2 + a then i32 P else mnow j) = mnow j := by
    intro j h1 h2 h3
    rw [if_neg h1, if_neg h2, if_neg h3]
  refine ⟨rfl, (g 1 (by omega) (by omega) (by omega)).trans hM.2.1, fun i hi9 => ?_, fun c hc => ?_⟩
  · show (if 2 + i = 0 then i32 n' else if 2 + i = 19 + a then i32 Q else if 2 + i = 2 + a then i32 P else mnow (2 + i)).toInt = pX X a P i ∧
      (if 19 + i = 0 then i32 n' else if 19 + i = 19 + a then i32 Q else if 19 + i = 2 + a then i32 P else mnow (19 + i)).toInt = pX Y a Q i
    by_cases z : i = a
    · subst z
      rw [pX_s, pX_s, if_neg (by omega), if_neg (by omega), if_pos rfl, if_neg (by omega), if_pos rfl]
      exact ⟨i32_ti (by omega), i32_ti (by omega)⟩
    · rw [pX_n _ _ z, pX_n _ _ z, g (2 + i) (by omega) (by omega) (by omega), g (19 + i) (by omega) (by omega) (by omega)]
      exact hM.2.2.1 i (hi i hi9 z)
  · exact ⟨(g (36 + 2 * c) (by omega) (by omega) (by omega)).trans (hM.2.2.2 c hc).1, (g (37 + 2 * c) (by omega) (by omega) (by omega)).trans (hM.2.2.2 c hc).2⟩
/-- a point more, on both sides -/
theorem pl_add (hC : CP n m X Y L H pxs pys plo phi pn pm) (hM : MP n m X Y L H mnow) (hO : Ok n m X Y L H) (hn : n < 16) {P Q : Nat} (hP : P < 101) (hQ : Q < 101) (nb : ¬ Bar n m X Y L H P Q) :
    CP (n + 1) m (pX X n P) (pX Y n Q) L H (s_Plan_appendPoint pxs pys pn (i32 P) (i32 Q)).1 (s_Plan_appendPoint pxs pys pn (i32 P) (i32 Q)).2.1 plo phi (s_Plan_appendPoint pxs pys pn (i32 P) (i32 Q)).2.2 pm ∧
      Ok (n + 1) m (pX X n P) (pX Y n Q) L H ∧ ∃ v mn', s_Mod_sets mnow (i32 n) (i32 P) (i32 Q) = some v ∧ aget 56 v (0 : Int32) = some (i32 n) ∧ aset 56 v (0 : Int32) (i32 n + (1 : Int32)) = some mn' ∧
        MP (n + 1) m (pX X n P) (pX Y n Q) L H mn' := by
  have hh : ∀ i, i < n + 1 → i ≠ n → i < n := fun i h1 h2 => by omega
  have e := hC.1
  refine ⟨?_, ?_, _, _, m_sets mnow (show n < 17 by omega) _ _, ?_, ?_, mp_put hM hh (by omega) hn hP hQ⟩
  · have k := cp_put hC hh hn hP hQ
    unfold s_Plan_appendPoint s_Plan_placePoint
    rw [e, i32_s]
    exact k
  · exact ok_put hO (by omega) (by omega) hh (fun c hc => by have := hO.2.2.2.2.1 c hc; omega) (by omega) (fun p hp _ z => nb (Or.inl ⟨p, hp, z⟩)) (fun c hc z => nb (Or.inr ⟨c, hc, z⟩))
      (fun i z => ⟨pX_n _ _ z, pX_n _ _ z⟩) ⟨pX_s _ _ _, pX_s _ _ _⟩
  · rw [show (0 : Int32) = i32 0 from rfl, aget_i _ (by omega) (by omega), if_neg (by omega), if_neg (by omega), hM.1]
  · rw [show (0 : Int32) = i32 0 from rfl, aset_i _ _ (by omega) (by omega), i32_s]
/-- a point moved, on both sides -/
theorem pl_move (hC : CP n m X Y L H pxs pys plo phi pn pm) (hM : MP n m X Y L H mnow) (hO : Ok n m X Y L H) {a : Nat} (ha : a < n) (hl : ∀ c, c < m → L c ≠ a ∧ H c ≠ a) {P Q : Nat} (hP : P < 101) (hQ : Q < 101)
    (h1 : ∀ p, p < n → p ≠ a → ¬ (X p = P ∧ Y p = Q)) (h2 : ¬ ∃ c, c < m ∧ cov (pt X Y (L c)) (pt X Y (H c)) (P, Q, 1)) :
    CP n m (pX X a P) (pX Y a Q) L H (s_Plan_placePoint pxs pys (i32 a) (i32 P) (i32 Q)).1 (s_Plan_placePoint pxs pys (i32 a) (i32 P) (i32 Q)).2 plo phi pn pm ∧
      Ok n m (pX X a P) (pX Y a Q) L H ∧ ∃ mn', s_Mod_sets mnow (i32 a) (i32 P) (i32 Q) = some mn' ∧ MP n m (pX X a P) (pX Y a Q) L H mn' := by
  have hn := hO.1
  have hh : ∀ i, i < n → i ≠ a → i < n := fun i h1 h2 => h1
  have e := hC.1
  have o' : Ok n m (pX X a P) (pX Y a Q) L H := ok_put hO (by omega) (by omega) hh hl (by omega) h1 (fun c hc z => h2 ⟨c, hc, z⟩)
      (fun i z => ⟨pX_n _ _ z, pX_n _ _ z⟩) ⟨pX_s _ _ _, pX_s _ _ _⟩
  refine ⟨?_, o', _, m_sets mnow (show a < 17 by omega) _ _, ?_⟩
  · have k := cp_put hC hh (show a < 16 by omega) hP hQ
    unfold s_Plan_placePoint
    rw [e]
    exact k
  · refine mp_ext o' (mp_put hM hh hn (show a < 16 by omega) hP hQ) (fun j hj => ?_)
    by_cases z : j = 0
    · subst z
      show (if 0 = 19 + a then i32 Q else if 0 = 2 + a then i32 P else mnow 0) = (if 0 = 0 then i32 n else _)
      rw [if_neg (by omega), if_neg (by omega), if_pos rfl]; exact hM.1
    · exact (if_neg z).symm
theorem c_after {p a : Nat} (hp : p < 2147483648) (ha : a < 2147483648) : s_Plan_numberAfter (i32 p) (i32 a) = i32 (dn a p) := by
  unfold s_Plan_numberAfter dn
  by_cases z : a < p
  · rw [if_neg (n_le hp z), if_pos z]; exact i32_sub (a := p) (b := 1) (by omega)
  · rw [if_pos (y_le ha (by omega)), if_neg z]
/-- a point less, in the class -/
theorem c_drop (hC : CP n m X Y L H pxs pys plo phi pn pm) (hO : Ok n m X Y L H) (hF : 300 ≤ F) {a : Nat} (ha : a < n) :
    ∃ v1 v2 v3 v4, s_Plan_dropPoint F pxs pys plo phi pn pm (i32 a) = some (v1, v2, v3, v4, i32 (n - 1)) ∧
      CP (n - 1) m (fun i => X (sh a i)) (fun i => Y (sh a i)) (fun c => dn a (L c)) (fun c => dn a (H c)) v1 v2 v3 v4 (i32 (n - 1)) pm := by
  have hn := hO.1
  have hm := hO.2.1
  obtain ⟨v1, a1, a2, a3⟩ := c_gap F hF 16 (by omega) pxs (show a < 16 by omega)
  obtain ⟨v2, b1, b2, b3⟩ := c_gap F hF 16 (by omega) pys (show a < 16 by omega)
  obtain ⟨⟨v3, v4⟩, ⟨c1, _⟩, c2⟩ := lp (fun k i (s : (Nat → Int32) × (Nat → Int32)) => s_Plan_dropPoint_L28 pm (i32 a) k (i32 i) s.1 s.2) m
    (fun i s => (∀ c, c < i → s.1 c = i32 (dn a (L c)) ∧ s.2 c = i32 (dn a (H c))) ∧ ∀ c, i ≤ c → c < m → s.1 c = i32 (L c) ∧ s.2 c = i32 (H c)) (fun s => (i32 m, s.1, s.2))
    (fun k s _ => by simp only [s_Plan_dropPoint_L28, hC.2.1]; rw [if_pos (y_le (by omega) (by omega))])
    (fun k i s hi ⟨d1, d2⟩ => by
      have q := hO.2.2.2.2.1 i hi
      obtain ⟨e1, e2⟩ := d2 i (Nat.le_refl _) hi
      refine ⟨(fun j => if j = i then i32 (dn a (L i)) else s.1 j, fun j => if j = i then i32 (dn a (H i)) else s.2 j), ⟨fun c hc => ?_, fun c hc hc9 => ?_⟩, ?_⟩
      · show (if c = i then i32 (dn a (L i)) else s.1 c) = _ ∧ (if c = i then i32 (dn a (H i)) else s.2 c) = _
        by_cases z : c = i
        · subst z; rw [if_pos rfl, if_pos rfl]; exact ⟨rfl, rfl⟩
        · rw [if_neg z, if_neg z]; exact d1 c (by omega)
      · show (if c = i then i32 (dn a (L i)) else s.1 c) = _ ∧ (if c = i then i32 (dn a (H i)) else s.2 c) = _
        rw [if_neg (by omega), if_neg (by omega)]; exact d2 c (by omega) hc9
      · simp only [s_Plan_dropPoint_L28, hC.2.1]
        rw [if_neg (n_le (by omega) hi), rget s.1 (show i < 10 by omega) (by omega), rget s.2 (show i < 10 by omega) (by omega), e1, e2, c_after (by omega) (by omega), c_after (by omega) (by omega),
          rset s.1 _ (show i < 10 by omega) (by omega), rset s.2 _ (show i < 10 by omega) (by omega), i32_s])
    m 0 F (plo, phi) (by omega) (by omega) ⟨fun c hc => by omega, fun c _ hc => hC.2.2.2 c hc⟩
  have c2 : s_Plan_dropPoint_L28 pm (i32 a) F (0 : Int32) plo phi = some (i32 m, v3, v4) := c2
  refine ⟨v1, v2, v3, v4, ?_, rfl, hC.2.1, fun i hi => ?_, c1⟩
  · unfold s_Plan_dropPoint
    rw [a1]; simp only [Option.bind_some]
    rw [b1]; simp only [Option.bind_some]
    rw [c2, hC.1, show i32 n - (1 : Int32) = i32 (n - 1) from i32_sub (a := n) (b := 1) (by omega)]; rfl
  · show (v1 i).toInt = X (sh a i) ∧ (v2 i).toInt = Y (sh a i)
    unfold sh
    by_cases z : i < a
    · rw [if_pos z, a2 i z, b2 i z]; exact hC.2.2.1 i (by omega)
    · rw [if_neg z, a3 i (by omega) (by omega), b3 i (by omega) (by omega)]; exact hC.2.2.1 (i + 1) (by omega)
/-- the ends of the constraints in a row -/
def eR (L H : Nat → Nat) (k : Nat) : Nat := if k % 2 = 0 then L (k / 2) else H (k / 2)
/-- a point less, in the reference -/
theorem m_drop (hM : MP n m X Y L H mnow) (hO : Ok n m X Y L H) (hF : 300 ≤ F) {a : Nat} (ha : a < n) :
    ∃ mn', s_Mod_drops F mnow (i32 a) = some mn' ∧ MP (n - 1) m (fun i => X (sh a i)) (fun i => Y (sh a i)) (fun c => dn a (L c)) (fun c => dn a (H c)) mn' := by
  have hn := hO.1
  have hm := hO.2.1
  obtain ⟨s1, ⟨_, b0, b1, b2⟩, b3⟩ := lp (fun k i (s : Nat → Int32) => s_Mod_drops_L2 k (i32 i) s) (n - 1)
    (fun i s => a ≤ i ∧ s 0 = i32 n ∧ (∀ j, a ≤ j → j < i → s (2 + j) = mnow (2 + (j + 1)) ∧ s (19 + j) = mnow (19 + (j + 1))) ∧ ∀ t, (t < 2 + a ∨ (2 + i ≤ t ∧ t < 19 + a) ∨ 19 + i ≤ t) → s t = mnow t) (fun s => (i32 (n - 1), s))
    (fun k s ⟨_, c0, _, _⟩ => by simp only [s_Mod_drops_L2, m_n0 c0, Option.bind_some]; rw [i32_s, if_pos (y_le (by omega) (by omega))])
    (fun k i s hi ⟨c, c0, c1, c2⟩ => by
      refine ⟨fun j => if j = 19 + i then mnow (19 + (i + 1)) else if j = 2 + i then mnow (2 + (i + 1)) else s j, ⟨by omega, ?_, fun j hl hj => ?_, fun t ht => ?_⟩, ?_⟩
      · show (if 0 = 19 + i then mnow (19 + (i + 1)) else if 0 = 2 + i then mnow (2 + (i + 1)) else s 0) = _
        rw [if_neg (by omega), if_neg (by omega)]; exact c0
      · show (if 2 + j = 19 + i then mnow (19 + (i + 1)) else if 2 + j = 2 + i then mnow (2 + (i + 1)) else s (2 + j)) = _ ∧ (if 19 + j = 19 + i then mnow (19 + (i + 1)) else if 19 + j = 2 + i then mnow (2 + (i + 1)) else s (19 + j)) = _
        rw [if_neg (show ¬ (2 + j = 19 + i) by omega), if_neg (show ¬ (19 + j = 2 + i) by omega)]
        by_cases z : j = i
        · rw [if_pos (by omega), if_pos (by omega), z]; exact ⟨rfl, rfl⟩
        · rw [if_neg (by omega), if_neg (by omega)]; exact c1 j hl (by omega)
      · show (if t = 19 + i then mnow (19 + (i + 1)) else if t = 2 + i then mnow (2 + (i + 1)) else s t) = _
        rw [if_neg (by omega), if_neg (by omega)]; exact c2 t (by omega)
      · simp only [s_Mod_drops_L2, m_n0 c0, Option.bind_some]
        rw [i32_s, if_neg (n_le (by omega) (by omega)), m_x s (show i + 1 < 17 by omega), m_y s (show i + 1 < 17 by omega)]
        simp only [Option.bind_some]
        rw [m_sets s (show i < 17 by omega), c2 (2 + (i + 1)) (by omega), c2 (19 + (i + 1)) (by omega)]
        simp only [Option.bind_some])
    (n - 1 - a) a F mnow (by omega) (by omega) ⟨Nat.le_refl _, hM.1, fun j h1 h2 => by omega, fun t _ => rfl⟩
  have b3 : s_Mod_drops_L2 F (i32 a) mnow = some (i32 (n - 1), s1) := b3
  have u1 : (fun j => if j = 0 then i32 (n - 1) else s1 j) 1 = i32 m := (if_neg (by omega)).trans ((b2 1 (by omega)).trans hM.2.1)
  have u2 : ∀ k, k < 2 * m → (fun j => if j = 0 then i32 (n - 1) else s1 j) (36 + k) = i32 (eR L H k) := by
    intro k hk
    refine (if_neg (by omega)).trans ((b2 _ (by omega)).trans ?_)
    obtain ⟨q1, q2⟩ := hM.2.2.2 (k / 2) (by omega)
    unfold eR
    by_cases z : k % 2 = 0
    · rw [if_pos z, ← q1]; congr 1; omega
    · rw [if_neg z, ← q2]; congr 1; omega
  have lt : ∀ k, k < 2 * m → eR L H k < n := by
    intro k hk
    have := hO.2.2.2.2.1 (k / 2) (by omega)
    unfold eR
    split <;> omega
  obtain ⟨s2, ⟨d1, d2⟩, d3⟩ := lp (fun k i (s : Nat → Int32) => s_Mod_drops_L49 (i32 a) k (i32 i) s) (2 * m)
    (fun i s => (∀ k, k < i → s (36 + k) = i32 (dn a (eR L H k))) ∧ ∀ t, (t < 36 ∨ 36 + i ≤ t) → s t = (fun j => if j = 0 then i32 (n - 1) else s1 j) t) (fun s => (i32 (2 * m), s))
    (fun k s ⟨_, c2⟩ => by
      have c0 : s 1 = i32 m := (c2 1 (by omega)).trans u1
      simp only [s_Mod_drops_L49, m_m0 c0, Option.bind_some]
      rw [show (2 : Int32) * i32 m = i32 (2 * m) from i32_mul 2 m, if_pos (y_le (by omega) (by omega))])
    (fun k i s hi ⟨c1, c2⟩ => by
      have c0 : s 1 = i32 m := (c2 1 (by omega)).trans u1
      have cv : s (36 + i) = i32 (eR L H i) := (c2 _ (by omega)).trans (u2 i hi)
      have l := lt i hi
      refine ⟨fun j => if j = 36 + i then i32 (dn a (eR L H i)) else s j, ⟨fun j hj => ?_, fun t ht => ?_⟩, ?_⟩
      · show (if 36 + j = 36 + i then i32 (dn a (eR L H i)) else s (36 + j)) = _
        by_cases z : j = i
        · rw [z, if_pos rfl]
        · rw [if_neg (by omega)]; exact c1 j (by omega)
      · show (if t = 36 + i then i32 (dn a (eR L H i)) else s t) = _
        rw [if_neg (by omega)]; exact c2 t (by omega)
      · simp only [s_Mod_drops_L49, m_m0 c0, Option.bind_some]
        rw [show (2 : Int32) * i32 m = i32 (2 * m) from i32_mul 2 m, if_neg (n_le (by omega) hi), show (36 : Int32) + i32 i = i32 (36 + i) from i32_add 36 i, aget_i s (show 36 + i < 56 by omega) (by omega), cv]
        simp only [Option.bind_some]
        by_cases z : a < eR L H i
        · rw [if_neg (n_le (by omega) z), show i32 (eR L H i) - (1 : Int32) = i32 (eR L H i - 1) from i32_sub (b := 1) (by omega), aset_i s _ (show 36 + i < 56 by omega) (by omega), i32_s]
          simp only [Option.bind_some]
          unfold dn
          rw [if_pos z]
        · rw [if_pos (y_le (by omega) (by omega)), i32_s]
          unfold dn
          rw [if_neg z]
          congr 1
          funext j
          by_cases y : j = 36 + i
          · rw [if_pos y, y, cv]
          · rw [if_neg y])
    (2 * m) 0 F (fun j => if j = 0 then i32 (n - 1) else s1 j) (by omega) (by omega) ⟨fun j hj => by omega, fun t _ => rfl⟩
  have d3 : s_Mod_drops_L49 (i32 a) F (0 : Int32) (fun j => if j = 0 then i32 (n - 1) else s1 j) = some (i32 (2 * m), s2) := d3
  refine ⟨s2, ?_, ?_, ?_, fun i hi => ?_, fun c hc => ?_⟩
  · unfold s_Mod_drops
    rw [b3]; simp only [Option.bind_some]
    rw [show (0 : Int32) = i32 0 from rfl, aget_i s1 (by omega) (by omega), b0]
    simp only [Option.bind_some]
    rw [show i32 n - (1 : Int32) = i32 (n - 1) from i32_sub (a := n) (b := 1) (by omega), aset_i s1 _ (by omega) (by omega)]
    simp only [Option.bind_some]
    rw [show (i32 0 : Int32) = (0 : Int32) from rfl, d3]; rfl
  · rw [d2 0 (by omega)]; exact if_pos rfl
  · rw [d2 1 (by omega)]; exact u1
  · rw [d2 _ (by omega), d2 _ (by omega)]
    show (if 2 + i = 0 then i32 (n - 1) else s1 (2 + i)).toInt = X (sh a i) ∧ (if 19 + i = 0 then i32 (n - 1) else s1 (19 + i)).toInt = Y (sh a i)
    rw [if_neg (by omega), if_neg (by omega)]
    unfold sh
    by_cases z : i < a
    · rw [if_pos z, b2 _ (by omega), b2 _ (by omega)]; exact hM.2.2.1 i (by omega)
    · rw [if_neg z, (b1 i (by omega) (by omega)).1, (b1 i (by omega) (by omega)).2]; exact hM.2.2.1 (i + 1) (by omega)
  · have e1 := d1 (2 * c) (by omega)
    have e2 := d1 (2 * c + 1) (by omega)
    unfold eR at e1 e2
    rw [if_pos (by omega), show 2 * c / 2 = c by omega] at e1
    rw [if_neg (by omega), show (2 * c + 1) / 2 = c by omega, show 36 + (2 * c + 1) = 37 + 2 * c by omega] at e2
    exact ⟨e1, e2⟩
/-- one constraint more, on both sides -/
theorem pl_con (hC : CP n m X Y L H pxs pys plo phi pn pm) (hM : MP n m X Y L H mnow) (hO : Ok n m X Y L H) (hm : m < 10) {a b : Nat} (ha : a < n) (hb : b < n) (hab : a ≠ b) (hs : Seg n m X Y L H a b) :
    ∃ L' H', CP n (m + 1) X Y L' H' pxs pys (s_Plan_appendConstraint plo phi pm (i32 a) (i32 b)).1 (s_Plan_appendConstraint plo phi pm (i32 a) (i32 b)).2.1 pn (s_Plan_appendConstraint plo phi pm (i32 a) (i32 b)).2.2 ∧
      Ok n (m + 1) X Y L' H' ∧ ∃ v1 v2 mn', aset 56 mnow ((36 : Int32) + ((2 : Int32) * i32 m)) (imin (i32 a) (i32 b)) = some v1 ∧ aset 56 v1 (((36 : Int32) + ((2 : Int32) * i32 m)) + (1 : Int32)) (imax (i32 a) (i32 b)) = some v2 ∧
        aget 56 v2 (1 : Int32) = some (i32 m) ∧ aset 56 v2 (1 : Int32) (i32 m + (1 : Int32)) = some mn' ∧ MP n (m + 1) X Y L' H' mn' := by
  have hn := hO.1
  have e1 := imin_i (a := a) (b := b) (by omega) (by omega)
  have e2 := imax_i (a := a) (b := b) (by omega) (by omega)
  have e3 : (36 : Int32) + ((2 : Int32) * i32 m) = i32 (36 + 2 * m) := by rw [show (2 : Int32) * i32 m = i32 (2 * m) from i32_mul 2 m]; exact i32_add 36 (2 * m)
  have w : ∀ i, (pt X Y i).2.2 = 1 := fun i => rfl
  refine ⟨fun c => if c = m then min a b else L c, fun c => if c = m then max a b else H c, ?_, ?_, _, _, _, by rw [e3, e1]; exact aset_i mnow _ (show 36 + 2 * m < 56 by omega) (by omega),
    by rw [e3, e2, i32_s]; exact aset_i _ _ (show 36 + 2 * m + 1 < 56 by omega) (by omega), ?_, by rw [show (1 : Int32) = i32 1 from rfl]; exact aset_i _ _ (by omega) (by omega), ?_, ?_, fun i hi => ?_, fun c hc => ?_⟩
  · unfold s_Plan_appendConstraint
    rw [e1, e2, hC.2.1]
    refine ⟨hC.1, i32_s m, hC.2.2.1, fun c hc => ?_⟩
    show s_Row_set 10 plo (i32 m) (i32 (min a b)) c = i32 (if c = m then min a b else L c) ∧ s_Row_set 10 phi (i32 m) (i32 (max a b)) c = i32 (if c = m then max a b else H c)
    rw [rset plo _ hm (by omega), rset phi _ hm (by omega)]
    by_cases z : c = m
    · simp only [if_pos z]; exact ⟨trivial, trivial⟩
    · simp only [if_neg z]; exact hC.2.2.2 c (by omega)
  · obtain ⟨s1, s2, s3⟩ := hs
    by_cases l : a < b
    · have g1 : min a b = a := by omega
      have g2 : max a b = b := by omega
      rw [g1, g2] at s1 ⊢
      exact ok_con hO hm l hb (fun c hc z => s1 ⟨c, hc, z⟩) (fun p hp z => s2 ⟨p, hp, z⟩) (fun c hc z => s3 ⟨c, hc, z⟩) (fun c hc => ⟨if_neg (by omega), if_neg (by omega)⟩) ⟨if_pos rfl, if_pos rfl⟩
    · have g1 : min a b = b := by omega
      have g2 : max a b = a := by omega
      rw [g1, g2] at s1 ⊢
      refine ok_con hO hm (show b < a by omega) ha (fun c hc z => s1 ⟨c, hc, z⟩) (fun p hp z => s2 ⟨p, hp, ?_⟩) (fun c hc z => s3 ⟨c, hc, pc_fl (w _) (w _) (w _) (w _) z⟩) (fun c hc => ⟨if_neg (by omega), if_neg (by omega)⟩) ⟨if_pos rfl, if_pos rfl⟩
      refine ⟨?_, ?_⟩
      · rw [dt_102]; have := z.1; omega
      · have := z.2
        unfold dotp at this ⊢
        rw [Int.mul_comm ((pt X Y a).1 - _), Int.mul_comm ((pt X Y a).2.1 - _)]; exact this
  · rw [show (1 : Int32) = i32 1 from rfl, aget_i _ (by omega) (by omega), if_neg (by omega), if_neg (by omega), hM.2.1]
  · show (if 0 = 1 then _ else if 0 = 36 + 2 * m + 1 then _ else if 0 = 36 + 2 * m then _ else mnow 0) = _
    rw [if_neg (by omega), if_neg (by omega), if_neg (by omega)]; exact hM.1
  · exact (if_pos rfl).trans (i32_s m)
  · show (if 2 + i = 1 then _ else if 2 + i = 36 + 2 * m + 1 then _ else if 2 + i = 36 + 2 * m then _ else mnow (2 + i)).toInt = _ ∧ (if 19 + i = 1 then _ else if 19 + i = 36 + 2 * m + 1 then _ else if 19 + i = 36 + 2 * m then _ else mnow (19 + i)).toInt = _
    rw [if_neg (by omega), if_neg (by omega), if_neg (by omega), if_neg (by omega), if_neg (by omega), if_neg (by omega)]; exact hM.2.2.1 i hi
  · show (if 36 + 2 * c = 1 then _ else if 36 + 2 * c = 36 + 2 * m + 1 then _ else if 36 + 2 * c = 36 + 2 * m then i32 (min a b) else mnow (36 + 2 * c)) = i32 (if c = m then min a b else L c) ∧
      (if 37 + 2 * c = 1 then _ else if 37 + 2 * c = 36 + 2 * m + 1 then i32 (max a b) else if 37 + 2 * c = 36 + 2 * m then _ else mnow (37 + 2 * c)) = i32 (if c = m then max a b else H c)
    by_cases z : c = m
    · rw [if_pos z, if_pos z, if_neg (by omega), if_neg (by omega), if_pos (by omega), if_neg (by omega), if_pos (by omega)]; exact ⟨rfl, rfl⟩
    · rw [if_neg z, if_neg z, if_neg (by omega), if_neg (by omega), if_neg (by omega), if_neg (by omega), if_neg (by omega), if_neg (by omega)]; exact hM.2.2.2 c (by omega)
/-- one constraint less, on both sides -/
theorem c_untie (hC : CP n m X Y L H pxs pys plo phi pn pm) (hO : Ok n m X Y L H) (hF : 300 ≤ F) {a : Nat} (ha : a < m) :
    ∃ v1 v2, s_Plan_dropConstraint F plo phi pm (i32 a) = some (v1, v2, i32 (m - 1)) ∧ CP n (m - 1) X Y (fun c => L (sh a c)) (fun c => H (sh a c)) pxs pys v1 v2 pn (i32 (m - 1)) := by
  have hm := hO.2.1
  obtain ⟨v1, a1, a2, a3⟩ := c_gap F hF 10 (by omega) plo (show a < 10 by omega)
  obtain ⟨v2, b1, b2, b3⟩ := c_gap F hF 10 (by omega) phi (show a < 10 by omega)
  refine ⟨v1, v2, ?_, hC.1, rfl, hC.2.2.1, fun c hc => ?_⟩
  · unfold s_Plan_dropConstraint
    rw [a1]; simp only [Option.bind_some]
    rw [b1]; simp only [Option.bind_some]
    rw [hC.2.1, show i32 m - (1 : Int32) = i32 (m - 1) from i32_sub (a := m) (b := 1) (by omega)]
  · show v1 c = i32 (L (sh a c)) ∧ v2 c = i32 (H (sh a c))
    unfold sh
    by_cases z : c < a
    · rw [if_pos z, a2 c z, b2 c z]; exact hC.2.2.2 c (by omega)
    · rw [if_neg z, a3 c (by omega) (by omega), b3 c (by omega) (by omega)]; exact hC.2.2.2 (c + 1) (by omega)
theorem m_untie (hM : MP n m X Y L H mnow) (hO : Ok n m X Y L H) (hF : 300 ≤ F) {a : Nat} (ha : a < m) :
    ∃ mn', s_Mod_unties F mnow (i32 a) = some mn' ∧ MP n (m - 1) X Y (fun c => L (sh a c)) (fun c => H (sh a c)) mn' := by
  have hm := hO.2.1
  have hn := hO.1
  obtain ⟨s1, b1, b2, b3⟩ := cg_shift (fun k i s => s_Mod_unties_L4 k (i32 i) s) (2 * a) (2 * m - 2) 36 2 (by omega) (by omega) mnow
    (fun k s h => by
      have c0 : s 1 = i32 m := (h 1 (by omega)).trans hM.2.1
      simp only [s_Mod_unties_L4, m_m0 c0, Option.bind_some]
      rw [show (2 : Int32) * i32 m = i32 (2 * m) from i32_mul 2 m, show i32 (2 * m - 2) + (2 : Int32) = i32 (2 * m - 2 + 2) from i32_add _ 2, if_pos (y_le (by omega) (by omega))])
    (fun k i s hl hi h => by
      have c0 : s 1 = i32 m := (h 1 (by omega)).trans hM.2.1
      simp only [s_Mod_unties_L4, m_m0 c0, Option.bind_some]
      rw [show (2 : Int32) * i32 m = i32 (2 * m) from i32_mul 2 m, show i32 i + (2 : Int32) = i32 (i + 2) from i32_add _ 2, if_neg (n_le (by omega) (by omega)), show (36 : Int32) + i32 i = i32 (36 + i) from i32_add 36 i,
        show i32 (36 + i) + (2 : Int32) = i32 (36 + i + 2) from i32_add _ 2, aget_i s (show 36 + i + 2 < 56 by omega) (by omega)]
      simp only [Option.bind_some]
      rw [aset_i s _ (show 36 + i < 56 by omega) (by omega), i32_s]
      simp only [Option.bind_some])
    F (by omega)
  have b1 : s_Mod_unties_L4 F (i32 (2 * a)) mnow = some (i32 (2 * m - 2), s1) := b1
  have s0 : s1 1 = i32 m := (b3 1 (by omega)).trans hM.2.1
  refine ⟨fun j => if j = 1 then i32 (m - 1) else s1 j, ?_, ?_, rfl, fun i hi => ?_, fun c hc => ?_⟩
  · unfold s_Mod_unties
    rw [show (2 : Int32) * i32 a = i32 (2 * a) from i32_mul 2 a, b1]
    simp only [Option.bind_some]
    rw [show (1 : Int32) = i32 1 from rfl, aget_i s1 (by omega) (by omega), s0]
    simp only [Option.bind_some]
    rw [show i32 m - i32 1 = i32 (m - 1) from i32_sub (a := m) (b := 1) (by omega), aset_i s1 _ (by omega) (by omega)]
    simp only [Option.bind_some]
  · exact (if_neg (by omega)).trans ((b3 0 (by omega)).trans hM.1)
  · show (if 2 + i = 1 then i32 (m - 1) else s1 (2 + i)).toInt = X i ∧ (if 19 + i = 1 then i32 (m - 1) else s1 (19 + i)).toInt = Y i
    rw [if_neg (by omega), if_neg (by omega), b3 _ (by omega), b3 _ (by omega)]; exact hM.2.2.1 i hi
  · show (if 36 + 2 * c = 1 then i32 (m - 1) else s1 (36 + 2 * c)) = i32 (L (sh a c)) ∧ (if 37 + 2 * c = 1 then i32 (m - 1) else s1 (37 + 2 * c)) = i32 (H (sh a c))
    rw [if_neg (by omega), if_neg (by omega)]
    unfold sh
    by_cases z : c < a
    · rw [if_pos z, b3 _ (by omega), b3 _ (by omega)]; exact hM.2.2.2 c (by omega)
    · have e1 := b2 (2 * c) (by omega) (by omega)
      have e2 := b2 (2 * c + 1) (by omega) (by omega)
      rw [show 36 + 2 * c + 2 = 36 + 2 * (c + 1) by omega] at e1
      rw [show 36 + (2 * c + 1) = 37 + 2 * c by omega, show 37 + 2 * c + 2 = 37 + 2 * (c + 1) by omega] at e2
      rw [if_neg z, e1, e2]; exact hM.2.2.2 (c + 1) (by omega)
end CG3
