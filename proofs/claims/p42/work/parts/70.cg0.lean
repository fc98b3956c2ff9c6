/-! changes: rows that are copied and closed up -/
theorem cg_copy (g : Nat → Nat → (Nat → Int32) → Option (Int32 × (Nat → Int32))) (N : Nat) (src : Nat → Int32) (off : Nat)
    (stop : ∀ k s, g (k + 1) N s = some (i32 N, s))
    (step : ∀ k i s, i < N → g (k + 1) i s = g k (i + 1) (fun j => if j = off + i then src i else s j))
    (F : Nat) (hF : N < F) (s0 : Nat → Int32) :
    ∃ s', g F 0 s0 = some (i32 N, s') ∧ (∀ j, j < N → s' (off + j) = src j) ∧ (∀ j, (j < off ∨ off + N ≤ j) → s' j = s0 j) := by
  obtain ⟨s', ⟨h1, h2⟩, h3⟩ := lp g N (fun i s => (∀ j, j < i → s (off + j) = src j) ∧ (∀ j, (j < off ∨ off + i ≤ j) → s j = s0 j)) (fun s => (i32 N, s))
    (fun k s _ => stop k s)
    (fun k i s hi ⟨a1, a2⟩ => by
      refine ⟨fun j => if j = off + i then src i else s j, ⟨fun j hj => ?_, fun j hj => ?_⟩, step k i s hi⟩
      · show (if off + j = off + i then src i else s (off + j)) = src j
        by_cases z : j = i
        · rw [z, if_pos rfl]
        · rw [if_neg (by omega)]; exact a1 j (by omega)
      · show (if j = off + i then src i else s j) = s0 j
        rw [if_neg (by omega)]; exact a2 j (by omega))
    N 0 F s0 (by omega) (by omega) ⟨fun j hj => by omega, fun j _ => rfl⟩
  exact ⟨s', h3, h1, h2⟩
theorem cg_shift (g : Nat → Nat → (Nat → Int32) → Option (Int32 × (Nat → Int32))) (lo N off d : Nat) (hd : 0 < d) (hlo : lo ≤ N) (s0 : Nat → Int32)
    (stop : ∀ k s, (∀ j, (j < off + lo ∨ off + N ≤ j) → s j = s0 j) → g (k + 1) N s = some (i32 N, s))
    (step : ∀ k i s, lo ≤ i → i < N → (∀ j, (j < off + lo ∨ off + N ≤ j) → s j = s0 j) → g (k + 1) i s = g k (i + 1) (fun j => if j = off + i then s (off + i + d) else s j))
    (F : Nat) (hF : N < F) :
    ∃ s', g F lo s0 = some (i32 N, s') ∧ (∀ j, lo ≤ j → j < N → s' (off + j) = s0 (off + j + d)) ∧ (∀ j, (j < off + lo ∨ off + N ≤ j) → s' j = s0 j) := by
  obtain ⟨s', ⟨_, h1, h2⟩, h3⟩ := lp g N (fun i s => lo ≤ i ∧ (∀ j, lo ≤ j → j < i → s (off + j) = s0 (off + j + d)) ∧ (∀ j, (j < off + lo ∨ off + i ≤ j) → s j = s0 j)) (fun s => (i32 N, s))
    (fun k s h => stop k s h.2.2)
    (fun k i s hi ⟨a0, a1, a2⟩ => by
      refine ⟨fun j => if j = off + i then s (off + i + d) else s j, ⟨by omega, fun j hl hj => ?_, fun j hj => ?_⟩, step k i s a0 hi (fun j hj => a2 j (by omega))⟩
      · show (if off + j = off + i then s (off + i + d) else s (off + j)) = s0 (off + j + d)
        by_cases z : j = i
        · rw [z, if_pos rfl]; exact a2 _ (by omega)
        · rw [if_neg (by omega)]; exact a1 j hl (by omega)
      · show (if j = off + i then s (off + i + d) else s j) = s0 j
        rw [if_neg (by omega)]; exact a2 j (by omega))
    (N - lo) lo F s0 (by omega) (by omega) ⟨Nat.le_refl _, fun j h1 h2 => by omega, fun j _ => rfl⟩
  exact ⟨s', h3, h1, h2⟩
theorem c_rcopy (F : Nat) (hF : 300 ≤ F) (n : Nat) (hn : n ≤ 60) (rf orf : Nat → Int32) : ∃ rf', s_Row_copyFrom F n rf orf = some rf' ∧ ∀ j, j < n → rf' j = orf j := by
  obtain ⟨s', h1, h2, _⟩ := cg_copy (fun k i s => s_Row_copyFrom_L2 n orf k (i32 i) s) n orf 0
    (fun k s => by simp only [s_Row_copyFrom_L2]; rw [if_pos (y_le (by omega) (by omega))])
    (fun k i s hi => by
      simp only [s_Row_copyFrom_L2]
      rw [if_neg (n_le (by omega) hi), rget orf hi (by omega), aset_i s _ hi (by omega), i32_s]
      simp only [Option.bind_some, Nat.zero_add])
    F (by omega) rf
  have h1 : s_Row_copyFrom_L2 n orf F (0 : Int32) rf = some (i32 n, s') := h1
  refine ⟨s', ?_, fun j hj => by have := h2 j hj; rwa [Nat.zero_add] at this⟩
  unfold s_Row_copyFrom
  rw [h1]; rfl
theorem c_pcopy (F : Nat) (hF : 300 ≤ F) (a b c d oa ob oc od : Nat → Int32) (on om : Int32) : ∃ v1 v2 v3 v4, s_Plan_copyFrom F a b c d oa ob oc od on om = some (v1, v2, v3, v4, on, om) ∧
    (∀ j, j < 16 → v1 j = oa j ∧ v2 j = ob j) ∧ (∀ j, j < 10 → v3 j = oc j ∧ v4 j = od j) := by
  obtain ⟨v1, a1, b1⟩ := c_rcopy F hF 16 (by omega) a oa
  obtain ⟨v2, a2, b2⟩ := c_rcopy F hF 16 (by omega) b ob
  obtain ⟨v3, a3, b3⟩ := c_rcopy F hF 10 (by omega) c oc
  obtain ⟨v4, a4, b4⟩ := c_rcopy F hF 10 (by omega) d od
  refine ⟨v1, v2, v3, v4, ?_, fun j hj => ⟨b1 j hj, b2 j hj⟩, fun j hj => ⟨b3 j hj, b4 j hj⟩⟩
  unfold s_Plan_copyFrom
  rw [a1]; simp only [Option.bind_some]
  rw [a2]; simp only [Option.bind_some]
  rw [a3]; simp only [Option.bind_some]
  rw [a4]; simp only [Option.bind_some]
theorem c_gap (F : Nat) (hF : 300 ≤ F) (n : Nat) (hn : n ≤ 60) (rf : Nat → Int32) {a : Nat} (ha : a < n) :
    ∃ rf', s_Row_closeGap F n rf (i32 a) = some rf' ∧ (∀ j, j < a → rf' j = rf j) ∧ ∀ j, a ≤ j → j + 1 < n → rf' j = rf (j + 1) := by
  have e1 : Int32.ofNat n - (1 : Int32) = i32 (n - 1) := i32_sub (a := n) (b := 1) (by omega)
  have e0 : imax (0 : Int32) (i32 a) = i32 a := by
    have := imax_i (a := 0) (b := a) (by omega) (by omega)
    rw [Nat.zero_max] at this
    exact this
  obtain ⟨s', h1, h2, h3⟩ := cg_shift (fun k i s => s_Row_closeGap_L6 n k (i32 i) s) a (n - 1) 0 1 (by omega) (by omega) rf
    (fun k s _ => by simp only [s_Row_closeGap_L6]; rw [e1, if_pos (y_le (by omega) (by omega))])
    (fun k i s hl hi _ => by
      simp only [s_Row_closeGap_L6]
      rw [e1, if_neg (n_le (by omega) hi), i32_s, aget_i s (show i + 1 < n by omega) (by omega)]
      simp only [Option.bind_some]
      rw [aset_i s _ (show i < n by omega) (by omega)]
      simp only [Option.bind_some, Nat.zero_add])
    F (by omega)
  have h1 : s_Row_closeGap_L6 n F (i32 a) rf = some (i32 (n - 1), s') := h1
  refine ⟨s', ?_, fun j hj => h3 j (by omega), fun j hl hj => ?_⟩
  · unfold s_Row_closeGap
    rw [e0, h1]; rfl
  · have := h2 j hl (by omega)
    rwa [Nat.zero_add] at this
section EXT
variable {n m : Nat} {X Y : Nat → Int} {L H : Nat → Nat} {pxs pys plo phi pxs' pys' plo' phi' : Nat → Int32} {pn pm : Int32} {mnow mnow' : Nat → Int32}
theorem cp_ext (hO : Ok n m X Y L H) (h : CP n m X Y L H pxs pys plo phi pn pm) (e : ∀ j, j < 16 → pxs' j = pxs j ∧ pys' j = pys j) (k : ∀ j, j < 10 → plo' j = plo j ∧ phi' j = phi j) :
    CP n m X Y L H pxs' pys' plo' phi' pn pm := by
  have hn := hO.1
  have hm := hO.2.1
  obtain ⟨h1, h2, h3, h4⟩ := h
  refine ⟨h1, h2, fun i hi => ?_, fun c hc => ?_⟩
  · rw [(e i (by omega)).1, (e i (by omega)).2]; exact h3 i hi
  · rw [(k c (by omega)).1, (k c (by omega)).2]; exact h4 c hc
theorem mp_ext (hO : Ok n m X Y L H) (h : MP n m X Y L H mnow) (e : ∀ j, j < 56 → mnow' j = mnow j) : MP n m X Y L H mnow' := by
  have hn := hO.1
  have hm := hO.2.1
  obtain ⟨h1, h2, h3, h4⟩ := h
  refine ⟨by rw [e 0 (by omega)]; exact h1, by rw [e 1 (by omega)]; exact h2, fun i hi => ?_, fun c hc => ?_⟩
  · rw [e _ (by omega), e _ (by omega)]; exact h3 i hi
  · rw [e _ (by omega), e _ (by omega)]; exact h4 c hc
end EXT
section OKS
variable {n m : Nat} {X Y X' Y' : Nat → Int} {L H L' H' : Nat → Nat}
/-- a point more, or moved -/
theorem ok_put (hO : Ok n m X Y L H) {n' a : Nat} (hn' : n' ≤ 16) (hnn : n ≤ n') (hi : ∀ i, i < n' → i ≠ a → i < n) (hc : ∀ c, c < m → L c ≠ a ∧ H c ≠ a)
    {P Q : Int} (hP : 0 ≤ P ∧ P ≤ 100 ∧ 0 ≤ Q ∧ Q ≤ 100) (h1 : ∀ p, p < n → p ≠ a → ¬ (X p = P ∧ Y p = Q)) (h2 : ∀ c, c < m → ¬ cov (pt X Y (L c)) (pt X Y (H c)) (P, Q, 1))
    (hx : ∀ i, i ≠ a → X' i = X i ∧ Y' i = Y i) (hxa : X' a = P ∧ Y' a = Q) : Ok n' m X' Y' L H := by
  obtain ⟨o1, o2, o3, o4, o5, o6, o7, o8⟩ := hO
  have e : ∀ i, i ≠ a → pt X' Y' i = pt X Y i := by
    intro i z
    unfold pt
    rw [(hx i z).1, (hx i z).2]
  have ea : pt X' Y' a = (P, Q, 1) := by
    unfold pt
    rw [hxa.1, hxa.2]
  refine ⟨hn', o2, ?_, ?_, ?_, o6, ?_, ?_⟩
  · intro i hi9
    by_cases z : i = a
    · rw [z, ea]; exact hP
    · rw [e i z]; exact o3 i (hi i hi9 z)
  · intro i j hi9 hj9 k
    by_cases z : i = a
    · by_cases y : j = a
      · rw [z, y]
      · rw [z, ea, e j y] at k
        exact (h1 j (hi j hj9 y) y ⟨(congrArg Prod.fst k).symm, (congrArg (fun v => v.2.1) k).symm⟩).elim
    · by_cases y : j = a
      · rw [y, ea, e i z] at k
        exact (h1 i (hi i hi9 z) z ⟨congrArg Prod.fst k, congrArg (fun v => v.2.1) k⟩).elim
      · rw [e i z, e j y] at k
        exact o4 i j (hi i hi9 z) (hi j hj9 y) k
  · intro c hc9
    have := o5 c hc9
    exact ⟨this.1, by omega⟩
  · intro c p hc9 hp
    rw [e _ (hc c hc9).1, e _ (hc c hc9).2]
    by_cases z : p = a
    · rw [z, ea]; exact h2 c hc9
    · rw [e p z]; exact o7 c p hc9 (hi p hp z)
  · intro c d hc9 hd9
    rw [e _ (hc c hc9).1, e _ (hc c hc9).2, e _ (hc d hd9).1, e _ (hc d hd9).2]
    exact o8 c d hc9 hd9
/-- where a point stood before a was taken out -/
def sh (a i : Nat) : Nat := if i < a then i else i + 1
theorem sh_inj {a i j : Nat} (h : sh a i = sh a j) : i = j := by
  unfold sh at h
  split at h <;> split at h <;> omega
theorem sh_lt {a i n : Nat} (ha : a < n) (h : i + 1 < n) : sh a i < n := by
  unfold sh
  split <;> omega
theorem sh_ne (a i : Nat) : sh a i ≠ a := by
  unfold sh
  split <;> omega
/-- the number of a point once a is taken out -/
def dn (a p : Nat) : Nat := if a < p then p - 1 else p
theorem sh_dn {a p : Nat} (h : p ≠ a) : sh a (dn a p) = p := by
  unfold sh dn
  split <;> split <;> omega
theorem dn_sh (a i : Nat) : dn a (sh a i) = i := by
  unfold sh dn
  split <;> split <;> omega
theorem ok_drop (hO : Ok n m X Y L H) {a : Nat} (ha : a < n) (hc : ∀ c, c < m → L c ≠ a ∧ H c ≠ a)
    (hx : ∀ i, i + 1 < n → X' i = X (sh a i) ∧ Y' i = Y (sh a i)) (hl : ∀ c, c < m → L' c = dn a (L c) ∧ H' c = dn a (H c)) : Ok (n - 1) m X' Y' L' H' := by
  obtain ⟨o1, o2, o3, o4, o5, o6, o7, o8⟩ := hO
  have e : ∀ i, i < n - 1 → pt X' Y' i = pt X Y (sh a i) := by
    intro i hi
    unfold pt
    rw [(hx i (by omega)).1, (hx i (by omega)).2]
  have el : ∀ c, c < m → pt X' Y' (L' c) = pt X Y (L c) ∧ pt X' Y' (H' c) = pt X Y (H c) ∧ L' c < H' c ∧ H' c < n - 1 := by
    intro c hc9
    obtain ⟨q1, q2⟩ := hc c hc9
    have q3 := o5 c hc9
    obtain ⟨q4, q5⟩ := hl c hc9
    have lt : dn a (L c) < dn a (H c) ∧ dn a (H c) < n - 1 := by
      unfold dn
      split <;> split <;> omega
    rw [q4, q5]
    refine ⟨?_, ?_, lt.1, lt.2⟩
    · rw [e _ (by omega), sh_dn q1]
    · rw [e _ (by omega), sh_dn q2]
  refine ⟨by omega, o2, ?_, ?_, ?_, ?_, ?_, ?_⟩
  · intro i hi
    rw [e i hi]; exact o3 _ (sh_lt ha (by omega))
  · intro i j hi hj k
    rw [e i hi, e j hj] at k
    exact sh_inj (o4 _ _ (sh_lt ha (by omega)) (sh_lt ha (by omega)) k)
  · intro c hc9
    exact ⟨(el c hc9).2.2.1, (el c hc9).2.2.2⟩
  · intro c d hc9 hd9 k1 k2
    rw [(hl c hc9).1, (hl d hd9).1] at k1
    rw [(hl c hc9).2, (hl d hd9).2] at k2
    refine o6 c d hc9 hd9 ?_ ?_
    · rw [← sh_dn (hc c hc9).1, k1, sh_dn (hc d hd9).1]
    · rw [← sh_dn (hc c hc9).2, k2, sh_dn (hc d hd9).2]
  · intro c p hc9 hp
    rw [(el c hc9).1, (el c hc9).2.1, e p hp]
    exact o7 c _ hc9 (sh_lt ha (by omega))
  · intro c d hc9 hd9
    rw [(el c hc9).1, (el c hc9).2.1, (el d hd9).1, (el d hd9).2.1]
    exact o8 c d hc9 hd9
theorem pc_sw {P : Nat → Int × Int × Int} {a b c d : Nat} (wa : (P a).2.2 = 1) (wb : (P b).2.2 = 1) (wc : (P c).2.2 = 1) (wd : (P d).2.2 = 1) (h : Pc P a b c d) : Pc P c d a b :=
  (pc_iff wc wd wa wb).1 (And.comm.1 ((pc_iff wa wb wc wd).2 h))
theorem pc_fl {P : Nat → Int × Int × Int} {a b c d : Nat} (wa : (P a).2.2 = 1) (wb : (P b).2.2 = 1) (wc : (P c).2.2 = 1) (wd : (P d).2.2 = 1) (h : Pc P a b c d) : Pc P b a c d := by
  have := (pc_iff wa wb wc wd).2 h
  refine (pc_iff wb wa wc wd).1 ⟨?_, ?_⟩
  · rw [dt_102 (P a) (P b) (P c), dt_102 (P a) (P b) (P d), Int.neg_mul_neg]; exact this.1
  · rw [Int.mul_comm]; exact this.2
/-- one constraint more -/
theorem ok_con (hO : Ok n m X Y L H) (hm : m < 10) {a b : Nat} (hab : a < b) (hb : b < n) (h1 : ∀ c, c < m → ¬ (L c = a ∧ H c = b)) (h2 : ∀ p, p < n → ¬ cov (pt X Y a) (pt X Y b) (pt X Y p))
    (h3 : ∀ c, c < m → ¬ Pc (pt X Y) a b (L c) (H c)) (hl : ∀ c, c < m → L' c = L c ∧ H' c = H c) (hlm : L' m = a ∧ H' m = b) : Ok n (m + 1) X Y L' H' := by
  obtain ⟨o1, o2, o3, o4, o5, o6, o7, o8⟩ := hO
  have w : ∀ i, (pt X Y i).2.2 = 1 := fun i => rfl
  have cs : ∀ c, c < m + 1 → (c < m ∧ L' c = L c ∧ H' c = H c) ∨ (c = m ∧ L' c = a ∧ H' c = b) := by
    intro c hc
    by_cases z : c < m
    · exact Or.inl ⟨z, hl c z⟩
    · have : c = m := by omega
      subst this
      exact Or.inr ⟨rfl, hlm⟩
  refine ⟨o1, by omega, o3, o4, ?_, ?_, ?_, ?_⟩
  · intro c hc
    rcases cs c hc with ⟨q1, q2, q3⟩ | ⟨q1, q2, q3⟩ <;> rw [q2, q3]
    · exact o5 c q1
    · exact ⟨hab, hb⟩
  · intro c d hc hd k1 k2
    rcases cs c hc with ⟨q1, q2, q3⟩ | ⟨q1, q2, q3⟩ <;> rcases cs d hd with ⟨r1, r2, r3⟩ | ⟨r1, r2, r3⟩ <;> rw [q2, r2] at k1 <;> rw [q3, r3] at k2
    · exact o6 c d q1 r1 k1 k2
    · exact (h1 c q1 ⟨k1, k2⟩).elim
    · exact (h1 d r1 ⟨k1.symm, k2.symm⟩).elim
    · omega
  · intro c p hc hp
    rcases cs c hc with ⟨q1, q2, q3⟩ | ⟨q1, q2, q3⟩ <;> rw [q2, q3]
    · exact o7 c p q1 hp
    · exact h2 p hp
  · intro c d hc hd
    rcases cs c hc with ⟨q1, q2, q3⟩ | ⟨q1, q2, q3⟩ <;> rcases cs d hd with ⟨r1, r2, r3⟩ | ⟨r1, r2, r3⟩ <;> rw [q2, q3, r2, r3]
    · exact o8 c d q1 r1
    · have k : ¬ Pc (pt X Y) (L c) (H c) a b := fun k => h3 c q1 (pc_sw (w _) (w _) (w _) (w _) k)
      exact ⟨fun z => k (Or.inl z), fun z => k (Or.inr z)⟩
    · have k := h3 d r1
      exact ⟨fun z => k (Or.inl z), fun z => k (Or.inr z)⟩
    · have k : ¬ Pc (pt X Y) a b a b := fun k => by
        have := ((pc_iff (w a) (w b) (w a) (w b)).2 k).1
        rw [dt_aba, Int.zero_mul] at this
        omega
      exact ⟨fun z => k (Or.inl z), fun z => k (Or.inr z)⟩
/-- one constraint less -/
theorem ok_unc (hO : Ok n m X Y L H) {a : Nat} (ha : a < m) (hl : ∀ c, c + 1 < m → L' c = L (sh a c) ∧ H' c = H (sh a c)) : Ok n (m - 1) X Y L' H' := by
  obtain ⟨o1, o2, o3, o4, o5, o6, o7, o8⟩ := hO
  have g : ∀ c, c < m - 1 → L' c = L (sh a c) ∧ H' c = H (sh a c) ∧ sh a c < m := fun c hc => ⟨(hl c (by omega)).1, (hl c (by omega)).2, sh_lt ha (by omega)⟩
  refine ⟨o1, by omega, o3, o4, ?_, ?_, ?_, ?_⟩
  · intro c hc
    obtain ⟨q1, q2, q3⟩ := g c hc
    rw [q1, q2]; exact o5 _ q3
  · intro c d hc hd k1 k2
    obtain ⟨q1, q2, q3⟩ := g c hc
    obtain ⟨r1, r2, r3⟩ := g d hd
    rw [q1, r1] at k1
    rw [q2, r2] at k2
    exact sh_inj (o6 _ _ q3 r3 k1 k2)
  · intro c p hc hp
    obtain ⟨q1, q2, q3⟩ := g c hc
    rw [q1, q2]; exact o7 _ p q3 hp
  · intro c d hc hd
    obtain ⟨q1, q2, q3⟩ := g c hc
    obtain ⟨r1, r2, r3⟩ := g d hd
    rw [q1, q2, r1, r2]; exact o8 _ _ q3 r3
end OKS
