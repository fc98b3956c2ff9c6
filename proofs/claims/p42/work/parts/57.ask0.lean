/-! questions: the law's way of comparing -/
theorem lgc (x : Int64) : lg_cmp x x = 0 := by
  unfold lg_cmp
  rw [if_neg (fun k => by have := Int64.lt_iff_toInt_lt.1 k; omega), if_pos rfl]
/-- what the class answers against what the reference says it throws -/
def An (cs : List String) (r : String ⊕ Int32) (v thr : Int32) : Prop :=
  (∃ k s, cs[k]? = some s ∧ k < 5 ∧ r = .inl s ∧ thr = i32 (k + 1)) ∨ (r = .inr v ∧ thr = 0)
def law1 (c1 : String) (r : String ⊕ Int32) (fl : Nat → Int64) : Option (Int32 × (Nat → Int64)) :=
  Sum.elim (fun E => if E = c1 then some ((1 : Int32), fl) else none) (fun q => some ((0 : Int32), vp_updL fl (0 : Int32).toNatClampNeg q.toInt64)) r
def law2 (c1 c2 : String) (r : String ⊕ Int32) (fl : Nat → Int64) : Option (Int32 × (Nat → Int64)) :=
  Sum.elim (fun E => if E = c1 then some ((1 : Int32), fl) else if E = c2 then some ((2 : Int32), fl) else none) (fun q => some ((0 : Int32), vp_updL fl (0 : Int32).toNatClampNeg q.toInt64)) r
/-- the law's comparison of one question -/
theorem caseG {A B : Type} {law : Option (Int32 × (Nat → Int64))} {mod : Option (Int32 × Int32 × A)} (f : (Int32 × (Nat → Int64)) → (Int32 × Int32 × A) → B) {v thr : Int32} {a : A} {fl' : Nat → Int64}
    (h1 : law = some (thr, fl')) (h2 : mod = some (v, thr, a)) (h3 : thr = 0 → fl' 0 = v.toInt64) :
    (law.bind fun v1 => mod.bind fun v2 => if (s_Mod_thrown v2.2.1) = v1.1 then (if v1.1 = 0 then (if (lg_cmp (v1.2 (0 : Int32).toNatClampNeg) (v2.1.toInt64)) = 0 then some (f v1 v2) else none) else some (f v1 v2)) else none) = some (f (thr, fl') (v, thr, a)) := by
  rw [h1, h2]
  simp only [Option.bind_some]
  rw [if_pos (show s_Mod_thrown thr = thr from rfl)]
  by_cases c : thr = 0
  · rw [if_pos c, if_pos]
    show lg_cmp (fl' 0) v.toInt64 = 0
    rw [h3 c]; exact lgc _
  · rw [if_neg c]
theorem law1_an {c1 : String} {r : String ⊕ Int32} {v thr : Int32} (h : An [c1] r v thr) (fl : Nat → Int64) : ∃ fl', law1 c1 r fl = some (thr, fl') ∧ (thr = 0 → fl' 0 = v.toInt64) := by
  rcases h with ⟨k, s, h1, h2, rfl, rfl⟩ | ⟨rfl, rfl⟩
  · have : k = 0 := by
      rcases k with _ | k
      · rfl
      · simp at h1
    subst this
    simp at h1
    subst h1
    refine ⟨fl, ?_, fun k => by cases k⟩
    unfold law1
    simp only [Sum.elim_inl]
    rw [if_pos trivial]; rfl
  · exact ⟨_, rfl, fun _ => by
      show (if (0 : Nat) = (0 : Int32).toNatClampNeg then v.toInt64 else fl 0) = _
      rw [if_pos (by decide)]⟩
theorem law2_an {c1 c2 : String} {r : String ⊕ Int32} {v thr : Int32} (h : An [c1, c2] r v thr) (hc : c1 ≠ c2) (fl : Nat → Int64) : ∃ fl', law2 c1 c2 r fl = some (thr, fl') ∧ (thr = 0 → fl' 0 = v.toInt64) := by
  rcases h with ⟨k, s, h1, h2, rfl, rfl⟩ | ⟨rfl, rfl⟩
  · rcases k with _ | _ | k
    · simp at h1
      subst h1
      refine ⟨fl, ?_, fun k => by cases k⟩
      unfold law2
      simp only [Sum.elim_inl]
      rw [if_pos trivial]; rfl
    · simp at h1
      subst h1
      refine ⟨fl, ?_, fun k => by cases k⟩
      unfold law2
      simp only [Sum.elim_inl]
      rw [if_neg (Ne.symm hc), if_pos trivial]; rfl
    · simp at h1
  · exact ⟨_, rfl, fun _ => by
      show (if (0 : Nat) = (0 : Int32).toNatClampNeg then v.toInt64 else fl 0) = _
      rw [if_pos (by decide)]⟩
theorem an_1 (cs : List String) (s : String) (v : Int32) : An (s :: cs) (.inl s) v 1 := Or.inl ⟨0, s, rfl, by omega, rfl, rfl⟩
theorem an_2 (c : String) (cs : List String) (s : String) (v : Int32) : An (c :: s :: cs) (.inl s) v 2 := Or.inl ⟨1, s, rfl, by omega, rfl, rfl⟩
theorem an_v (cs : List String) (v : Int32) : An cs (.inr v) v 0 := Or.inr ⟨rfl, rfl⟩
/-- a number is in range, or not -/
theorem rng (N : Nat) (hN : N < 2147483648) (a0 : Int32) : (∃ a, a < N ∧ a0 = i32 a) ∨ (¬ (∃ a, a < N ∧ a0 = i32 a) ∧ (a0 < 0 ∨ (¬ a0 < 0 ∧ i32 N ≤ a0))) := by
  by_cases c : a0 < 0
  · refine Or.inr ⟨?_, Or.inl c⟩
    rintro ⟨a, h1, rfl⟩
    exact i32_neg (by omega) c
  · obtain ⟨k, hk, rfl⟩ := i32_of (x := a0) (by
      rw [Int32.le_iff_toInt_le, Int32.toInt_zero]
      rw [Int32.lt_iff_toInt_lt, Int32.toInt_zero] at c
      omega)
    by_cases d : k < N
    · exact Or.inl ⟨k, d, rfl⟩
    · refine Or.inr ⟨?_, Or.inr ⟨c, y_le hk (by omega)⟩⟩
      rintro ⟨a, h1, h2⟩
      have := (i32_eq hk (by omega)).1 h2
      omega
theorem lt_of_nle {x y : Int32} (h : ¬ x ≤ y) : y < x := by
  rw [Int32.le_iff_toInt_le] at h
  rw [Int32.lt_iff_toInt_lt]; omega
theorem nlt_of_le {x y : Int32} (h : x ≤ y) : ¬ y < x := by
  rw [Int32.le_iff_toInt_le] at h
  rw [Int32.lt_iff_toInt_lt]; omega
theorem m_in (N : Nat) (hN : N < 2147483648) (a0 : Int32) : s_Mod_in a0 (0 : Int32) (i32 N - (1 : Int32)) = dB (∃ a, a < N ∧ a0 = i32 a) := by
  unfold s_Mod_in
  have e : (i32 N - (1 : Int32)).toInt = (N : Int) - 1 := by
    rw [ti_sub (by rw [i32_ti hN, Int32.toInt_one]; omega) (by rw [i32_ti hN, Int32.toInt_one]; omega), i32_ti hN, Int32.toInt_one]
  rcases rng N hN a0 with ⟨a, h1, rfl⟩ | ⟨h, k | ⟨k1, k2⟩⟩
  · rw [if_neg (i32_neg (by omega)), if_neg (fun z => by rw [Int32.lt_iff_toInt_lt, e, i32_ti (by omega)] at z; omega), dB_t ⟨a, h1, rfl⟩]
  · rw [if_pos k, dB_f h]
  · rw [if_neg k1, if_pos (by rw [Int32.lt_iff_toInt_lt, e]; rw [Int32.le_iff_toInt_le, i32_ti hN] at k2; omega), dB_f h]
theorem m_in1 (a : Int32) : s_Mod_in a (0 : Int32) (1 : Int32) = dB (a = 0 ∨ a = 1) := by
  have := m_in 2 (by omega) a
  rw [show i32 2 - (1 : Int32) = 1 from by decide] at this
  rw [this]
  apply dB_cong
  constructor
  · rintro ⟨k, h1, rfl⟩
    have : k = 0 ∨ k = 1 := by omega
    rcases this with rfl | rfl
    · exact Or.inl rfl
    · exact Or.inr rfl
  · rintro (rfl | rfl)
    · exact ⟨0, by omega, rfl⟩
    · exact ⟨1, by omega, rfl⟩
theorem m_in2 (a : Int32) : s_Mod_in a (0 : Int32) (2 : Int32) = dB (∃ k, k < 3 ∧ a = i32 k) := by
  have := m_in 3 (by omega) a
  rw [show i32 3 - (1 : Int32) = 2 from by decide] at this
  exact this
section ASK
variable {n m : Nat} {X Y : Nat → Int} {L H : Nat → Nat} {pxs pys plo phi : Nat → Int32} {pn pm : Int32} {mnow : Nat → Int32}
theorem m_isP (hM : MP n m X Y L H mnow) (hO : Ok n m X Y L H) (a0 : Int32) : s_Mod_isPoint mnow a0 = some (dB (∃ a, a < n ∧ a0 = i32 a)) := by
  have := hO.1
  unfold s_Mod_isPoint
  rw [m_n hM]
  simp only [Option.bind_some]
  rw [m_in n (by omega)]
theorem m_isC (hM : MP n m X Y L H mnow) (hO : Ok n m X Y L H) (a0 : Int32) : s_Mod_isConstraint mnow a0 = some (dB (∃ a, a < m ∧ a0 = i32 a)) := by
  have := hO.2.1
  unfold s_Mod_isConstraint
  rw [m_m hM]
  simp only [Option.bind_some]
  rw [m_in m (by omega)]
theorem c_rpY (hn : n ≤ 16) {a : Nat} (ha : a < n) : s_Top_requirePoint (i32 n) (i32 a) = .inr () := by
  unfold s_Top_requirePoint s_Plan_hasPoint
  rw [if_neg (i32_neg (by omega)), if_neg (n_le (by omega) ha)]
  rfl
theorem c_rpN (hn : n ≤ 16) {a0 : Int32} (h : ¬ ∃ a, a < n ∧ a0 = i32 a) : s_Top_requirePoint (i32 n) a0 = .inl "java/lang/IndexOutOfBoundsException" := by
  unfold s_Top_requirePoint s_Plan_hasPoint
  rcases rng n (by omega) a0 with h1 | ⟨_, k | ⟨k1, k2⟩⟩
  · exact (h h1).elim
  · rw [if_pos k]; rfl
  · rw [if_neg k1, if_pos k2]; rfl
theorem c_rcY (hm : m ≤ 10) {a : Nat} (ha : a < m) : s_Top_requireConstraint (i32 m) (i32 a) = .inr () := by
  unfold s_Top_requireConstraint
  rw [if_neg (i32_neg (by omega)), if_pos (show i32 a < s_Plan_constraints (i32 m) from y_lt (by omega) ha)]
theorem c_rcN (hm : m ≤ 10) {a0 : Int32} (h : ¬ ∃ a, a < m ∧ a0 = i32 a) : s_Top_requireConstraint (i32 m) a0 = .inl "java/lang/IndexOutOfBoundsException" := by
  unfold s_Top_requireConstraint
  rcases rng m (by omega) a0 with h1 | ⟨_, k | ⟨k1, k2⟩⟩
  · exact (h h1).elim
  · rw [if_pos k]
  · rw [if_neg k1, if_neg (show ¬ (a0 < s_Plan_constraints (i32 m)) from nlt_of_le k2)]
theorem c_rtY {t : Nat} (ht : t ≤ 42) {a : Nat} (ha : a < t) : s_Top_requireTriangle (i32 t) (i32 a) = .inr () := by
  unfold s_Top_requireTriangle
  rw [if_neg (i32_neg (by omega)), if_pos (show i32 a < s_Mesh_triangles (i32 t) from y_lt (by omega) ha)]
theorem c_rtN {t : Nat} (ht : t ≤ 42) {a0 : Int32} (h : ¬ ∃ a, a < t ∧ a0 = i32 a) : s_Top_requireTriangle (i32 t) a0 = .inl "java/lang/IndexOutOfBoundsException" := by
  unfold s_Top_requireTriangle
  rcases rng t (by omega) a0 with h1 | ⟨_, k | ⟨k1, k2⟩⟩
  · exact (h h1).elim
  · rw [if_pos k]
  · rw [if_neg k1, if_neg (show ¬ (a0 < s_Mesh_triangles (i32 t)) from nlt_of_le k2)]
theorem c_reY {t : Nat} (ht : t ≤ 42) {a : Nat} (ha : a < t) : s_Top_requireEdge (i32 t) (i32 a) = .inr () := by
  unfold s_Top_requireEdge
  rw [if_neg (i32_neg (by omega)), if_pos (show i32 a < s_Mesh_edges (i32 t) from y_lt (by omega) ha)]
theorem c_reN {t : Nat} (ht : t ≤ 42) {a0 : Int32} (h : ¬ ∃ a, a < t ∧ a0 = i32 a) : s_Top_requireEdge (i32 t) a0 = .inl "java/lang/IndexOutOfBoundsException" := by
  unfold s_Top_requireEdge
  rcases rng t (by omega) a0 with h1 | ⟨_, k | ⟨k1, k2⟩⟩
  · exact (h h1).elim
  · rw [if_pos k]
  · rw [if_neg k1, if_neg (show ¬ (a0 < s_Mesh_edges (i32 t)) from nlt_of_le k2)]
theorem c_rbN {a : Int32} (h : ¬ (a = 0 ∨ a = 1)) : s_Top_requireBit a = .inl "java/lang/IllegalArgumentException" := by
  unfold s_Top_requireBit
  rw [if_neg (fun k => h (Or.inl k)), if_neg (fun k => h (Or.inr k))]
theorem c_rkY {k : Nat} (h : k < 3) : s_Top_requireCorner (i32 k) = .inr () := by
  unfold s_Top_requireCorner
  rw [if_neg (i32_neg (by omega)), if_pos (show i32 k ≤ (2 : Int32) from y_le (b := 2) (by omega) (by omega))]
theorem c_rkN {a0 : Int32} (h : ¬ ∃ k, k < 3 ∧ a0 = i32 k) : s_Top_requireCorner a0 = .inl "java/lang/IllegalArgumentException" := by
  unfold s_Top_requireCorner
  rcases rng 3 (by omega) a0 with h1 | ⟨_, k | ⟨k1, k2⟩⟩
  · exact (h h1).elim
  · rw [if_pos k]
  · rw [if_neg k1, if_neg]
    rw [Int32.le_iff_toInt_le]
    rw [Int32.le_iff_toInt_le, i32_ti (by omega)] at k2
    have : (2 : Int32).toInt = 2 := by decide
    omega
end ASK
