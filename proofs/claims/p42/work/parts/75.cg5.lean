/-! the text, on both sides -/
/-- a digit -/
def dg (x : Int32) : Prop := ¬ x < (48 : Int32) ∧ ¬ (57 : Int32) < x
def dv (x : Int32) : Nat := (x.toInt - 48).toNat
theorem dv_s {x : Int32} (h : dg x) : x - (48 : Int32) = i32 (dv x) ∧ dv x < 10 := by
  obtain ⟨h1, h2⟩ := h
  rw [Int32.lt_iff_toInt_lt] at h1 h2
  have e1 : (48 : Int32).toInt = 48 := by decide
  have e2 : (57 : Int32).toInt = 57 := by decide
  rw [e1] at h1
  rw [e2] at h2
  unfold dv
  refine ⟨?_, by omega⟩
  rw [← Int32.toInt_inj, ti_sub (by rw [e1]; omega) (by rw [e1]; omega), e1, i32_ti (by omega)]
  omega
/-- the number that r digits make -/
def nv (s : Nat → Int32) (p : Nat) : Nat → Nat
  | 0 => 0
  | r + 1 => 10 * nv s p r + dv (s (p + r))
theorem nv_lt (s : Nat → Int32) (p : Nat) : ∀ r, r ≤ 3 → (∀ i, i < r → dg (s (p + i))) → nv s p r < 1000 := by
  have st : ∀ r, (∀ i, i < r → dg (s (p + i))) → nv s p r < 10 ^ r := by
    intro r
    induction r with
    | zero => intro _; show (0 : Nat) < 10 ^ 0; decide
    | succ r ih =>
      intro h
      have a := ih (fun i hi => h i (by omega))
      have b := (dv_s (h r (by omega))).2
      show 10 * nv s p r + dv (s (p + r)) < 10 ^ (r + 1)
      rw [Nat.pow_succ]
      omega
  intro r hr h
  have a := st r h
  have : 10 ^ r ≤ 10 ^ 3 := Nat.pow_le_pow_right (by decide) hr
  have e : (10 : Nat) ^ 3 = 1000 := by decide
  omega
/-- a run of at most three digits -/
def Run (s : Nat → Int32) (len p r : Nat) : Prop := r ≤ 3 ∧ p + r ≤ len ∧ (∀ i, i < r → dg (s (p + i))) ∧ (r = 3 ∨ p + r = len ∨ ¬ dg (s (p + r)))
theorem run_ex (s : Nat → Int32) {len p : Nat} (hp : p ≤ len) : ∃ r, Run s len p r := by
  have st : ∀ r, r ≤ 3 → p + r ≤ len → (∀ i, i < r → dg (s (p + i))) → (∃ r', Run s len p r') ∨ (r < 3 ∧ p + (r + 1) ≤ len ∧ ∀ i, i < r + 1 → dg (s (p + i))) := by
    intro r h1 h2 h3
    by_cases a : r = 3
    · exact Or.inl ⟨r, h1, h2, h3, Or.inl a⟩
    by_cases b : p + r = len
    · exact Or.inl ⟨r, h1, h2, h3, Or.inr (Or.inl b)⟩
    by_cases c : dg (s (p + r))
    · refine Or.inr ⟨by omega, by omega, fun i hi => ?_⟩
      by_cases z : i = r
      · rw [z]; exact c
      · exact h3 i (by omega)
    · exact Or.inl ⟨r, h1, h2, h3, Or.inr (Or.inr c)⟩
  rcases st 0 (by omega) (by omega) (fun i hi => by omega) with h | ⟨a, b, c⟩
  · exact h
  rcases st 1 (by omega) b c with h | ⟨a, b, c⟩
  · exact h
  rcases st 2 (by omega) b c with h | ⟨a, b, c⟩
  · exact h
  rcases st 3 (by omega) b c with h | ⟨a, b, c⟩
  · exact h
  · omega
section TAKES
variable {ifs isc isg : Nat → Int32} {ien : Int32} {iin : Bool}
theorem t_dig {c : Int32} (h : dg c) {d u : Nat} (hd : d < 3) : s_Input_takes ifs isc isg ien iin (i32 d) (i32 u) c = (true, ifs, isc, isg, ien, iin, i32 (d + 1), i32 (10 * u + dv c)) := by
  unfold s_Input_takes s_Input_takesDigit
  rw [if_neg h.1, if_neg h.2, if_neg (show ¬ (i32 d = (3 : Int32)) from n_eq (b := 3) (by omega) (by omega) (by omega)), i32_s, (dv_s h).1, show (10 : Int32) * i32 u = i32 (10 * u) from i32_mul 10 u, i32_add]
theorem t_dig3 {c : Int32} (h : dg c) (iva : Int32) : (s_Input_takes ifs isc isg ien iin (i32 3) iva c).1 = false := by
  unfold s_Input_takes s_Input_takesDigit
  rw [if_neg h.1, if_neg h.2, if_pos (show i32 3 = (3 : Int32) from rfl)]
theorem t_non0 {c : Int32} (h : ¬ dg c) (iva : Int32) : (s_Input_takes ifs isc isg ien iin (0 : Int32) iva c).1 = false := by
  unfold s_Input_takes
  by_cases a : c < (48 : Int32)
  · rw [if_pos a, if_pos rfl]
  · rw [if_neg a]
    by_cases b : (57 : Int32) < c
    · rw [if_pos b, if_pos rfl]
    · exact (h ⟨a, b⟩).elim
theorem t_mid {c : Int32} (h : ¬ dg c) {d : Nat} (hd : d < 4) (h0 : 0 < d) (iva : Int32) :
    (¬ c = (44 : Int32) → ¬ c = (45 : Int32) → (s_Input_takes ifs isc isg ien false (i32 d) iva c).1 = false) ∧
    ((c = (44 : Int32) ∨ c = (45 : Int32)) → s_Input_takes ifs isc isg ien false (i32 d) iva c = (true, s_Row_set 15 ifs ien iva, isc, s_Row_set 15 isg ien (if c = (45 : Int32) then 1 else 0), ien, true, 0, 0)) := by
  have nz : ¬ (i32 d = (0 : Int32)) := n_eq (b := 0) (by omega) (by omega) (by omega)
  have e : s_Input_takes ifs isc isg ien false (i32 d) iva c = ((s_Input_takesMiddle ifs isg ien false (i32 d) iva c).1, (s_Input_takesMiddle ifs isg ien false (i32 d) iva c).2.1, isc, (s_Input_takesMiddle ifs isg ien false (i32 d) iva c).2.2.1, ien, (s_Input_takesMiddle ifs isg ien false (i32 d) iva c).2.2.2.1, (s_Input_takesMiddle ifs isg ien false (i32 d) iva c).2.2.2.2.1, (s_Input_takesMiddle ifs isg ien false (i32 d) iva c).2.2.2.2.2) := by
    unfold s_Input_takes
    by_cases a : c < (48 : Int32)
    · rw [if_pos a, if_neg nz, if_pos (show bI false = 0 from rfl)]
    · rw [if_neg a]
      by_cases b : (57 : Int32) < c
      · rw [if_pos b, if_neg nz, if_pos (show bI false = 0 from rfl)]
      · exact (h ⟨a, b⟩).elim
  rw [e]
  unfold s_Input_takesMiddle
  refine ⟨fun h1 h2 => ?_, fun h1 => ?_⟩
  · rw [if_neg h1, if_neg h2]
  · rcases h1 with rfl | rfl
    · rw [if_pos rfl, if_neg (by decide), if_neg (by decide)]; rfl
    · rw [if_neg (by decide), if_pos rfl, if_pos rfl, if_pos rfl]; rfl
theorem t_end {c : Int32} (h : ¬ dg c) {d : Nat} (hd : d < 4) (h0 : 0 < d) (iva : Int32) :
    (¬ c = (59 : Int32) → (s_Input_takes ifs isc isg ien true (i32 d) iva c).1 = false) ∧
    (c = (59 : Int32) → s_Input_takes ifs isc isg ien true (i32 d) iva c = (true, ifs, s_Row_set 15 isc ien iva, isg, ien + (1 : Int32), false, 0, 0)) := by
  have nz : ¬ (i32 d = (0 : Int32)) := n_eq (b := 0) (by omega) (by omega) (by omega)
  have e : s_Input_takes ifs isc isg ien true (i32 d) iva c = ((s_Input_takesEnd isc ien true (i32 d) iva c).1, ifs, (s_Input_takesEnd isc ien true (i32 d) iva c).2.1, isg, (s_Input_takesEnd isc ien true (i32 d) iva c).2.2.1, (s_Input_takesEnd isc ien true (i32 d) iva c).2.2.2.1, (s_Input_takesEnd isc ien true (i32 d) iva c).2.2.2.2.1, (s_Input_takesEnd isc ien true (i32 d) iva c).2.2.2.2.2) := by
    unfold s_Input_takes
    by_cases a : c < (48 : Int32)
    · rw [if_pos a, if_neg nz, if_neg (show ¬ (bI true = 0) by decide)]
    · rw [if_neg a]
      by_cases b : (57 : Int32) < c
      · rw [if_pos b, if_neg nz, if_neg (show ¬ (bI true = 0) by decide)]
      · exact (h ⟨a, b⟩).elim
  rw [e]
  unfold s_Input_takesEnd
  refine ⟨fun h1 => ?_, fun h1 => ?_⟩
  · rw [if_neg h1]
  · rw [if_pos h1]; rfl
end TAKES
/-- what the class makes of the end of its look at the characters -/
def c_fin (iln : Int32) (o3 : (Int32 × (Nat → Int32) × (Nat → Int32) × (Nat → Int32) × Int32 × Bool × Int32 × Int32) ⊕ (Int32 × (Nat → Int32) × (Nat → Int32) × (Nat → Int32) × Int32 × Bool × Int32 × Int32)) :
    Option (Int32 × (Nat → Int32) × (Nat → Int32) × (Nat → Int32) × Int32 × Bool × Int32 × Int32) :=
  Sum.elim (fun q_o =>
    some q_o) (fun o3x =>
    if (bI o3x.2.2.2.2.2.1) = 0 then
      some (iln, o3x.2.1, o3x.2.2.1, o3x.2.2.2.1, o3x.2.2.2.2.1, o3x.2.2.2.2.2.1, o3x.2.2.2.2.2.2.1, o3x.2.2.2.2.2.2.2)
    else
      if o3x.2.2.2.2.2.2.1 = 0 then
        some (iln, o3x.2.1, o3x.2.2.1, o3x.2.2.2.1, o3x.2.2.2.2.1, o3x.2.2.2.2.2.1, o3x.2.2.2.2.2.2.1, o3x.2.2.2.2.2.2.2)
      else
        some ((-1 : Int32), o3x.2.1, (s_Input_endEntry o3x.2.2.1 o3x.2.2.2.2.1 o3x.2.2.2.2.2.2.2).1, o3x.2.2.2.1, (s_Input_endEntry o3x.2.2.1 o3x.2.2.2.2.1 o3x.2.2.2.2.2.2.2).2.1, (s_Input_endEntry o3x.2.2.1 o3x.2.2.2.2.1 o3x.2.2.2.2.2.2.2).2.2.1, (s_Input_endEntry o3x.2.2.1 o3x.2.2.2.2.1 o3x.2.2.2.2.2.2.2).2.2.2.1, (s_Input_endEntry o3x.2.2.1 o3x.2.2.2.2.1 o3x.2.2.2.2.2.2.2).2.2.2.2)) o3
section PARSE
variable {ich minp ifs isc isg : Nat → Int32} {ien idg iva : Int32} {iin : Bool} {len : Nat}
theorem l_end (hl : len ≤ 60) (f : Nat) : s_Input_parse_L16 ich (i32 len) (f + 1) (i32 len) ifs isc isg ien iin idg iva = some (.inr (i32 len, ifs, isc, isg, ien, iin, idg, iva)) := by
  simp only [s_Input_parse_L16]
  rw [if_pos (y_le (by omega) (by omega))]
theorem l_no (hl : len ≤ 60) (f : Nat) {p : Nat} (hp : p < len) (h : (s_Input_takes ifs isc isg ien iin idg iva (ich p)).1 = false) :
    ∃ y, (s_Input_parse_L16 ich (i32 len) (f + 1) (i32 p) ifs isc isg ien iin idg iva).bind (c_fin (i32 len)) = some (i32 p, y) := by
  simp only [s_Input_parse_L16]
  rw [if_neg (n_le (by omega) hp), rget ich (show p < 60 by omega) (by omega), h, if_pos (show bI false = 0 from rfl)]
  exact ⟨_, rfl⟩
theorem l_yes (hl : len ≤ 60) (f : Nat) {p : Nat} (hp : p < len) {a b c : Nat → Int32} {d : Int32} {e : Bool} {g h9 : Int32} (h : s_Input_takes ifs isc isg ien iin idg iva (ich p) = (true, a, b, c, d, e, g, h9)) :
    s_Input_parse_L16 ich (i32 len) (f + 1) (i32 p) ifs isc isg ien iin idg iva = s_Input_parse_L16 ich (i32 len) f (i32 (p + 1)) a b c d e g h9 := by
  simp only [s_Input_parse_L16]
  rw [if_neg (n_le (by omega) hp), rget ich (show p < 60 by omega) (by omega), h, if_neg (show ¬ (bI true = 0) by decide), i32_s]
theorem l_digs (hl : len ≤ 60) (p : Nat) : ∀ r, r ≤ 3 → p + r ≤ len → (∀ i, i < r → dg (ich (p + i))) → ∀ f,
    s_Input_parse_L16 ich (i32 len) (f + r) (i32 p) ifs isc isg ien iin 0 0 = s_Input_parse_L16 ich (i32 len) f (i32 (p + r)) ifs isc isg ien iin (i32 r) (i32 (nv ich p r)) := by
  intro r
  induction r with
  | zero => intro _ _ _ f; rfl
  | succ r ih =>
    intro h1 h2 h3 f
    rw [show f + (r + 1) = (f + 1) + r by omega, ih (by omega) (by omega) (fun i hi => h3 i (by omega)) (f + 1), l_yes hl f (show p + r < len by omega) (t_dig (h3 r (by omega)) (show r < 3 by omega))]
    rfl
theorem m_here (hl : len ≤ 60) (p : Nat) (hp : p ≤ 61) : s_Mod_here minp (i32 len) (i32 p) = some (if p < len then minp p else (-1 : Int32)) := by
  unfold s_Mod_here
  by_cases z : p < len
  · rw [if_neg (n_le (by omega) z), if_pos z, aget_i minp (show p < 60 by omega) (by omega)]; rfl
  · rw [if_pos (y_le (by omega) (by omega)), if_neg z]
theorem m_dig (x : Int32) : (bI (s_Mod_in x (48 : Int32) (57 : Int32)) = 0) ↔ ¬ dg x := by
  unfold s_Mod_in dg
  by_cases a : x < (48 : Int32)
  · rw [if_pos a]; exact ⟨fun _ z => z.1 a, fun _ => rfl⟩
  · rw [if_neg a]
    by_cases b : (57 : Int32) < x
    · rw [if_pos b]; exact ⟨fun _ z => z.2 b, fun _ => rfl⟩
    · rw [if_neg b]; exact ⟨fun z => absurd z (by decide), fun z => (z ⟨a, b⟩).elim⟩
/-- the value of a run in the reference -/
def rv (s : Nat → Int32) (p r : Nat) : Int32 := if r = 0 then (-1 : Int32) else i32 (nv s p r)
theorem m_num (hl : len ≤ 60) (F : Nat) (hF : 300 ≤ F) {p r : Nat} (h : Run minp len p r) : s_Mod_number F minp (i32 len) (i32 p) = some (rv minp p r, i32 (p + r)) := by
  obtain ⟨h1, h2, h3, h4⟩ := h
  have st : ∀ d, d ≤ r → ∀ f, s_Mod_number_L4 minp (i32 len) (f + d) (-1 : Int32) (0 : Int32) (i32 p) = s_Mod_number_L4 minp (i32 len) f (rv minp p d) (i32 d) (i32 (p + d)) := by
    intro d
    induction d with
    | zero => intro _ f; rfl
    | succ d ih =>
      intro hd f
      rw [show f + (d + 1) = (f + 1) + d by omega, ih (by omega) (f + 1)]
      have g := h3 d (by omega)
      have e0 : imax (0 : Int32) (rv minp p d) = i32 (nv minp p d) := by
        unfold rv
        by_cases z : d = 0
        · subst z; rw [if_pos rfl]; rfl
        · rw [if_neg z]
          have l := nv_lt minp p d (by omega) (fun i hi => h3 i (by omega))
          have := imax_i (a := 0) (b := nv minp p d) (by omega) (by omega)
          rw [Nat.zero_max] at this
          exact this
      simp only [s_Mod_number_L4]
      rw [if_neg (show ¬ ((3 : Int32) ≤ i32 d) from n_le (a := 3) (by omega) (by omega)), m_here hl (p + d) (by omega), if_pos (show p + d < len by omega)]
      simp only [Option.bind_some]
      rw [if_neg (fun z => ((m_dig _).1 z) g), aget_i minp (show p + d < 60 by omega) (by omega)]
      simp only [Option.bind_some]
      rw [e0, i32_s, i32_s, Int32.sub_eq_add_neg, Int32.add_assoc, ← Int32.sub_eq_add_neg, (dv_s g).1, show (10 : Int32) * i32 (nv minp p d) = i32 (10 * nv minp p d) from i32_mul 10 _, i32_add]
      rfl
  have e := st r (Nat.le_refl _) (F - r - 1 + 1)
  rw [show F - r - 1 + 1 + r = F by omega] at e
  unfold s_Mod_number
  rw [e]
  simp only [s_Mod_number_L4]
  by_cases z : r = 3
  · subst z
    rw [if_pos (show (3 : Int32) ≤ i32 3 from y_le (a := 3) (by omega) (by omega))]; rfl
  · rw [if_neg (show ¬ ((3 : Int32) ≤ i32 r) from n_le (a := 3) (by omega) (by omega)), m_here hl (p + r) (by omega)]
    simp only [Option.bind_some]
    rw [if_pos]
    · rfl
    · apply (m_dig _).2
      by_cases y : p + r < len
      · rw [if_pos y]
        exact (h4.resolve_left z).resolve_left (by omega)
      · rw [if_neg y]
        exact fun w => w.1 (by decide)
theorem rv_neg {s : Nat → Int32} {p r : Nat} (h1 : r ≤ 3) (h3 : ∀ i, i < r → dg (s (p + i))) : (0 : Int32) ≤ rv s p r ↔ 0 < r := by
  unfold rv
  by_cases z : r = 0
  · rw [if_pos z]; exact ⟨fun w => absurd w (by decide), fun w => by omega⟩
  · rw [if_neg z]
    have := nv_lt s p r h1 h3
    exact ⟨fun _ => by omega, fun _ => i32_nn (by omega)⟩
section ENT
variable {F : Nat} {mthr mols : Int32} {mnow mold : Nat → Int32}
/-- the reference's look at one entry -/
theorem e_0 (hl : len ≤ 60) (hF : 300 ≤ F) {p r : Nat} (h : Run minp len p r) (h0 : r = 0) : s_Mod_entry F mthr mnow mold mols minp (i32 len) (i32 p) false = some ((-1 : Int32), mthr, mnow, mold, mols, i32 (p + r)) := by
  unfold s_Mod_entry
  rw [m_num hl F hF h]
  simp only [Option.bind_some]
  rw [if_neg (fun w => by have := (rv_neg h.1 h.2.2.1).1 w; omega)]
theorem e_1 (hl : len ≤ 60) (hF : 300 ≤ F) {p r : Nat} (h : Run minp len p r) (h0 : 0 < r) (hs : p + r < len → ¬ minp (p + r) = (44 : Int32) ∧ ¬ minp (p + r) = (45 : Int32)) :
    s_Mod_entry F mthr mnow mold mols minp (i32 len) (i32 p) false = some ((-1 : Int32), mthr, mnow, mold, mols, i32 (p + r)) := by
  have h2 := h.2.1
  have h1 := h.1
  unfold s_Mod_entry
  rw [m_num hl F hF h]
  simp only [Option.bind_some]
  rw [if_pos ((rv_neg h.1 h.2.2.1).2 h0), m_here hl (p + r) (by omega)]
  simp only [Option.bind_some]
  by_cases z : p + r < len
  · rw [if_pos z, if_neg (hs z).1, if_neg (hs z).2]
  · rw [if_neg z, if_neg (show ¬ ((-1 : Int32) = (44 : Int32)) by decide), if_neg (show ¬ ((-1 : Int32) = (45 : Int32)) by decide)]
theorem e_2 (hl : len ≤ 60) (hF : 300 ≤ F) {p r r' : Nat} (h : Run minp len p r) (h0 : 0 < r) (z : p + r < len) (hs : minp (p + r) = (44 : Int32) ∨ minp (p + r) = (45 : Int32)) (h' : Run minp len (p + r + 1) r') (h0' : r' = 0) :
    s_Mod_entry F mthr mnow mold mols minp (i32 len) (i32 p) false = some ((-1 : Int32), mthr, mnow, mold, mols, i32 (p + r + 1 + r')) := by
  have h1 := h.1
  unfold s_Mod_entry
  rw [m_num hl F hF h]
  simp only [Option.bind_some]
  rw [if_pos ((rv_neg h.1 h.2.2.1).2 h0), m_here hl (p + r) (by omega)]
  simp only [Option.bind_some]
  rw [if_pos z, i32_s, m_num hl F hF h']
  simp only [Option.bind_some]
  have nz : ¬ ((0 : Int32) ≤ rv minp (p + r + 1) r') := fun w => by have := (rv_neg h'.1 h'.2.2.1).1 w; omega
  rw [if_neg nz]
  rcases hs with e | e
  · rw [e, if_pos rfl]
  · rw [e, if_neg (show ¬ ((45 : Int32) = (44 : Int32)) by decide), if_pos rfl]
theorem e_3 (hl : len ≤ 60) (hF : 300 ≤ F) {p r r' : Nat} (h : Run minp len p r) (h0 : 0 < r) (z : p + r < len) (hs : minp (p + r) = (44 : Int32) ∨ minp (p + r) = (45 : Int32)) (h' : Run minp len (p + r + 1) r') (h0' : 0 < r') :
    s_Mod_entry F mthr mnow mold mols minp (i32 len) (i32 p) false = some ((1 : Int32), mthr, mnow, mold, mols, i32 (p + r + 1 + r')) := by
  have h1 := h.1
  unfold s_Mod_entry
  rw [m_num hl F hF h]
  simp only [Option.bind_some]
  rw [if_pos ((rv_neg h.1 h.2.2.1).2 h0), m_here hl (p + r) (by omega)]
  simp only [Option.bind_some]
  rw [if_pos z, i32_s, m_num hl F hF h']
  simp only [Option.bind_some]
  rw [if_pos ((rv_neg h'.1 h'.2.2.1).2 h0'), if_pos (show bI false = 0 from rfl)]
  rcases hs with e | e
  · rw [e, if_pos rfl]
  · rw [e, if_neg (show ¬ ((45 : Int32) = (44 : Int32)) by decide), if_pos rfl]
/-- the entries from p on, as the class has written them from k on -/
def Ch (s : Nat → Int32) (len : Nat) (fs sc sg : Nat → Int32) : Nat → Nat → Nat → Prop
  | 0, p, _ => p = len + 1
  | d + 1, p, k => ∃ r r', Run s len p r ∧ 0 < r ∧ p + r < len ∧ (s (p + r) = (44 : Int32) ∨ s (p + r) = (45 : Int32)) ∧ Run s len (p + r + 1) r' ∧ 0 < r' ∧
      fs k = i32 (nv s p r) ∧ sc k = i32 (nv s (p + r + 1) r') ∧ sg k = (if s (p + r) = (45 : Int32) then 1 else 0) ∧ Ch s len fs sc sg d (p + r + 1 + r' + 1) (k + 1)
theorem l12_0 (f : Nat) (mat : Int32) : s_Mod_readInput_L12 F minp (i32 len) (f + 1) (0 : Int32) mthr mnow mold mols mat = some ((0 : Int32), mthr, mnow, mold, mols, mat) := by
  simp only [s_Mod_readInput_L12]
  rw [if_pos trivial]
theorem l12_no (f : Nat) {p q : Int32} (h : s_Mod_entry F mthr mnow mold mols minp (i32 len) p false = some ((-1 : Int32), mthr, mnow, mold, mols, q)) :
    s_Mod_readInput_L12 F minp (i32 len) (f + 1) (1 : Int32) mthr mnow mold mols p = some ((0 : Int32), mthr, mnow, mold, mols, q) := by
  simp only [s_Mod_readInput_L12]
  rw [if_neg (by decide), h]
  simp only [Option.bind_some]
  rw [if_pos (by decide), if_pos trivial]
theorem l12_go (hl : len ≤ 60) (f : Nat) {p : Int32} {q : Nat} (hq : q < len) (h : s_Mod_entry F mthr mnow mold mols minp (i32 len) p false = some ((1 : Int32), mthr, mnow, mold, mols, i32 q)) (hs : minp q = (59 : Int32)) :
    s_Mod_readInput_L12 F minp (i32 len) (f + 1) (1 : Int32) mthr mnow mold mols p = s_Mod_readInput_L12 F minp (i32 len) f (1 : Int32) mthr mnow mold mols (i32 (q + 1)) := by
  simp only [s_Mod_readInput_L12]
  rw [if_neg (by decide), h]
  simp only [Option.bind_some]
  rw [if_neg (by decide), if_neg (by decide), m_here hl q (by omega), if_pos hq]
  simp only [Option.bind_some]
  rw [if_pos hs, if_neg (by decide), i32_s]
theorem l12_bad (hl : len ≤ 60) (f : Nat) {p : Int32} {q : Nat} (hq : q < len) (h : s_Mod_entry F mthr mnow mold mols minp (i32 len) p false = some ((1 : Int32), mthr, mnow, mold, mols, i32 q)) (hs : ¬ minp q = (59 : Int32)) :
    s_Mod_readInput_L12 F minp (i32 len) (f + 2) (1 : Int32) mthr mnow mold mols p = some ((0 : Int32), mthr, mnow, mold, mols, i32 q) := by
  rw [show f + 2 = (f + 1) + 1 by omega]
  rw [s_Mod_readInput_L12.eq_def]
  simp only []
  rw [if_neg (by decide), h]
  simp only [Option.bind_some]
  rw [if_neg (by decide), if_neg (by decide), m_here hl q (by omega), if_pos hq]
  simp only [Option.bind_some]
  rw [if_neg hs, if_pos trivial, if_neg (n_eq (by omega) (by omega) (by omega)), l12_0]
theorem l12_end (hl : len ≤ 60) (f : Nat) {p : Int32} (h : s_Mod_entry F mthr mnow mold mols minp (i32 len) p false = some ((1 : Int32), mthr, mnow, mold, mols, i32 len)) :
    s_Mod_readInput_L12 F minp (i32 len) (f + 2) (1 : Int32) mthr mnow mold mols p = some ((0 : Int32), mthr, mnow, mold, mols, i32 61) := by
  rw [show f + 2 = (f + 1) + 1 by omega]
  rw [s_Mod_readInput_L12.eq_def]
  simp only []
  rw [if_neg (by decide), h]
  simp only [Option.bind_some]
  rw [if_neg (by decide), if_neg (by decide), m_here hl len (by omega), if_neg (by omega)]
  simp only [Option.bind_some]
  rw [if_neg (by decide), if_pos trivial, if_pos trivial]
  exact l12_0 _ _
end ENT
end PARSE
