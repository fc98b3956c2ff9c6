/-! numbers of the machine that are small -/
abbrev i32 (k : Nat) : Int32 := Int32.ofNat k
theorem i32_ti {k : Nat} (h : k < 2147483648) : (i32 k).toInt = (k : Int) := Int32.toInt_ofNat_of_lt (by omega)
theorem i32_s (k : Nat) : i32 k + (1 : Int32) = i32 (k + 1) := (Int32.ofNat_add k 1).symm
theorem i32_nc {k : Nat} (h : k < 2147483648) : (i32 k).toNatClampNeg = k := Int32.toNatClampNeg_ofNat_of_lt (by omega)
theorem i32_le {a b : Nat} (ha : a < 2147483648) (hb : b < 2147483648) : i32 a ≤ i32 b ↔ a ≤ b := by
  rw [Int32.le_iff_toInt_le, i32_ti ha, i32_ti hb]; omega
theorem i32_lt {a b : Nat} (ha : a < 2147483648) (hb : b < 2147483648) : i32 a < i32 b ↔ a < b := by
  rw [Int32.lt_iff_toInt_lt, i32_ti ha, i32_ti hb]; omega
theorem i32_eq {a b : Nat} (ha : a < 2147483648) (hb : b < 2147483648) : i32 a = i32 b ↔ a = b := by
  rw [← Int32.toInt_inj, i32_ti ha, i32_ti hb]; omega
theorem i32_neg {a : Nat} (ha : a < 2147483648) : ¬ (i32 a < 0) := by
  rw [Int32.lt_iff_toInt_lt, i32_ti ha, Int32.toInt_zero]; omega
theorem i32_m1 {a : Nat} (ha : a < 2147483648) : ¬ (i32 a = (-1 : Int32)) := by
  rw [← Int32.toInt_inj, i32_ti ha]
  have : (-1 : Int32).toInt = -1 := by decide
  omega
theorem i32_0 {a : Nat} (ha : a < 2147483648) : i32 a = 0 ↔ a = 0 := i32_eq (b := 0) ha (by omega)
theorem i32_nn {a : Nat} (ha : a < 2147483648) : 0 ≤ i32 a := (i32_le (a := 0) (by omega) ha).2 (by omega)
theorem n_le {a b : Nat} (ha : a < 2147483648) (h : b < a) : ¬ (i32 a ≤ i32 b) := fun k => by
  have := (i32_le ha (by omega)).1 k
  omega
theorem y_le {a b : Nat} (hb : b < 2147483648) (h : a ≤ b) : i32 a ≤ i32 b := (i32_le (by omega) hb).2 h
theorem n_lt {a b : Nat} (ha : a < 2147483648) (h : b ≤ a) : ¬ (i32 a < i32 b) := fun k => by
  have := (i32_lt ha (by omega)).1 k
  omega
theorem y_lt {a b : Nat} (hb : b < 2147483648) (h : a < b) : i32 a < i32 b := (i32_lt (by omega) hb).2 h
theorem n_eq {a b : Nat} (ha : a < 2147483648) (hb : b < 2147483648) (h : a ≠ b) : ¬ (i32 a = i32 b) := fun k => h ((i32_eq ha hb).1 k)
theorem i32_add (a b : Nat) : i32 a + i32 b = i32 (a + b) := (Int32.ofNat_add a b).symm
theorem i32_mul (a b : Nat) : i32 a * i32 b = i32 (a * b) := (Int32.ofNat_mul a b).symm
theorem i32_sub {a b : Nat} (h : b ≤ a) : i32 a - i32 b = i32 (a - b) := by
  have e : i32 (a - b) + i32 b = i32 a := by rw [i32_add]; congr 1; omega
  rw [← e]; exact Int32.add_sub_cancel _ _
theorem i32_of {x : Int32} (h : 0 ≤ x) : ∃ k : Nat, k < 2147483648 ∧ x = i32 k := by
  rw [Int32.le_iff_toInt_le, Int32.toInt_zero] at h
  have h2 := Int32.toInt_lt x
  refine ⟨x.toInt.toNat, by omega, ?_⟩
  rw [← Int32.toInt_inj, i32_ti (by omega)]; omega
theorem bm {x : Int} (h1 : -2147483648 ≤ x) (h2 : x < 2147483648) : x.bmod (2 ^ 32) = x := by
  rw [Int.bmod_def]
  have e : (((2 : Nat) ^ 32 : Nat) : Int) = 4294967296 := by decide
  rw [e]
  split <;> omega
theorem ti_add {a b : Int32} (h1 : -2147483648 ≤ a.toInt + b.toInt) (h2 : a.toInt + b.toInt < 2147483648) : (a + b).toInt = a.toInt + b.toInt := by
  rw [Int32.toInt_add]; exact bm h1 h2
theorem ti_sub {a b : Int32} (h1 : -2147483648 ≤ a.toInt - b.toInt) (h2 : a.toInt - b.toInt < 2147483648) : (a - b).toInt = a.toInt - b.toInt := by
  rw [Int32.toInt_sub]; exact bm h1 h2
theorem ti_mul {a b : Int32} (h1 : -2147483648 ≤ a.toInt * b.toInt) (h2 : a.toInt * b.toInt < 2147483648) : (a * b).toInt = a.toInt * b.toInt := by
  rw [Int32.toInt_mul]; exact bm h1 h2
/-- places of arrays -/
theorem aget_i {α : Type} {n : Nat} (f : Nat → α) {k : Nat} (h : k < n) (hn : n < 2147483648) : aget n f (i32 k) = some (f k) := by
  unfold aget
  rw [i32_nc (by omega), if_neg]
  intro h2
  rcases h2 with h2 | h2
  · exact i32_neg (by omega) h2
  · omega
theorem aset_i {α : Type} {n : Nat} (f : Nat → α) {k : Nat} (v : α) (h : k < n) (hn : n < 2147483648) :
    aset n f (i32 k) v = some (fun j => if j = k then v else f j) := by
  unfold aset
  rw [i32_nc (by omega), if_neg]
  intro h2
  rcases h2 with h2 | h2
  · exact i32_neg (by omega) h2
  · omega
theorem rget {n : Nat} (f : Nat → Int32) {k : Nat} (h : k < n) (hn : n < 2147483648) : s_Row_get n f (i32 k) = f k := by
  unfold s_Row_get
  rw [if_neg (i32_neg (by omega)), if_neg (n_le hn h), i32_nc (by omega)]
theorem rget_out {n : Nat} (f : Nat → Int32) {k : Nat} (h : n ≤ k) (hk : k < 2147483648) : s_Row_get n f (i32 k) = 0 := by
  unfold s_Row_get
  rw [if_neg (i32_neg (by omega)), if_pos (y_le hk h)]
theorem rset {n : Nat} (f : Nat → Int32) {k : Nat} (v : Int32) (h : k < n) (hn : n < 2147483648) : s_Row_set n f (i32 k) v = fun j => if j = k then v else f j := by
  unfold s_Row_set
  rw [if_neg (i32_neg (by omega)), if_neg (n_le hn h), i32_nc (by omega)]
  rfl
theorem tix {a b : Nat} : i32 a * (16 : Int32) + i32 b = i32 (a * 16 + b) := by
  have : (16 : Int32) = i32 16 := rfl
  rw [this, i32_mul, i32_add]
theorem tget (tb : Int32) (f : Nat → Int32) {a b : Nat} (ha : a < 16) (hb : b < 16) : s_Tab_get tb f (i32 a) (i32 b) = f (a * 16 + b) := by
  unfold s_Tab_get
  rw [tix, if_neg (i32_neg (by omega))]
  rw [if_neg (show ¬ ((256 : Int32) ≤ i32 (a * 16 + b)) from n_le (a := 256) (by omega) (by omega)), i32_nc (by omega)]
theorem tset (f : Nat → Int32) {a b : Nat} (v : Int32) (ha : a < 16) (hb : b < 16) :
    s_Tab_set f (i32 a) (i32 b) v = fun j => if j = a * 16 + b then v else f j := by
  unfold s_Tab_set
  rw [tix, if_neg (i32_neg (by omega))]
  rw [if_neg (show ¬ ((256 : Int32) ≤ i32 (a * 16 + b)) from n_le (a := 256) (by omega) (by omega)), i32_nc (by omega)]
  rfl
/-! loops -/
/-- a loop that carries a state -/
theorem lp {S O : Type} (g : Nat → Nat → S → Option O) (n : Nat) (I : Nat → S → Prop) (out : S → O)
    (stop : ∀ k s, I n s → g (k + 1) n s = some (out s))
    (step : ∀ k i s, i < n → I i s → ∃ s', I (i + 1) s' ∧ g (k + 1) i s = g k (i + 1) s') :
    ∀ d i k s, i + d = n → d < k → I i s → ∃ s', I n s' ∧ g k i s = some (out s') := by
  intro d
  induction d with
  | zero =>
    intro i k s h hk hi
    obtain ⟨k, rfl⟩ : ∃ j, k = j + 1 := ⟨k - 1, by omega⟩
    have : i = n := by omega
    subst this
    exact ⟨s, hi, stop k s hi⟩
  | succ d ih =>
    intro i k s h hk hi
    obtain ⟨k, rfl⟩ : ∃ j, k = j + 1 := ⟨k - 1, by omega⟩
    obtain ⟨s', h1, h2⟩ := step k i s (by omega) hi
    obtain ⟨s'', h3, h4⟩ := ih (i + 1) k s' (by omega) (by omega) h1
    exact ⟨s'', h3, by rw [h2, h4]⟩
/-- a loop that looks for the first place -/
theorem ff {R : Type} (g : Nat → Nat → Option R) (n : Nat) (p : Nat → Prop) (yes : Nat → R) (no : R)
    (stop : ∀ k, g (k + 1) n = some no)
    (hit : ∀ k i, i < n → p i → g (k + 1) i = some (yes i))
    (step : ∀ k i, i < n → ¬ p i → g (k + 1) i = g k (i + 1)) :
    ∀ d i k, i + d = n → d < k →
      (∃ j, i ≤ j ∧ j < n ∧ p j ∧ (∀ x, i ≤ x → x < j → ¬ p x) ∧ g k i = some (yes j)) ∨ ((∀ j, i ≤ j → j < n → ¬ p j) ∧ g k i = some no) := by
  intro d
  induction d with
  | zero =>
    intro i k h hk
    obtain ⟨k, rfl⟩ : ∃ j, k = j + 1 := ⟨k - 1, by omega⟩
    have : i = n := by omega
    subst this
    exact Or.inr ⟨fun j h1 h2 => by omega, stop k⟩
  | succ d ih =>
    intro i k h hk
    obtain ⟨k, rfl⟩ : ∃ j, k = j + 1 := ⟨k - 1, by omega⟩
    by_cases c : p i
    · exact Or.inl ⟨i, Nat.le_refl _, by omega, c, fun x h1 h2 => by omega, hit k i (by omega) c⟩
    · rw [step k i (by omega) c]
      rcases ih (i + 1) k (by omega) (by omega) with ⟨j, h1, h2, h3, h4, h5⟩ | ⟨h1, h2⟩
      · refine Or.inl ⟨j, by omega, h2, h3, ?_, h5⟩
        intro x hx1 hx2
        by_cases e : x = i
        · subst e; exact c
        · exact h4 x (by omega) hx2
      · refine Or.inr ⟨?_, h2⟩
        intro j hj1 hj2
        by_cases e : j = i
        · subst e; exact c
        · exact h1 j (by omega) hj2
/-- the same, where only the answer counts -/
theorem ffB {R : Type} (g : Nat → Nat → Option R) (n : Nat) (p : Nat → Prop) (yes : R) (no : R)
    (stop : ∀ k, g (k + 1) n = some no)
    (hit : ∀ k i, i < n → p i → g (k + 1) i = some yes)
    (step : ∀ k i, i < n → ¬ p i → g (k + 1) i = g k (i + 1)) (i k : Nat) (hi : i ≤ n) (hk : n - i < k) :
      ((∃ j, i ≤ j ∧ j < n ∧ p j) ∧ g k i = some yes) ∨ ((∀ j, i ≤ j → j < n → ¬ p j) ∧ g k i = some no) := by
  rcases ff g n p (fun _ => yes) no stop hit step (n - i) i k (by omega) hk with ⟨j, h1, h2, h3, _, h5⟩ | h
  · exact Or.inl ⟨⟨j, h1, h2, h3⟩, h5⟩
  · exact Or.inr h
theorem dec_t {p : Prop} [h : Decidable p] (hp : p) : decide p = true := decide_eq_true hp
