/-! the changes of an object -/
/-- what can be undone: k changes out of c, whose states have the hashes T -/
def HX (hp : Nat → PlanS) (hnx hkp : Int32) (c k : Nat) (T : Nat → Int64) : Prop :=
  ∃ q, q < 12 ∧ k ≤ 12 ∧ k ≤ c ∧ hnx = i32 q ∧ hkp = i32 k ∧ ∀ j, j < k → ∃ g, PR (hp ((q + 12 - k + j) % 12)) g ∧ hS g = T (c - k + j)
def HS (S : TopS) (c k : Nat) (T : Nat → Int64) : Prop := HX S.2.2.2.2.2.2.1.1 S.2.2.2.2.2.2.1.2.1 S.2.2.2.2.2.2.1.2.2 c k T
def tUp (T : Nat → Int64) (c : Nat) (x : Int64) : Nat → Int64 := fun i => if i = c then x else T i
theorem hx_rem {pxs pys plo phi : Nat → Int32} {pn pm : Int32} {g : Nat → Int32} {hp : Nat → PlanS} {hnx hkp : Int32} {c k : Nat} {T : Nat → Int64} (hP : PR (pxs, pys, plo, phi, pn, pm) g) (h : HX hp hnx hkp c k T) {F : Nat} (hF : 1000 ≤ F) :
    ∃ hp' hnx' hkp', s_Hist_remember F hp hnx hkp pxs pys plo phi pn pm = some (hp', hnx', hkp') ∧ HX hp' hnx' hkp' (c + 1) (min (k + 1) 12) (tUp T c (hS g)) := by
  obtain ⟨q, hq, hk, hc, rfl, rfl, hj⟩ := h
  obtain ⟨v1, v2, v3, v4, c1, c2, c3⟩ := c_pcopy F (by omega) (hp q).1 (hp q).2.1 (hp q).2.2.1 (hp q).2.2.2.1 pxs pys plo phi pn pm
  have hP' : PR (v1, v2, v3, v4, pn, pm) g := pr_copy hP c2 c3
  have en : (if (12 : Int32) ≤ i32 q + (1 : Int32) then (0 : Int32) else i32 q + (1 : Int32)) = i32 ((q + 1) % 12) := by
    rw [i32_s]
    by_cases z : q = 11
    · subst z; rfl
    · rw [if_neg (show ¬ ((12 : Int32) ≤ i32 (q + 1)) from n_le (a := 12) (by omega) (by omega)), Nat.mod_eq_of_lt (by omega)]
  have ek : imin (i32 k + (1 : Int32)) 12 = i32 (min (k + 1) 12) := by
    rw [i32_s]
    exact imin_i (a := k + 1) (b := 12) (by omega) (by omega)
  refine ⟨va_up hp q (v1, v2, v3, v4, pn, pm), i32 ((q + 1) % 12), i32 (min (k + 1) 12), ?_, ?_⟩
  · unfold s_Hist_remember
    rw [if_neg (i32_neg (by omega)), if_neg (show ¬ ((12 : Int32) ≤ i32 q) from n_le (a := 12) (by omega) hq), i32_nc (show q < 2147483648 by omega), c1, en, ek]
    rfl
  · refine ⟨(q + 1) % 12, Nat.mod_lt _ (by omega), by omega, by omega, rfl, rfl, fun j hj9 => ?_⟩
    by_cases z : k = 12
    · subst z
      by_cases y : j = 11
      · subst y
        rw [show ((q + 1) % 12 + 12 - min (12 + 1) 12 + 11) % 12 = q by omega, va_up_self]
        refine ⟨g, hP', ?_⟩
        unfold tUp
        rw [if_pos (by omega)]
      · obtain ⟨g', e1, e2⟩ := hj (j + 1) (by omega)
        rw [show ((q + 1) % 12 + 12 - min (12 + 1) 12 + j) % 12 = (q + 12 - 12 + (j + 1)) % 12 by omega, va_up_ne _ _ (show (q + 12 - 12 + (j + 1)) % 12 ≠ q by omega)]
        refine ⟨g', e1, ?_⟩
        unfold tUp
        rw [if_neg (by omega), e2]
        congr 1; omega
    · have mk : min (k + 1) 12 = k + 1 := by omega
      rw [mk]
      rw [mk] at hj9
      by_cases y : j = k
      · subst y
        rw [show ((q + 1) % 12 + 12 - (j + 1) + j) % 12 = q by omega, va_up_self]
        refine ⟨g, hP', ?_⟩
        unfold tUp
        rw [if_pos (by omega)]
      · obtain ⟨g', e1, e2⟩ := hj j (by omega)
        rw [show ((q + 1) % 12 + 12 - (k + 1) + j) % 12 = (q + 12 - k + j) % 12 by omega, va_up_ne _ _ (show (q + 12 - k + j) % 12 ≠ q by omega)]
        refine ⟨g', e1, ?_⟩
        unfold tUp
        rw [if_neg (by omega), e2]
        congr 1; omega
theorem hx_back {hp : Nat → PlanS} {hnx hkp : Int32} {c k : Nat} {T : Nat → Int64} (h : HX hp hnx hkp c (k + 1) T) :
    ∃ q g, q < 12 ∧ k < 12 ∧ hkp = i32 (k + 1) ∧ HX hp (i32 q) (i32 k) (c - 1) k T ∧ (if hnx ≤ 0 then (11 : Int32) else hnx - (1 : Int32)) = i32 q ∧ PR (hp q) g ∧ hS g = T (c - 1) := by
  obtain ⟨q, hq, hk, hc, rfl, rfl, hj⟩ := h
  obtain ⟨g, e1, e2⟩ := hj k (by omega)
  rw [show (q + 12 - (k + 1) + k) % 12 = (q + 11) % 12 by omega] at e1
  rw [show c - (k + 1) + k = c - 1 by omega] at e2
  refine ⟨(q + 11) % 12, g, Nat.mod_lt _ (by omega), by omega, rfl, ⟨(q + 11) % 12, Nat.mod_lt _ (by omega), by omega, by omega, rfl, rfl, fun j hj9 => ?_⟩, ?_, e1, e2⟩
  · obtain ⟨g', f1, f2⟩ := hj j (by omega)
    rw [show ((q + 11) % 12 + 12 - k + j) % 12 = (q + 12 - (k + 1) + j) % 12 by omega]
    refine ⟨g', f1, ?_⟩
    rw [f2]
    congr 1; omega
  · by_cases z : q = 0
    · subst z; rfl
    · rw [if_neg (show ¬ (i32 q ≤ (0 : Int32)) from n_le (b := 0) (by omega) (by omega)), show i32 q - (1 : Int32) = i32 (q - 1) from i32_sub (a := q) (b := 1) (by omega), show (q + 11) % 12 = q - 1 by omega]
/-- what was saved, and the input's length, are the same -/
def Sv (S T : TopS) : Prop := T.2.2.2.2.1 = S.2.2.2.2.1 ∧ T.2.2.2.2.2.2.2 = S.2.2.2.2.2.2.2 ∧ T.2.2.2.2.2.1 = S.2.2.2.2.2.1
theorem Sv.rf (S : TopS) : Sv S S := ⟨rfl, rfl, rfl⟩
theorem Sv.tr {S T U : TopS} (h : Sv S T) (k : Sv T U) : Sv S U := ⟨k.1.trans h.1, k.2.1.trans h.2.1, k.2.2.trans h.2.2⟩
theorem ne_m1 {p : Nat} (hp : p < 2147483648) : ¬ i32 p = (-1 : Int32) := fun z => i32_neg hp (by rw [z]; decide)
section CHG
variable {F : Nat} {S : TopS} {g : Nat → Int32} {c k : Nat} {T : Nat → Int64}
theorem np_of {n m : Nat} {X Y : Nat → Int} {L H : Nat → Nat} (hM : MP n m X Y L H g) (hO : Ok n m X Y L H) : nP g = n ∧ nC g = m := by
  have h1 := hO.1
  have h2 := hO.2.1
  unfold nP nC
  rw [hM.1, hM.2.1, i32_nc (by omega), i32_nc (by omega)]
  exact ⟨rfl, rfl⟩
theorem j_of (h : J F S g) : ∃ n m X Y L H, CP n m X Y L H S.1.1 S.1.2.1 S.1.2.2.1 S.1.2.2.2.1 S.1.2.2.2.2.1 S.1.2.2.2.2.2 ∧ MP n m X Y L H g ∧ Ok n m X Y L H ∧ PR (S.1.1, S.1.2.1, S.1.2.2.1, S.1.2.2.2.1, S.1.2.2.2.2.1, S.1.2.2.2.2.2) g := by
  obtain ⟨⟨n, m, X, Y, L, H, hC, hM, hO⟩, -⟩ := h
  exact ⟨n, m, X, Y, L, H, hC, hM, hO, n, m, X, Y, L, H, hC, hM, hO⟩
theorem co_0 {n m : Nat} {X Y : Nat → Int} {L H : Nat → Nat} (hC : CP n m X Y L H S.1.1 S.1.2.1 S.1.2.2.1 S.1.2.2.2.1 S.1.2.2.2.2.1 S.1.2.2.2.2.2) (hO : Ok n m X Y L H) {i : Nat} (hi : i < n) {P : Nat} (hP : P < 101) (h : X i = P) : s_h_coordinate F S (i32 i) (0 : Int32) = some (i32 P, S) := by
  have hn := hO.1
  unfold s_h_coordinate s_Top_coordinate
  rw [hC.1, c_rpY hn hi]
  simp only [Sum.elim_inr]
  rw [show s_Top_requireBit 0 = .inr () from rfl]
  simp only [Sum.elim_inr]
  rw [if_pos trivial]
  simp only [Sum.elim_inr]
  have : s_Plan_xOf S.1.1 (i32 i) = i32 P := by
    unfold s_Plan_xOf
    refine Int32.toInt_inj.mp ?_
    rw [(c_rx hC hO hi).1, h, i32_ti (by omega)]
  rw [this]
theorem co_1 {n m : Nat} {X Y : Nat → Int} {L H : Nat → Nat} (hC : CP n m X Y L H S.1.1 S.1.2.1 S.1.2.2.1 S.1.2.2.2.1 S.1.2.2.2.2.1 S.1.2.2.2.2.2) (hO : Ok n m X Y L H) {i : Nat} (hi : i < n) {P : Nat} (hP : P < 101) (h : Y i = P) : s_h_coordinate F S (i32 i) (1 : Int32) = some (i32 P, S) := by
  have hn := hO.1
  unfold s_h_coordinate s_Top_coordinate
  rw [hC.1, c_rpY hn hi]
  simp only [Sum.elim_inr]
  rw [show s_Top_requireBit 1 = .inr () from rfl]
  simp only [Sum.elim_inr]
  rw [if_neg (by decide)]
  simp only [Sum.elim_inr]
  have : s_Plan_yOf S.1.2.1 (i32 i) = i32 P := by
    unfold s_Plan_yOf
    refine Int32.toInt_inj.mp ?_
    rw [(c_ry hC hO hi).1, h, i32_ti (by omega)]
  rw [this]
theorem pos_ok {P Q : Nat} (hP : P < 101) (hQ : Q < 101) : s_Top_requirePosition (i32 P) (i32 Q) = .inr () := by
  unfold s_Top_requirePosition
  rw [c_isco, c_isco, if_neg (bI_t ⟨P, hP, rfl⟩), if_neg (bI_t ⟨Q, hQ, rfl⟩)]
theorem sel {α : Type} {E c1 : String} {x y : α} (h : E = c1) : (if E = c1 then x else y) = x := if_pos h
/-- addPoint -/
theorem x_point (h : J F S g) (hx : HS S c k T) (hF : 1000 ≤ F) {P Q : Nat} (hP : P < 101) (hQ : Q < 101) : ∃ v S', s_h_point F S (i32 P) (i32 Q) = some (v, S') ∧ Sv S S' ∧
    ((v = i32 (nP g) ∧ i_pointCount S' = i32 (nP g + 1) ∧ s_h_coordinate F S' (i32 (nP g)) 0 = some (i32 P, S') ∧ s_h_coordinate F S' (i32 (nP g)) 1 = some (i32 Q, S') ∧ ∃ g', J F S' g' ∧ HS S' (c + 1) (min (k + 1) 12) (tUp T c (hS g))) ∨
      (S' = S ∧ (v = (-1003 : Int32) ∨ (v = (-1002 : Int32) ∧ nP g = 16)))) := by
  obtain ⟨n, m, X, Y, L, H, hC, hM, hO, hR⟩ := j_of h
  have hn := hO.1
  obtain ⟨en, em⟩ := np_of hM hO
  rw [en]
  have r1 := pos_ok hP hQ
  by_cases n16 : n = 16
  · refine ⟨(-1002 : Int32), S, ?_, Sv.rf S, Or.inr ⟨rfl, Or.inr ⟨rfl, n16⟩⟩⟩
    have top : s_Top_addPoint F S.1.1 S.1.2.1 S.1.2.2.1 S.1.2.2.2.1 S.1.2.2.2.2.1 S.1.2.2.2.2.2 S.2.1.1 S.2.1.2.1 S.2.1.2.2.1 S.2.1.2.2.2.1 S.2.1.2.2.2.2.1 S.2.1.2.2.2.2.2.1 S.2.1.2.2.2.2.2.2.1 S.2.1.2.2.2.2.2.2.2.1 S.2.2.2.2.2.2.1.1 S.2.2.2.2.2.2.1.2.1 S.2.2.2.2.2.2.1.2.2 (i32 P) (i32 Q) = some (.inl "java/lang/IllegalStateException") := by
      unfold s_Top_addPoint
      rw [r1]; simp only [Sum.elim_inr]
      unfold s_Top_requireNewPoint
      rw [hC.1, if_neg (show ¬ (s_Plan_points (i32 n) < (16 : Int32)) from n_lt (b := 16) (by omega) (by omega))]
      rfl
    unfold s_h_point
    rw [top]; simp only [Option.bind_some, Sum.elim_inl]
    rw [if_neg (by decide), if_pos trivial]
  · have adm := c_admP hC hO (F := F) (by omega) (i32_r hP) (i32_r hQ)
    have hlt : s_Plan_points (i32 n) < (16 : Int32) := y_lt (b := 16) (by omega) (by omega)
    by_cases nb : Bar n m X Y L H P Q
    · refine ⟨(-1003 : Int32), S, ?_, Sv.rf S, Or.inr ⟨rfl, Or.inl rfl⟩⟩
      have top : s_Top_addPoint F S.1.1 S.1.2.1 S.1.2.2.1 S.1.2.2.2.1 S.1.2.2.2.2.1 S.1.2.2.2.2.2 S.2.1.1 S.2.1.2.1 S.2.1.2.2.1 S.2.1.2.2.2.1 S.2.1.2.2.2.2.1 S.2.1.2.2.2.2.2.1 S.2.1.2.2.2.2.2.2.1 S.2.1.2.2.2.2.2.2.2.1 S.2.2.2.2.2.2.1.1 S.2.2.2.2.2.2.1.2.1 S.2.2.2.2.2.2.1.2.2 (i32 P) (i32 Q) = some (.inl "java/lang/UnsupportedOperationException") := by
        unfold s_Top_addPoint
        rw [r1]; simp only [Sum.elim_inr]
        unfold s_Top_requireNewPoint
        rw [adm]; simp only [Option.bind_some]
        rw [hC.1, if_pos hlt, if_pos (bI_f (fun z => z nb))]
        rfl
      unfold s_h_point
      rw [top]; simp only [Option.bind_some, Sum.elim_inl]
      rw [if_neg (by decide), if_neg (by decide), if_pos trivial]
    · have r2 : s_Top_requireNewPoint F S.1.1 S.1.2.1 S.1.2.2.1 S.1.2.2.2.1 S.1.2.2.2.2.1 S.1.2.2.2.2.2 (i32 P) (i32 Q) = some (.inr ()) := by
        unfold s_Top_requireNewPoint
        rw [adm]; simp only [Option.bind_some]
        rw [hC.1, if_pos hlt, if_neg (bI_t nb)]
      obtain ⟨hp', hnx', hkp', g1, g3⟩ := hx_rem hR hx hF
      obtain ⟨c1, c2, v, mn', s1, s2, s3, c3⟩ := pl_add hC hM hO (by omega) hP hQ nb
      obtain ⟨lf', th', ow', lk', el', eh', co', hu', ne', nt', nh', d⟩ := draw_ok c1 c3 c2 hF S.2.1.1 S.2.1.2.1 S.2.1.2.2.1 S.2.1.2.2.2.1 S.2.1.2.2.2.2.1 S.2.1.2.2.2.2.2.1 S.2.1.2.2.2.2.2.2.1 S.2.1.2.2.2.2.2.2.2.1
      have e9 : s_Plan_points (s_Plan_appendPoint S.1.1 S.1.2.1 S.1.2.2.2.2.1 (i32 P) (i32 Q)).2.2 - (1 : Int32) = i32 n := by
        show S.1.2.2.2.2.1 + (1 : Int32) - (1 : Int32) = i32 n
        rw [hC.1]; exact Int32.add_sub_cancel _ _
      have top : s_Top_addPoint F S.1.1 S.1.2.1 S.1.2.2.1 S.1.2.2.2.1 S.1.2.2.2.2.1 S.1.2.2.2.2.2 S.2.1.1 S.2.1.2.1 S.2.1.2.2.1 S.2.1.2.2.2.1 S.2.1.2.2.2.2.1 S.2.1.2.2.2.2.2.1 S.2.1.2.2.2.2.2.2.1 S.2.1.2.2.2.2.2.2.2.1 S.2.2.2.2.2.2.1.1 S.2.2.2.2.2.2.1.2.1 S.2.2.2.2.2.2.1.2.2 (i32 P) (i32 Q) = some (.inr (i32 n, (s_Plan_appendPoint S.1.1 S.1.2.1 S.1.2.2.2.2.1 (i32 P) (i32 Q)).1, (s_Plan_appendPoint S.1.1 S.1.2.1 S.1.2.2.2.2.1 (i32 P) (i32 Q)).2.1, (s_Plan_appendPoint S.1.1 S.1.2.1 S.1.2.2.2.2.1 (i32 P) (i32 Q)).2.2, lf', th', ow', lk', el', eh', co', hu', ne', nt', nh', hp', hnx', hkp')) := by
        unfold s_Top_addPoint
        rw [r1]; simp only [Sum.elim_inr]
        rw [r2]; simp only [Option.bind_some, Sum.elim_inr]
        rw [g1]; simp only [Option.bind_some]
        rw [d]; simp only [Option.bind_some]
        rw [e9]
      refine ⟨i32 n, (((s_Plan_appendPoint S.1.1 S.1.2.1 S.1.2.2.2.2.1 (i32 P) (i32 Q)).1, (s_Plan_appendPoint S.1.1 S.1.2.1 S.1.2.2.2.2.1 (i32 P) (i32 Q)).2.1, S.1.2.2.1, S.1.2.2.2.1, (s_Plan_appendPoint S.1.1 S.1.2.1 S.1.2.2.2.2.1 (i32 P) (i32 Q)).2.2, S.1.2.2.2.2.2), (lf', th', ow', lk', el', eh', co', hu', ne', nt', nh'), S.2.2.1, S.2.2.2.1, S.2.2.2.2.1, S.2.2.2.2.2.1, (hp', hnx', hkp'), S.2.2.2.2.2.2.2), ?_, ⟨rfl, rfl, rfl⟩, Or.inl ⟨rfl, c1.1, ?_, ?_, mn', ⟨⟨n + 1, m, _, _, L, H, c1, c3, c2⟩, Or.inl ⟨_, _, _, _, _, _, _, _, d⟩⟩, g3⟩⟩
      · unfold s_h_point
        rw [top]; rfl
      · exact co_0 c1 c2 (by omega) hP (pX_s X n P)
      · exact co_1 c1 c2 (by omega) hQ (pX_s Y n Q)
/-- removePoint -/
theorem x_remove (h : J F S g) (hx : HS S c k T) (hF : 1000 ≤ F) {a : Nat} (ha : a ≤ nP g) : ∃ v S', s_h_remove F S (i32 a) = some (v, S') ∧ Sv S S' ∧
    ((v = i32 (nP g - 1) ∧ a < nP g ∧ i_pointCount S' = i32 (nP g - 1) ∧ ∃ g', J F S' g' ∧ HS S' (c + 1) (min (k + 1) 12) (tUp T c (hS g))) ∨
      (S' = S ∧ ((v = (-1001 : Int32) ∧ a = nP g) ∨ v = (-1002 : Int32)))) := by
  obtain ⟨n, m, X, Y, L, H, hC, hM, hO, hR⟩ := j_of h
  have hn := hO.1
  obtain ⟨en, em⟩ := np_of hM hO
  rw [en] at ha ⊢
  by_cases z : a = n
  · refine ⟨(-1001 : Int32), S, ?_, Sv.rf S, Or.inr ⟨rfl, Or.inl ⟨rfl, z⟩⟩⟩
    have top : s_Top_removePoint F S.1.1 S.1.2.1 S.1.2.2.1 S.1.2.2.2.1 S.1.2.2.2.2.1 S.1.2.2.2.2.2 S.2.1.1 S.2.1.2.1 S.2.1.2.2.1 S.2.1.2.2.2.1 S.2.1.2.2.2.2.1 S.2.1.2.2.2.2.2.1 S.2.1.2.2.2.2.2.2.1 S.2.1.2.2.2.2.2.2.2.1 S.2.2.2.2.2.2.1.1 S.2.2.2.2.2.2.1.2.1 S.2.2.2.2.2.2.1.2.2 (i32 a) = some (.inl "java/lang/IndexOutOfBoundsException") := by
      unfold s_Top_removePoint
      rw [hC.1, c_rpN hn (fun ⟨b, hb, e⟩ => by have := (i32_eq (by omega) (by omega)).1 e; omega)]; rfl
    unfold s_h_remove
    rw [top]; simp only [Option.bind_some, Sum.elim_inl]
    rw [if_pos trivial]
  have ha : a < n := by omega
  have rp : s_Top_requirePoint S.1.2.2.2.2.1 (i32 a) = .inr () := by rw [hC.1]; exact c_rpY hn ha
  rcases q_loose hC hM hO (F := F) (by omega) ha with ⟨hl, r1, r2⟩ | ⟨r1, r2⟩
  · obtain ⟨hp', hnx', hkp', g1, g3⟩ := hx_rem hR hx hF
    obtain ⟨v1, v2, v3, v4, s1, c1⟩ := c_drop hC hO (F := F) (by omega) ha
    obtain ⟨mn', s2, c3⟩ := m_drop hM hO (F := F) (by omega) ha
    have c2 := ok_drop hO ha hl (X' := fun i => X (sh a i)) (Y' := fun i => Y (sh a i)) (L' := fun c => dn a (L c)) (H' := fun c => dn a (H c)) (fun i _ => ⟨rfl, rfl⟩) (fun c _ => ⟨rfl, rfl⟩)
    obtain ⟨lf', th', ow', lk', el', eh', co', hu', ne', nt', nh', d⟩ := draw_ok c1 c3 c2 hF S.2.1.1 S.2.1.2.1 S.2.1.2.2.1 S.2.1.2.2.2.1 S.2.1.2.2.2.2.1 S.2.1.2.2.2.2.2.1 S.2.1.2.2.2.2.2.2.1 S.2.1.2.2.2.2.2.2.2.1
    have top : s_Top_removePoint F S.1.1 S.1.2.1 S.1.2.2.1 S.1.2.2.2.1 S.1.2.2.2.2.1 S.1.2.2.2.2.2 S.2.1.1 S.2.1.2.1 S.2.1.2.2.1 S.2.1.2.2.2.1 S.2.1.2.2.2.2.1 S.2.1.2.2.2.2.2.1 S.2.1.2.2.2.2.2.2.1 S.2.1.2.2.2.2.2.2.2.1 S.2.2.2.2.2.2.1.1 S.2.2.2.2.2.2.1.2.1 S.2.2.2.2.2.2.1.2.2 (i32 a) = some (.inr (i32 (n - 1), v1, v2, v3, v4, i32 (n - 1), lf', th', ow', lk', el', eh', co', hu', ne', nt', nh', hp', hnx', hkp')) := by
      unfold s_Top_removePoint
      rw [rp]; simp only [Sum.elim_inr]
      rw [r1]; simp only [Option.bind_some, Sum.elim_inr]
      rw [g1]; simp only [Option.bind_some]
      rw [s1]; simp only [Option.bind_some]
      rw [d]; rfl
    refine ⟨i32 (n - 1), ((v1, v2, v3, v4, i32 (n - 1), S.1.2.2.2.2.2), (lf', th', ow', lk', el', eh', co', hu', ne', nt', nh'), S.2.2.1, S.2.2.2.1, S.2.2.2.2.1, S.2.2.2.2.2.1, (hp', hnx', hkp'), S.2.2.2.2.2.2.2), ?_, ⟨rfl, rfl, rfl⟩, Or.inl ⟨rfl, ha, rfl, mn', ⟨⟨n - 1, m, _, _, _, _, c1, c3, c2⟩, Or.inl ⟨_, _, _, _, _, _, _, _, d⟩⟩, g3⟩⟩
    unfold s_h_remove
    rw [top]; rfl
  · refine ⟨(-1002 : Int32), S, ?_, Sv.rf S, Or.inr ⟨rfl, Or.inr rfl⟩⟩
    have top : s_Top_removePoint F S.1.1 S.1.2.1 S.1.2.2.1 S.1.2.2.2.1 S.1.2.2.2.2.1 S.1.2.2.2.2.2 S.2.1.1 S.2.1.2.1 S.2.1.2.2.1 S.2.1.2.2.2.1 S.2.1.2.2.2.2.1 S.2.1.2.2.2.2.2.1 S.2.1.2.2.2.2.2.2.1 S.2.1.2.2.2.2.2.2.2.1 S.2.2.2.2.2.2.1.1 S.2.2.2.2.2.2.1.2.1 S.2.2.2.2.2.2.1.2.2 (i32 a) = some (.inl "java/lang/IllegalStateException") := by
      unfold s_Top_removePoint
      rw [rp]; simp only [Sum.elim_inr]
      rw [r1]; rfl
    unfold s_h_remove
    rw [top]; simp only [Option.bind_some, Sum.elim_inl]
    rw [if_neg (by decide), if_pos trivial]
/-- movePoint -/
theorem x_move (h : J F S g) (hx : HS S c k T) (hF : 1000 ≤ F) {a P Q : Nat} (ha : a ≤ nP g) (hP : P < 101) (hQ : Q < 101) : ∃ v S', s_h_move F S (i32 a) (i32 P) (i32 Q) = some (v, S') ∧ Sv S S' ∧
    ((a < nP g ∧ (((s_h_coordinate F S (i32 a) 0 = some (i32 P, S) ∧ s_h_coordinate F S (i32 a) 1 = some (i32 Q, S)) ∧ v = (0 : Int32)) ∨ (¬ (s_h_coordinate F S (i32 a) 0 = some (i32 P, S) ∧ s_h_coordinate F S (i32 a) 1 = some (i32 Q, S)) ∧ v = (1 : Int32))) ∧ s_h_coordinate F S' (i32 a) 0 = some (i32 P, S') ∧ s_h_coordinate F S' (i32 a) 1 = some (i32 Q, S') ∧ ∃ g', J F S' g' ∧ HS S' (c + 1) (min (k + 1) 12) (tUp T c (hS g))) ∨
      (S' = S ∧ ((v = (-1001 : Int32) ∧ a = nP g) ∨ v = (-1003 : Int32) ∨ v = (-1004 : Int32)))) := by
  obtain ⟨n, m, X, Y, L, H, hC, hM, hO, hR⟩ := j_of h
  have hn := hO.1
  have hm := hO.2.1
  obtain ⟨en, em⟩ := np_of hM hO
  rw [en] at ha ⊢
  by_cases z : a = n
  · refine ⟨(-1001 : Int32), S, ?_, Sv.rf S, Or.inr ⟨rfl, Or.inl ⟨rfl, z⟩⟩⟩
    have top : s_Top_movePoint F S.1.1 S.1.2.1 S.1.2.2.1 S.1.2.2.2.1 S.1.2.2.2.2.1 S.1.2.2.2.2.2 S.2.1.1 S.2.1.2.1 S.2.1.2.2.1 S.2.1.2.2.2.1 S.2.1.2.2.2.2.1 S.2.1.2.2.2.2.2.1 S.2.1.2.2.2.2.2.2.1 S.2.1.2.2.2.2.2.2.2.1 S.2.2.2.2.2.2.1.1 S.2.2.2.2.2.2.1.2.1 S.2.2.2.2.2.2.1.2.2 (i32 a) (i32 P) (i32 Q) = some (.inl "java/lang/IndexOutOfBoundsException") := by
      unfold s_Top_movePoint
      rw [hC.1, c_rpN hn (fun ⟨b, hb, e⟩ => by have := (i32_eq (by omega) (by omega)).1 e; omega)]; rfl
    unfold s_h_move
    rw [top]; simp only [Option.bind_some, Sum.elim_inl]
    rw [if_pos trivial]
  have ha : a < n := by omega
  have rp : s_Top_requirePoint S.1.2.2.2.2.1 (i32 a) = .inr () := by rw [hC.1]; exact c_rpY hn ha
  have r1 := pos_ok hP hQ
  have ix := i32_r hP
  have iy := i32_r hQ
  rcases q_loose hC hM hO (F := F) (by omega) ha with ⟨hl, l1, l2⟩ | ⟨l1, l2⟩
  case inr =>
    refine ⟨(-1003 : Int32), S, ?_, Sv.rf S, Or.inr ⟨rfl, Or.inr (Or.inl rfl)⟩⟩
    have top : s_Top_movePoint F S.1.1 S.1.2.1 S.1.2.2.1 S.1.2.2.2.1 S.1.2.2.2.2.1 S.1.2.2.2.2.2 S.2.1.1 S.2.1.2.1 S.2.1.2.2.1 S.2.1.2.2.2.1 S.2.1.2.2.2.2.1 S.2.1.2.2.2.2.2.1 S.2.1.2.2.2.2.2.2.1 S.2.1.2.2.2.2.2.2.2.1 S.2.2.2.2.2.2.1.1 S.2.2.2.2.2.2.1.2.1 S.2.2.2.2.2.2.1.2.2 (i32 a) (i32 P) (i32 Q) = some (.inl "java/lang/IllegalStateException") := by
      unfold s_Top_movePoint
      rw [rp]; simp only [Sum.elim_inr]
      rw [r1]; simp only [Sum.elim_inr]
      rw [l1]; rfl
    unfold s_h_move
    rw [top]; simp only [Option.bind_some, Sum.elim_inl]
    rw [if_neg (by decide), if_neg (by decide), if_pos trivial]
  obtain ⟨r, p1, p2⟩ := c_ptAt hC hO (F := F) (by omega) ix iy
  have cc := c_covC hC hO (F := F) (by omega) ix iy
  have here : (s_h_coordinate F S (i32 a) 0 = some (i32 P, S) ∧ s_h_coordinate F S (i32 a) 1 = some (i32 Q, S)) ↔ (X a = P ∧ Y a = Q) := by
    have bx := bx_r hO.2.2.1 ha
    obtain ⟨P', eP⟩ : ∃ P' : Nat, X a = P' := ⟨(X a).toNat, by omega⟩
    obtain ⟨Q', eQ⟩ : ∃ Q' : Nat, Y a = Q' := ⟨(Y a).toNat, by omega⟩
    rw [co_0 hC hO ha (P := P') (by omega) eP, co_1 hC hO ha (P := Q') (by omega) eQ, eP, eQ]
    constructor
    · rintro ⟨h1, h2⟩
      have h1 := congrArg Prod.fst (Option.some.inj h1)
      have h2 := congrArg Prod.fst (Option.some.inj h2)
      have h1 := (i32_eq (by omega) (by omega)).1 h1
      have h2 := (i32_eq (by omega) (by omega)).1 h2
      omega
    · rintro ⟨h1, h2⟩
      have h1 : P' = P := by omega
      have h2 : Q' = Q := by omega
      rw [h1, h2]; exact ⟨rfl, rfl⟩
  by_cases cov9 : ∃ c, c < m ∧ cov (pt X Y (L c)) (pt X Y (H c)) (P, Q, 1)
  · refine ⟨(-1004 : Int32), S, ?_, Sv.rf S, Or.inr ⟨rfl, Or.inr (Or.inr rfl)⟩⟩
    have top : s_Top_movePoint F S.1.1 S.1.2.1 S.1.2.2.1 S.1.2.2.2.1 S.1.2.2.2.2.1 S.1.2.2.2.2.2 S.2.1.1 S.2.1.2.1 S.2.1.2.2.1 S.2.1.2.2.2.1 S.2.1.2.2.2.2.1 S.2.1.2.2.2.2.2.1 S.2.1.2.2.2.2.2.2.1 S.2.1.2.2.2.2.2.2.2.1 S.2.2.2.2.2.2.1.1 S.2.2.2.2.2.2.1.2.1 S.2.2.2.2.2.2.1.2.2 (i32 a) (i32 P) (i32 Q) = some (.inl "java/lang/UnsupportedOperationException") := by
      unfold s_Top_movePoint
      rw [rp]; simp only [Sum.elim_inr]
      rw [r1]; simp only [Sum.elim_inr]
      rw [l1]; simp only [Option.bind_some, Sum.elim_inr]
      rw [p1]; simp only [Option.bind_some]
      rw [cc]; simp only [Option.bind_some]
      rw [if_neg (bI_t cov9)]
      by_cases q1 : r = (-1 : Int32)
      · rw [if_pos q1]
      · rw [if_neg q1]
        by_cases q2 : r = i32 a
        · rw [if_pos q2]
        · rw [if_neg q2]
    unfold s_h_move
    rw [top]; simp only [Option.bind_some, Sum.elim_inl]
    rw [if_neg (by decide), if_neg (by decide), if_neg (by decide), if_pos trivial]
  by_cases oth : ∃ p, p < n ∧ p ≠ a ∧ X p = P ∧ Y p = Q
  · refine ⟨(-1004 : Int32), S, ?_, Sv.rf S, Or.inr ⟨rfl, Or.inr (Or.inr rfl)⟩⟩
    obtain ⟨p, hp9, hpa, e1, e2⟩ := oth
    have er : r = i32 p := by
      rcases p2 with ⟨p9, y1, y2, y3, rfl⟩ | ⟨y, _⟩
      · rw [pt_one hO y1 hp9 (by rw [y2, e1]) (by rw [y3, e2])]
      · exact absurd ⟨e1, e2⟩ (y p hp9)
    have top : s_Top_movePoint F S.1.1 S.1.2.1 S.1.2.2.1 S.1.2.2.2.1 S.1.2.2.2.2.1 S.1.2.2.2.2.2 S.2.1.1 S.2.1.2.1 S.2.1.2.2.1 S.2.1.2.2.2.1 S.2.1.2.2.2.2.1 S.2.1.2.2.2.2.2.1 S.2.1.2.2.2.2.2.2.1 S.2.1.2.2.2.2.2.2.2.1 S.2.2.2.2.2.2.1.1 S.2.2.2.2.2.2.1.2.1 S.2.2.2.2.2.2.1.2.2 (i32 a) (i32 P) (i32 Q) = some (.inl "java/lang/UnsupportedOperationException") := by
      unfold s_Top_movePoint
      rw [rp]; simp only [Sum.elim_inr]
      rw [r1]; simp only [Sum.elim_inr]
      rw [l1]; simp only [Option.bind_some, Sum.elim_inr]
      rw [p1]; simp only [Option.bind_some]
      rw [er, if_neg (ne_m1 (by omega)), if_neg (n_eq (by omega) (by omega) hpa)]
    unfold s_h_move
    rw [top]; simp only [Option.bind_some, Sum.elim_inl]
    rw [if_neg (by decide), if_neg (by decide), if_neg (by decide), if_pos trivial]
  obtain ⟨hp', hnx', hkp', g1, g3⟩ := hx_rem hR hx hF
  obtain ⟨c1, c2, mn', s1, c3⟩ := pl_move hC hM hO ha hl hP hQ (fun p hp9 hpa e => oth ⟨p, hp9, hpa, e.1, e.2⟩) cov9
  obtain ⟨lf', th', ow', lk', el', eh', co', hu', ne', nt', nh', d⟩ := draw_ok c1 c3 c2 hF S.2.1.1 S.2.1.2.1 S.2.1.2.2.1 S.2.1.2.2.2.1 S.2.1.2.2.2.2.1 S.2.1.2.2.2.2.2.1 S.2.1.2.2.2.2.2.2.1 S.2.1.2.2.2.2.2.2.2.1
  have fin : ∀ b : Bool, (b = true ↔ ¬ (X a = P ∧ Y a = Q)) → s_Top_movePoint F S.1.1 S.1.2.1 S.1.2.2.1 S.1.2.2.2.1 S.1.2.2.2.2.1 S.1.2.2.2.2.2 S.2.1.1 S.2.1.2.1 S.2.1.2.2.1 S.2.1.2.2.2.1 S.2.1.2.2.2.2.1 S.2.1.2.2.2.2.2.1 S.2.1.2.2.2.2.2.2.1 S.2.1.2.2.2.2.2.2.2.1 S.2.2.2.2.2.2.1.1 S.2.2.2.2.2.2.1.2.1 S.2.2.2.2.2.2.1.2.2 (i32 a) (i32 P) (i32 Q) = some (.inr (b, (s_Plan_placePoint S.1.1 S.1.2.1 (i32 a) (i32 P) (i32 Q)).1, (s_Plan_placePoint S.1.1 S.1.2.1 (i32 a) (i32 P) (i32 Q)).2, lf', th', ow', lk', el', eh', co', hu', ne', nt', nh', hp', hnx', hkp')) →
      ∃ v S', s_h_move F S (i32 a) (i32 P) (i32 Q) = some (v, S') ∧ Sv S S' ∧
    ((a < n ∧ (((s_h_coordinate F S (i32 a) 0 = some (i32 P, S) ∧ s_h_coordinate F S (i32 a) 1 = some (i32 Q, S)) ∧ v = (0 : Int32)) ∨ (¬ (s_h_coordinate F S (i32 a) 0 = some (i32 P, S) ∧ s_h_coordinate F S (i32 a) 1 = some (i32 Q, S)) ∧ v = (1 : Int32))) ∧ s_h_coordinate F S' (i32 a) 0 = some (i32 P, S') ∧ s_h_coordinate F S' (i32 a) 1 = some (i32 Q, S') ∧ ∃ g', J F S' g' ∧ HS S' (c + 1) (min (k + 1) 12) (tUp T c (hS g))) ∨
      (S' = S ∧ ((v = (-1001 : Int32) ∧ a = n) ∨ v = (-1003 : Int32) ∨ v = (-1004 : Int32)))) := by
    intro b hb top
    refine ⟨bI b, (((s_Plan_placePoint S.1.1 S.1.2.1 (i32 a) (i32 P) (i32 Q)).1, (s_Plan_placePoint S.1.1 S.1.2.1 (i32 a) (i32 P) (i32 Q)).2, S.1.2.2.1, S.1.2.2.2.1, S.1.2.2.2.2.1, S.1.2.2.2.2.2), (lf', th', ow', lk', el', eh', co', hu', ne', nt', nh'), S.2.2.1, S.2.2.2.1, S.2.2.2.2.1, S.2.2.2.2.2.1, (hp', hnx', hkp'), S.2.2.2.2.2.2.2), ?_, ⟨rfl, rfl, rfl⟩, Or.inl ⟨ha, ?_, ?_, ?_, mn', ⟨⟨n, m, _, _, L, H, c1, c3, c2⟩, Or.inl ⟨_, _, _, _, _, _, _, _, d⟩⟩, g3⟩⟩
    · unfold s_h_move
      rw [top]; rfl
    · by_cases w : X a = P ∧ Y a = Q
      · refine Or.inl ⟨here.2 w, ?_⟩
        cases b
        · rfl
        · exact absurd w (hb.1 rfl)
      · refine Or.inr ⟨fun z => w (here.1 z), ?_⟩
        cases b
        · exact absurd (hb.2 w) (by decide)
        · rfl
    · exact co_0 c1 c2 ha hP (pX_s X a P)
    · exact co_1 c1 c2 ha hQ (pX_s Y a Q)
  by_cases w : X a = P ∧ Y a = Q
  · have er : r = i32 a := by
      rcases p2 with ⟨p9, y1, y2, y3, rfl⟩ | ⟨y, _⟩
      · rw [pt_one hO y1 ha (by rw [y2, w.1]) (by rw [y3, w.2])]
      · exact absurd w (y a ha)
    refine fin false ⟨fun z => absurd z (by decide), fun z => absurd w z⟩ ?_
    unfold s_Top_movePoint
    rw [rp]; simp only [Sum.elim_inr]
    rw [r1]; simp only [Sum.elim_inr]
    rw [l1]; simp only [Option.bind_some, Sum.elim_inr]
    rw [p1]; simp only [Option.bind_some]
    rw [er, if_neg (ne_m1 (by omega)), if_pos rfl]
    rw [cc]; simp only [Option.bind_some]
    rw [if_pos (bI_f cov9), g1]; simp only [Option.bind_some]
    rw [d]; simp only [Option.bind_some]
    first | rw [if_pos trivial] | rw [if_pos rfl]
  · have er : r = (-1 : Int32) := by
      rcases p2 with ⟨p9, y1, y2, y3, rfl⟩ | ⟨_, y⟩
      · by_cases q : p9 = a
        · subst q; exact absurd ⟨y2, y3⟩ w
        · exact absurd ⟨p9, y1, q, y2, y3⟩ oth
      · exact y
    refine fin true ⟨fun _ => w, fun _ => rfl⟩ ?_
    unfold s_Top_movePoint
    rw [rp]; simp only [Sum.elim_inr]
    rw [r1]; simp only [Sum.elim_inr]
    rw [l1]; simp only [Option.bind_some, Sum.elim_inr]
    rw [p1]; simp only [Option.bind_some]
    rw [er, if_pos rfl]
    rw [cc]; simp only [Option.bind_some]
    rw [if_pos (bI_f cov9), g1]; simp only [Option.bind_some]
    rw [d]; simp only [Option.bind_some]
    rw [if_neg (fun z => ne_m1 (p := a) (by omega) z.symm)]
/-- addConstraint -/
theorem x_tie (h : J F S g) (hx : HS S c k T) (hF : 1000 ≤ F) {a b : Nat} (ha : a ≤ nP g) (hb : b ≤ nP g) : ∃ v S', s_h_tie F S (i32 a) (i32 b) = some (v, S') ∧ Sv S S' ∧
    ((v = i32 (nC g) ∧ s_h_tied F S' (i32 (nC g)) 0 = some (imin (i32 a) (i32 b), S') ∧ s_h_tied F S' (i32 (nC g)) 1 = some (imax (i32 a) (i32 b), S') ∧ ∃ g', J F S' g' ∧ HS S' (c + 1) (min (k + 1) 12) (tUp T c (hS g))) ∨
      (S' = S ∧ ((v = (-1001 : Int32) ∧ max a b = nP g) ∨ (v = (-1002 : Int32) ∧ a = b) ∨ (v = (-1003 : Int32) ∧ nC g = 10) ∨ v = (-1004 : Int32)))) := by
  obtain ⟨n, m, X, Y, L, H, hC, hM, hO, hR⟩ := j_of h
  have hn := hO.1
  have hm := hO.2.1
  obtain ⟨en, em⟩ := np_of hM hO
  rw [en] at ha hb ⊢
  rw [em]
  by_cases z : a = n
  · refine ⟨(-1001 : Int32), S, ?_, Sv.rf S, Or.inr ⟨rfl, Or.inl ⟨rfl, by omega⟩⟩⟩
    have top : s_Top_addConstraint F S.1.1 S.1.2.1 S.1.2.2.1 S.1.2.2.2.1 S.1.2.2.2.2.1 S.1.2.2.2.2.2 S.2.1.1 S.2.1.2.1 S.2.1.2.2.1 S.2.1.2.2.2.1 S.2.1.2.2.2.2.1 S.2.1.2.2.2.2.2.1 S.2.1.2.2.2.2.2.2.1 S.2.1.2.2.2.2.2.2.2.1 S.2.2.2.2.2.2.1.1 S.2.2.2.2.2.2.1.2.1 S.2.2.2.2.2.2.1.2.2 (i32 a) (i32 b) = some (.inl "java/lang/IndexOutOfBoundsException") := by
      unfold s_Top_addConstraint
      rw [hC.1, c_rpN (a0 := i32 a) hn (fun ⟨b, hb, e⟩ => by have := (i32_eq (by omega) (by omega)).1 e; omega)]; rfl
    unfold s_h_tie
    rw [top]; simp only [Option.bind_some, Sum.elim_inl]
    rw [if_pos trivial]
  have ha : a < n := by omega
  have rp : s_Top_requirePoint S.1.2.2.2.2.1 (i32 a) = .inr () := by rw [hC.1]; exact c_rpY hn ha
  by_cases z : b = n
  · refine ⟨(-1001 : Int32), S, ?_, Sv.rf S, Or.inr ⟨rfl, Or.inl ⟨rfl, by omega⟩⟩⟩
    have top : s_Top_addConstraint F S.1.1 S.1.2.1 S.1.2.2.1 S.1.2.2.2.1 S.1.2.2.2.2.1 S.1.2.2.2.2.2 S.2.1.1 S.2.1.2.1 S.2.1.2.2.1 S.2.1.2.2.2.1 S.2.1.2.2.2.2.1 S.2.1.2.2.2.2.2.1 S.2.1.2.2.2.2.2.2.1 S.2.1.2.2.2.2.2.2.2.1 S.2.2.2.2.2.2.1.1 S.2.2.2.2.2.2.1.2.1 S.2.2.2.2.2.2.1.2.2 (i32 a) (i32 b) = some (.inl "java/lang/IndexOutOfBoundsException") := by
      unfold s_Top_addConstraint
      rw [rp]; simp only [Sum.elim_inr]
      rw [hC.1, c_rpN (a0 := i32 b) hn (fun ⟨b, hb, e⟩ => by have := (i32_eq (by omega) (by omega)).1 e; omega)]; rfl
    unfold s_h_tie
    rw [top]; simp only [Option.bind_some, Sum.elim_inl]
    rw [if_pos trivial]
  have hb : b < n := by omega
  have rp2 : s_Top_requirePoint S.1.2.2.2.2.1 (i32 b) = .inr () := by rw [hC.1]; exact c_rpY hn hb
  by_cases hab : a = b
  · refine ⟨(-1002 : Int32), S, ?_, Sv.rf S, Or.inr ⟨rfl, Or.inr (Or.inl ⟨rfl, hab⟩)⟩⟩
    have top : s_Top_addConstraint F S.1.1 S.1.2.1 S.1.2.2.1 S.1.2.2.2.1 S.1.2.2.2.2.1 S.1.2.2.2.2.2 S.2.1.1 S.2.1.2.1 S.2.1.2.2.1 S.2.1.2.2.2.1 S.2.1.2.2.2.2.1 S.2.1.2.2.2.2.2.1 S.2.1.2.2.2.2.2.2.1 S.2.1.2.2.2.2.2.2.2.1 S.2.2.2.2.2.2.1.1 S.2.2.2.2.2.2.1.2.1 S.2.2.2.2.2.2.1.2.2 (i32 a) (i32 b) = some (.inl "java/lang/IllegalArgumentException") := by
      unfold s_Top_addConstraint
      rw [rp]; simp only [Sum.elim_inr]
      rw [rp2]; simp only [Sum.elim_inr]
      rw [show s_Top_requireDifferent (i32 a) (i32 b) = .inl "java/lang/IllegalArgumentException" from by unfold s_Top_requireDifferent; rw [if_pos (by rw [hab])]]; rfl
    unfold s_h_tie
    rw [top]; simp only [Option.bind_some, Sum.elim_inl]
    rw [if_neg (by decide), if_pos trivial]
  have rd : s_Top_requireDifferent (i32 a) (i32 b) = .inr () := by
    unfold s_Top_requireDifferent
    rw [if_neg (n_eq (by omega) (by omega) hab)]
  by_cases hm9 : m = 10
  · refine ⟨(-1003 : Int32), S, ?_, Sv.rf S, Or.inr ⟨rfl, Or.inr (Or.inr (Or.inl ⟨rfl, hm9⟩))⟩⟩
    have top : s_Top_addConstraint F S.1.1 S.1.2.1 S.1.2.2.1 S.1.2.2.2.1 S.1.2.2.2.2.1 S.1.2.2.2.2.2 S.2.1.1 S.2.1.2.1 S.2.1.2.2.1 S.2.1.2.2.2.1 S.2.1.2.2.2.2.1 S.2.1.2.2.2.2.2.1 S.2.1.2.2.2.2.2.2.1 S.2.1.2.2.2.2.2.2.2.1 S.2.2.2.2.2.2.1.1 S.2.2.2.2.2.2.1.2.1 S.2.2.2.2.2.2.1.2.2 (i32 a) (i32 b) = some (.inl "java/lang/IllegalStateException") := by
      unfold s_Top_addConstraint
      rw [rp]; simp only [Sum.elim_inr]
      rw [rp2]; simp only [Sum.elim_inr]
      rw [rd]; simp only [Sum.elim_inr]
      rw [hC.2.1, if_neg (show ¬ (s_Plan_constraints (i32 m) < (10 : Int32)) from n_lt (b := 10) (by omega) (by omega))]
    unfold s_h_tie
    rw [top]; simp only [Option.bind_some, Sum.elim_inl]
    rw [if_neg (by decide), if_neg (by decide), if_pos trivial]
  have mlt : s_Plan_constraints (i32 m) < (10 : Int32) := y_lt (b := 10) (by omega) (by omega)
  have as9 := c_admS hC hO (F := F) (by omega) ha hb
  by_cases sg9 : Seg n m X Y L H a b
  · obtain ⟨hp', hnx', hkp', g1, g3⟩ := hx_rem hR hx hF
    obtain ⟨L', H', c1, c2, v1, v2, mn', s1, s2, s3, s4, c3⟩ := pl_con hC hM hO (by omega) ha hb hab sg9
    obtain ⟨lf', th', ow', lk', el', eh', co', hu', ne', nt', nh', d⟩ := draw_ok c1 c3 c2 hF S.2.1.1 S.2.1.2.1 S.2.1.2.2.1 S.2.1.2.2.2.1 S.2.1.2.2.2.2.1 S.2.1.2.2.2.2.2.1 S.2.1.2.2.2.2.2.2.1 S.2.1.2.2.2.2.2.2.2.1
    have e9 : s_Plan_constraints (s_Plan_appendConstraint S.1.2.2.1 S.1.2.2.2.1 S.1.2.2.2.2.2 (i32 a) (i32 b)).2.2 - (1 : Int32) = i32 m := by
      show S.1.2.2.2.2.2 + (1 : Int32) - (1 : Int32) = i32 m
      rw [hC.2.1]; exact Int32.add_sub_cancel _ _
    have top : s_Top_addConstraint F S.1.1 S.1.2.1 S.1.2.2.1 S.1.2.2.2.1 S.1.2.2.2.2.1 S.1.2.2.2.2.2 S.2.1.1 S.2.1.2.1 S.2.1.2.2.1 S.2.1.2.2.2.1 S.2.1.2.2.2.2.1 S.2.1.2.2.2.2.2.1 S.2.1.2.2.2.2.2.2.1 S.2.1.2.2.2.2.2.2.2.1 S.2.2.2.2.2.2.1.1 S.2.2.2.2.2.2.1.2.1 S.2.2.2.2.2.2.1.2.2 (i32 a) (i32 b) = some (.inr (i32 m, (s_Plan_appendConstraint S.1.2.2.1 S.1.2.2.2.1 S.1.2.2.2.2.2 (i32 a) (i32 b)).1, (s_Plan_appendConstraint S.1.2.2.1 S.1.2.2.2.1 S.1.2.2.2.2.2 (i32 a) (i32 b)).2.1, (s_Plan_appendConstraint S.1.2.2.1 S.1.2.2.2.1 S.1.2.2.2.2.2 (i32 a) (i32 b)).2.2, lf', th', ow', lk', el', eh', co', hu', ne', nt', nh', hp', hnx', hkp')) := by
      unfold s_Top_addConstraint
      rw [rp]; simp only [Sum.elim_inr]
      rw [rp2]; simp only [Sum.elim_inr]
      rw [rd]; simp only [Sum.elim_inr]
      rw [if_pos (show s_Plan_constraints S.1.2.2.2.2.2 < (10 : Int32) by rw [hC.2.1]; exact mlt), as9]; simp only [Option.bind_some]
      rw [if_neg (bI_t sg9), g1]; simp only [Option.bind_some]
      rw [d]; simp only [Option.bind_some]
      rw [e9]
    have rcY : s_Top_requireConstraint (s_Plan_appendConstraint S.1.2.2.1 S.1.2.2.2.1 S.1.2.2.2.2.2 (i32 a) (i32 b)).2.2 (i32 m) = .inr () := by
      have e : (s_Plan_appendConstraint S.1.2.2.1 S.1.2.2.2.1 S.1.2.2.2.2.2 (i32 a) (i32 b)).2.2 = i32 (m + 1) := c1.2.1
      rw [e]; exact c_rcY (by omega) (by omega)
    refine ⟨i32 m, ((S.1.1, S.1.2.1, (s_Plan_appendConstraint S.1.2.2.1 S.1.2.2.2.1 S.1.2.2.2.2.2 (i32 a) (i32 b)).1, (s_Plan_appendConstraint S.1.2.2.1 S.1.2.2.2.1 S.1.2.2.2.2.2 (i32 a) (i32 b)).2.1, S.1.2.2.2.2.1, (s_Plan_appendConstraint S.1.2.2.1 S.1.2.2.2.1 S.1.2.2.2.2.2 (i32 a) (i32 b)).2.2), (lf', th', ow', lk', el', eh', co', hu', ne', nt', nh'), S.2.2.1, S.2.2.2.1, S.2.2.2.2.1, S.2.2.2.2.2.1, (hp', hnx', hkp'), S.2.2.2.2.2.2.2), ?_, ⟨rfl, rfl, rfl⟩, Or.inl ⟨rfl, ?_, ?_, mn', ⟨⟨n, m + 1, X, Y, L', H', c1, c3, c2⟩, Or.inl ⟨_, _, _, _, _, _, _, _, d⟩⟩, g3⟩⟩
    · unfold s_h_tie
      rw [top]; rfl
    · unfold s_h_tied s_Top_constraintEnd
      simp only []
      rw [rcY]
      simp only [Sum.elim_inr]
      rw [show s_Top_requireBit 0 = .inr () from rfl]
      simp only [Sum.elim_inr]
      rw [if_pos trivial]
      simp only [Sum.elim_inr]
      have : s_Plan_lowEnd (s_Plan_appendConstraint S.1.2.2.1 S.1.2.2.2.1 S.1.2.2.2.2.2 (i32 a) (i32 b)).1 (i32 m) = imin (i32 a) (i32 b) := by
        unfold s_Plan_lowEnd s_Plan_appendConstraint
        simp only []
        rw [hC.2.1, rset _ _ (show m < 10 by omega) (by omega), rget _ (show m < 10 by omega) (by omega), if_pos rfl]
      rw [this]
    · unfold s_h_tied s_Top_constraintEnd
      simp only []
      rw [rcY]
      simp only [Sum.elim_inr]
      rw [show s_Top_requireBit 1 = .inr () from rfl]
      simp only [Sum.elim_inr]
      rw [if_neg (by decide)]
      simp only [Sum.elim_inr]
      have : s_Plan_highEnd (s_Plan_appendConstraint S.1.2.2.1 S.1.2.2.2.1 S.1.2.2.2.2.2 (i32 a) (i32 b)).2.1 (i32 m) = imax (i32 a) (i32 b) := by
        unfold s_Plan_highEnd s_Plan_appendConstraint
        simp only []
        rw [hC.2.1, rset _ _ (show m < 10 by omega) (by omega), rget _ (show m < 10 by omega) (by omega), if_pos rfl]
      rw [this]
  · refine ⟨(-1004 : Int32), S, ?_, Sv.rf S, Or.inr ⟨rfl, Or.inr (Or.inr (Or.inr rfl))⟩⟩
    have top : s_Top_addConstraint F S.1.1 S.1.2.1 S.1.2.2.1 S.1.2.2.2.1 S.1.2.2.2.2.1 S.1.2.2.2.2.2 S.2.1.1 S.2.1.2.1 S.2.1.2.2.1 S.2.1.2.2.2.1 S.2.1.2.2.2.2.1 S.2.1.2.2.2.2.2.1 S.2.1.2.2.2.2.2.2.1 S.2.1.2.2.2.2.2.2.2.1 S.2.2.2.2.2.2.1.1 S.2.2.2.2.2.2.1.2.1 S.2.2.2.2.2.2.1.2.2 (i32 a) (i32 b) = some (.inl "java/lang/UnsupportedOperationException") := by
      unfold s_Top_addConstraint
      rw [rp]; simp only [Sum.elim_inr]
      rw [rp2]; simp only [Sum.elim_inr]
      rw [rd]; simp only [Sum.elim_inr]
      rw [if_pos (show s_Plan_constraints S.1.2.2.2.2.2 < (10 : Int32) by rw [hC.2.1]; exact mlt), as9]; simp only [Option.bind_some]
      rw [if_pos (bI_f sg9)]
    unfold s_h_tie
    rw [top]; simp only [Option.bind_some, Sum.elim_inl]
    rw [if_neg (by decide), if_neg (by decide), if_neg (by decide), if_pos trivial]
/-- removeConstraint -/
theorem x_untie (h : J F S g) (hx : HS S c k T) (hF : 1000 ≤ F) {a : Nat} (ha : a ≤ nC g) : ∃ v S', s_h_untie F S (i32 a) = some (v, S') ∧ Sv S S' ∧
    ((v = i32 (nC g - 1) ∧ a < nC g ∧ ∃ g', J F S' g' ∧ HS S' (c + 1) (min (k + 1) 12) (tUp T c (hS g))) ∨ (S' = S ∧ v = (-1001 : Int32) ∧ a = nC g)) := by
  obtain ⟨n, m, X, Y, L, H, hC, hM, hO, hR⟩ := j_of h
  have hn := hO.1
  have hm := hO.2.1
  obtain ⟨en, em⟩ := np_of hM hO
  rw [em] at ha ⊢
  by_cases z : a = m
  · refine ⟨(-1001 : Int32), S, ?_, Sv.rf S, Or.inr ⟨rfl, rfl, z⟩⟩
    have top : s_Top_removeConstraint F S.1.1 S.1.2.1 S.1.2.2.1 S.1.2.2.2.1 S.1.2.2.2.2.1 S.1.2.2.2.2.2 S.2.1.1 S.2.1.2.1 S.2.1.2.2.1 S.2.1.2.2.2.1 S.2.1.2.2.2.2.1 S.2.1.2.2.2.2.2.1 S.2.1.2.2.2.2.2.2.1 S.2.1.2.2.2.2.2.2.2.1 S.2.2.2.2.2.2.1.1 S.2.2.2.2.2.2.1.2.1 S.2.2.2.2.2.2.1.2.2 (i32 a) = some (.inl "java/lang/IndexOutOfBoundsException") := by
      unfold s_Top_removeConstraint
      rw [hC.2.1, c_rcN hm (fun ⟨b, hb, e⟩ => by have := (i32_eq (by omega) (by omega)).1 e; omega)]; rfl
    unfold s_h_untie
    rw [top]; simp only [Option.bind_some, Sum.elim_inl]
    rw [if_pos trivial]
  have ha : a < m := by omega
  have rp : s_Top_requireConstraint S.1.2.2.2.2.2 (i32 a) = .inr () := by rw [hC.2.1]; exact c_rcY hm ha
  obtain ⟨hp', hnx', hkp', g1, g3⟩ := hx_rem hR hx hF
  obtain ⟨v1, v2, s1, c1⟩ := c_untie hC hO (F := F) (by omega) ha
  obtain ⟨mn', s2, c3⟩ := m_untie hM hO (F := F) (by omega) ha
  have c2 := ok_unc hO ha (L' := fun c => L (sh a c)) (H' := fun c => H (sh a c)) (fun c _ => ⟨rfl, rfl⟩)
  obtain ⟨lf', th', ow', lk', el', eh', co', hu', ne', nt', nh', d⟩ := draw_ok c1 c3 c2 hF S.2.1.1 S.2.1.2.1 S.2.1.2.2.1 S.2.1.2.2.2.1 S.2.1.2.2.2.2.1 S.2.1.2.2.2.2.2.1 S.2.1.2.2.2.2.2.2.1 S.2.1.2.2.2.2.2.2.2.1
  have top : s_Top_removeConstraint F S.1.1 S.1.2.1 S.1.2.2.1 S.1.2.2.2.1 S.1.2.2.2.2.1 S.1.2.2.2.2.2 S.2.1.1 S.2.1.2.1 S.2.1.2.2.1 S.2.1.2.2.2.1 S.2.1.2.2.2.2.1 S.2.1.2.2.2.2.2.1 S.2.1.2.2.2.2.2.2.1 S.2.1.2.2.2.2.2.2.2.1 S.2.2.2.2.2.2.1.1 S.2.2.2.2.2.2.1.2.1 S.2.2.2.2.2.2.1.2.2 (i32 a) = some (.inr (i32 (m - 1), v1, v2, i32 (m - 1), lf', th', ow', lk', el', eh', co', hu', ne', nt', nh', hp', hnx', hkp')) := by
    unfold s_Top_removeConstraint
    rw [rp]; simp only [Sum.elim_inr]
    rw [g1]; simp only [Option.bind_some]
    rw [s1]; simp only [Option.bind_some]
    rw [d]; rfl
  refine ⟨i32 (m - 1), ((S.1.1, S.1.2.1, v1, v2, S.1.2.2.2.2.1, i32 (m - 1)), (lf', th', ow', lk', el', eh', co', hu', ne', nt', nh'), S.2.2.1, S.2.2.2.1, S.2.2.2.2.1, S.2.2.2.2.2.1, (hp', hnx', hkp'), S.2.2.2.2.2.2.2), ?_, ⟨rfl, rfl, rfl⟩, Or.inl ⟨rfl, ha, mn', ⟨⟨n, m - 1, X, Y, _, _, c1, c3, c2⟩, Or.inl ⟨_, _, _, _, _, _, _, _, d⟩⟩, g3⟩⟩
  unfold s_h_untie
  rw [top]; rfl
/-- undo -/
theorem x_undo (h : J F S g) (hx : HS S c (k + 1) T) (hF : 1000 ≤ F) : ∃ S' g', s_h_undo F S = some (i32 k, S') ∧ Sv S S' ∧ J F S' g' ∧ hS g' = T (c - 1) ∧ HS S' (c - 1) k T := by
  obtain ⟨q, g', hq, hk, e1, hx', e2, ⟨n, m, X, Y, L, H, c1, c3, c2⟩, e3⟩ := hx_back hx
  obtain ⟨v1, v2, v3, v4, w1, w2, w3⟩ := c_pcopy F (by omega) S.1.1 S.1.2.1 S.1.2.2.1 S.1.2.2.2.1 (S.2.2.2.2.2.2.1.1 q).1 (S.2.2.2.2.2.2.1.1 q).2.1 (S.2.2.2.2.2.2.1.1 q).2.2.1 (S.2.2.2.2.2.2.1.1 q).2.2.2.1 (S.2.2.2.2.2.2.1.1 q).2.2.2.2.1 (S.2.2.2.2.2.2.1.1 q).2.2.2.2.2
  have c1 := cp_ext c2 c1 w2 w3
  obtain ⟨lf', th', ow', lk', el', eh', co', hu', ne', nt', nh', d⟩ := draw_ok c1 c3 c2 hF S.2.1.1 S.2.1.2.1 S.2.1.2.2.1 S.2.1.2.2.2.1 S.2.1.2.2.2.2.1 S.2.1.2.2.2.2.2.1 S.2.1.2.2.2.2.2.2.1 S.2.1.2.2.2.2.2.2.2.1
  have nz : ¬ (i32 (k + 1) = (0 : Int32)) := n_eq (b := 0) (by omega) (by omega) (by omega)
  have ek : imax (i32 (k + 1) - (1 : Int32)) 0 = i32 k := by
    rw [show i32 (k + 1) - (1 : Int32) = i32 k from i32_sub (a := k + 1) (b := 1) (by omega)]
    have := imax_i (a := k) (b := 0) (by omega) (by omega)
    rw [Nat.max_zero] at this
    exact this
  have rc : s_Hist_recallInto F S.2.2.2.2.2.2.1.1 S.2.2.2.2.2.2.1.2.1 (i32 (k + 1)) S.1.1 S.1.2.1 S.1.2.2.1 S.1.2.2.2.1 S.1.2.2.2.2.1 S.1.2.2.2.2.2 = some (i32 q, i32 k, v1, v2, v3, v4, (S.2.2.2.2.2.2.1.1 q).2.2.2.2.1, (S.2.2.2.2.2.2.1.1 q).2.2.2.2.2) := by
    unfold s_Hist_recallInto
    rw [e2, ek]
    unfold s_Hist_back
    rw [if_neg (i32_neg (by omega)), if_neg (show ¬ ((12 : Int32) ≤ i32 q) from n_le (a := 12) (by omega) hq), i32_nc (show q < 2147483648 by omega), w1]
    rfl
  have top : s_Top_undo F S.1.1 S.1.2.1 S.1.2.2.1 S.1.2.2.2.1 S.1.2.2.2.2.1 S.1.2.2.2.2.2 S.2.1.1 S.2.1.2.1 S.2.1.2.2.1 S.2.1.2.2.2.1 S.2.1.2.2.2.2.1 S.2.1.2.2.2.2.2.1 S.2.1.2.2.2.2.2.2.1 S.2.1.2.2.2.2.2.2.2.1 S.2.2.2.2.2.2.1.1 S.2.2.2.2.2.2.1.2.1 S.2.2.2.2.2.2.1.2.2 = some (.inr (i32 k, v1, v2, v3, v4, (S.2.2.2.2.2.2.1.1 q).2.2.2.2.1, (S.2.2.2.2.2.2.1.1 q).2.2.2.2.2, lf', th', ow', lk', el', eh', co', hu', ne', nt', nh', i32 q, i32 k)) := by
    unfold s_Top_undo
    rw [e1, if_neg (show ¬ (s_Hist_kept (i32 (k + 1)) = 0) from nz), rc]; simp only [Option.bind_some]
    rw [d]; rfl
  refine ⟨((v1, v2, v3, v4, (S.2.2.2.2.2.2.1.1 q).2.2.2.2.1, (S.2.2.2.2.2.2.1.1 q).2.2.2.2.2), (lf', th', ow', lk', el', eh', co', hu', ne', nt', nh'), S.2.2.1, S.2.2.2.1, S.2.2.2.2.1, S.2.2.2.2.2.1, (S.2.2.2.2.2.2.1.1, i32 q, i32 k), S.2.2.2.2.2.2.2), g', ?_, ⟨rfl, rfl, rfl⟩, ⟨⟨n, m, X, Y, L, H, c1, c3, c2⟩, Or.inl ⟨_, _, _, _, _, _, _, _, d⟩⟩, e3, hx'⟩
  unfold s_h_undo
  rw [top]; rfl
theorem x_undo0 (hx : HS S c 0 T) : s_h_undo F S = some ((-1001 : Int32), S) := by
  obtain ⟨q, hq, hk, hc, e1, e2, hj⟩ := hx
  unfold s_h_undo s_Top_undo
  rw [e2, if_pos (show s_Hist_kept (i32 0) = 0 from rfl)]
  simp only [Option.bind_some, Sum.elim_inl]
  rw [if_pos trivial]
/-- what was saved stands beside g -/
def VS (S : TopS) (g : Nat → Int32) : Prop := S.2.2.2.2.2.2.2 = true ∧ PR S.2.2.2.2.1 g
theorem sv_VS {S T : TopS} {g : Nat → Int32} (h : Sv S T) (k : VS S g) : VS T g := by
  unfold VS
  rw [h.1, h.2.1]
  exact k
theorem x_save (h : J F S g) (hF : 1000 ≤ F) : ∃ S', i_save F S = some (i_pointCount S', S') ∧ J F S' g ∧ VS S' g ∧ S'.2.2.2.2.2.2.1 = S.2.2.2.2.2.2.1 ∧ S'.2.2.2.2.2.1 = S.2.2.2.2.2.1 := by
  obtain ⟨⟨n, m, X, Y, L, H, c1, c3, c2⟩, hD⟩ := id h
  obtain ⟨v1, v2, v3, v4, w1, w2, w3⟩ := c_pcopy F (by omega) S.2.2.2.2.1.1 S.2.2.2.2.1.2.1 S.2.2.2.2.1.2.2.1 S.2.2.2.2.1.2.2.2.1 S.1.1 S.1.2.1 S.1.2.2.1 S.1.2.2.2.1 S.1.2.2.2.2.1 S.1.2.2.2.2.2
  have c9 : CP n m X Y L H S.1.1 S.1.2.1 S.1.2.2.1 S.1.2.2.2.1 S.1.2.2.2.2.1 S.1.2.2.2.2.2 := c1
  refine ⟨(S.1, S.2.1, S.2.2.1, S.2.2.2.1, (v1, v2, v3, v4, S.1.2.2.2.2.1, S.1.2.2.2.2.2), S.2.2.2.2.2.1, S.2.2.2.2.2.2.1, true), ?_, h, ⟨rfl, ⟨n, m, X, Y, L, H, cp_ext c2 c9 w2 w3, c3, c2⟩⟩, rfl, rfl⟩
  unfold i_save s_Top_save
  rw [w1]; rfl
/-- restore -/
theorem x_restore {gs : Nat → Int32} (h : VS S gs) (hk : HS S c k T) (hF : 1000 ≤ F) : ∃ S', s_h_restore F S = some (i_pointCount S', S') ∧ J F S' gs ∧ VS S' gs ∧ HS S' c 0 T ∧ S'.2.2.2.2.2.1 = S.2.2.2.2.2.1 := by
  obtain ⟨h1, n, m, X, Y, L, H, c1, c3, c2⟩ := id h
  obtain ⟨v1, v2, v3, v4, w1, w2, w3⟩ := c_pcopy F (by omega) S.1.1 S.1.2.1 S.1.2.2.1 S.1.2.2.2.1 S.2.2.2.2.1.1 S.2.2.2.2.1.2.1 S.2.2.2.2.1.2.2.1 S.2.2.2.2.1.2.2.2.1 S.2.2.2.2.1.2.2.2.2.1 S.2.2.2.2.1.2.2.2.2.2
  have c1 : CP n m X Y L H v1 v2 v3 v4 S.2.2.2.2.1.2.2.2.2.1 S.2.2.2.2.1.2.2.2.2.2 := cp_ext c2 c1 w2 w3
  obtain ⟨lf', th', ow', lk', el', eh', co', hu', ne', nt', nh', d⟩ := draw_ok c1 c3 c2 hF S.2.1.1 S.2.1.2.1 S.2.1.2.2.1 S.2.1.2.2.2.1 S.2.1.2.2.2.2.1 S.2.1.2.2.2.2.2.1 S.2.1.2.2.2.2.2.2.1 S.2.1.2.2.2.2.2.2.2.1
  have top : s_Top_restore F S.1.1 S.1.2.1 S.1.2.2.1 S.1.2.2.2.1 S.2.1.1 S.2.1.2.1 S.2.1.2.2.1 S.2.1.2.2.2.1 S.2.1.2.2.2.2.1 S.2.1.2.2.2.2.2.1 S.2.1.2.2.2.2.2.2.1 S.2.1.2.2.2.2.2.2.2.1 S.2.2.2.2.1.1 S.2.2.2.2.1.2.1 S.2.2.2.2.1.2.2.1 S.2.2.2.2.1.2.2.2.1 S.2.2.2.2.1.2.2.2.2.1 S.2.2.2.2.1.2.2.2.2.2 S.2.2.2.2.2.2.2 = some (.inr (S.2.2.2.2.1.2.2.2.2.1, v1, v2, v3, v4, S.2.2.2.2.1.2.2.2.2.1, S.2.2.2.2.1.2.2.2.2.2, lf', th', ow', lk', el', eh', co', hu', ne', nt', nh', (0 : Int32))) := by
    unfold s_Top_restore
    rw [h1, if_neg (show ¬ (bI true = 0) by decide), w1]; simp only [Option.bind_some]
    rw [d]; rfl
  obtain ⟨q, hq, hk9, hc, e1, e2, hj⟩ := hk
  refine ⟨((v1, v2, v3, v4, S.2.2.2.2.1.2.2.2.2.1, S.2.2.2.2.1.2.2.2.2.2), (lf', th', ow', lk', el', eh', co', hu', ne', nt', nh'), S.2.2.1, S.2.2.2.1, S.2.2.2.2.1, S.2.2.2.2.2.1, (S.2.2.2.2.2.2.1.1, S.2.2.2.2.2.2.1.2.1, (0 : Int32)), S.2.2.2.2.2.2.2), ?_, ⟨⟨n, m, X, Y, L, H, c1, c3, c2⟩, Or.inl ⟨_, _, _, _, _, _, _, _, d⟩⟩, h, ⟨q, hq, by omega, by omega, e1, rfl, fun j hj => by omega⟩, rfl⟩
  unfold s_h_restore
  rw [top]; rfl
/-- an empty input is read -/
theorem x_read (h : J F S g) (hi : S.2.2.2.2.2.1.2.2.2.2.1 = 0) (hF : 1000 ≤ F) : ∃ S', i_readInput F S = some ((-100 : Int32), S') ∧ Rk F g S S' := by
  obtain ⟨n, m, X, Y, L, H, hC, hM, hO, hR⟩ := j_of h
  obtain ⟨lf', th', ow', lk', el', eh', co', hu', ne', nt', nh', d⟩ := draw_ok hC hM hO hF S.2.1.1 S.2.1.2.1 S.2.1.2.2.1 S.2.1.2.2.2.1 S.2.1.2.2.2.2.1 S.2.1.2.2.2.2.2.1 S.2.1.2.2.2.2.2.2.1 S.2.1.2.2.2.2.2.2.2.1
  obtain ⟨f, rfl⟩ : ∃ f, F = f + 1 := ⟨F - 1, by omega⟩
  have p1 : s_Input_parse_L16 S.2.2.2.2.2.1.1 (0 : Int32) (f + 1) (0 : Int32) S.2.2.2.2.2.1.2.1 S.2.2.2.2.2.1.2.2.1 S.2.2.2.2.2.1.2.2.2.1 (0 : Int32) false s_Input_startNumber.1 s_Input_startNumber.2 = some (.inr ((0 : Int32), S.2.2.2.2.2.1.2.1, S.2.2.2.2.2.1.2.2.1, S.2.2.2.2.2.1.2.2.2.1, (0 : Int32), false, s_Input_startNumber.1, s_Input_startNumber.2)) := by
    simp only [s_Input_parse_L16]
    rw [if_pos (by decide)]
  have p2 : s_Input_parse (f + 1) S.2.2.2.2.2.1.1 S.2.2.2.2.2.1.2.1 S.2.2.2.2.2.1.2.2.1 S.2.2.2.2.2.1.2.2.2.1 (0 : Int32) = some ((0 : Int32), S.2.2.2.2.2.1.2.1, S.2.2.2.2.2.1.2.2.1, S.2.2.2.2.2.1.2.2.2.1, (0 : Int32), false, s_Input_startNumber.1, s_Input_startNumber.2) := by
    unfold s_Input_parse
    rw [p1]; rfl
  have p3 : s_Top_readInput_L10 (f + 1) S.2.2.2.2.2.1.2.1 S.2.2.2.2.2.1.2.2.1 S.2.2.2.2.2.1.2.2.2.1 (0 : Int32) (0 : Int32) (f + 1) (0 : Int32) S.1.1 S.1.2.1 S.1.2.2.1 S.1.2.2.2.1 S.1.2.2.2.2.1 S.1.2.2.2.2.2 S.2.2.2.2.2.2.1.1 S.2.2.2.2.2.2.1.2.1 S.2.2.2.2.2.2.1.2.2 = some ((0 : Int32), S.1.1, S.1.2.1, S.1.2.2.1, S.1.2.2.2.1, S.1.2.2.2.2.1, S.1.2.2.2.2.2, S.2.2.2.2.2.2.1.1, S.2.2.2.2.2.2.1.2.1, S.2.2.2.2.2.2.1.2.2) := by
    simp only [s_Top_readInput_L10]
    rw [if_neg (by decide)]
  refine ⟨(S.1, (lf', th', ow', lk', el', eh', co', hu', ne', nt', nh'), S.2.2.1, S.2.2.2.1, S.2.2.2.2.1, (S.2.2.2.2.2.1.1, S.2.2.2.2.2.1.2.1, S.2.2.2.2.2.1.2.2.1, S.2.2.2.2.2.1.2.2.2.1, (0 : Int32), (0 : Int32), false, s_Input_startNumber.1, s_Input_startNumber.2), S.2.2.2.2.2.2.1, S.2.2.2.2.2.2.2), ?_, ⟨⟨n, m, X, Y, L, H, hC, hM, hO⟩, Or.inl ⟨_, _, _, _, _, _, _, _, d⟩⟩, rfl, rfl, rfl, hi.symm⟩
  unfold i_readInput s_Top_readInput
  rw [hi, p2]; simp only [Option.bind_some]
  rw [p3]; simp only [Option.bind_some]
  rw [d]; simp only [Option.bind_some]
  rw [if_neg (by decide)]; rfl
end CHG
