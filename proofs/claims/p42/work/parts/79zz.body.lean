/-! the law's body -/
def s_law9 (ask : TopS → Option (Int64 × TopS)) (ref : TopS → Option TopS) (l1 : TopS → (Nat → Int64) → Option (Int32 × Int32 × TopS × (Nat → Int64))) (l2 : (Nat → Int64) → Int32 → Int32 → TopS → Option (Int32 × TopS)) (l3 : TopS → Option (Int32 × TopS)) (F : Nat) (S : TopS) (la : Nat → Int64) : Option Unit :=
  (l1 S la).bind fun o13x =>
  ((ask o13x.2.2.1 )).bind fun v14 =>
  ((ask v14.2 )).bind fun v15 =>
  if (lg_cmp v15.1 v14.1) = 0 then
    ((ref v15.2 )).bind fun v17 =>
    ((ask v17 )).bind fun v18 =>
    if (lg_cmp v18.1 v14.1) = 0 then
      ((i_save F v18.2)).bind fun v20 =>
      if v20.1 = (i_pointCount v20.2) then
        (l2 o13x.2.2.2 o13x.1 (imin (12 : Int32) o13x.1) v20.2).bind fun o28x =>
        ((s_h_undo F o28x.2 )).bind fun v29 =>
        if v29.1 = (-1001 : Int32) then
          ((s_h_restore F v29.2 )).bind fun v31 =>
          if v31.1 = (i_pointCount v31.2) then
            ((ask v31.2 )).bind fun v33 =>
            if (lg_cmp v33.1 v14.1) = 0 then
              ((s_h_undo F v33.2 )).bind fun v35 =>
              if v35.1 = (-1001 : Int32) then
                (l3 v35.2).bind fun o41x =>
                ((s_h_restore F o41x.2 )).bind fun v42 =>
                if v42.1 = (i_pointCount v42.2) then
                  ((ask v42.2 )).bind fun v44 =>
                  if (lg_cmp v44.1 v14.1) = 0 then
                    some ()
                  else
                    none
                else
                  none
              else
                none
            else
              none
          else
            none
        else
          none
      else
        none
    else
      none
  else
    none
section BODY
variable {F : Nat} {gs : Nat → Int32} {LL : Nat} {xs : Nat → Int32}
def iln (S : TopS) : Int32 := S.2.2.2.2.2.1.2.2.2.2.1
theorem sv_iln {S T : TopS} (h : Sv S T) : iln T = iln S := congrArg (fun z => z.2.2.2.2.1) h.2.2
theorem rk_iln {g : Nat → Int32} {S T : TopS} (h : Rk F g S T) : iln T = iln S := h.2.2.2.2
theorem rk_HS {g : Nat → Int32} {S T : TopS} {c k : Nat} {t : Nat → Int64} (h : Rk F g S T) (k9 : HS S c k t) : HS T c k t := by
  unfold HS
  rw [h.2.2.2.1]
  exact k9
theorem rk_VS {g : Nat → Int32} {S T : TopS} (h : Rk F g S T) (k9 : VS S gs) : VS T gs := by
  unfold VS
  rw [h.2.2.2.1, h.2.2.1]
  exact k9
theorem at_ok (L : Nat) (xs : Nat → Int32) {i : Nat} (hi : i < 1000) : ∃ v, atO L xs (i32 i) = some v := by
  unfold atO
  rw [if_neg (i32_neg (by omega))]
  exact ⟨_, rfl⟩
theorem aset_i64 {la : Nat → Int64} {c : Nat} (hc : c < 20) (x : Int64) : aset 20 la (i32 c) x = some (fun j => if j = c then x else la j) := by
  unfold aset
  rw [if_neg (fun z => by
    rcases z with z | z
    · exact i32_neg (by omega) z
    · rw [i32_nc (by omega)] at z; omega), i32_nc (by omega)]
theorem aget_i64 {la : Nat → Int64} {c : Nat} (hc : c < 20) : aget 20 la (i32 c) = some (la c) := by
  unfold aget
  rw [if_neg (fun z => by
    rcases z with z | z
    · exact i32_neg (by omega) z
    · rw [i32_nc (by omega)] at z; omega), i32_nc (by omega)]
theorem x_l322 (hF : 1000 ≤ F) : ∀ d i n c la S g T, i + d = 18 → d < n → J F S g → HS S c (min c 12) T → c ≤ i → (∀ j, j < c → la j = T j) → iln S = 0 →
    ∃ c' S' la' g' T', s_law_o_L322 F LL xs n (i32 c) (i32 i) S la = some (i32 c', i32 18, S', la') ∧ J F S' g' ∧ HS S' c' (min c' 12) T' ∧ c' ≤ 18 ∧ (∀ j, j < c' → la' j = T' j) ∧ iln S' = 0 := by
  intro d
  induction d with
  | zero =>
    intro i n c la S g T h1 h2 h3 h4 h5 h6 h7
    obtain ⟨k, rfl⟩ : ∃ k, n = k + 1 := ⟨n - 1, by omega⟩
    have : i = 18 := by omega
    subst this
    refine ⟨c, S, la, g, T, ?_, h3, h4, h5, h6, h7⟩
    simp only [s_law_o_L322]
    rw [if_pos (show (18 : Int32) ≤ i32 18 by decide)]
  | succ d ih =>
    intro i n c la S g T h1 h2 h3 h4 h5 h6 h7
    obtain ⟨k, rfl⟩ : ∃ k, n = k + 1 := ⟨n - 1, by omega⟩
    obtain ⟨v, ev⟩ := at_ok LL xs (i := i) (by omega)
    obtain ⟨r, S', e1, e2, e3⟩ := x_does h3 h4 hF (v ^^^ (i32 i * (15731 : Int32)))
    simp only [s_law_o_L322]
    rw [if_neg (show ¬ ((18 : Int32) ≤ i32 i) from n_le (a := 18) (by omega) (by omega)), x_state h3 hF]
    simp only [Option.bind_some]
    rw [ev]
    simp only [Option.bind_some]
    rw [e1]
    simp only [Option.bind_some]
    rcases e3 with ⟨rfl, g', e4, e5⟩ | ⟨rfl, rfl⟩
    · rw [if_neg (by decide), if_neg (by decide), if_pos rfl, aset_i64 (by omega)]
      simp only [Option.bind_some]
      rw [i_one, i_one]
      rw [show min (min c 12 + 1) 12 = min (c + 1) 12 by omega] at e5
      refine ih (i + 1) k (c + 1) _ S' g' (tUp T c (hS g)) (by omega) (by omega) e4 e5 (by omega) (fun j hj => ?_) ((sv_iln e2).trans h7)
      unfold tUp
      by_cases z : j = c
      · rw [if_pos z, if_pos z]
      · rw [if_neg z, if_neg z]; exact h6 j (by omega)
    · rw [if_neg (by decide), if_pos rfl, x_state h3 hF]
      simp only [Option.bind_some]
      rw [if_pos (lgc _), if_neg (by decide), i_one]
      exact ih (i + 1) k c la S' g T (by omega) (by omega) h3 h4 (by omega) h6 h7
theorem x_l455 (hF : 1000 ≤ F) {c K : Nat} (hc : c ≤ 18) (hK : K = min c 12) {la T : Nat → Int64} (hla : ∀ j, j < c → la j = T j) : ∀ d kk n S g, kk + d = K + 1 → d < n → 1 ≤ kk → J F S g → HS S (c - (kk - 1)) (K - (kk - 1)) T → VS S gs →
    ∃ S' g', s_law_o_L455 F la (i32 c) (i32 K) n (i32 kk) S = some (i32 (K + 1), S') ∧ J F S' g' ∧ HS S' (c - K) 0 T ∧ VS S' gs := by
  intro d
  induction d with
  | zero =>
    intro kk n S g h1 h2 h3 h4 h5 h6
    obtain ⟨k, rfl⟩ : ∃ k, n = k + 1 := ⟨n - 1, by omega⟩
    have : kk = K + 1 := by omega
    subst this
    refine ⟨S, g, ?_, h4, ?_, h6⟩
    · simp only [s_law_o_L455]
      rw [if_pos (show i32 K < i32 (K + 1) from y_lt (by omega) (by omega))]
    · rwa [show K + 1 - 1 = K by omega, show K - K = 0 by omega] at h5
  | succ d ih =>
    intro kk n S g h1 h2 h3 h4 h5 h6
    obtain ⟨k, rfl⟩ : ∃ k, n = k + 1 := ⟨n - 1, by omega⟩
    rw [show K - (kk - 1) = (K - kk) + 1 by omega] at h5
    obtain ⟨S', g', e1, e2, e3, e4, e5⟩ := x_undo h4 h5 hF
    rw [show c - (kk - 1) - 1 = c - kk by omega] at e4 e5
    simp only [s_law_o_L455]
    rw [if_neg (show ¬ (i32 K < i32 kk) from n_lt (by omega) (by omega)), e1]
    simp only [Option.bind_some]
    rw [if_pos (show i32 (K - kk) = i32 K - i32 kk from (i32_sub (by omega)).symm), x_state e3 hF]
    simp only [Option.bind_some]
    rw [show i32 c - i32 kk = i32 (c - kk) from i32_sub (by omega), aget_i64 (by omega)]
    simp only [Option.bind_some]
    rw [if_pos (by rw [hla _ (by omega), e4]; exact lgc _), i_one]
    refine ih (kk + 1) k S' g' (by omega) (by omega) (by omega) e3 ?_ (sv_VS e2 h6)
    rwa [show kk + 1 - 1 = kk by omega]
theorem x_l543 (hF : 1000 ≤ F) : ∀ d i n S g c k T, i + d = 3 → d < n → J F S g → HS S c k T → VS S gs →
    ∃ S' g' c' k' T', s_law_o_L543 F LL xs n (i32 i) S = some (i32 3, S') ∧ J F S' g' ∧ HS S' c' k' T' ∧ VS S' gs := by
  intro d
  induction d with
  | zero =>
    intro i n S g c k T h1 h2 h3 h4 h5
    obtain ⟨m, rfl⟩ : ∃ m, n = m + 1 := ⟨n - 1, by omega⟩
    have : i = 3 := by omega
    subst this
    refine ⟨S, g, c, k, T, ?_, h3, h4, h5⟩
    simp only [s_law_o_L543]
    rw [if_pos (show (3 : Int32) ≤ i32 3 by decide)]
  | succ d ih =>
    intro i n S g c k T h1 h2 h3 h4 h5
    obtain ⟨m, rfl⟩ : ∃ m, n = m + 1 := ⟨n - 1, by omega⟩
    obtain ⟨v, ev⟩ := at_ok LL xs (i := 18 + i) (by omega)
    obtain ⟨r, S', e1, e2, e3⟩ := x_does h3 h4 hF v
    simp only [s_law_o_L543]
    rw [if_neg (show ¬ ((3 : Int32) ≤ i32 i) from n_le (a := 3) (by omega) (by omega)), show (18 : Int32) + i32 i = i32 (18 + i) from i32_add 18 i, ev]
    simp only [Option.bind_some]
    rw [e1]
    simp only [Option.bind_some]
    rcases e3 with ⟨rfl, g', e4, e5⟩ | ⟨rfl, rfl⟩
    · rw [if_pos (by decide), i_one]
      exact ih (i + 1) m S' g' _ _ _ (by omega) (by omega) e4 e5 (sv_VS e2 h5)
    · rw [if_pos (by decide), i_one]
      exact ih (i + 1) m S' g c k T (by omega) (by omega) h3 h4 h5
theorem x_law9 {ask : TopS → Option (Int64 × TopS)} {ref : TopS → Option TopS} {l1 : TopS → (Nat → Int64) → Option (Int32 × Int32 × TopS × (Nat → Int64))} {l2 : (Nat → Int64) → Int32 → Int32 → TopS → Option (Int32 × TopS)} {l3 : TopS → Option (Int32 × TopS)}
    {c : Nat} {x : Int32} {la la1 : Nat → Int64} {h : Int64} {S S1 S2 S3 S4 S5 S6 S7 S8 S9 Sa Sb Sc : TopS} {x7 xa : Int32} (hc : c ≤ 18)
    (e1 : l1 S la = some (i32 c, x, S1, la1)) (e2 : ask S1 = some (h, S2)) (e3 : ask S2 = some (h, S3)) (e4 : ref S3 = some S4) (e5 : ask S4 = some (h, S5)) (e6 : i_save F S5 = some (i_pointCount S6, S6))
    (e7 : l2 la1 (i32 c) (i32 (min c 12)) S6 = some (x7, S7)) (u7 : s_h_undo F S7 = some ((-1001 : Int32), S7)) (e8 : s_h_restore F S7 = some (i_pointCount S8, S8)) (e9 : ask S8 = some (h, S9)) (u9 : s_h_undo F S9 = some ((-1001 : Int32), S9))
    (ea : l3 S9 = some (xa, Sa)) (eb : s_h_restore F Sa = some (i_pointCount Sb, Sb)) (ec : ask Sb = some (h, Sc)) : s_law9 ask ref l1 l2 l3 F S la = some () := by
  have ek : imin (12 : Int32) (i32 c) = i32 (min c 12) := by
    rw [show (12 : Int32) = i32 12 from rfl, imin_i (by omega) (by omega)]
    congr 1; omega
  unfold s_law9
  rw [e1]; simp only [Option.bind_some]
  rw [e2]; simp only [Option.bind_some]
  rw [e3]; simp only [Option.bind_some]
  rw [if_pos (lgc _), e4]; simp only [Option.bind_some]
  rw [e5]; simp only [Option.bind_some]
  rw [if_pos (lgc _), e6]; simp only [Option.bind_some]
  rw [if_pos trivial, ek, e7]; simp only [Option.bind_some]
  rw [u7]; simp only [Option.bind_some]
  rw [if_pos trivial, e8]; simp only [Option.bind_some]
  rw [if_pos trivial, e9]; simp only [Option.bind_some]
  rw [if_pos (lgc _), u9]; simp only [Option.bind_some]
  rw [if_pos trivial, ea]; simp only [Option.bind_some]
  rw [eb]; simp only [Option.bind_some]
  rw [if_pos trivial, ec]; simp only [Option.bind_some]
  rw [if_pos (lgc _)]
theorem x_law_o (hF : 1000 ≤ F) {S : TopS} {g : Nat → Int32} {T : Nat → Int64} (h : J F S g) (hx : HS S 0 0 T) (hi : iln S = 0) (la : Nat → Int64) : s_law_o F LL xs S la = some () := by
  obtain ⟨c, S1, la1, g1, T1, e1, j1, x1, hc, hla, i1⟩ := x_l322 (LL := LL) (xs := xs) hF 18 0 60 0 la S g T (by omega) (by omega) h hx (by omega) (fun j hj => by omega) hi
  obtain ⟨S2, e2, k2⟩ := x_asks j1 hF
  obtain ⟨S3, e3, k3⟩ := x_asks k2.1 hF
  have i3 : iln S3 = 0 := (rk_iln k3).trans ((rk_iln k2).trans i1)
  obtain ⟨S4, e4, k4⟩ := x_refused k3.1 i3 hF
  obtain ⟨S5, e5, k5⟩ := x_asks k4.1 hF
  have x5 : HS S5 c (min c 12) T1 := rk_HS k5 (rk_HS k4 (rk_HS k3 (rk_HS k2 x1)))
  obtain ⟨S6, e6, j6, v6, y6, z6⟩ := x_save k5.1 hF
  have x6 : HS S6 c (min c 12) T1 := by
    unfold HS
    rw [y6]
    exact x5
  obtain ⟨S7, g7, e7, j7, x7, v7⟩ := x_l455 (gs := g1) hF hc rfl hla (min c 12) 1 60 S6 g1 (by omega) (by omega) (by omega) j6 x6 v6
  obtain ⟨S8, e8, j8, v8, x8, _⟩ := x_restore v7 x7 hF
  obtain ⟨S9, e9, k9⟩ := x_asks j8 hF
  obtain ⟨Sa, ga, ca, ka, Ta, ea, ja, xa, va⟩ := x_l543 (LL := LL) (xs := xs) (gs := g1) hF 3 0 60 S9 g1 _ _ _ (by omega) (by omega) k9.1 (rk_HS k9 x8) (rk_VS k9 v8)
  obtain ⟨Sb, eb, jb, vb, xb, _⟩ := x_restore va xa hF
  obtain ⟨Sc, ec, kc⟩ := x_asks jb hF
  exact x_law9 (ask := s_L_asks F) (ref := s_L_refused F) (l1 := fun S la => s_law_o_L322 F LL xs 60 (0 : Int32) (0 : Int32) S la) (l2 := fun la x4 x7 S => s_law_o_L455 F la x4 x7 60 (1 : Int32) S) (l3 := fun S => s_law_o_L543 F LL xs 60 (0 : Int32) S) hc e1 e2 e3 e4 e5 e6 e7 (x_undo0 x7) e8 e9 (x_undo0 (rk_HS k9 x8)) ea eb ec
theorem start_J (F : Nat) : J F S00 tz := by
  have z : ∀ {P : Nat → Prop} (i : Nat), i < 0 → P i := fun i h => absurd h (Nat.not_lt_zero i)
  exact ⟨⟨0, 0, fun _ => 0, fun _ => 0, fun _ => 0, fun _ => 0, ⟨rfl, rfl, fun i h => by omega, fun i h => by omega⟩, ⟨rfl, rfl, fun i h => by omega, fun i h => by omega⟩, ⟨by omega, by omega, fun i h => by omega, fun i j h => by omega, fun i h => by omega, fun i j h => by omega, fun i j h => by omega, fun i j h => by omega⟩⟩,
    Or.inr ⟨rfl, rfl, fun _ => rfl, fun _ => rfl, rfl, rfl, rfl⟩⟩
theorem start_H : HS S00 0 0 (fun _ => 0) := ⟨0, by omega, by omega, by omega, rfl, rfl, fun j h => by omega⟩
theorem o_runs (LL : Nat) (xs : Nat → Int32) (la : Nat → Int64) : s_law_o 2000 LL xs S00 la = some () := x_law_o (by omega) (start_J 2000) start_H rfl la
end BODY
