section MCROSS
variable {n m : Nat} {X Y : Nat → Int} {L H : Nat → Nat} {mnow : Nat → Int32}
theorem m_cross (hM : MP n m X Y L H mnow) (hO : Ok n m X Y L H) {a b c d : Nat} (ha : a < n) (hb : b < n) (hc : c < n) (hd : d < n) :
    s_Mod_cross mnow (i32 a) (i32 b) (i32 c) (i32 d) = some (dB (Cr (pt X Y) a b c d)) := by
  have hn := hO.1
  have pc := pc_iff (P := pt X Y) (a := a) (b := b) (c := c) (d := d) rfl rfl rfl rfl
  have cv : ¬ (min a b = min c d ∧ max a b = max c d) → dt (pt X Y a) (pt X Y b) (pt X Y c) = 0 → dt (pt X Y a) (pt X Y b) (pt X Y d) = 0 →
      ¬ Pc (pt X Y) a b c d →
      (if bI (dB (cov (pt X Y a) (pt X Y b) (pt X Y c))) = 0 then
        if bI (dB (cov (pt X Y a) (pt X Y b) (pt X Y d))) = 0 then
          if bI (dB (cov (pt X Y c) (pt X Y d) (pt X Y a))) = 0 then
            if bI (dB (cov (pt X Y c) (pt X Y d) (pt X Y b))) = 0 then some false else some true
          else some true
        else some true
      else some true) = some (dB (Cr (pt X Y) a b c d)) := by
    intro ns z1 z2 np
    by_cases k1 : cov (pt X Y a) (pt X Y b) (pt X Y c)
    · rw [if_neg (bI_t k1), dB_t (show Cr (pt X Y) a b c d from Or.inr ⟨z1, z2, Or.inr (Or.inl k1)⟩)]
    · rw [if_pos (bI_f k1)]
      by_cases k2 : cov (pt X Y a) (pt X Y b) (pt X Y d)
      · rw [if_neg (bI_t k2), dB_t (show Cr (pt X Y) a b c d from Or.inr ⟨z1, z2, Or.inr (Or.inr (Or.inl k2))⟩)]
      · rw [if_pos (bI_f k2)]
        by_cases k3 : cov (pt X Y c) (pt X Y d) (pt X Y a)
        · rw [if_neg (bI_t k3), dB_t (show Cr (pt X Y) a b c d from Or.inr ⟨z1, z2, Or.inr (Or.inr (Or.inr (Or.inl k3)))⟩)]
        · rw [if_pos (bI_f k3)]
          by_cases k4 : cov (pt X Y c) (pt X Y d) (pt X Y b)
          · rw [if_neg (bI_t k4), dB_t (show Cr (pt X Y) a b c d from Or.inr ⟨z1, z2, Or.inr (Or.inr (Or.inr (Or.inr k4)))⟩)]
          · rw [if_pos (bI_f k4), dB_f (show ¬ Cr (pt X Y) a b c d from fun k => k.elim np (fun q => q.2.2.elim ns (fun q => q.elim k1 (fun q => q.elim k2 (fun q => q.elim k3 k4)))))]
  unfold s_Mod_cross
  simp only [m_turns hM hO ha hb hc, m_turns hM hO ha hb hd, m_turns hM hO hc hd ha, m_turns hM hO hc hd hb, Option.bind_some, sg_mul,
    m_x mnow (show a < 17 by omega), m_y mnow (show a < 17 by omega), m_x mnow (show b < 17 by omega), m_y mnow (show b < 17 by omega),
    m_x mnow (show c < 17 by omega), m_y mnow (show c < 17 by omega), m_x mnow (show d < 17 by omega), m_y mnow (show d < 17 by omega),
    m_onp hM hO ha hb hc, m_onp hM hO ha hb hd, m_onp hM hO hc hd ha, m_onp hM hO hc hd hb,
    imin_i (show a < 2147483648 by omega) (show b < 2147483648 by omega), imin_i (show c < 2147483648 by omega) (show d < 2147483648 by omega),
    imax_i (show a < 2147483648 by omega) (show b < 2147483648 by omega), imax_i (show c < 2147483648 by omega) (show d < 2147483648 by omega)]
  by_cases p1 : dt (pt X Y a) (pt X Y b) (pt X Y c) * dt (pt X Y a) (pt X Y b) (pt X Y d) < 0
  · rw [if_neg (fun k => by have := (sg_ge _).1 k; omega)]
    by_cases p2 : dt (pt X Y c) (pt X Y d) (pt X Y a) * dt (pt X Y c) (pt X Y d) (pt X Y b) < 0
    · rw [if_neg (fun k => by have := (sg_ge _).1 k; omega), dB_t (show Cr (pt X Y) a b c d from Or.inl (pc.1 ⟨p1, p2⟩))]
    · rw [if_pos ((sg_ge _).2 (by omega))]
      have np : ¬ Pc (pt X Y) a b c d := fun k => p2 (pc.2 k).2
      have cv := fun h1 h2 h3 => cv h1 h2 h3 np
      by_cases z1 : dt (pt X Y a) (pt X Y b) (pt X Y c) = 0
      · rw [if_pos ((sg_0 _).2 z1)]
        by_cases z2 : dt (pt X Y a) (pt X Y b) (pt X Y d) = 0
        · rw [if_pos ((sg_0 _).2 z2)]
          have e10 : ¬ ((1 : Int32) = 0) := by decide
          by_cases s1 : min a b = min c d
          · rw [if_pos (by rw [s1])]
            by_cases s2 : max a b = max c d
            · rw [if_pos (by rw [s2]), if_neg e10, dB_t (show Cr (pt X Y) a b c d from Or.inr ⟨z1, z2, Or.inl ⟨s1, s2⟩⟩)]
            · rw [if_neg (n_eq (by omega) (by omega) s2), if_pos trivial]
              exact cv (fun z => s2 z.2) z1 z2
          · rw [if_neg (n_eq (by omega) (by omega) s1), if_pos trivial]
            exact cv (fun z => s1 z.1) z1 z2
        · rw [if_neg (fun k => z2 ((sg_0 _).1 k)), dB_f (show ¬ Cr (pt X Y) a b c d from fun k => k.elim np (fun q => z2 q.2.1))]
      · rw [if_neg (fun k => z1 ((sg_0 _).1 k)), dB_f (show ¬ Cr (pt X Y) a b c d from fun k => k.elim np (fun q => z1 q.1))]
  · rw [if_pos ((sg_ge _).2 (by omega))]
    have np : ¬ Pc (pt X Y) a b c d := fun k => p1 (pc.2 k).1
    have cv := fun h1 h2 h3 => cv h1 h2 h3 np
    by_cases z1 : dt (pt X Y a) (pt X Y b) (pt X Y c) = 0
    · rw [if_pos ((sg_0 _).2 z1)]
      by_cases z2 : dt (pt X Y a) (pt X Y b) (pt X Y d) = 0
      · rw [if_pos ((sg_0 _).2 z2)]
        have e10 : ¬ ((1 : Int32) = 0) := by decide
        by_cases s1 : min a b = min c d
        · rw [if_pos (by rw [s1])]
          by_cases s2 : max a b = max c d
          · rw [if_pos (by rw [s2]), if_neg e10, dB_t (show Cr (pt X Y) a b c d from Or.inr ⟨z1, z2, Or.inl ⟨s1, s2⟩⟩)]
          · rw [if_neg (n_eq (by omega) (by omega) s2), if_pos trivial]
            exact cv (fun z => s2 z.2) z1 z2
        · rw [if_neg (n_eq (by omega) (by omega) s1), if_pos trivial]
          exact cv (fun z => s1 z.1) z1 z2
      · rw [if_neg (fun k => z2 ((sg_0 _).1 k)), dB_f (show ¬ Cr (pt X Y) a b c d from fun k => k.elim np (fun q => z2 q.2.1))]
    · rw [if_neg (fun k => z1 ((sg_0 _).1 k)), dB_f (show ¬ Cr (pt X Y) a b c d from fun k => k.elim np (fun q => z1 q.1))]

theorem m_empty (hM : MP n m X Y L H mnow) (hO : Ok n m X Y L H) (F : Nat) (hF : 300 ≤ F) {a b c : Nat} (ha : a < n) (hb : b < n) (hc : c < n) :
    s_Mod_isEmpty F mnow (i32 a) (i32 b) (i32 c) = some (dB (Em n (pt X Y) a b c)) := by
  have hn := hO.1
  have h := ffB (fun k i => s_Mod_isEmpty_L3 mnow (i32 a) (i32 b) (i32 c) k (i32 i)) n
    (fun p => p ≠ a ∧ p ≠ b ∧ p ≠ c ∧ tin (pt X Y a) (pt X Y b) (pt X Y c) (pt X Y p)) (Sum.inl false) (Sum.inr (i32 n))
    (fun k => by simp only [s_Mod_isEmpty_L3, m_n hM, Option.bind_some]; rw [if_pos (y_le (by omega) (by omega))])
    (fun k i hi h => by
      obtain ⟨h1, h2, h3, h4, h5, h6⟩ := h
      simp only [s_Mod_isEmpty_L3, m_n hM, Option.bind_some, m_turns hM hO ha hb hi, m_turns hM hO hb hc hi, m_turns hM hO hc ha hi]
      rw [if_neg (n_le (by omega) hi), if_neg (n_eq (by omega) (by omega) h1), if_neg (n_eq (by omega) (by omega) h2), if_neg (n_eq (by omega) (by omega) h3),
        if_neg (fun k => by have := (sg_lt _).1 k; omega), if_neg (fun k => by have := (sg_lt _).1 k; omega), if_neg (fun k => by have := (sg_lt _).1 k; omega)])
    (fun k i hi h => by
      simp only [s_Mod_isEmpty_L3, m_n hM, Option.bind_some, m_turns hM hO ha hb hi, m_turns hM hO hb hc hi, m_turns hM hO hc ha hi]
      rw [if_neg (n_le (by omega) hi), i32_s]
      by_cases h1 : i = a
      · rw [if_pos (by rw [h1])]
      rw [if_neg (n_eq (by omega) (by omega) h1)]
      by_cases h2 : i = b
      · rw [if_pos (by rw [h2])]
      rw [if_neg (n_eq (by omega) (by omega) h2)]
      by_cases h3 : i = c
      · rw [if_pos (by rw [h3])]
      rw [if_neg (n_eq (by omega) (by omega) h3)]
      by_cases t1 : dt (pt X Y a) (pt X Y b) (pt X Y i) < 0
      · rw [if_pos ((sg_lt _).2 t1)]
      rw [if_neg (fun k => t1 ((sg_lt _).1 k))]
      by_cases t2 : dt (pt X Y b) (pt X Y c) (pt X Y i) < 0
      · rw [if_pos ((sg_lt _).2 t2)]
      rw [if_neg (fun k => t2 ((sg_lt _).1 k))]
      by_cases t3 : dt (pt X Y c) (pt X Y a) (pt X Y i) < 0
      · rw [if_pos ((sg_lt _).2 t3)]
      exact (h ⟨h1, h2, h3, by omega, by omega, by omega⟩).elim)
    0 F (by omega) (by omega)
  unfold s_Mod_isEmpty
  rcases h with ⟨⟨j, _, h1, h2⟩, e⟩ | ⟨h1, e⟩
  · have e : s_Mod_isEmpty_L3 mnow (i32 a) (i32 b) (i32 c) F (0 : Int32) = some (Sum.inl false) := e
    rw [e, dB_f (fun k => k j h1 h2.1 h2.2.1 h2.2.2.1 h2.2.2.2)]; rfl
  · have e : s_Mod_isEmpty_L3 mnow (i32 a) (i32 b) (i32 c) F (0 : Int32) = some (Sum.inr (i32 n)) := e
    rw [e, dB_t (show Em n (pt X Y) a b c from fun p q1 q2 q3 q4 q5 => h1 p (by omega) q1 ⟨q2, q3, q4, q5⟩)]; rfl
/-- the answer of a search for the third corner -/
def Ar (n : Nat) (P : Nat → Int × Int × Int) (E : Nat → Nat → Prop) (u v : Nat) (x : Int32) : Prop :=
  (∃ w, Ap n P E u v w ∧ x = i32 w) ∨ ((∀ w, ¬ Ap n P E u v w) ∧ x = (-1 : Int32))
theorem m_apex (hM : MP n m X Y L H mnow) (hO : Ok n m X Y L H) {medg : Nat → Int32} {E : Nat → Nat → Prop} (hE : ME medg E) (G : Ge n (pt X Y) E)
    (F : Nat) (hF : 300 ≤ F) {a b : Nat} (hab : E a b) :
    ∃ x, s_Mod_apex F mnow medg (i32 a) (i32 b) = some x ∧ Ar n (pt X Y) E a b x := by
  have hn := hO.1
  have ge := G.2.2.1
  obtain ⟨ha, hb, ab, eba⟩ := ge a b hab
  have h := ff (fun k i => s_Mod_apex_L2 F mnow medg (i32 a) (i32 b) k (i32 i)) n (fun c => Ap n (pt X Y) E a b c) (fun c => Sum.inl (i32 c)) (Sum.inr (i32 n))
    (fun k => by simp only [s_Mod_apex_L2, m_n hM, Option.bind_some]; rw [if_pos (y_le (by omega) (by omega))])
    (fun k i hi h => by
      obtain ⟨_, _, _, _, bi, ia⟩ := ap_lt G h
      obtain ⟨h1, h2, h3, h4, h5⟩ := h
      simp only [s_Mod_apex_L2, m_n hM, Option.bind_some, m_turns hM hO ha hb hi, m_empty hM hO F hF ha hb hi,
        m_has hE (show a < 17 by omega) (show i < 17 by omega), m_has hE (show b < 17 by omega) (show i < 17 by omega)]
      rw [if_neg (n_le (by omega) hi), if_neg (n_eq (by omega) (by omega) ia), if_neg (n_eq (by omega) (by omega) (Ne.symm bi)),
        if_neg (bI_t (ge i a h3).2.2.2), if_neg (bI_t h2), if_neg (fun k => by have := (sg_le _).1 k; omega), if_neg (bI_t h5)])
    (fun k i hi h => by
      simp only [s_Mod_apex_L2, m_n hM, Option.bind_some, m_turns hM hO ha hb hi, m_empty hM hO F hF ha hb hi,
        m_has hE (show a < 17 by omega) (show i < 17 by omega), m_has hE (show b < 17 by omega) (show i < 17 by omega)]
      rw [if_neg (n_le (by omega) hi), i32_s]
      by_cases h1 : i = a
      · rw [if_pos (by rw [h1])]
      rw [if_neg (n_eq (by omega) (by omega) h1)]
      by_cases h2 : i = b
      · rw [if_pos (by rw [h2])]
      rw [if_neg (n_eq (by omega) (by omega) h2)]
      by_cases t1 : E a i
      case neg => rw [if_pos (bI_f t1)]
      rw [if_neg (bI_t t1)]
      by_cases t2 : E b i
      case neg => rw [if_pos (bI_f t2)]
      rw [if_neg (bI_t t2)]
      by_cases t3 : dt (pt X Y a) (pt X Y b) (pt X Y i) ≤ 0
      · rw [if_pos ((sg_le _).2 t3)]
      rw [if_neg (fun k => t3 ((sg_le _).1 k))]
      by_cases t4 : Em n (pt X Y) a b i
      · exact (h ⟨hab, t2, (ge a i t1).2.2.2, by omega, t4⟩).elim
      · rw [if_pos (bI_f t4)])
    n 0 F (by omega) (by omega)
  unfold s_Mod_apex
  rcases h with ⟨j, _, h1, h2, _, e⟩ | ⟨h1, e⟩
  · have e : s_Mod_apex_L2 F mnow medg (i32 a) (i32 b) F (0 : Int32) = some (Sum.inl (i32 j)) := e
    rw [e]
    exact ⟨i32 j, rfl, Or.inl ⟨j, h2, rfl⟩⟩
  · have e : s_Mod_apex_L2 F mnow medg (i32 a) (i32 b) F (0 : Int32) = some (Sum.inr (i32 n)) := e
    rw [e]
    exact ⟨-1, rfl, Or.inr ⟨fun w hw => h1 w (by omega) (ap_lt G hw).2.2.1 hw, rfl⟩⟩
theorem m_crAny (hM : MP n m X Y L H mnow) (hO : Ok n m X Y L H) {medg : Nat → Int32} {E : Nat → Nat → Prop} (hE : ME medg E)
    (F : Nat) (hF : 300 ≤ F) {a b : Nat} (ha : a < n) (hb : b < n) :
    s_Mod_crossesAny F mnow medg (i32 a) (i32 b) = some (dB (∃ c d, c < d ∧ d < n ∧ E c d ∧ Cr (pt X Y) a b c d)) := by
  have hn := hO.1
  have inner := fun c (hc : c < n) => ffB (fun k i => s_Mod_crossesAny_L15 mnow medg (i32 a) (i32 b) (i32 c) k (i32 i)) n (fun d => E c d ∧ Cr (pt X Y) a b c d) (Sum.inl true) (Sum.inr (i32 n))
    (fun k => by simp only [s_Mod_crossesAny_L15, m_n hM, Option.bind_some]; rw [if_pos (y_le (by omega) (by omega))])
    (fun k i hi h => by
      simp only [s_Mod_crossesAny_L15, m_n hM, Option.bind_some, m_has hE (show c < 17 by omega) (show i < 17 by omega), m_cross hM hO ha hb hc hi]
      rw [if_neg (n_le (by omega) hi), if_neg (bI_t h.1), if_neg (bI_t h.2)])
    (fun k i hi h => by
      simp only [s_Mod_crossesAny_L15, m_n hM, Option.bind_some, m_has hE (show c < 17 by omega) (show i < 17 by omega), m_cross hM hO ha hb hc hi]
      rw [if_neg (n_le (by omega) hi), i32_s]
      by_cases t : E c i
      · rw [if_neg (bI_t t), if_pos (bI_f (fun z => h ⟨t, z⟩))]
      · rw [if_pos (bI_f t)])
    (c + 1) F (by omega) (by omega)
  have h := ffB (fun k i => s_Mod_crossesAny_L2 F mnow medg (i32 a) (i32 b) k (i32 i)) n (fun c => ∃ d, c + 1 ≤ d ∧ d < n ∧ E c d ∧ Cr (pt X Y) a b c d) (Sum.inl true) (Sum.inr (i32 n))
    (fun k => by simp only [s_Mod_crossesAny_L2, m_n hM, Option.bind_some]; rw [if_pos (y_le (by omega) (by omega))])
    (fun k i hi h => by
      simp only [s_Mod_crossesAny_L2, m_n hM, Option.bind_some]
      rw [if_neg (n_le (by omega) hi), i32_s]
      rcases inner i hi with ⟨_, e⟩ | ⟨h1, e⟩
      · rw [e]; rfl
      · obtain ⟨d, q1, q2, q3⟩ := h
        exact (h1 d q1 q2 q3).elim)
    (fun k i hi h => by
      simp only [s_Mod_crossesAny_L2, m_n hM, Option.bind_some]
      rw [if_neg (n_le (by omega) hi), i32_s]
      rcases inner i hi with ⟨⟨d, q1, q2, q3⟩, e⟩ | ⟨h1, e⟩
      · exact (h ⟨d, q1, q2, q3⟩).elim
      · rw [e]; rfl)
    0 F (by omega) (by omega)
  unfold s_Mod_crossesAny
  rcases h with ⟨⟨c, _, h1, d, q1, q2, q3⟩, e⟩ | ⟨h1, e⟩
  · have e : s_Mod_crossesAny_L2 F mnow medg (i32 a) (i32 b) F (0 : Int32) = some (Sum.inl true) := e
    rw [e, dB_t ⟨c, d, by omega, q2, q3⟩]; rfl
  · have e : s_Mod_crossesAny_L2 F mnow medg (i32 a) (i32 b) F (0 : Int32) = some (Sum.inr (i32 n)) := e
    rw [e, dB_f (fun ⟨c, d, q1, q2, q3⟩ => h1 c (by omega) (by omega) ⟨d, by omega, q2, q3⟩)]; rfl
/-- all points on one line, as the reference asks -/
theorem m_line (hM : MP n m X Y L H mnow) (hO : Ok n m X Y L H) (F : Nat) (hF : 300 ≤ F) :
    s_Mod_isLine F mnow = some (dB (∀ c, 2 ≤ c → c < n → dt (pt X Y 0) (pt X Y 1) (pt X Y c) = 0)) := by
  have hn := hO.1
  by_cases h2 : n < 2
  · unfold s_Mod_isLine
    obtain ⟨F, rfl⟩ : ∃ j, F = j + 1 := ⟨F - 1, by omega⟩
    have e : s_Mod_isLine_L2 mnow (F + 1) (2 : Int32) = some (Sum.inr (2 : Int32)) := by
      simp only [s_Mod_isLine_L2, m_n hM, Option.bind_some]
      rw [if_pos (show i32 n ≤ (2 : Int32) from y_le (b := 2) (by omega) (by omega))]
    rw [e, dB_t (fun c q1 q2 => by omega)]; rfl
  · have h := ffB (fun k i => s_Mod_isLine_L2 mnow k (i32 i)) n (fun c => dt (pt X Y 0) (pt X Y 1) (pt X Y c) ≠ 0) (Sum.inl false) (Sum.inr (i32 n))
      (fun k => by simp only [s_Mod_isLine_L2, m_n hM, Option.bind_some]; rw [if_pos (y_le (by omega) (by omega))])
      (fun k i hi h => by
        have t := m_turns hM hO (a := 0) (b := 1) (c := i) (by omega) (by omega) hi
        have t : s_Mod_turns mnow (0 : Int32) (1 : Int32) (i32 i) = _ := t
        simp only [s_Mod_isLine_L2, m_n hM, Option.bind_some, t]
        rw [if_neg (n_le (by omega) hi), if_neg (fun k => h ((sg_0 _).1 k))])
      (fun k i hi h => by
        have t := m_turns hM hO (a := 0) (b := 1) (c := i) (by omega) (by omega) hi
        have t : s_Mod_turns mnow (0 : Int32) (1 : Int32) (i32 i) = _ := t
        simp only [s_Mod_isLine_L2, m_n hM, Option.bind_some, t]
        rw [if_neg (n_le (by omega) hi), if_pos ((sg_0 _).2 (by omega)), i32_s])
      2 F (by omega) (by omega)
    unfold s_Mod_isLine
    rcases h with ⟨⟨j, h0, h1, h2⟩, e⟩ | ⟨h1, e⟩
    · have e : s_Mod_isLine_L2 mnow F (2 : Int32) = some (Sum.inl false) := e
      rw [e, dB_f (fun k => h2 (k j h0 h1))]; rfl
    · have e : s_Mod_isLine_L2 mnow F (2 : Int32) = some (Sum.inr (i32 n)) := e
      rw [e, dB_t (fun c q1 q2 => by have := h1 c q1 q2; omega)]; rfl
end MCROSS
