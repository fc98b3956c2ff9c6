section CG4
variable {F n m : Nat} {X Y : Nat → Int} {L H : Nat → Nat} {pxs pys plo phi : Nat → Int32} {pn pm : Int32} {mnow : Nat → Int32}
variable {lf th ow lk el eh co hu : Nat → Int32} {ne nt nh : Int32} {xs : Nat → Int32} {fl : Nat → Int64} {x5 : Int32}
variable {hp : Nat → PlanS} {hnx hkp mols : Int32} {mold : Nat → Int32}
/-- the mesh is drawn from the plan, or nothing has been drawn yet -/
def Dw (F : Nat) (P : PlanS) (M : MeshT) : Prop :=
  (∃ a b c d e f g h, s_Mesh_draw F P.1 P.2.1 P.2.2.1 P.2.2.2.1 P.2.2.2.2.1 P.2.2.2.2.2 a b c d e f g h = some M) ∨
  (P.2.2.2.2.1 = 0 ∧ P.2.2.2.2.2 = 0 ∧ (∀ j, M.1 j = 0) ∧ (∀ j, M.2.2.2.1 j = 0) ∧ M.2.2.2.2.2.2.2.2.1 = 0 ∧ M.2.2.2.2.2.2.2.2.2.1 = 0 ∧ M.2.2.2.2.2.2.2.2.2.2 = 0)
def CI (F : Nat) (P : PlanS) (M : MeshT) (hp : Nat → PlanS) (hnx hkp : Int32) (mnow mold : Nat → Int32) (mols : Int32) : Prop :=
  PR P mnow ∧ Dw F P M ∧ HR hp hnx hkp mold mols
theorem draw_ok (hC : CP n m X Y L H pxs pys plo phi pn pm) (hM : MP n m X Y L H mnow) (hO : Ok n m X Y L H) (hF : 1000 ≤ F) (lf th ow lk el eh co hu : Nat → Int32) :
    ∃ lf' th' ow' lk' el' eh' co' hu' ne' nt' nh', s_Mesh_draw F pxs pys plo phi pn pm lf th ow lk el eh co hu = some (lf', th', ow', lk', el', eh', co', hu', ne', nt', nh') := by
  obtain ⟨⟨lf', th', ow', lk', el', eh', co', hu', ne', nt', nh'⟩, o, d, _, _⟩ := draw_sim hC hM hO F hF lf th ow lk el eh co hu (fun _ => 0) (fun _ => 0)
  exact ⟨_, _, _, _, _, _, _, _, _, _, _, d⟩
/-- the law's comparison of one change -/
theorem caseC {A B C : Type} {law : Option (Int32 × A)} {mod : Option (Int32 × Int32 × B)} (fl : A → Nat → Int64) (f : Int32 × A → Int32 × Int32 × B → C) {v thr : Int32} {a : A} {b : B}
    (h1 : law = some (thr, a)) (h2 : mod = some (v, thr, b)) (h3 : thr = 0 → fl a 0 = v.toInt64) :
    (law.bind fun v1 => mod.bind fun v2 => if (s_Mod_thrown v2.2.1) = v1.1 then (if v1.1 = 0 then (if (lg_cmp (fl v1.2 (0 : Int32).toNatClampNeg) (v2.1.toInt64)) = 0 then some (f v1 v2) else none) else some (f v1 v2)) else none) = some (f (thr, a) (v, thr, b)) := by
  rw [h1, h2]
  simp only [Option.bind_some]
  rw [if_pos (show s_Mod_thrown thr = thr from rfl)]
  by_cases c : thr = 0
  · rw [if_pos c, if_pos]
    show lg_cmp (fl a 0) v.toInt64 = 0
    rw [h3 c]; exact lgc _
  · rw [if_neg c]
theorem caseB {A B C : Type} {law : Option (Int32 × A)} {mod : Option (Bool × Int32 × B)} (fl : A → Nat → Int64) (f : Int32 × A → Bool × Int32 × B → C) {v : Bool} {thr : Int32} {a : A} {b : B}
    (h1 : law = some (thr, a)) (h2 : mod = some (v, thr, b)) (h3 : thr = 0 → fl a 0 = if bI v = 0 then 0 else 1) :
    (law.bind fun v1 => mod.bind fun v2 => if (s_Mod_thrown v2.2.1) = v1.1 then (if v1.1 = 0 then (if (bI v2.1) = 0 then (if (lg_cmp (fl v1.2 (0 : Int32).toNatClampNeg) (0 : Int64)) = 0 then some (f v1 v2) else none)
      else (if (lg_cmp (fl v1.2 (0 : Int32).toNatClampNeg) (1 : Int64)) = 0 then some (f v1 v2) else none)) else some (f v1 v2)) else none) = some (f (thr, a) (v, thr, b)) := by
  rw [h1, h2]
  simp only [Option.bind_some]
  rw [if_pos (show s_Mod_thrown thr = thr from rfl)]
  by_cases c : thr = 0
  · have h3 := h3 c
    rw [if_pos c]
    by_cases d : bI v = 0
    · rw [if_pos d] at h3
      rw [if_pos d, if_pos]
      show lg_cmp (fl a 0) 0 = 0
      rw [h3]; exact lgc _
    · rw [if_neg d] at h3
      rw [if_neg d, if_pos]
      show lg_cmp (fl a 0) 1 = 0
      rw [h3]; exact lgc _
  · rw [if_neg c]
theorem upd0 (fl : Nat → Int64) (x : Int64) : vp_updL fl (0 : Int32).toNatClampNeg x 0 = x := by
  show (if (0 : Nat) = (0 : Int32).toNatClampNeg then x else fl 0) = x
  rw [if_pos (by decide)]
theorem ch_0 (ci : CI F (pxs, pys, plo, phi, pn, pm) (lf, th, ow, lk, el, eh, co, hu, ne, nt, nh) hp hnx hkp mnow mold mols) (hF : 1000 ≤ F) (a0 a1 : Int32) :
    ∃ (thr : Int32) (v : Int32) (pxs' : Nat → Int32) (pys' : Nat → Int32) (pn' : Int32) (lf' : Nat → Int32) (th' : Nat → Int32) (ow' : Nat → Int32) (lk' : Nat → Int32) (el' : Nat → Int32) (eh' : Nat → Int32) (co' : Nat → Int32) (hu' : Nat → Int32) (ne' : Int32) (nt' : Int32) (nh' : Int32) (hp' : Nat → PlanS) (hnx' : Int32) (hkp' : Int32) (mnow' : Nat → Int32) (mold' : Nat → Int32) (mols' : Int32) (fl' : Nat → Int64),
      s_Law_addPoint F pxs pys plo phi pn pm lf th ow lk el eh co hu ne nt nh hp hnx hkp a0 a1 fl = some (thr, pxs', pys', pn', lf', th', ow', lk', el', eh', co', hu', ne', nt', nh', hp', hnx', hkp', fl') ∧ s_Mod_addPoint F mnow mold mols a0 a1 = some (v, thr, mnow', mold', mols') ∧ (thr = 0 → fl' 0 = v.toInt64) ∧ CI F (pxs', pys', plo, phi, pn', pm) (lf', th', ow', lk', el', eh', co', hu', ne', nt', nh') hp' hnx' hkp' mnow' mold' mols' := by
  have ci0 := ci
  obtain ⟨⟨n, m, X, Y, L, H, hC, hM, hO⟩, hD, hH⟩ := ci
  have hC : CP n m X Y L H pxs pys plo phi pn pm := hC
  have hn := hO.1
  have hm := hO.2.1
  rcases q_new (F := F) hC hM hO (by omega) a0 a1 with ⟨P, Q, hP, hQ, rfl, rfl, hn9, nb, r1, r2, r3⟩ | ⟨r1, r3⟩ | ⟨r1, r2, r3⟩ | ⟨r1, r2, r3⟩
  · obtain ⟨hp', hnx', hkp', mold', mols', g1, g2, g3⟩ := h_rem ⟨n, m, X, Y, L, H, hC, hM, hO⟩ hH F hF
    obtain ⟨c1, c2, v, mn', s1, s2, s3, c3⟩ := pl_add hC hM hO hn9 hP hQ nb
    obtain ⟨lf', th', ow', lk', el', eh', co', hu', ne', nt', nh', d⟩ := draw_ok c1 c3 c2 hF lf th ow lk el eh co hu
    have e9 : s_Plan_points (s_Plan_appendPoint pxs pys pn (i32 P) (i32 Q)).2.2 - (1 : Int32) = i32 n := by
      show pn + (1 : Int32) - (1 : Int32) = i32 n
      rw [hC.1]; exact Int32.add_sub_cancel _ _
    have top : s_Top_addPoint F pxs pys plo phi pn pm lf th ow lk el eh co hu hp hnx hkp (i32 P) (i32 Q) = some (.inr (i32 n, (s_Plan_appendPoint pxs pys pn (i32 P) (i32 Q)).1, (s_Plan_appendPoint pxs pys pn (i32 P) (i32 Q)).2.1, (s_Plan_appendPoint pxs pys pn (i32 P) (i32 Q)).2.2, lf', th', ow', lk', el', eh', co', hu', ne', nt', nh', hp', hnx', hkp')) := by
      unfold s_Top_addPoint
      rw [r1]; simp only [Sum.elim_inr]
      rw [r2]; simp only [Option.bind_some, Sum.elim_inr]
      rw [g1]; simp only [Option.bind_some]
      rw [d]; simp only [Option.bind_some]
      rw [e9]
    refine ⟨(0 : Int32), i32 n, _, _, _, lf', th', ow', lk', el', eh', co', hu', ne', nt', nh', hp', hnx', hkp', mn', mold', mols', vp_updL fl (0 : Int32).toNatClampNeg (i32 n).toInt64, ?_, ?_, fun _ => upd0 _ _, ⟨n + 1, m, _, _, L, H, c1, c3, c2⟩, Or.inl ⟨_, _, _, _, _, _, _, _, d⟩, g3⟩
    · unfold s_Law_addPoint
      rw [top]; rfl
    · unfold s_Mod_addPoint
      rw [r3]; simp only [Option.bind_some]
      rw [if_pos (by decide), g2]; simp only [Option.bind_some]
      rw [m_n hM]; simp only [Option.bind_some]
      rw [s1]; simp only [Option.bind_some]
      rw [s2]; simp only [Option.bind_some]
      rw [s3]; rfl
  · have top : s_Top_addPoint F pxs pys plo phi pn pm lf th ow lk el eh co hu hp hnx hkp a0 a1 = some (.inl "java/lang/IllegalArgumentException") := by
      unfold s_Top_addPoint
      rw [r1]; rfl
    refine ⟨(1 : Int32), (0 : Int32), pxs, pys, pn, lf, th, ow, lk, el, eh, co, hu, ne, nt, nh, hp, hnx, hkp, mnow, mold, mols, fl, ?_, ?_, fun z => absurd z (by decide), ci0⟩
    · unfold s_Law_addPoint
      rw [top]
      simp only [Option.bind_some, Sum.elim_inl]
      rw [if_pos trivial]
    · unfold s_Mod_addPoint
      rw [r3]; simp only [Option.bind_some]
      rw [if_neg (by decide)]
  · have top : s_Top_addPoint F pxs pys plo phi pn pm lf th ow lk el eh co hu hp hnx hkp a0 a1 = some (.inl "java/lang/IllegalStateException") := by
      unfold s_Top_addPoint
      rw [r1]; simp only [Sum.elim_inr]
      rw [r2]; rfl
    refine ⟨(2 : Int32), (0 : Int32), pxs, pys, pn, lf, th, ow, lk, el, eh, co, hu, ne, nt, nh, hp, hnx, hkp, mnow, mold, mols, fl, ?_, ?_, fun z => absurd z (by decide), ci0⟩
    · unfold s_Law_addPoint
      rw [top]
      simp only [Option.bind_some, Sum.elim_inl]
      rw [if_neg (by decide), if_pos trivial]
    · unfold s_Mod_addPoint
      rw [r3]; simp only [Option.bind_some]
      rw [if_neg (by decide)]
  · have top : s_Top_addPoint F pxs pys plo phi pn pm lf th ow lk el eh co hu hp hnx hkp a0 a1 = some (.inl "java/lang/UnsupportedOperationException") := by
      unfold s_Top_addPoint
      rw [r1]; simp only [Sum.elim_inr]
      rw [r2]; rfl
    refine ⟨(3 : Int32), (0 : Int32), pxs, pys, pn, lf, th, ow, lk, el, eh, co, hu, ne, nt, nh, hp, hnx, hkp, mnow, mold, mols, fl, ?_, ?_, fun z => absurd z (by decide), ci0⟩
    · unfold s_Law_addPoint
      rw [top]
      simp only [Option.bind_some, Sum.elim_inl]
      rw [if_neg (by decide), if_neg (by decide), if_pos trivial]
    · unfold s_Mod_addPoint
      rw [r3]; simp only [Option.bind_some]
      rw [if_neg (by decide)]
theorem ch_1 (ci : CI F (pxs, pys, plo, phi, pn, pm) (lf, th, ow, lk, el, eh, co, hu, ne, nt, nh) hp hnx hkp mnow mold mols) (hF : 1000 ≤ F) (a0 : Int32) :
    ∃ (thr : Int32) (v : Int32) (pxs' : Nat → Int32) (pys' : Nat → Int32) (plo' : Nat → Int32) (phi' : Nat → Int32) (pn' : Int32) (lf' : Nat → Int32) (th' : Nat → Int32) (ow' : Nat → Int32) (lk' : Nat → Int32) (el' : Nat → Int32) (eh' : Nat → Int32) (co' : Nat → Int32) (hu' : Nat → Int32) (ne' : Int32) (nt' : Int32) (nh' : Int32) (hp' : Nat → PlanS) (hnx' : Int32) (hkp' : Int32) (mnow' : Nat → Int32) (mold' : Nat → Int32) (mols' : Int32) (fl' : Nat → Int64),
      s_Law_removePoint F pxs pys plo phi pn pm lf th ow lk el eh co hu ne nt nh hp hnx hkp a0 fl = some (thr, pxs', pys', plo', phi', pn', lf', th', ow', lk', el', eh', co', hu', ne', nt', nh', hp', hnx', hkp', fl') ∧ s_Mod_removePoint F mnow mold mols a0 = some (v, thr, mnow', mold', mols') ∧ (thr = 0 → fl' 0 = v.toInt64) ∧ CI F (pxs', pys', plo', phi', pn', pm) (lf', th', ow', lk', el', eh', co', hu', ne', nt', nh') hp' hnx' hkp' mnow' mold' mols' := by
  have ci0 := ci
  obtain ⟨⟨n, m, X, Y, L, H, hC, hM, hO⟩, hD, hH⟩ := ci
  have hC : CP n m X Y L H pxs pys plo phi pn pm := hC
  have hn := hO.1
  have hm := hO.2.1
  by_cases h : ∃ a, a < n ∧ a0 = i32 a
  case neg =>
    have top : s_Top_removePoint F pxs pys plo phi pn pm lf th ow lk el eh co hu hp hnx hkp a0 = some (.inl "java/lang/IndexOutOfBoundsException") := by
      unfold s_Top_removePoint
      rw [hC.1, c_rpN hn h]; rfl
    refine ⟨(1 : Int32), (0 : Int32), pxs, pys, plo, phi, pn, lf, th, ow, lk, el, eh, co, hu, ne, nt, nh, hp, hnx, hkp, mnow, mold, mols, fl, ?_, ?_, fun z => absurd z (by decide), ci0⟩
    · unfold s_Law_removePoint
      rw [top]
      simp only [Option.bind_some, Sum.elim_inl]
      rw [if_pos trivial]
    · unfold s_Mod_removePoint
      rw [m_isP hM hO]; simp only [Option.bind_some]
      rw [if_pos (bI_f h)]; rfl
  obtain ⟨a, ha, rfl⟩ := h
  have rp : s_Top_requirePoint pn (i32 a) = .inr () := by rw [hC.1]; exact c_rpY hn ha
  have mp : s_Mod_isPoint mnow (i32 a) = some true := by rw [m_isP hM hO, dB_t ⟨a, ha, rfl⟩]
  rcases q_loose hC hM hO (F := F) (by omega) ha with ⟨hl, r1, r2⟩ | ⟨r1, r2⟩
  · obtain ⟨hp', hnx', hkp', mold', mols', g1, g2, g3⟩ := h_rem ⟨n, m, X, Y, L, H, hC, hM, hO⟩ hH F hF
    obtain ⟨v1, v2, v3, v4, s1, c1⟩ := c_drop hC hO (F := F) (by omega) ha
    obtain ⟨mn', s2, c3⟩ := m_drop hM hO (F := F) (by omega) ha
    have c2 := ok_drop hO ha hl (X' := fun i => X (sh a i)) (Y' := fun i => Y (sh a i)) (L' := fun c => dn a (L c)) (H' := fun c => dn a (H c)) (fun i _ => ⟨rfl, rfl⟩) (fun c _ => ⟨rfl, rfl⟩)
    obtain ⟨lf', th', ow', lk', el', eh', co', hu', ne', nt', nh', d⟩ := draw_ok c1 c3 c2 hF lf th ow lk el eh co hu
    have top : s_Top_removePoint F pxs pys plo phi pn pm lf th ow lk el eh co hu hp hnx hkp (i32 a) = some (.inr (i32 (n - 1), v1, v2, v3, v4, i32 (n - 1), lf', th', ow', lk', el', eh', co', hu', ne', nt', nh', hp', hnx', hkp')) := by
      unfold s_Top_removePoint
      rw [rp]; simp only [Sum.elim_inr]
      rw [r1]; simp only [Option.bind_some, Sum.elim_inr]
      rw [g1]; simp only [Option.bind_some]
      rw [s1]; simp only [Option.bind_some]
      rw [d]; rfl
    refine ⟨(0 : Int32), i32 (n - 1), v1, v2, v3, v4, i32 (n - 1), lf', th', ow', lk', el', eh', co', hu', ne', nt', nh', hp', hnx', hkp', mn', mold', mols', vp_updL fl (0 : Int32).toNatClampNeg (i32 (n - 1)).toInt64, ?_, ?_, fun _ => upd0 _ _, ⟨n - 1, m, _, _, _, _, c1, c3, c2⟩, Or.inl ⟨_, _, _, _, _, _, _, _, d⟩, g3⟩
    · unfold s_Law_removePoint
      rw [top]; rfl
    · unfold s_Mod_removePoint
      rw [mp]; simp only [Option.bind_some]
      rw [if_neg (by decide), r2]; simp only [Option.bind_some]
      rw [if_pos (by decide), g2]; simp only [Option.bind_some]
      rw [s2]; simp only [Option.bind_some]
      rw [m_n c3]; rfl
  · have top : s_Top_removePoint F pxs pys plo phi pn pm lf th ow lk el eh co hu hp hnx hkp (i32 a) = some (.inl "java/lang/IllegalStateException") := by
      unfold s_Top_removePoint
      rw [rp]; simp only [Sum.elim_inr]
      rw [r1]; rfl
    refine ⟨(2 : Int32), (0 : Int32), pxs, pys, plo, phi, pn, lf, th, ow, lk, el, eh, co, hu, ne, nt, nh, hp, hnx, hkp, mnow, mold, mols, fl, ?_, ?_, fun z => absurd z (by decide), ci0⟩
    · unfold s_Law_removePoint
      rw [top]
      simp only [Option.bind_some, Sum.elim_inl]
      rw [if_neg (by decide), if_pos trivial]
    · unfold s_Mod_removePoint
      rw [mp]; simp only [Option.bind_some]
      rw [if_neg (by decide), r2]; simp only [Option.bind_some]
      rw [if_neg (by decide)]; rfl
theorem ch_2 (ci : CI F (pxs, pys, plo, phi, pn, pm) (lf, th, ow, lk, el, eh, co, hu, ne, nt, nh) hp hnx hkp mnow mold mols) (hF : 1000 ≤ F) (a0 a1 a2 : Int32) :
    ∃ (thr : Int32) (v : Bool) (pxs' : Nat → Int32) (pys' : Nat → Int32) (lf' : Nat → Int32) (th' : Nat → Int32) (ow' : Nat → Int32) (lk' : Nat → Int32) (el' : Nat → Int32) (eh' : Nat → Int32) (co' : Nat → Int32) (hu' : Nat → Int32) (ne' : Int32) (nt' : Int32) (nh' : Int32) (hp' : Nat → PlanS) (hnx' : Int32) (hkp' : Int32) (mnow' : Nat → Int32) (mold' : Nat → Int32) (mols' : Int32) (fl' : Nat → Int64),
      s_Law_movePoint F pxs pys plo phi pn pm lf th ow lk el eh co hu ne nt nh hp hnx hkp a0 a1 a2 fl = some (thr, pxs', pys', lf', th', ow', lk', el', eh', co', hu', ne', nt', nh', hp', hnx', hkp', fl') ∧ s_Mod_movePoint F mnow mold mols a0 a1 a2 = some (v, thr, mnow', mold', mols') ∧ (thr = 0 → fl' 0 = if bI v = 0 then 0 else 1) ∧ CI F (pxs', pys', plo, phi, pn, pm) (lf', th', ow', lk', el', eh', co', hu', ne', nt', nh') hp' hnx' hkp' mnow' mold' mols' := by
  have ci0 := ci
  obtain ⟨⟨n, m, X, Y, L, H, hC, hM, hO⟩, hD, hH⟩ := ci
  have hC : CP n m X Y L H pxs pys plo phi pn pm := hC
  have hn := hO.1
  have hm := hO.2.1
  by_cases h : ∃ a, a < n ∧ a0 = i32 a
  case neg =>
    have top : s_Top_movePoint F pxs pys plo phi pn pm lf th ow lk el eh co hu hp hnx hkp a0 a1 a2 = some (.inl "java/lang/IndexOutOfBoundsException") := by
      unfold s_Top_movePoint
      rw [hC.1, c_rpN hn h]; rfl
    refine ⟨(1 : Int32), false, pxs, pys, lf, th, ow, lk, el, eh, co, hu, ne, nt, nh, hp, hnx, hkp, mnow, mold, mols, fl, ?_, ?_, fun z => absurd z (by decide), ci0⟩
    · unfold s_Law_movePoint
      rw [top]
      simp only [Option.bind_some, Sum.elim_inl]
      rw [if_pos trivial]
    · unfold s_Mod_movePoint
      rw [m_isP hM hO]; simp only [Option.bind_some]
      rw [if_pos (bI_f h), if_neg (by decide)]
  obtain ⟨a, ha, rfl⟩ := h
  have rp : s_Top_requirePoint pn (i32 a) = .inr () := by rw [hC.1]; exact c_rpY hn ha
  have mp : s_Mod_isPoint mnow (i32 a) = some true := by rw [m_isP hM hO, dB_t ⟨a, ha, rfl⟩]
  rcases c_rpos (a0 := a1) (a1 := a2) with ⟨P, Q, hP, hQ, rfl, rfl, r1, r2⟩ | ⟨r1, r2⟩
  case inr =>
    have top : s_Top_movePoint F pxs pys plo phi pn pm lf th ow lk el eh co hu hp hnx hkp (i32 a) a1 a2 = some (.inl "java/lang/IllegalArgumentException") := by
      unfold s_Top_movePoint
      rw [rp]; simp only [Sum.elim_inr]
      rw [r1]; rfl
    refine ⟨(2 : Int32), false, pxs, pys, lf, th, ow, lk, el, eh, co, hu, ne, nt, nh, hp, hnx, hkp, mnow, mold, mols, fl, ?_, ?_, fun z => absurd z (by decide), ci0⟩
    · unfold s_Law_movePoint
      rw [top]
      simp only [Option.bind_some, Sum.elim_inl]
      rw [if_neg (by decide), if_pos trivial]
    · unfold s_Mod_movePoint
      rw [mp]; simp only [Option.bind_some]
      rw [if_neg (by decide), r2, if_pos (by decide), if_neg (by decide)]
  have hx := i32_r hP
  have hy := i32_r hQ
  rcases q_loose hC hM hO (F := F) (by omega) ha with ⟨hl, l1, l2⟩ | ⟨l1, l2⟩
  case inr =>
    have top : s_Top_movePoint F pxs pys plo phi pn pm lf th ow lk el eh co hu hp hnx hkp (i32 a) (i32 P) (i32 Q) = some (.inl "java/lang/IllegalStateException") := by
      unfold s_Top_movePoint
      rw [rp]; simp only [Sum.elim_inr]
      rw [r1]; simp only [Sum.elim_inr]
      rw [l1]; rfl
    refine ⟨(3 : Int32), false, pxs, pys, lf, th, ow, lk, el, eh, co, hu, ne, nt, nh, hp, hnx, hkp, mnow, mold, mols, fl, ?_, ?_, fun z => absurd z (by decide), ci0⟩
    · unfold s_Law_movePoint
      rw [top]
      simp only [Option.bind_some, Sum.elim_inl]
      rw [if_neg (by decide), if_neg (by decide), if_pos trivial]
    · unfold s_Mod_movePoint
      rw [mp]; simp only [Option.bind_some]
      rw [if_neg (by decide), r2, if_neg (by decide), l2]; simp only [Option.bind_some]
      rw [if_neg (by decide), if_neg (by decide)]
  obtain ⟨r, p1, p2⟩ := c_ptAt hC hO (F := F) (by omega) hx hy
  have cc := c_covC hC hO (F := F) (by omega) hx hy
  have mb := m_bar hM hO (F := F) (by omega) (i32 a) hx hy
  by_cases bar : (∃ p, p < n ∧ ¬ i32 p = i32 a ∧ X p = P ∧ Y p = Q) ∨ ∃ c, c < m ∧ cov (pt X Y (L c)) (pt X Y (H c)) (P, Q, 1)
  case pos =>
    have top : s_Top_movePoint F pxs pys plo phi pn pm lf th ow lk el eh co hu hp hnx hkp (i32 a) (i32 P) (i32 Q) = some (.inl "java/lang/UnsupportedOperationException") := by
      unfold s_Top_movePoint
      rw [rp]; simp only [Sum.elim_inr]
      rw [r1]; simp only [Sum.elim_inr]
      rw [l1]; simp only [Option.bind_some, Sum.elim_inr]
      rw [p1]; simp only [Option.bind_some]
      by_cases k : ∃ c, c < m ∧ cov (pt X Y (L c)) (pt X Y (H c)) (P, Q, 1)
      · rw [cc]; simp only [Option.bind_some]
        rw [if_neg (bI_t k)]
        by_cases z1 : r = (-1 : Int32)
        · rw [if_pos z1]
        · rw [if_neg z1]
          by_cases z2 : r = i32 a
          · rw [if_pos z2]
          · rw [if_neg z2]
      · obtain ⟨p, q1, q2, q3⟩ := bar.resolve_right k
        rcases p2 with ⟨p9, y1, y2, y3, rfl⟩ | ⟨p2, _⟩
        · have : p9 = p := pt_one hO y1 q1 (by rw [y2, q3.1]) (by rw [y3, q3.2])
          rw [this, if_neg (i32_m1 (by omega)), if_neg q2]
        · exact (p2 p q1 q3).elim
    refine ⟨(4 : Int32), false, pxs, pys, lf, th, ow, lk, el, eh, co, hu, ne, nt, nh, hp, hnx, hkp, mnow, mold, mols, fl, ?_, ?_, fun z => absurd z (by decide), ci0⟩
    · unfold s_Law_movePoint
      rw [top]
      simp only [Option.bind_some, Sum.elim_inl]
      rw [if_neg (by decide), if_neg (by decide), if_neg (by decide), if_pos trivial]
    · unfold s_Mod_movePoint
      rw [mp]; simp only [Option.bind_some]
      rw [if_neg (by decide), r2, if_neg (by decide), l2]; simp only [Option.bind_some]
      rw [if_pos (by decide), mb]; simp only [Option.bind_some]
      rw [if_neg (bI_t bar), if_neg (by decide)]
  have nb1 : ∀ p, p < n → p ≠ a → ¬ (X p = P ∧ Y p = Q) := fun p hp z1 z2 => bar (Or.inl ⟨p, hp, n_eq (by omega) (by omega) z1, z2⟩)
  have nb2 : ¬ ∃ c, c < m ∧ cov (pt X Y (L c)) (pt X Y (H c)) (P, Q, 1) := fun z => bar (Or.inr z)
  obtain ⟨hp', hnx', hkp', mold', mols', g1, g2, g3⟩ := h_rem ⟨n, m, X, Y, L, H, hC, hM, hO⟩ hH F hF
  obtain ⟨c1, c2, mn', s1, c3⟩ := pl_move hC hM hO ha hl hP hQ nb1 nb2
  obtain ⟨lf', th', ow', lk', el', eh', co', hu', ne', nt', nh', d⟩ := draw_ok c1 c3 c2 hF lf th ow lk el eh co hu
  have xy : (X a = P ∧ Y a = Q) ∨ ¬ (X a = P ∧ Y a = Q) := Classical.em _
  have top : ∀ b : Bool, (b = false ↔ X a = P ∧ Y a = Q) → s_Top_movePoint F pxs pys plo phi pn pm lf th ow lk el eh co hu hp hnx hkp (i32 a) (i32 P) (i32 Q) = some (.inr (b, (s_Plan_placePoint pxs pys (i32 a) (i32 P) (i32 Q)).1, (s_Plan_placePoint pxs pys (i32 a) (i32 P) (i32 Q)).2, lf', th', ow', lk', el', eh', co', hu', ne', nt', nh', hp', hnx', hkp')) := by
    intro b hb
    unfold s_Top_movePoint
    rw [rp]; simp only [Sum.elim_inr]
    rw [r1]; simp only [Sum.elim_inr]
    rw [l1]; simp only [Option.bind_some, Sum.elim_inr]
    rw [p1]; simp only [Option.bind_some]
    rw [cc]; simp only [Option.bind_some]
    rw [if_pos (bI_f nb2), g1]; simp only [Option.bind_some]
    rw [d]; simp only [Option.bind_some]
    rcases p2 with ⟨p9, y1, y2, y3, rfl⟩ | ⟨p2, rfl⟩
    · have pa : p9 = a := by
        by_cases z : p9 = a
        · exact z
        · exact (nb1 p9 y1 z ⟨y2, y3⟩).elim
      subst pa
      have : b = false := hb.2 ⟨y2, y3⟩
      subst this
      rw [if_neg (i32_m1 (by omega)), if_pos rfl, if_pos rfl]
    · have : b = true := by
        cases b
        · exact (p2 a ha (hb.1 rfl)).elim
        · rfl
      subst this
      rw [if_pos rfl, if_neg (fun z => i32_m1 (show a < 2147483648 by omega) z.symm)]
  have mod : ∀ b : Bool, (b = false ↔ X a = P ∧ Y a = Q) → s_Mod_movePoint F mnow mold mols (i32 a) (i32 P) (i32 Q) = some (b, (0 : Int32), mn', mold', mols') := by
    intro b hb
    have ex : mnow (2 + a) = i32 P ↔ X a = P := by rw [← Int32.toInt_inj, (m_rx hM hO ha).1, hx.1]
    have ey : mnow (19 + a) = i32 Q ↔ Y a = Q := by rw [← Int32.toInt_inj, (m_ry hM hO ha).1, hy.1]
    unfold s_Mod_movePoint
    rw [mp]; simp only [Option.bind_some]
    rw [if_neg (by decide), r2, if_neg (by decide), l2]; simp only [Option.bind_some]
    rw [if_pos (by decide), mb]; simp only [Option.bind_some]
    rw [if_pos (bI_f bar), if_pos (by decide), m_x mnow (show a < 17 by omega)]; simp only [Option.bind_some]
    rw [m_y mnow (show a < 17 by omega)]; simp only [Option.bind_some]
    rw [g2, s1]; simp only [Option.bind_some]
    by_cases z1 : X a = P
    · rw [if_pos (ex.2 z1)]
      by_cases z2 : Y a = Q
      · rw [if_pos (ey.2 z2), hb.2 ⟨z1, z2⟩]
      · rw [if_neg (fun w => z2 (ey.1 w))]
        cases b
        · exact (z2 (hb.1 rfl).2).elim
        · rfl
    · rw [if_neg (fun w => z1 (ex.1 w))]
      cases b
      · exact (z1 (hb.1 rfl).1).elim
      · rfl
  have hR : CI F ((s_Plan_placePoint pxs pys (i32 a) (i32 P) (i32 Q)).1, (s_Plan_placePoint pxs pys (i32 a) (i32 P) (i32 Q)).2, plo, phi, pn, pm) (lf', th', ow', lk', el', eh', co', hu', ne', nt', nh') hp' hnx' hkp' mn' mold' mols' :=
    ⟨⟨n, m, _, _, L, H, c1, c3, c2⟩, Or.inl ⟨_, _, _, _, _, _, _, _, d⟩, g3⟩
  rcases xy with xy | xy
  · refine ⟨(0 : Int32), false, _, _, lf', th', ow', lk', el', eh', co', hu', ne', nt', nh', hp', hnx', hkp', mn', mold', mols', vp_updL fl (0 : Int32).toNatClampNeg 0, ?_, mod false ⟨fun _ => xy, fun _ => rfl⟩, fun _ => upd0 _ _, hR⟩
    unfold s_Law_movePoint
    rw [top false ⟨fun _ => xy, fun _ => rfl⟩]; rfl
  · refine ⟨(0 : Int32), true, _, _, lf', th', ow', lk', el', eh', co', hu', ne', nt', nh', hp', hnx', hkp', mn', mold', mols', vp_updL fl (0 : Int32).toNatClampNeg 1, ?_, mod true ⟨fun z => (Bool.noConfusion z), fun z => (xy z).elim⟩, fun _ => upd0 _ _, hR⟩
    unfold s_Law_movePoint
    rw [top true ⟨fun z => (Bool.noConfusion z), fun z => (xy z).elim⟩]; rfl
theorem ch_5 (ci : CI F (pxs, pys, plo, phi, pn, pm) (lf, th, ow, lk, el, eh, co, hu, ne, nt, nh) hp hnx hkp mnow mold mols) (hF : 1000 ≤ F) (a0 a1 : Int32) :
    ∃ (thr : Int32) (v : Int32) (plo' : Nat → Int32) (phi' : Nat → Int32) (pm' : Int32) (lf' : Nat → Int32) (th' : Nat → Int32) (ow' : Nat → Int32) (lk' : Nat → Int32) (el' : Nat → Int32) (eh' : Nat → Int32) (co' : Nat → Int32) (hu' : Nat → Int32) (ne' : Int32) (nt' : Int32) (nh' : Int32) (hp' : Nat → PlanS) (hnx' : Int32) (hkp' : Int32) (mnow' : Nat → Int32) (mold' : Nat → Int32) (mols' : Int32) (fl' : Nat → Int64),
      s_Law_addConstraint F pxs pys plo phi pn pm lf th ow lk el eh co hu ne nt nh hp hnx hkp a0 a1 fl = some (thr, plo', phi', pm', lf', th', ow', lk', el', eh', co', hu', ne', nt', nh', hp', hnx', hkp', fl') ∧ s_Mod_addConstraint F mnow mold mols a0 a1 = some (v, thr, mnow', mold', mols') ∧ (thr = 0 → fl' 0 = v.toInt64) ∧ CI F (pxs, pys, plo', phi', pn, pm') (lf', th', ow', lk', el', eh', co', hu', ne', nt', nh') hp' hnx' hkp' mnow' mold' mols' := by
  have ci0 := ci
  obtain ⟨⟨n, m, X, Y, L, H, hC, hM, hO⟩, hD, hH⟩ := ci
  have hC : CP n m X Y L H pxs pys plo phi pn pm := hC
  have hn := hO.1
  have hm := hO.2.1
  by_cases h : ∃ a, a < n ∧ a0 = i32 a
  case neg =>
    have top : s_Top_addConstraint F pxs pys plo phi pn pm lf th ow lk el eh co hu hp hnx hkp a0 a1 = some (.inl "java/lang/IndexOutOfBoundsException") := by
      unfold s_Top_addConstraint
      rw [hC.1, c_rpN hn h]; rfl
    refine ⟨(1 : Int32), (0 : Int32), plo, phi, pm, lf, th, ow, lk, el, eh, co, hu, ne, nt, nh, hp, hnx, hkp, mnow, mold, mols, fl, ?_, ?_, fun z => absurd z (by decide), ci0⟩
    · unfold s_Law_addConstraint
      rw [top]
      simp only [Option.bind_some, Sum.elim_inl]
      rw [if_pos trivial]
    · unfold s_Mod_addConstraint
      rw [m_isP hM hO]; simp only [Option.bind_some]
      rw [if_pos (bI_f h)]; rfl
  obtain ⟨a, ha, rfl⟩ := h
  have rp : s_Top_requirePoint pn (i32 a) = .inr () := by rw [hC.1]; exact c_rpY hn ha
  have mp : s_Mod_isPoint mnow (i32 a) = some true := by rw [m_isP hM hO, dB_t ⟨a, ha, rfl⟩]
  by_cases h : ∃ a, a < n ∧ a1 = i32 a
  case neg =>
    have top : s_Top_addConstraint F pxs pys plo phi pn pm lf th ow lk el eh co hu hp hnx hkp (i32 a) a1 = some (.inl "java/lang/IndexOutOfBoundsException") := by
      unfold s_Top_addConstraint
      rw [rp]; simp only [Sum.elim_inr]
      rw [hC.1, c_rpN hn h]; rfl
    refine ⟨(1 : Int32), (0 : Int32), plo, phi, pm, lf, th, ow, lk, el, eh, co, hu, ne, nt, nh, hp, hnx, hkp, mnow, mold, mols, fl, ?_, ?_, fun z => absurd z (by decide), ci0⟩
    · unfold s_Law_addConstraint
      rw [top]
      simp only [Option.bind_some, Sum.elim_inl]
      rw [if_pos trivial]
    · unfold s_Mod_addConstraint
      rw [mp]; simp only [Option.bind_some]
      rw [if_neg (by decide), m_isP hM hO]; simp only [Option.bind_some]
      rw [if_pos (bI_f h)]; rfl
  obtain ⟨b, hb, rfl⟩ := h
  have rp2 : s_Top_requirePoint pn (i32 b) = .inr () := by rw [hC.1]; exact c_rpY hn hb
  have mp2 : s_Mod_isPoint mnow (i32 b) = some true := by rw [m_isP hM hO, dB_t ⟨b, hb, rfl⟩]
  by_cases hab : a = b
  case pos =>
    subst hab
    have top : s_Top_addConstraint F pxs pys plo phi pn pm lf th ow lk el eh co hu hp hnx hkp (i32 a) (i32 a) = some (.inl "java/lang/IllegalArgumentException") := by
      unfold s_Top_addConstraint
      rw [rp]; simp only [Sum.elim_inr]
      unfold s_Top_requireDifferent
      rw [if_pos rfl]; rfl
    refine ⟨(2 : Int32), (0 : Int32), plo, phi, pm, lf, th, ow, lk, el, eh, co, hu, ne, nt, nh, hp, hnx, hkp, mnow, mold, mols, fl, ?_, ?_, fun z => absurd z (by decide), ci0⟩
    · unfold s_Law_addConstraint
      rw [top]
      simp only [Option.bind_some, Sum.elim_inl]
      rw [if_neg (by decide), if_pos trivial]
    · unfold s_Mod_addConstraint
      rw [mp]; simp only [Option.bind_some]
      rw [if_neg (by decide)]
      rw [if_neg (by decide), if_pos trivial]; rfl
  have rd : s_Top_requireDifferent (i32 a) (i32 b) = .inr () := by
    unfold s_Top_requireDifferent
    rw [if_neg (n_eq (by omega) (by omega) hab)]
  have nab : ¬ (i32 a = i32 b) := n_eq (by omega) (by omega) hab
  by_cases hm9 : m = 10
  case pos =>
    have top : s_Top_addConstraint F pxs pys plo phi pn pm lf th ow lk el eh co hu hp hnx hkp (i32 a) (i32 b) = some (.inl "java/lang/IllegalStateException") := by
      unfold s_Top_addConstraint
      rw [rp]; simp only [Sum.elim_inr]
      rw [rp2]; simp only [Sum.elim_inr]
      rw [rd]; simp only [Sum.elim_inr]
      rw [hC.2.1, if_neg (show ¬ (s_Plan_constraints (i32 m) < (10 : Int32)) from n_lt (b := 10) (by omega) (by omega))]
    refine ⟨(3 : Int32), (0 : Int32), plo, phi, pm, lf, th, ow, lk, el, eh, co, hu, ne, nt, nh, hp, hnx, hkp, mnow, mold, mols, fl, ?_, ?_, fun z => absurd z (by decide), ci0⟩
    · unfold s_Law_addConstraint
      rw [top]
      simp only [Option.bind_some, Sum.elim_inl]
      rw [if_neg (by decide), if_neg (by decide), if_pos trivial]
    · unfold s_Mod_addConstraint
      rw [mp]; simp only [Option.bind_some]
      rw [if_neg (by decide), mp2]; simp only [Option.bind_some]
      rw [if_neg (by decide), if_neg nab, m_m hM]; simp only [Option.bind_some]
      rw [if_pos (show i32 m = (10 : Int32) from by rw [hm9]; rfl)]; rfl
  have top0 : ∀ r, (s_Plan_admitsSegment F pxs pys plo phi pn pm (i32 a) (i32 b) = some false → r = some (.inl "java/lang/UnsupportedOperationException")) → s_Plan_admitsSegment F pxs pys plo phi pn pm (i32 a) (i32 b) = some false → s_Top_addConstraint F pxs pys plo phi pn pm lf th ow lk el eh co hu hp hnx hkp (i32 a) (i32 b) = r := by
    intro r hr hs
    rw [hr hs]
    unfold s_Top_addConstraint
    rw [rp]; simp only [Sum.elim_inr]
    rw [rp2]; simp only [Sum.elim_inr]
    rw [rd]; simp only [Sum.elim_inr]
    rw [hs]; simp only [Option.bind_some]
    rw [hC.2.1, if_pos (show s_Plan_constraints (i32 m) < (10 : Int32) from y_lt (b := 10) (by omega) (by omega)), if_pos (by decide)]
  have cs := c_admS hC hO (F := F) (by omega) ha hb
  have n10 : ¬ (i32 m = (10 : Int32)) := n_eq (b := 10) (by omega) (by omega) hm9
  have lp9 := ffB (fun k i => s_Mod_addConstraint_L79 mnow mold mols (i32 a) (i32 b) k (i32 i)) m (fun c => Cr (pt X Y) a b (L c) (H c)) (Sum.inl ((s_Mod_raises (4 : Int32)).1, (s_Mod_raises (4 : Int32)).2, mnow, mold, mols)) (Sum.inr (i32 m))
    (fun k => by simp only [s_Mod_addConstraint_L79, m_m hM, Option.bind_some]; rw [if_pos (y_le (by omega) (by omega))])
    (fun k i hi h => by
      have q := hO.2.2.2.2.1 i hi
      simp only [s_Mod_addConstraint_L79, m_m hM, m_end0 hM hO hi, m_end1 hM hO hi, m_cross hM hO ha hb (show L i < n by omega) (show H i < n by omega), Option.bind_some]
      rw [if_neg (n_le (by omega) hi), if_neg (bI_t h)])
    (fun k i hi h => by
      have q := hO.2.2.2.2.1 i hi
      simp only [s_Mod_addConstraint_L79, m_m hM, m_end0 hM hO hi, m_end1 hM hO hi, m_cross hM hO ha hb (show L i < n by omega) (show H i < n by omega), Option.bind_some]
      rw [if_neg (n_le (by omega) hi), if_pos (bI_f h), i32_s])
    0 F (by omega) (by omega)
  by_cases hs : Seg n m X Y L H a b
  case neg =>
    rw [dB_f hs] at cs
    have top : s_Top_addConstraint F pxs pys plo phi pn pm lf th ow lk el eh co hu hp hnx hkp (i32 a) (i32 b) = some (.inl "java/lang/UnsupportedOperationException") := by
      exact top0 _ (fun _ => rfl) cs
    refine ⟨(4 : Int32), (0 : Int32), plo, phi, pm, lf, th, ow, lk, el, eh, co, hu, ne, nt, nh, hp, hnx, hkp, mnow, mold, mols, fl, ?_, ?_, fun z => absurd z (by decide), ci0⟩
    · unfold s_Law_addConstraint
      rw [top]
      simp only [Option.bind_some, Sum.elim_inl]
      rw [if_neg (by decide), if_neg (by decide), if_neg (by decide), if_pos trivial]
    · unfold s_Mod_addConstraint
      rw [mp]; simp only [Option.bind_some]
      rw [if_neg (by decide), mp2]; simp only [Option.bind_some]
      rw [if_neg (by decide), if_neg nab, m_m hM]; simp only [Option.bind_some]
      rw [if_neg n10, m_tied hM hO F (by omega) ha hb, m_hp hM hO F (by omega) ha hb]; simp only [Option.bind_some]
      by_cases k1 : ∃ c, c < m ∧ L c = min a b ∧ H c = max a b
      · rw [if_neg (bI_t k1)]; rfl
      rw [if_pos (bI_f k1)]
      by_cases k2 : ∃ p, p < n ∧ cov (pt X Y a) (pt X Y b) (pt X Y p)
      · rw [if_neg (bI_t k2)]; rfl
      rw [if_pos (bI_f k2)]
      rcases lp9 with ⟨_, e⟩ | ⟨h1, e⟩
      · have e : s_Mod_addConstraint_L79 mnow mold mols (i32 a) (i32 b) F (0 : Int32) = _ := e
        rw [e]; rfl
      · exact (hs ⟨k1, k2, fun ⟨c, hc, z⟩ => h1 c (by omega) hc ((cr_pc hO ha hb hc k1 k2).2 z)⟩).elim
  rw [dB_t hs] at cs
  obtain ⟨hp', hnx', hkp', mold', mols', g1, g2, g3⟩ := h_rem ⟨n, m, X, Y, L, H, hC, hM, hO⟩ hH F hF
  obtain ⟨L', H', c1, c2, w1, w2, mn', s1, s2, s3, s4, c3⟩ := pl_con hC hM hO (show m < 10 by omega) ha hb hab hs
  obtain ⟨lf', th', ow', lk', el', eh', co', hu', ne', nt', nh', d⟩ := draw_ok c1 c3 c2 hF lf th ow lk el eh co hu
  have e9 : s_Plan_constraints (s_Plan_appendConstraint plo phi pm (i32 a) (i32 b)).2.2 - (1 : Int32) = i32 m := by
    show pm + (1 : Int32) - (1 : Int32) = i32 m
    rw [hC.2.1]; exact Int32.add_sub_cancel _ _
  have top : s_Top_addConstraint F pxs pys plo phi pn pm lf th ow lk el eh co hu hp hnx hkp (i32 a) (i32 b) = some (.inr (i32 m, (s_Plan_appendConstraint plo phi pm (i32 a) (i32 b)).1, (s_Plan_appendConstraint plo phi pm (i32 a) (i32 b)).2.1, (s_Plan_appendConstraint plo phi pm (i32 a) (i32 b)).2.2, lf', th', ow', lk', el', eh', co', hu', ne', nt', nh', hp', hnx', hkp')) := by
    unfold s_Top_addConstraint
    rw [rp]; simp only [Sum.elim_inr]
    rw [rp2]; simp only [Sum.elim_inr]
    rw [rd]; simp only [Sum.elim_inr]
    rw [if_pos (show s_Plan_constraints pm < (10 : Int32) from by rw [hC.2.1]; exact y_lt (b := 10) (by omega) (by omega)), cs]; simp only [Option.bind_some]
    rw [if_neg (show ¬ (bI true = 0) by decide), g1]; simp only [Option.bind_some]
    rw [d]; simp only [Option.bind_some]
    rw [e9]
  refine ⟨(0 : Int32), i32 m, _, _, _, lf', th', ow', lk', el', eh', co', hu', ne', nt', nh', hp', hnx', hkp', mn', mold', mols', vp_updL fl (0 : Int32).toNatClampNeg (i32 m).toInt64, ?_, ?_, fun _ => upd0 _ _, ⟨n, m + 1, X, Y, L', H', c1, c3, c2⟩, Or.inl ⟨_, _, _, _, _, _, _, _, d⟩, g3⟩
  · unfold s_Law_addConstraint
    rw [top]; rfl
  · unfold s_Mod_addConstraint
    rw [mp]; simp only [Option.bind_some]
    rw [if_neg (by decide), mp2]; simp only [Option.bind_some]
    rw [if_neg (by decide), if_neg nab, m_m hM]; simp only [Option.bind_some]
    rw [if_neg n10, m_tied hM hO F (by omega) ha hb, m_hp hM hO F (by omega) ha hb]; simp only [Option.bind_some]
    rw [if_pos (bI_f hs.1), if_pos (bI_f hs.2.1)]
    rcases lp9 with ⟨⟨c, _, hc, z⟩, _⟩ | ⟨h1, e⟩
    · exact (hs.2.2 ⟨c, hc, (cr_pc hO ha hb hc hs.1 hs.2.1).1 z⟩).elim
    · have e : s_Mod_addConstraint_L79 mnow mold mols (i32 a) (i32 b) F (0 : Int32) = _ := e
      rw [e]; simp only [Option.bind_some, Sum.elim_inr]
      rw [g2]; simp only [Option.bind_some]
      rw [s1]; simp only [Option.bind_some]
      rw [s2]; simp only [Option.bind_some]
      rw [s3]; simp only [Option.bind_some]
      rw [s4]; rfl
theorem ch_6 (ci : CI F (pxs, pys, plo, phi, pn, pm) (lf, th, ow, lk, el, eh, co, hu, ne, nt, nh) hp hnx hkp mnow mold mols) (hF : 1000 ≤ F) (a0 : Int32) :
    ∃ (thr : Int32) (v : Int32) (plo' : Nat → Int32) (phi' : Nat → Int32) (pm' : Int32) (lf' : Nat → Int32) (th' : Nat → Int32) (ow' : Nat → Int32) (lk' : Nat → Int32) (el' : Nat → Int32) (eh' : Nat → Int32) (co' : Nat → Int32) (hu' : Nat → Int32) (ne' : Int32) (nt' : Int32) (nh' : Int32) (hp' : Nat → PlanS) (hnx' : Int32) (hkp' : Int32) (mnow' : Nat → Int32) (mold' : Nat → Int32) (mols' : Int32) (fl' : Nat → Int64),
      s_Law_removeConstraint F pxs pys plo phi pn pm lf th ow lk el eh co hu ne nt nh hp hnx hkp a0 fl = some (thr, plo', phi', pm', lf', th', ow', lk', el', eh', co', hu', ne', nt', nh', hp', hnx', hkp', fl') ∧ s_Mod_removeConstraint F mnow mold mols a0 = some (v, thr, mnow', mold', mols') ∧ (thr = 0 → fl' 0 = v.toInt64) ∧ CI F (pxs, pys, plo', phi', pn, pm') (lf', th', ow', lk', el', eh', co', hu', ne', nt', nh') hp' hnx' hkp' mnow' mold' mols' := by
  have ci0 := ci
  obtain ⟨⟨n, m, X, Y, L, H, hC, hM, hO⟩, hD, hH⟩ := ci
  have hC : CP n m X Y L H pxs pys plo phi pn pm := hC
  have hn := hO.1
  have hm := hO.2.1
  by_cases h : ∃ a, a < m ∧ a0 = i32 a
  case neg =>
    have top : s_Top_removeConstraint F pxs pys plo phi pn pm lf th ow lk el eh co hu hp hnx hkp a0 = some (.inl "java/lang/IndexOutOfBoundsException") := by
      unfold s_Top_removeConstraint
      rw [hC.2.1, c_rcN hm h]; rfl
    refine ⟨(1 : Int32), (0 : Int32), plo, phi, pm, lf, th, ow, lk, el, eh, co, hu, ne, nt, nh, hp, hnx, hkp, mnow, mold, mols, fl, ?_, ?_, fun z => absurd z (by decide), ci0⟩
    · unfold s_Law_removeConstraint
      rw [top]
      simp only [Option.bind_some, Sum.elim_inl]
      rw [if_pos trivial]
    · unfold s_Mod_removeConstraint
      rw [m_isC hM hO]; simp only [Option.bind_some]
      rw [if_pos (bI_f h)]; rfl
  obtain ⟨a, ha, rfl⟩ := h
  have rp : s_Top_requireConstraint pm (i32 a) = .inr () := by rw [hC.2.1]; exact c_rcY hm ha
  have mp : s_Mod_isConstraint mnow (i32 a) = some true := by rw [m_isC hM hO, dB_t ⟨a, ha, rfl⟩]
  obtain ⟨hp', hnx', hkp', mold', mols', g1, g2, g3⟩ := h_rem ⟨n, m, X, Y, L, H, hC, hM, hO⟩ hH F hF
  obtain ⟨v1, v2, s1, c1⟩ := c_untie hC hO (F := F) (by omega) ha
  obtain ⟨mn', s2, c3⟩ := m_untie hM hO (F := F) (by omega) ha
  have c2 := ok_unc hO ha (L' := fun c => L (sh a c)) (H' := fun c => H (sh a c)) (fun c _ => ⟨rfl, rfl⟩)
  obtain ⟨lf', th', ow', lk', el', eh', co', hu', ne', nt', nh', d⟩ := draw_ok c1 c3 c2 hF lf th ow lk el eh co hu
  have top : s_Top_removeConstraint F pxs pys plo phi pn pm lf th ow lk el eh co hu hp hnx hkp (i32 a) = some (.inr (i32 (m - 1), v1, v2, i32 (m - 1), lf', th', ow', lk', el', eh', co', hu', ne', nt', nh', hp', hnx', hkp')) := by
    unfold s_Top_removeConstraint
    rw [rp]; simp only [Sum.elim_inr]
    rw [g1]; simp only [Option.bind_some]
    rw [s1]; simp only [Option.bind_some]
    rw [d]; rfl
  refine ⟨(0 : Int32), i32 (m - 1), v1, v2, i32 (m - 1), lf', th', ow', lk', el', eh', co', hu', ne', nt', nh', hp', hnx', hkp', mn', mold', mols', vp_updL fl (0 : Int32).toNatClampNeg (i32 (m - 1)).toInt64, ?_, ?_, fun _ => upd0 _ _, ⟨n, m - 1, X, Y, _, _, c1, c3, c2⟩, Or.inl ⟨_, _, _, _, _, _, _, _, d⟩, g3⟩
  · unfold s_Law_removeConstraint
    rw [top]; rfl
  · unfold s_Mod_removeConstraint
    rw [mp]; simp only [Option.bind_some]
    rw [if_neg (by decide), g2]; simp only [Option.bind_some]
    rw [s2]; simp only [Option.bind_some]
    rw [m_m c3]; rfl
theorem ch_36 (ci : CI F (pxs, pys, plo, phi, pn, pm) (lf, th, ow, lk, el, eh, co, hu, ne, nt, nh) hp hnx hkp mnow mold mols) (hF : 1000 ≤ F)  :
    ∃ (thr : Int32) (v : Int32) (pxs' : Nat → Int32) (pys' : Nat → Int32) (plo' : Nat → Int32) (phi' : Nat → Int32) (pn' : Int32) (pm' : Int32) (lf' : Nat → Int32) (th' : Nat → Int32) (ow' : Nat → Int32) (lk' : Nat → Int32) (el' : Nat → Int32) (eh' : Nat → Int32) (co' : Nat → Int32) (hu' : Nat → Int32) (ne' : Int32) (nt' : Int32) (nh' : Int32) (hnx' : Int32) (hkp' : Int32) (mnow' : Nat → Int32) (mols' : Int32) (fl' : Nat → Int64),
      s_Law_undo F pxs pys plo phi pn pm lf th ow lk el eh co hu ne nt nh hp hnx hkp  fl = some (thr, pxs', pys', plo', phi', pn', pm', lf', th', ow', lk', el', eh', co', hu', ne', nt', nh', hnx', hkp', fl') ∧ s_Mod_undo F mnow mold mols  = some (v, thr, mnow', mols') ∧ (thr = 0 → fl' 0 = v.toInt64) ∧ CI F (pxs', pys', plo', phi', pn', pm') (lf', th', ow', lk', el', eh', co', hu', ne', nt', nh') hp hnx' hkp' mnow' mold mols' := by
  have ci0 := ci
  obtain ⟨hP, hD, hH⟩ := ci
  rcases h_back hH with ⟨rfl, rfl⟩ | ⟨k, q, hk, hq, rfl, rfl, hH', eq, hP'⟩
  · have top : s_Top_undo F pxs pys plo phi pn pm lf th ow lk el eh co hu hp hnx (0 : Int32) = some (.inl "java/lang/IllegalStateException") := by
      unfold s_Top_undo
      rw [if_pos (show s_Hist_kept (0 : Int32) = 0 from rfl)]
    refine ⟨(1 : Int32), (0 : Int32), pxs, pys, plo, phi, pn, pm, lf, th, ow, lk, el, eh, co, hu, ne, nt, nh, hnx, 0, mnow, 0, fl, ?_, ?_, fun z => absurd z (by decide), ci0⟩
    · unfold s_Law_undo
      rw [top]
      simp only [Option.bind_some, Sum.elim_inl]
      rw [if_pos trivial]
    · unfold s_Mod_undo
      rw [if_pos rfl]; rfl
  · obtain ⟨n, m, X, Y, L, H, c1, c3, c2⟩ := hP'
    obtain ⟨v1, v2, v3, v4, w1, w2, w3⟩ := c_pcopy F (by omega) pxs pys plo phi (hp q).1 (hp q).2.1 (hp q).2.2.1 (hp q).2.2.2.1 (hp q).2.2.2.2.1 (hp q).2.2.2.2.2
    obtain ⟨mn', s1, s2⟩ := m_back F hF mold mnow hk
    have c1 := cp_ext c2 c1 w2 w3
    have c3 : MP n m X Y L H mn' := mp_ext c2 c3 s2
    obtain ⟨lf', th', ow', lk', el', eh', co', hu', ne', nt', nh', d⟩ := draw_ok c1 c3 c2 hF lf th ow lk el eh co hu
    have nz : ¬ (i32 (k + 1) = (0 : Int32)) := n_eq (b := 0) (by omega) (by omega) (by omega)
    have ek : imax (i32 (k + 1) - (1 : Int32)) 0 = i32 k := by
      rw [show i32 (k + 1) - (1 : Int32) = i32 k from i32_sub (a := k + 1) (b := 1) (by omega)]
      have := imax_i (a := k) (b := 0) (by omega) (by omega)
      rw [Nat.max_zero] at this
      exact this
    have rc : s_Hist_recallInto F hp hnx (i32 (k + 1)) pxs pys plo phi pn pm = some (i32 q, i32 k, v1, v2, v3, v4, (hp q).2.2.2.2.1, (hp q).2.2.2.2.2) := by
      unfold s_Hist_recallInto
      rw [eq, ek]
      unfold s_Hist_back
      rw [if_neg (i32_neg (by omega)), if_neg (show ¬ ((12 : Int32) ≤ i32 q) from n_le (a := 12) (by omega) hq), i32_nc (show q < 2147483648 by omega), w1]
      rfl
    have top : s_Top_undo F pxs pys plo phi pn pm lf th ow lk el eh co hu hp hnx (i32 (k + 1)) = some (.inr (i32 k, v1, v2, v3, v4, (hp q).2.2.2.2.1, (hp q).2.2.2.2.2, lf', th', ow', lk', el', eh', co', hu', ne', nt', nh', i32 q, i32 k)) := by
      unfold s_Top_undo
      rw [if_neg (show ¬ (s_Hist_kept (i32 (k + 1)) = 0) from nz), rc]; simp only [Option.bind_some]
      rw [d]; rfl
    refine ⟨(0 : Int32), i32 k, v1, v2, v3, v4, (hp q).2.2.2.2.1, (hp q).2.2.2.2.2, lf', th', ow', lk', el', eh', co', hu', ne', nt', nh', i32 q, i32 k, mn', i32 k, vp_updL fl (0 : Int32).toNatClampNeg (i32 k).toInt64, ?_, ?_, fun _ => upd0 _ _, ⟨n, m, X, Y, L, H, c1, c3, c2⟩, Or.inl ⟨_, _, _, _, _, _, _, _, d⟩, hH'⟩
    · unfold s_Law_undo
      rw [top]; rfl
    · unfold s_Mod_undo
      rw [if_neg nz, show i32 (k + 1) - (1 : Int32) = i32 k from i32_sub (a := k + 1) (b := 1) (by omega), s1]; rfl
theorem k_0 (ci : CI F (pxs, pys, plo, phi, pn, pm) (lf, th, ow, lk, el, eh, co, hu, ne, nt, nh) hp hnx hkp mnow mold mols) (hF : 1000 ≤ F) :
    ∃ (pxs' : Nat → Int32) (pys' : Nat → Int32) (pn' : Int32) (lf' : Nat → Int32) (th' : Nat → Int32) (ow' : Nat → Int32) (lk' : Nat → Int32) (el' : Nat → Int32) (eh' : Nat → Int32) (co' : Nat → Int32) (hu' : Nat → Int32) (ne' : Int32) (nt' : Int32) (nh' : Int32) (hp' : Nat → PlanS) (hnx' : Int32) (hkp' : Int32) (thr : Int32) (mnow' : Nat → Int32) (mold' : Nat → Int32) (mols' : Int32) (fl' : Nat → Int64), s_case_0 F xs pxs pys plo phi pn pm lf th ow lk el eh co hu ne nt nh hp hnx hkp mnow mold mols fl x5 = some (pxs', pys', pn', lf', th', ow', lk', el', eh', co', hu', ne', nt', nh', hp', hnx', hkp', thr, mnow', mold', mols', fl') ∧ CI F (pxs', pys', plo, phi, pn', pm) (lf', th', ow', lk', el', eh', co', hu', ne', nt', nh') hp' hnx' hkp' mnow' mold' mols' := by
  obtain ⟨thr, v, pxs', pys', pn', lf', th', ow', lk', el', eh', co', hu', ne', nt', nh', hp', hnx', hkp', mnow', mold', mols', fl', h1, h2, h3, h4⟩ := ch_0 (fl := fl) ci hF (xs (x5 + (1 : Int32)).toNatClampNeg) (xs (x5 + (2 : Int32)).toNatClampNeg)
  refine ⟨pxs', pys', pn', lf', th', ow', lk', el', eh', co', hu', ne', nt', nh', hp', hnx', hkp', thr, mnow', mold', mols', fl', ?_, h4⟩
  unfold s_case_0
  rw [h1, h2]
  simp only [Option.bind_some]
  rw [if_pos (show s_Mod_thrown thr = thr from rfl)]
  by_cases c : thr = 0
  · rw [if_pos c, if_pos]
    show lg_cmp (fl' 0) v.toInt64 = 0
    rw [h3 c]; exact lgc _
  · rw [if_neg c]
theorem k_1 (ci : CI F (pxs, pys, plo, phi, pn, pm) (lf, th, ow, lk, el, eh, co, hu, ne, nt, nh) hp hnx hkp mnow mold mols) (hF : 1000 ≤ F) :
    ∃ (pxs' : Nat → Int32) (pys' : Nat → Int32) (plo' : Nat → Int32) (phi' : Nat → Int32) (pn' : Int32) (lf' : Nat → Int32) (th' : Nat → Int32) (ow' : Nat → Int32) (lk' : Nat → Int32) (el' : Nat → Int32) (eh' : Nat → Int32) (co' : Nat → Int32) (hu' : Nat → Int32) (ne' : Int32) (nt' : Int32) (nh' : Int32) (hp' : Nat → PlanS) (hnx' : Int32) (hkp' : Int32) (thr : Int32) (mnow' : Nat → Int32) (mold' : Nat → Int32) (mols' : Int32) (fl' : Nat → Int64), s_case_1 F xs pxs pys plo phi pn pm lf th ow lk el eh co hu ne nt nh hp hnx hkp mnow mold mols fl x5 = some (pxs', pys', plo', phi', pn', lf', th', ow', lk', el', eh', co', hu', ne', nt', nh', hp', hnx', hkp', thr, mnow', mold', mols', fl') ∧ CI F (pxs', pys', plo', phi', pn', pm) (lf', th', ow', lk', el', eh', co', hu', ne', nt', nh') hp' hnx' hkp' mnow' mold' mols' := by
  obtain ⟨thr, v, pxs', pys', plo', phi', pn', lf', th', ow', lk', el', eh', co', hu', ne', nt', nh', hp', hnx', hkp', mnow', mold', mols', fl', h1, h2, h3, h4⟩ := ch_1 (fl := fl) ci hF (xs (x5 + (1 : Int32)).toNatClampNeg)
  refine ⟨pxs', pys', plo', phi', pn', lf', th', ow', lk', el', eh', co', hu', ne', nt', nh', hp', hnx', hkp', thr, mnow', mold', mols', fl', ?_, h4⟩
  unfold s_case_1
  rw [h1, h2]
  simp only [Option.bind_some]
  rw [if_pos (show s_Mod_thrown thr = thr from rfl)]
  by_cases c : thr = 0
  · rw [if_pos c, if_pos]
    show lg_cmp (fl' 0) v.toInt64 = 0
    rw [h3 c]; exact lgc _
  · rw [if_neg c]
theorem k_2 (ci : CI F (pxs, pys, plo, phi, pn, pm) (lf, th, ow, lk, el, eh, co, hu, ne, nt, nh) hp hnx hkp mnow mold mols) (hF : 1000 ≤ F) :
    ∃ (pxs' : Nat → Int32) (pys' : Nat → Int32) (lf' : Nat → Int32) (th' : Nat → Int32) (ow' : Nat → Int32) (lk' : Nat → Int32) (el' : Nat → Int32) (eh' : Nat → Int32) (co' : Nat → Int32) (hu' : Nat → Int32) (ne' : Int32) (nt' : Int32) (nh' : Int32) (hp' : Nat → PlanS) (hnx' : Int32) (hkp' : Int32) (thr : Int32) (mnow' : Nat → Int32) (mold' : Nat → Int32) (mols' : Int32) (fl' : Nat → Int64), s_case_2 F xs pxs pys plo phi pn pm lf th ow lk el eh co hu ne nt nh hp hnx hkp mnow mold mols fl x5 = some (pxs', pys', lf', th', ow', lk', el', eh', co', hu', ne', nt', nh', hp', hnx', hkp', thr, mnow', mold', mols', fl') ∧ CI F (pxs', pys', plo, phi, pn, pm) (lf', th', ow', lk', el', eh', co', hu', ne', nt', nh') hp' hnx' hkp' mnow' mold' mols' := by
  obtain ⟨thr, v, pxs', pys', lf', th', ow', lk', el', eh', co', hu', ne', nt', nh', hp', hnx', hkp', mnow', mold', mols', fl', h1, h2, h3, h4⟩ := ch_2 (fl := fl) ci hF (xs (x5 + (1 : Int32)).toNatClampNeg) (xs (x5 + (2 : Int32)).toNatClampNeg) (xs (x5 + (3 : Int32)).toNatClampNeg)
  refine ⟨pxs', pys', lf', th', ow', lk', el', eh', co', hu', ne', nt', nh', hp', hnx', hkp', thr, mnow', mold', mols', fl', ?_, h4⟩
  unfold s_case_2
  rw [h1, h2]
  simp only [Option.bind_some]
  rw [if_pos (show s_Mod_thrown thr = thr from rfl)]
  by_cases c : thr = 0
  · have h3 := h3 c
    rw [if_pos c]
    by_cases d : bI v = 0
    · rw [if_pos d] at h3
      rw [if_pos d, if_pos]
      show lg_cmp (fl' 0) 0 = 0
      rw [h3]; exact lgc _
    · rw [if_neg d] at h3
      rw [if_neg d, if_pos]
      show lg_cmp (fl' 0) 1 = 0
      rw [h3]; exact lgc _
  · rw [if_neg c]
theorem k_5 (ci : CI F (pxs, pys, plo, phi, pn, pm) (lf, th, ow, lk, el, eh, co, hu, ne, nt, nh) hp hnx hkp mnow mold mols) (hF : 1000 ≤ F) :
    ∃ (plo' : Nat → Int32) (phi' : Nat → Int32) (pm' : Int32) (lf' : Nat → Int32) (th' : Nat → Int32) (ow' : Nat → Int32) (lk' : Nat → Int32) (el' : Nat → Int32) (eh' : Nat → Int32) (co' : Nat → Int32) (hu' : Nat → Int32) (ne' : Int32) (nt' : Int32) (nh' : Int32) (hp' : Nat → PlanS) (hnx' : Int32) (hkp' : Int32) (thr : Int32) (mnow' : Nat → Int32) (mold' : Nat → Int32) (mols' : Int32) (fl' : Nat → Int64), s_case_5 F xs pxs pys plo phi pn pm lf th ow lk el eh co hu ne nt nh hp hnx hkp mnow mold mols fl x5 = some (plo', phi', pm', lf', th', ow', lk', el', eh', co', hu', ne', nt', nh', hp', hnx', hkp', thr, mnow', mold', mols', fl') ∧ CI F (pxs, pys, plo', phi', pn, pm') (lf', th', ow', lk', el', eh', co', hu', ne', nt', nh') hp' hnx' hkp' mnow' mold' mols' := by
  obtain ⟨thr, v, plo', phi', pm', lf', th', ow', lk', el', eh', co', hu', ne', nt', nh', hp', hnx', hkp', mnow', mold', mols', fl', h1, h2, h3, h4⟩ := ch_5 (fl := fl) ci hF (xs (x5 + (1 : Int32)).toNatClampNeg) (xs (x5 + (2 : Int32)).toNatClampNeg)
  refine ⟨plo', phi', pm', lf', th', ow', lk', el', eh', co', hu', ne', nt', nh', hp', hnx', hkp', thr, mnow', mold', mols', fl', ?_, h4⟩
  unfold s_case_5
  rw [h1, h2]
  simp only [Option.bind_some]
  rw [if_pos (show s_Mod_thrown thr = thr from rfl)]
  by_cases c : thr = 0
  · rw [if_pos c, if_pos]
    show lg_cmp (fl' 0) v.toInt64 = 0
    rw [h3 c]; exact lgc _
  · rw [if_neg c]
theorem k_6 (ci : CI F (pxs, pys, plo, phi, pn, pm) (lf, th, ow, lk, el, eh, co, hu, ne, nt, nh) hp hnx hkp mnow mold mols) (hF : 1000 ≤ F) :
    ∃ (plo' : Nat → Int32) (phi' : Nat → Int32) (pm' : Int32) (lf' : Nat → Int32) (th' : Nat → Int32) (ow' : Nat → Int32) (lk' : Nat → Int32) (el' : Nat → Int32) (eh' : Nat → Int32) (co' : Nat → Int32) (hu' : Nat → Int32) (ne' : Int32) (nt' : Int32) (nh' : Int32) (hp' : Nat → PlanS) (hnx' : Int32) (hkp' : Int32) (thr : Int32) (mnow' : Nat → Int32) (mold' : Nat → Int32) (mols' : Int32) (fl' : Nat → Int64), s_case_6 F xs pxs pys plo phi pn pm lf th ow lk el eh co hu ne nt nh hp hnx hkp mnow mold mols fl x5 = some (plo', phi', pm', lf', th', ow', lk', el', eh', co', hu', ne', nt', nh', hp', hnx', hkp', thr, mnow', mold', mols', fl') ∧ CI F (pxs, pys, plo', phi', pn, pm') (lf', th', ow', lk', el', eh', co', hu', ne', nt', nh') hp' hnx' hkp' mnow' mold' mols' := by
  obtain ⟨thr, v, plo', phi', pm', lf', th', ow', lk', el', eh', co', hu', ne', nt', nh', hp', hnx', hkp', mnow', mold', mols', fl', h1, h2, h3, h4⟩ := ch_6 (fl := fl) ci hF (xs (x5 + (1 : Int32)).toNatClampNeg)
  refine ⟨plo', phi', pm', lf', th', ow', lk', el', eh', co', hu', ne', nt', nh', hp', hnx', hkp', thr, mnow', mold', mols', fl', ?_, h4⟩
  unfold s_case_6
  rw [h1, h2]
  simp only [Option.bind_some]
  rw [if_pos (show s_Mod_thrown thr = thr from rfl)]
  by_cases c : thr = 0
  · rw [if_pos c, if_pos]
    show lg_cmp (fl' 0) v.toInt64 = 0
    rw [h3 c]; exact lgc _
  · rw [if_neg c]
theorem k_36 (ci : CI F (pxs, pys, plo, phi, pn, pm) (lf, th, ow, lk, el, eh, co, hu, ne, nt, nh) hp hnx hkp mnow mold mols) (hF : 1000 ≤ F) :
    ∃ (pxs' : Nat → Int32) (pys' : Nat → Int32) (plo' : Nat → Int32) (phi' : Nat → Int32) (pn' : Int32) (pm' : Int32) (lf' : Nat → Int32) (th' : Nat → Int32) (ow' : Nat → Int32) (lk' : Nat → Int32) (el' : Nat → Int32) (eh' : Nat → Int32) (co' : Nat → Int32) (hu' : Nat → Int32) (ne' : Int32) (nt' : Int32) (nh' : Int32) (hnx' : Int32) (hkp' : Int32) (thr : Int32) (mnow' : Nat → Int32) (mols' : Int32) (fl' : Nat → Int64), s_case_36 F pxs pys plo phi pn pm lf th ow lk el eh co hu ne nt nh hp hnx hkp mnow mold mols fl = some (pxs', pys', plo', phi', pn', pm', lf', th', ow', lk', el', eh', co', hu', ne', nt', nh', hnx', hkp', thr, mnow', mols', fl') ∧ CI F (pxs', pys', plo', phi', pn', pm') (lf', th', ow', lk', el', eh', co', hu', ne', nt', nh') hp hnx' hkp' mnow' mold mols' := by
  obtain ⟨thr, v, pxs', pys', plo', phi', pn', pm', lf', th', ow', lk', el', eh', co', hu', ne', nt', nh', hnx', hkp', mnow', mols', fl', h1, h2, h3, h4⟩ := ch_36 (fl := fl) ci hF 
  refine ⟨pxs', pys', plo', phi', pn', pm', lf', th', ow', lk', el', eh', co', hu', ne', nt', nh', hnx', hkp', thr, mnow', mols', fl', ?_, h4⟩
  unfold s_case_36
  rw [h1, h2]
  simp only [Option.bind_some]
  rw [if_pos (show s_Mod_thrown thr = thr from rfl)]
  by_cases c : thr = 0
  · rw [if_pos c, if_pos]
    show lg_cmp (fl' 0) v.toInt64 = 0
    rw [h3 c]; exact lgc _
  · rw [if_neg c]
/-- what was saved -/
def SV (P : PlanS) (hsv : Bool) (msav : Nat → Int32) (miss : Bool) : Prop := hsv = miss ∧ (hsv = true → PR P msav)
theorem ch_38 {spxs spys splo sphi msav : Nat → Int32} {spn spm : Int32} {hsv miss : Bool} (ci : CI F (pxs, pys, plo, phi, pn, pm) (lf, th, ow, lk, el, eh, co, hu, ne, nt, nh) hp hnx hkp mnow mold mols) (sv : SV (spxs, spys, splo, sphi, spn, spm) hsv msav miss) (hF : 1000 ≤ F) :
    ∃ (thr v : Int32) (pxs' pys' plo' phi' : Nat → Int32) (pn' pm' : Int32) (lf' th' ow' lk' el' eh' co' hu' : Nat → Int32) (ne' nt' nh' hkp' : Int32) (mnow' : Nat → Int32) (mols' : Int32) (fl' : Nat → Int64),
      s_Law_restore F pxs pys plo phi pn pm lf th ow lk el eh co hu ne nt nh spxs spys splo sphi spn spm hkp hsv fl = some (thr, pxs', pys', plo', phi', pn', pm', lf', th', ow', lk', el', eh', co', hu', ne', nt', nh', hkp', fl') ∧ s_Mod_restore F mnow mols msav miss = some (v, thr, mnow', mols') ∧ (thr = 0 → fl' 0 = v.toInt64) ∧
      CI F (pxs', pys', plo', phi', pn', pm') (lf', th', ow', lk', el', eh', co', hu', ne', nt', nh') hp hnx hkp' mnow' mold mols' := by
  obtain ⟨sv1, sv2⟩ := sv
  subst sv1
  cases hsv
  · refine ⟨(1 : Int32), (0 : Int32), pxs, pys, plo, phi, pn, pm, lf, th, ow, lk, el, eh, co, hu, ne, nt, nh, hkp, mnow, mols, fl, ?_, ?_, fun z => absurd z (by decide), ci⟩
    · unfold s_Law_restore s_Top_restore
      rw [if_pos (show bI false = 0 from rfl)]
      simp only [Option.bind_some, Sum.elim_inl]
      rw [if_pos trivial]
    · unfold s_Mod_restore
      rw [if_pos (show bI false = 0 from rfl)]; rfl
  · obtain ⟨hP, hD, q, k, hq, hk, rfl, rfl, rfl, hj⟩ := ci
    obtain ⟨n, m, X, Y, L, H, c1, c3, c2⟩ := sv2 rfl
    obtain ⟨v1, v2, v3, v4, w1, w2, w3⟩ := c_pcopy F (by omega) pxs pys plo phi spxs spys splo sphi spn spm
    obtain ⟨mn', s1, s2⟩ := m_rest F hF msav mnow
    have c1 : CP n m X Y L H v1 v2 v3 v4 spn spm := cp_ext c2 c1 w2 w3
    have c3 : MP n m X Y L H mn' := mp_ext c2 c3 s2
    obtain ⟨lf', th', ow', lk', el', eh', co', hu', ne', nt', nh', d⟩ := draw_ok c1 c3 c2 hF lf th ow lk el eh co hu
    have top : s_Top_restore F pxs pys plo phi lf th ow lk el eh co hu spxs spys splo sphi spn spm true = some (.inr (spn, v1, v2, v3, v4, spn, spm, lf', th', ow', lk', el', eh', co', hu', ne', nt', nh', (0 : Int32))) := by
      unfold s_Top_restore
      rw [if_neg (show ¬ (bI true = 0) by decide), w1]; simp only [Option.bind_some]
      rw [d]; rfl
    refine ⟨(0 : Int32), spn, v1, v2, v3, v4, spn, spm, lf', th', ow', lk', el', eh', co', hu', ne', nt', nh', (0 : Int32), mn', (0 : Int32), vp_updL fl (0 : Int32).toNatClampNeg spn.toInt64, ?_, ?_, fun _ => upd0 _ _, ⟨n, m, X, Y, L, H, c1, c3, c2⟩, Or.inl ⟨_, _, _, _, _, _, _, _, d⟩, ⟨q, 0, hq, by omega, rfl, rfl, rfl, fun j hj => by omega⟩⟩
    · unfold s_Law_restore
      rw [top]; rfl
    · unfold s_Mod_restore
      rw [if_neg (show ¬ (bI true = 0) by decide), s1]; simp only [Option.bind_some]
      rw [m_n c3, c1.1]; rfl
theorem k_38 {spxs spys splo sphi msav : Nat → Int32} {spn spm : Int32} {hsv miss : Bool} (ci : CI F (pxs, pys, plo, phi, pn, pm) (lf, th, ow, lk, el, eh, co, hu, ne, nt, nh) hp hnx hkp mnow mold mols) (sv : SV (spxs, spys, splo, sphi, spn, spm) hsv msav miss) (hF : 1000 ≤ F) :
    ∃ (pxs' pys' plo' phi' : Nat → Int32) (pn' pm' : Int32) (lf' th' ow' lk' el' eh' co' hu' : Nat → Int32) (ne' nt' nh' hkp' thr : Int32) (mnow' : Nat → Int32) (mols' : Int32) (fl' : Nat → Int64),
      s_case_38 F pxs pys plo phi pn pm lf th ow lk el eh co hu ne nt nh spxs spys splo sphi spn spm hkp hsv mnow mols msav miss fl = some (pxs', pys', plo', phi', pn', pm', lf', th', ow', lk', el', eh', co', hu', ne', nt', nh', hkp', thr, mnow', mols', fl') ∧ CI F (pxs', pys', plo', phi', pn', pm') (lf', th', ow', lk', el', eh', co', hu', ne', nt', nh') hp hnx hkp' mnow' mold mols' := by
  obtain ⟨thr, v, pxs', pys', plo', phi', pn', pm', lf', th', ow', lk', el', eh', co', hu', ne', nt', nh', hkp', mnow', mols', fl', h1, h2, h3, h4⟩ := ch_38 (fl := fl) ci sv hF
  refine ⟨pxs', pys', plo', phi', pn', pm', lf', th', ow', lk', el', eh', co', hu', ne', nt', nh', hkp', thr, mnow', mols', fl', ?_, h4⟩
  unfold s_case_38
  rw [h1, h2]
  simp only [Option.bind_some]
  rw [if_pos (show s_Mod_thrown thr = thr from rfl)]
  by_cases c : thr = 0
  · rw [if_pos c, if_pos]
    show lg_cmp (fl' 0) v.toInt64 = 0
    rw [h3 c]; exact lgc _
  · rw [if_neg c]
theorem k_37 {spxs spys splo sphi msav : Nat → Int32} (hP : PR (pxs, pys, plo, phi, pn, pm) mnow) (hF : 1000 ≤ F) :
    ∃ (v1 v2 v3 v4 : Nat → Int32) (pn' pm' : Int32) (b : Bool) (thr : Int32) (ms' : Nat → Int32) (b' : Bool), s_case_37 F pxs pys plo phi pn pm spxs spys splo sphi mnow msav = some (v1, v2, v3, v4, pn', pm', b, thr, ms', b') ∧ SV (v1, v2, v3, v4, pn', pm') b ms' b' := by
  obtain ⟨n, m, X, Y, L, H, c1, c3, c2⟩ := hP
  obtain ⟨v1, v2, v3, v4, w1, w2, w3⟩ := c_pcopy F (by omega) spxs spys splo sphi pxs pys plo phi pn pm
  obtain ⟨ms', s1, s2⟩ := m_save F hF mnow msav
  have c9 : CP n m X Y L H pxs pys plo phi pn pm := c1
  refine ⟨v1, v2, v3, v4, pn, pm, true, 0, ms', true, ?_, rfl, fun _ => ⟨n, m, X, Y, L, H, cp_ext c2 c9 w2 w3, mp_ext c2 c3 s2, c2⟩⟩
  unfold s_case_37 s_Top_save s_Mod_save
  rw [w1]; simp only [Option.bind_some]
  rw [s1]; simp only [Option.bind_some]
  rw [m_n c3]; simp only [Option.bind_some]
  rw [if_pos (show s_Plan_points pn = i32 n from c9.1)]
end CG4
