theorem s_lay {len : Nat} (hl : len ≤ 40) {w b s : Int32} {nums : Nat → Int32} {Q : Int32 → Int32 → (Nat → Int32) → Prop} (h : ∀ n2, (∀ i, i < len → n2 i = 0) → Q w (nI len) n2) : wp_X2_lay w (nI len) b s nums Q := by
  unfold wp_X2_lay wp_X7_held
  have e : jmax 0 (jmin 40 (nI len)) = nI len := by
    rw [show jmin 40 (nI len) = nI (min 40 len) from jmin_nn (a := 40) (by decide) (by omega), Nat.min_eq_right hl]
    unfold jmax
    by_cases c : (0 : Int32) < nI len
    · rw [if_pos c]
    · rw [if_neg c]
      rw [fa_lit 0, lt_nn (by decide) (by omega)] at c
      rw [show len = 0 by omega]
      rfl
  rw [e]
  refine pk_loop (fun k i s => lb_X2_lay_18 w (nI len) Q k (nI i) w (nI len) s) (fun i s => ∀ j, j < i → s j = 0) len 0 nums (Nat.zero_le _) (fun j hj => absurd hj (by omega)) ?_ ?_
  · intro k n2 h2
    exact ⟨fun _ => h n2 h2, fun c => absurd (Int32.le_refl _) c⟩
  · intro k i n2 hi h2 ih
    refine ⟨fun c => absurd c (nI_ge hi (by omega)), fun _ => ⟨vp_in_nI (by omega) (by decide), ?_⟩⟩
    rw [nI_1, nI_clamp (by omega)]
    refine ih _ (fun j hj => ?_)
    by_cases z : j = i
    · subst z; rw [up_s]
    · rw [up_n z]; exact h2 j (by omega)
theorem m_lay {qq : Nat} (hq : qq < 4) {x2 x3 : Int32} {er wd sz mn : Nat → Int32} {Q : Int32 → (Nat → Int32) → (Nat → Int32) → (Nat → Int32) → (Nat → Int32) → Prop} (h : ∀ m2, (∀ i, i < 40 → m2 (40 * qq + i) = 0) → (∀ j, (j < 40 * qq ∨ 40 * qq + 40 ≤ j) → m2 j = mn j) → Q 1 er wd sz m2) : ∃ n, lb_X8_sheet_93 (nI qq) x2 x3 Q n 0 er wd sz mn := by
  refine pk_loop (fun k i s => lb_X8_sheet_93 (nI qq) x2 x3 Q k (nI i) er wd sz s) (fun i s => (∀ j, j < i → s (40 * qq + j) = 0) ∧ ∀ j, (j < 40 * qq ∨ 40 * qq + 40 ≤ j) → s j = mn j) 40 0 mn (Nat.zero_le _) ⟨fun j hj => absurd hj (by omega), fun _ _ => rfl⟩ ?_ ?_
  · rintro k m2 ⟨a1, a2⟩
    exact ⟨fun _ => h m2 a1 a2, fun c => absurd (Int32.le_refl _) c⟩
  · rintro k i m2 hi ⟨a1, a2⟩ ih
    refine ⟨fun c => absurd c (nI_ge hi (by decide)), fun _ => ?_⟩
    rw [show (40 : Int32) * nI qq + nI i = nI (40 * qq + i) by rw [fa_lit 40, pk_mul, nI_add], nI_1, nI_clamp (by omega)]
    refine ⟨vp_in_nI (by omega) (by decide), ih _ ⟨fun j hj => ?_, fun j hj => by rw [up_n (by omega)]; exact a2 j hj⟩⟩
    by_cases z : j = i
    · subst z; rw [up_s]
    · rw [up_n (by omega)]; exact a1 j (by omega)
theorem w_all {L R : Prop} {x : Int32} (q0 : ¬ x = 0) (h : (x = 8 ∨ x = 16 ∨ x = 32) → L) (h2 : ¬ (x = 0 ∨ x = 8 ∨ x = 16 ∨ x = 32) → R) : (x = 8 → L) ∧ (¬ x = 8 → ((x = 16 → L) ∧ (¬ x = 16 → ((x = 32 → L) ∧ (¬ x = 32 → R))))) :=
  ⟨fun q => h (Or.inl q), fun n8 => ⟨fun q => h (Or.inr (Or.inl q)), fun n16 => ⟨fun q => h (Or.inr (Or.inr q)), fun n32 => h2 (fun q => by rcases q with q | q | q | q <;> contradiction)⟩⟩⟩
set_option maxHeartbeats 4000000 in
set_option maxRecDepth 100000 in
theorem op_sheet {ca : Nat → Nat → Int32} {ci : Nat → Int32} {ma : Nat → Nat → Int32} {mi : Nat → Int32} (h : Inv ca ci ma mi) (s1 : Int32) (s2 : Int32) (s3 : Int32) : wp_X7_sheet s1 s2 s3 (ca 49) (ci 34) (ci 35) (ca 48) (ci 32) (ci 33) (ca 47) (ci 30) (ci 31) (ca 46) (ci 28) (ci 29) (ca 45) (fun r1 c0 c1 c2 c3 c4 c5 c6 c7 c8 c9 c10 c11 c12 => wp_X8_sheet s1 s2 s3 (ma 3) (ma 12) (ma 13) (ma 14) (fun r2 m0 m1 m2 m3 => r1 = r2 ∧ Inv (va_up (va_up (va_up (va_up (va_up ca 49 c0) 48 c3) 47 c6) 46 c9) 45 c12) (va_up (va_up (va_up (va_up (va_up (va_up (va_up (va_up ci 34 c1) 35 c2) 32 c4) 33 c5) 30 c7) 31 c8) 28 c10) 29 c11) (va_up (va_up (va_up (va_up ma 3 m0) 12 m1) 13 m2) 14 m3) mi)) := by
  obtain ⟨tl, hkp, him, re, rv, r0, r1, r2, r3⟩ := h
  obtain ⟨n, sn, ln, F, tn, tk, nv, un, uk, uv, pn, wn, ⟨hn, hsn, hln, ok, wT, wU, hpn, hwn⟩, ⟨tc1, tc2, tc3, cf, cT, cU, tc7, tc8⟩, tm, mc, dc⟩ := id tl
  obtain ⟨tm1, tm2, tm3, tm4, tmT, tmU, tm7, tm8, tm9, tm10⟩ := id tm
  by_cases c : (0 : Int32) ≤ s1 ∧ s1 ≤ 3
  · have one : ∀ qq : Nat, qq < 4 → ∀ (R : Int32 → (Nat → Int32) → (Nat → Int32) → (Nat → Int32) → (Nat → Int32) → Prop), (¬ (s2 = 0 ∨ s2 = 8 ∨ s2 = 16 ∨ s2 = 32) → R (-1000000001) (upd (ma 3) 1 (ma 3 1 + 1)) (ma 12) (ma 13) (ma 14)) → ((s2 = 8 ∨ s2 = 16 ∨ s2 = 32) → ¬ 0 ≤ s3 → R (-1000000003) (upd (ma 3) 3 (ma 3 3 + 1)) (ma 12) (ma 13) (ma 14)) → ((s2 = 8 ∨ s2 = 16 ∨ s2 = 32) → 0 ≤ s3 → ¬ s3 ≤ 40 → R (-1000000001) (upd (ma 3) 1 (ma 3 1 + 1)) (ma 12) (ma 13) (ma 14)) → (s2 = 0 → ∀ m2, (∀ i, i < 40 → m2 (40 * qq + i) = 0) → (∀ j, (j < 40 * qq ∨ 40 * qq + 40 ≤ j) → m2 j = ma 14 j) → R 1 (ma 3) (upd (ma 12) qq s2) (upd (ma 13) qq 0) m2) → ((s2 = 8 ∨ s2 = 16 ∨ s2 = 32) → 0 ≤ s3 → s3 ≤ 40 → ∀ m2, (∀ i, i < 40 → m2 (40 * qq + i) = 0) → (∀ j, (j < 40 * qq ∨ 40 * qq + 40 ≤ j) → m2 j = ma 14 j) → R 1 (ma 3) (upd (ma 12) qq s2) (upd (ma 13) qq s3) m2) → wp_X8_sheet (nI qq) s2 s3 (ma 3) (ma 12) (ma 13) (ma 14) R := by
      intro qq hq R h1 h2 h3 h4 h5
      have c2 : (0 : Int32) ≤ nI qq ∧ nI qq ≤ 3 := by
        rw [fa_lit 0, fa_lit 3, li_nn (by decide) (by omega), li_nn (by omega) (by decide)]; omega
      have i4 : vp_in (nI qq) 4 := vp_in_nI hq (by decide)
      unfold wp_X8_sheet lb_X8_sheet_29 lb_X8_sheet_36 lb_X8_sheet_51 lb_X8_sheet_68
      simp only [e_isSheet8, b2i_t c2, z10, e_fin1, e_fin3, nI_clamp (show qq < 2 ^ 31 by omega), false_implies, true_implies, not_true_eq_false, not_false_eq_true, true_and, and_true, forall_eq]
      by_cases q0 : s2 = 0
      · simp only [q0, false_implies, true_implies, not_true_eq_false, not_false_eq_true, true_and, and_true, forall_eq]
        have hq4 := m_lay hq (x2 := s2) (x3 := s3) (h4 q0)
        rw [q0] at hq4
        exact ⟨i4, i4, hq4⟩
      · simp only [q0, false_implies, true_implies, not_true_eq_false, not_false_eq_true, true_and, and_true, forall_eq]
        exact w_all q0 (fun q => ⟨fun p => ⟨fun p2 => ⟨i4, i4, m_lay hq (h5 q p p2)⟩, fun p2 => h3 q p p2⟩, fun p => h2 q p⟩) h1
    obtain ⟨qq, hq, rfl⟩ := sm_of (n := 3) (by decide) c
    unfold wp_X7_sheet wp_X7_rowOf
    simp only [e_within, b2i_t c, z10, false_implies, true_implies, not_true_eq_false, not_false_eq_true, true_and, and_true, forall_eq]
    refine ⟨vp_in_nI (by omega) (by decide), fun e => ?_, fun e => ?_, fun e => ?_, fun e => ?_⟩
    · have eq0 : qq = 0 := by rw [fa_lit 0, eq_nn (by omega) (by decide)] at e; exact e
      subst eq0
      unfold lb_X7_sheet_34 lb_X7_sheet_40 lb_X7_sheet_54 lb_X7_sheet_70 lb_X7_sheet_82
      by_cases q0 : s2 = 0
      · simp only [q0, false_implies, true_implies, not_true_eq_false, not_false_eq_true, true_and, and_true, forall_eq]
        refine s_lay (len := 0) (by decide) (fun n2 hz => ?_)
        rw [← q0]
        refine one 0 (by decide) _ (fun y => absurd (Or.inl q0) y) (fun y => absurd y (by rw [q0]; decide)) (fun y => absurd y (by rw [q0]; decide)) (fun _ m2 a1 a2 => ?_) (fun y => absurd y (by rw [q0]; decide))
        have rq : RSh 0 s2 (nI 0) n2 (upd (ma 12) 0 s2) (upd (ma 13) 0 0) m2 := ⟨up_s.symm, Or.inl q0, 0, by decide, rfl, up_s, fun i hi => absurd hi (by omega)⟩
        have o1 : RSh 1 (ci 30) (ci 31) (ca 46) (upd (ma 12) 0 s2) (upd (ma 13) 0 0) m2 := rs_other r1 (up_n (by decide)) (up_n (by decide)) (fun i hi => a2 _ (by omega))
        have o2 : RSh 2 (ci 32) (ci 33) (ca 47) (upd (ma 12) 0 s2) (upd (ma 13) 0 0) m2 := rs_other r2 (up_n (by decide)) (up_n (by decide)) (fun i hi => a2 _ (by omega))
        have o3 : RSh 3 (ci 34) (ci 35) (ca 48) (upd (ma 12) 0 s2) (upd (ma 13) 0 0) m2 := rs_other r3 (up_n (by decide)) (up_n (by decide)) (fun i hi => a2 _ (by omega))
        exact ⟨rfl, tl, hkp, him, re, rv, rq, o1, o2, o3⟩
      · simp only [q0, false_implies, true_implies, not_true_eq_false, not_false_eq_true, true_and, and_true, forall_eq]
        refine w_all q0 (fun q => ⟨fun p => ⟨fun p2 => ?_, fun p2 => ?_⟩, fun p => ?_⟩) (fun q => ?_)
        · obtain ⟨len, hl, rfl⟩ := sm_of (n := 40) (by decide) ⟨p, p2⟩
          refine s_lay hl (fun n2 hz => ?_)
          refine one 0 (by decide) _ (fun y => absurd (Or.inr q) y) (fun _ y => absurd p y) (fun _ _ y => absurd p2 y) (fun y => absurd y q0) (fun _ _ _ m2 a1 a2 => ?_)
          have rq : RSh 0 s2 (nI len) n2 (upd (ma 12) 0 s2) (upd (ma 13) 0 (nI len)) m2 := ⟨up_s.symm, Or.inr q, len, hl, rfl, up_s, fun i hi => by rw [hz i hi, a1 i (by omega)]; exact nr_0 _⟩
          have o1 : RSh 1 (ci 30) (ci 31) (ca 46) (upd (ma 12) 0 s2) (upd (ma 13) 0 (nI len)) m2 := rs_other r1 (up_n (by decide)) (up_n (by decide)) (fun i hi => a2 _ (by omega))
          have o2 : RSh 2 (ci 32) (ci 33) (ca 47) (upd (ma 12) 0 s2) (upd (ma 13) 0 (nI len)) m2 := rs_other r2 (up_n (by decide)) (up_n (by decide)) (fun i hi => a2 _ (by omega))
          have o3 : RSh 3 (ci 34) (ci 35) (ca 48) (upd (ma 12) 0 s2) (upd (ma 13) 0 (nI len)) m2 := rs_other r3 (up_n (by decide)) (up_n (by decide)) (fun i hi => a2 _ (by omega))
          exact ⟨rfl, tl, hkp, him, re, rv, rq, o1, o2, o3⟩
        · rw [e_ref1]
          exact one 0 (by decide) _ (fun y => absurd (Or.inr q) y) (fun _ y => absurd p y) (fun _ _ _ => (by first | exact ⟨tl, hkp, him, re_upd re (k := 1) (by decide), rv, r0, r1, r2, r3⟩ | exact ⟨rfl, tl, hkp, him, re_upd re (k := 1) (by decide), rv, r0, r1, r2, r3⟩)) (fun y => absurd y q0) (fun _ _ y => absurd y p2)
        · rw [e_ref3]
          exact one 0 (by decide) _ (fun y => absurd (Or.inr q) y) (fun _ _ => (by first | exact ⟨tl, hkp, him, re_upd re (k := 3) (by decide), rv, r0, r1, r2, r3⟩ | exact ⟨rfl, tl, hkp, him, re_upd re (k := 3) (by decide), rv, r0, r1, r2, r3⟩)) (fun _ y => absurd y p) (fun y => absurd y q0) (fun _ y => absurd y p)
        · rw [e_ref1]
          exact one 0 (by decide) _ (fun _ => (by first | exact ⟨tl, hkp, him, re_upd re (k := 1) (by decide), rv, r0, r1, r2, r3⟩ | exact ⟨rfl, tl, hkp, him, re_upd re (k := 1) (by decide), rv, r0, r1, r2, r3⟩)) (fun y => absurd (Or.inr y) q) (fun y => absurd (Or.inr y) q) (fun y => absurd y q0) (fun y => absurd (Or.inr y) q)
    · have eq0 : qq = 1 := by rw [fa_lit 1, eq_nn (by omega) (by decide)] at e; exact e
      subst eq0
      unfold lb_X7_sheet_34 lb_X7_sheet_40v2 lb_X7_sheet_54v2 lb_X7_sheet_70v2 lb_X7_sheet_82v2
      by_cases q0 : s2 = 0
      · simp only [q0, false_implies, true_implies, not_true_eq_false, not_false_eq_true, true_and, and_true, forall_eq]
        refine s_lay (len := 0) (by decide) (fun n2 hz => ?_)
        rw [← q0]
        refine one 1 (by decide) _ (fun y => absurd (Or.inl q0) y) (fun y => absurd y (by rw [q0]; decide)) (fun y => absurd y (by rw [q0]; decide)) (fun _ m2 a1 a2 => ?_) (fun y => absurd y (by rw [q0]; decide))
        have rq : RSh 1 s2 (nI 0) n2 (upd (ma 12) 1 s2) (upd (ma 13) 1 0) m2 := ⟨up_s.symm, Or.inl q0, 0, by decide, rfl, up_s, fun i hi => absurd hi (by omega)⟩
        have o0 : RSh 0 (ci 28) (ci 29) (ca 45) (upd (ma 12) 1 s2) (upd (ma 13) 1 0) m2 := rs_other r0 (up_n (by decide)) (up_n (by decide)) (fun i hi => a2 _ (by omega))
        have o2 : RSh 2 (ci 32) (ci 33) (ca 47) (upd (ma 12) 1 s2) (upd (ma 13) 1 0) m2 := rs_other r2 (up_n (by decide)) (up_n (by decide)) (fun i hi => a2 _ (by omega))
        have o3 : RSh 3 (ci 34) (ci 35) (ca 48) (upd (ma 12) 1 s2) (upd (ma 13) 1 0) m2 := rs_other r3 (up_n (by decide)) (up_n (by decide)) (fun i hi => a2 _ (by omega))
        exact ⟨rfl, tl, hkp, him, re, rv, o0, rq, o2, o3⟩
      · simp only [q0, false_implies, true_implies, not_true_eq_false, not_false_eq_true, true_and, and_true, forall_eq]
        refine w_all q0 (fun q => ⟨fun p => ⟨fun p2 => ?_, fun p2 => ?_⟩, fun p => ?_⟩) (fun q => ?_)
        · obtain ⟨len, hl, rfl⟩ := sm_of (n := 40) (by decide) ⟨p, p2⟩
          refine s_lay hl (fun n2 hz => ?_)
          refine one 1 (by decide) _ (fun y => absurd (Or.inr q) y) (fun _ y => absurd p y) (fun _ _ y => absurd p2 y) (fun y => absurd y q0) (fun _ _ _ m2 a1 a2 => ?_)
          have rq : RSh 1 s2 (nI len) n2 (upd (ma 12) 1 s2) (upd (ma 13) 1 (nI len)) m2 := ⟨up_s.symm, Or.inr q, len, hl, rfl, up_s, fun i hi => by rw [hz i hi, a1 i (by omega)]; exact nr_0 _⟩
          have o0 : RSh 0 (ci 28) (ci 29) (ca 45) (upd (ma 12) 1 s2) (upd (ma 13) 1 (nI len)) m2 := rs_other r0 (up_n (by decide)) (up_n (by decide)) (fun i hi => a2 _ (by omega))
          have o2 : RSh 2 (ci 32) (ci 33) (ca 47) (upd (ma 12) 1 s2) (upd (ma 13) 1 (nI len)) m2 := rs_other r2 (up_n (by decide)) (up_n (by decide)) (fun i hi => a2 _ (by omega))
          have o3 : RSh 3 (ci 34) (ci 35) (ca 48) (upd (ma 12) 1 s2) (upd (ma 13) 1 (nI len)) m2 := rs_other r3 (up_n (by decide)) (up_n (by decide)) (fun i hi => a2 _ (by omega))
          exact ⟨rfl, tl, hkp, him, re, rv, o0, rq, o2, o3⟩
        · rw [e_ref1]
          exact one 1 (by decide) _ (fun y => absurd (Or.inr q) y) (fun _ y => absurd p y) (fun _ _ _ => (by first | exact ⟨tl, hkp, him, re_upd re (k := 1) (by decide), rv, r0, r1, r2, r3⟩ | exact ⟨rfl, tl, hkp, him, re_upd re (k := 1) (by decide), rv, r0, r1, r2, r3⟩)) (fun y => absurd y q0) (fun _ _ y => absurd y p2)
        · rw [e_ref3]
          exact one 1 (by decide) _ (fun y => absurd (Or.inr q) y) (fun _ _ => (by first | exact ⟨tl, hkp, him, re_upd re (k := 3) (by decide), rv, r0, r1, r2, r3⟩ | exact ⟨rfl, tl, hkp, him, re_upd re (k := 3) (by decide), rv, r0, r1, r2, r3⟩)) (fun _ y => absurd y p) (fun y => absurd y q0) (fun _ y => absurd y p)
        · rw [e_ref1]
          exact one 1 (by decide) _ (fun _ => (by first | exact ⟨tl, hkp, him, re_upd re (k := 1) (by decide), rv, r0, r1, r2, r3⟩ | exact ⟨rfl, tl, hkp, him, re_upd re (k := 1) (by decide), rv, r0, r1, r2, r3⟩)) (fun y => absurd (Or.inr y) q) (fun y => absurd (Or.inr y) q) (fun y => absurd y q0) (fun y => absurd (Or.inr y) q)
    · have eq0 : qq = 2 := by rw [fa_lit 2, eq_nn (by omega) (by decide)] at e; exact e
      subst eq0
      unfold lb_X7_sheet_34 lb_X7_sheet_40v3 lb_X7_sheet_54v3 lb_X7_sheet_70v3 lb_X7_sheet_82v3
      by_cases q0 : s2 = 0
      · simp only [q0, false_implies, true_implies, not_true_eq_false, not_false_eq_true, true_and, and_true, forall_eq]
        refine s_lay (len := 0) (by decide) (fun n2 hz => ?_)
        rw [← q0]
        refine one 2 (by decide) _ (fun y => absurd (Or.inl q0) y) (fun y => absurd y (by rw [q0]; decide)) (fun y => absurd y (by rw [q0]; decide)) (fun _ m2 a1 a2 => ?_) (fun y => absurd y (by rw [q0]; decide))
        have rq : RSh 2 s2 (nI 0) n2 (upd (ma 12) 2 s2) (upd (ma 13) 2 0) m2 := ⟨up_s.symm, Or.inl q0, 0, by decide, rfl, up_s, fun i hi => absurd hi (by omega)⟩
        have o0 : RSh 0 (ci 28) (ci 29) (ca 45) (upd (ma 12) 2 s2) (upd (ma 13) 2 0) m2 := rs_other r0 (up_n (by decide)) (up_n (by decide)) (fun i hi => a2 _ (by omega))
        have o1 : RSh 1 (ci 30) (ci 31) (ca 46) (upd (ma 12) 2 s2) (upd (ma 13) 2 0) m2 := rs_other r1 (up_n (by decide)) (up_n (by decide)) (fun i hi => a2 _ (by omega))
        have o3 : RSh 3 (ci 34) (ci 35) (ca 48) (upd (ma 12) 2 s2) (upd (ma 13) 2 0) m2 := rs_other r3 (up_n (by decide)) (up_n (by decide)) (fun i hi => a2 _ (by omega))
        exact ⟨rfl, tl, hkp, him, re, rv, o0, o1, rq, o3⟩
      · simp only [q0, false_implies, true_implies, not_true_eq_false, not_false_eq_true, true_and, and_true, forall_eq]
        refine w_all q0 (fun q => ⟨fun p => ⟨fun p2 => ?_, fun p2 => ?_⟩, fun p => ?_⟩) (fun q => ?_)
        · obtain ⟨len, hl, rfl⟩ := sm_of (n := 40) (by decide) ⟨p, p2⟩
          refine s_lay hl (fun n2 hz => ?_)
          refine one 2 (by decide) _ (fun y => absurd (Or.inr q) y) (fun _ y => absurd p y) (fun _ _ y => absurd p2 y) (fun y => absurd y q0) (fun _ _ _ m2 a1 a2 => ?_)
          have rq : RSh 2 s2 (nI len) n2 (upd (ma 12) 2 s2) (upd (ma 13) 2 (nI len)) m2 := ⟨up_s.symm, Or.inr q, len, hl, rfl, up_s, fun i hi => by rw [hz i hi, a1 i (by omega)]; exact nr_0 _⟩
          have o0 : RSh 0 (ci 28) (ci 29) (ca 45) (upd (ma 12) 2 s2) (upd (ma 13) 2 (nI len)) m2 := rs_other r0 (up_n (by decide)) (up_n (by decide)) (fun i hi => a2 _ (by omega))
          have o1 : RSh 1 (ci 30) (ci 31) (ca 46) (upd (ma 12) 2 s2) (upd (ma 13) 2 (nI len)) m2 := rs_other r1 (up_n (by decide)) (up_n (by decide)) (fun i hi => a2 _ (by omega))
          have o3 : RSh 3 (ci 34) (ci 35) (ca 48) (upd (ma 12) 2 s2) (upd (ma 13) 2 (nI len)) m2 := rs_other r3 (up_n (by decide)) (up_n (by decide)) (fun i hi => a2 _ (by omega))
          exact ⟨rfl, tl, hkp, him, re, rv, o0, o1, rq, o3⟩
        · rw [e_ref1]
          exact one 2 (by decide) _ (fun y => absurd (Or.inr q) y) (fun _ y => absurd p y) (fun _ _ _ => (by first | exact ⟨tl, hkp, him, re_upd re (k := 1) (by decide), rv, r0, r1, r2, r3⟩ | exact ⟨rfl, tl, hkp, him, re_upd re (k := 1) (by decide), rv, r0, r1, r2, r3⟩)) (fun y => absurd y q0) (fun _ _ y => absurd y p2)
        · rw [e_ref3]
          exact one 2 (by decide) _ (fun y => absurd (Or.inr q) y) (fun _ _ => (by first | exact ⟨tl, hkp, him, re_upd re (k := 3) (by decide), rv, r0, r1, r2, r3⟩ | exact ⟨rfl, tl, hkp, him, re_upd re (k := 3) (by decide), rv, r0, r1, r2, r3⟩)) (fun _ y => absurd y p) (fun y => absurd y q0) (fun _ y => absurd y p)
        · rw [e_ref1]
          exact one 2 (by decide) _ (fun _ => (by first | exact ⟨tl, hkp, him, re_upd re (k := 1) (by decide), rv, r0, r1, r2, r3⟩ | exact ⟨rfl, tl, hkp, him, re_upd re (k := 1) (by decide), rv, r0, r1, r2, r3⟩)) (fun y => absurd (Or.inr y) q) (fun y => absurd (Or.inr y) q) (fun y => absurd y q0) (fun y => absurd (Or.inr y) q)
    · have eq0 : qq = 3 := by rw [fa_lit 3, eq_nn (by omega) (by decide)] at e; exact e
      subst eq0
      unfold lb_X7_sheet_34 lb_X7_sheet_40v4 lb_X7_sheet_54v4 lb_X7_sheet_70v4 lb_X7_sheet_82v4
      by_cases q0 : s2 = 0
      · simp only [q0, false_implies, true_implies, not_true_eq_false, not_false_eq_true, true_and, and_true, forall_eq]
        refine s_lay (len := 0) (by decide) (fun n2 hz => ?_)
        rw [← q0]
        refine one 3 (by decide) _ (fun y => absurd (Or.inl q0) y) (fun y => absurd y (by rw [q0]; decide)) (fun y => absurd y (by rw [q0]; decide)) (fun _ m2 a1 a2 => ?_) (fun y => absurd y (by rw [q0]; decide))
        have rq : RSh 3 s2 (nI 0) n2 (upd (ma 12) 3 s2) (upd (ma 13) 3 0) m2 := ⟨up_s.symm, Or.inl q0, 0, by decide, rfl, up_s, fun i hi => absurd hi (by omega)⟩
        have o0 : RSh 0 (ci 28) (ci 29) (ca 45) (upd (ma 12) 3 s2) (upd (ma 13) 3 0) m2 := rs_other r0 (up_n (by decide)) (up_n (by decide)) (fun i hi => a2 _ (by omega))
        have o1 : RSh 1 (ci 30) (ci 31) (ca 46) (upd (ma 12) 3 s2) (upd (ma 13) 3 0) m2 := rs_other r1 (up_n (by decide)) (up_n (by decide)) (fun i hi => a2 _ (by omega))
        have o2 : RSh 2 (ci 32) (ci 33) (ca 47) (upd (ma 12) 3 s2) (upd (ma 13) 3 0) m2 := rs_other r2 (up_n (by decide)) (up_n (by decide)) (fun i hi => a2 _ (by omega))
        exact ⟨rfl, tl, hkp, him, re, rv, o0, o1, o2, rq⟩
      · simp only [q0, false_implies, true_implies, not_true_eq_false, not_false_eq_true, true_and, and_true, forall_eq]
        refine w_all q0 (fun q => ⟨fun p => ⟨fun p2 => ?_, fun p2 => ?_⟩, fun p => ?_⟩) (fun q => ?_)
        · obtain ⟨len, hl, rfl⟩ := sm_of (n := 40) (by decide) ⟨p, p2⟩
          refine s_lay hl (fun n2 hz => ?_)
          refine one 3 (by decide) _ (fun y => absurd (Or.inr q) y) (fun _ y => absurd p y) (fun _ _ y => absurd p2 y) (fun y => absurd y q0) (fun _ _ _ m2 a1 a2 => ?_)
          have rq : RSh 3 s2 (nI len) n2 (upd (ma 12) 3 s2) (upd (ma 13) 3 (nI len)) m2 := ⟨up_s.symm, Or.inr q, len, hl, rfl, up_s, fun i hi => by rw [hz i hi, a1 i (by omega)]; exact nr_0 _⟩
          have o0 : RSh 0 (ci 28) (ci 29) (ca 45) (upd (ma 12) 3 s2) (upd (ma 13) 3 (nI len)) m2 := rs_other r0 (up_n (by decide)) (up_n (by decide)) (fun i hi => a2 _ (by omega))
          have o1 : RSh 1 (ci 30) (ci 31) (ca 46) (upd (ma 12) 3 s2) (upd (ma 13) 3 (nI len)) m2 := rs_other r1 (up_n (by decide)) (up_n (by decide)) (fun i hi => a2 _ (by omega))
          have o2 : RSh 2 (ci 32) (ci 33) (ca 47) (upd (ma 12) 3 s2) (upd (ma 13) 3 (nI len)) m2 := rs_other r2 (up_n (by decide)) (up_n (by decide)) (fun i hi => a2 _ (by omega))
          exact ⟨rfl, tl, hkp, him, re, rv, o0, o1, o2, rq⟩
        · rw [e_ref1]
          exact one 3 (by decide) _ (fun y => absurd (Or.inr q) y) (fun _ y => absurd p y) (fun _ _ _ => (by first | exact ⟨tl, hkp, him, re_upd re (k := 1) (by decide), rv, r0, r1, r2, r3⟩ | exact ⟨rfl, tl, hkp, him, re_upd re (k := 1) (by decide), rv, r0, r1, r2, r3⟩)) (fun y => absurd y q0) (fun _ _ y => absurd y p2)
        · rw [e_ref3]
          exact one 3 (by decide) _ (fun y => absurd (Or.inr q) y) (fun _ _ => (by first | exact ⟨tl, hkp, him, re_upd re (k := 3) (by decide), rv, r0, r1, r2, r3⟩ | exact ⟨rfl, tl, hkp, him, re_upd re (k := 3) (by decide), rv, r0, r1, r2, r3⟩)) (fun _ y => absurd y p) (fun y => absurd y q0) (fun _ y => absurd y p)
        · rw [e_ref1]
          exact one 3 (by decide) _ (fun _ => (by first | exact ⟨tl, hkp, him, re_upd re (k := 1) (by decide), rv, r0, r1, r2, r3⟩ | exact ⟨rfl, tl, hkp, him, re_upd re (k := 1) (by decide), rv, r0, r1, r2, r3⟩)) (fun y => absurd (Or.inr y) q) (fun y => absurd (Or.inr y) q) (fun y => absurd y q0) (fun y => absurd (Or.inr y) q)
  · unfold wp_X7_sheet wp_X8_sheet wp_X7_rowOf lb_X7_sheet_34 lb_X8_sheet_29
    simp only [e_within, e_isSheet8, b2i_f c, z00, e_ref1, e_fin1, false_implies, true_implies, not_true_eq_false, not_false_eq_true, true_and, and_true, forall_eq]
    exact (by first | exact ⟨tl, hkp, him, re_upd re (k := 1) (by decide), rv, r0, r1, r2, r3⟩ | exact ⟨rfl, tl, hkp, him, re_upd re (k := 1) (by decide), rv, r0, r1, r2, r3⟩)
