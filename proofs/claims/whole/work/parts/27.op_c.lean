set_option maxHeartbeats 4000000 in
set_option maxRecDepth 100000 in
theorem op_law {ca : Nat → Nat → Int32} {ci : Nat → Int32} {ma : Nat → Nat → Int32} {mi : Nat → Int32} (h : Inv ca ci ma mi) (s1 : Int32) (s2 : Int32) (s3 : Int32) (s4 : Int32) : wp_X7_law s1 s2 s3 s4 (ca 49) (ci 2) (ca 0) (ca 1) (ca 2) (ci 3) (ca 3) (ca 4) (ca 5) (fun r1 c0 c1 c2 => wp_X8_law s1 s2 s3 s4 (ma 8) (ma 0) (ma 9) (ma 3) (fun r2 m0 m1 m2 => r1 = r2 ∧ Inv (va_up (va_up (va_up ca 49 c0) 2 c1) 5 c2) ci (va_up (va_up (va_up ma 8 m0) 9 m1) 3 m2) mi)) := by
  obtain ⟨tl, hkp, him, re, rv, r0, r1, r2, r3⟩ := h
  obtain ⟨n, sn, ln, F, tn, tk, nv, un, uk, uv, pn, wn, ⟨hn, hsn, hln, ok, wT, wU, hpn, hwn⟩, ⟨tc1, tc2, tc3, cf, cT, cU, tc7, tc8⟩, tm, mc, dc⟩ := id tl
  obtain ⟨tm1, tm2, tm3, tm4, tmT, tmU, tm7, tm8, tm9, tm10⟩ := id tm
  unfold wp_X7_law wp_X8_law
  by_cases c : (0 : Int32) ≤ s1 ∧ s1 ≤ 1
  · simp only [e_isUse, e_within8, b2i_t c, z10, false_implies, true_implies, not_true_eq_false, not_false_eq_true, true_and, and_true, forall_eq]
    rcases i01.mp c with rfl | rfl
    · refine ⟨fun q => absurd rfl q, fun _ => s_meets cT wT (fun p => ?_)⟩
      refine m_given0 tmT wT (fun nm p2 => ⟨rfl, ⟨tl, hkp, him, re, rv, r0, r1, r2, r3⟩⟩)
    · refine ⟨fun _ => s_deedsBy cU wU (fun p => ?_), fun q => absurd q (by decide)⟩
      refine m_given1 tmU wU (fun nm p2 => ⟨rfl, ⟨tl, hkp, him, re, rv, r0, r1, r2, r3⟩⟩)
  · simp only [e_isUse, e_within8, b2i_f c, z00, e_ref1, e_fin1, false_implies, true_implies, not_true_eq_false, not_false_eq_true, true_and, and_true, forall_eq]
    exact (by first | exact ⟨tl, hkp, him, re_upd re (k := 1) (by decide), rv, r0, r1, r2, r3⟩ | exact ⟨rfl, tl, hkp, him, re_upd re (k := 1) (by decide), rv, r0, r1, r2, r3⟩)
set_option maxHeartbeats 4000000 in
set_option maxRecDepth 100000 in
theorem op_count {ca : Nat → Nat → Int32} {ci : Nat → Int32} {ma : Nat → Nat → Int32} {mi : Nat → Int32} (h : Inv ca ci ma mi) (s1 : Int32) : wp_X7_count s1 (ca 49) (ci 1) (ci 27) (ci 8) (ci 7) (ci 4) (ci 5) (ci 6) (ca 10) (ca 11) (ca 9) (fun r1 c0 => wp_X8_count s1 (mi 6) (ma 3) (ma 0) (fun r2 m0 => r1 = r2 ∧ Inv (va_up ca 49 c0) ci (va_up ma 3 m0) mi)) := by
  obtain ⟨tl, hkp, him, re, rv, r0, r1, r2, r3⟩ := h
  obtain ⟨n, sn, ln, F, tn, tk, nv, un, uk, uv, pn, wn, ⟨hn, hsn, hln, ok, wT, wU, hpn, hwn⟩, ⟨tc1, tc2, tc3, cf, cT, cU, tc7, tc8⟩, tm, mc, dc⟩ := id tl
  obtain ⟨tm1, tm2, tm3, tm4, tmT, tmU, tm7, tm8, tm9, tm10⟩ := id tm
  unfold wp_X7_count wp_X8_count
  rw [tc1]
  obtain ⟨v1, r, hr, v2, v3⟩ := id rv
  refine ⟨fun q => ?_, fun q => ?_, fun q => ?_, fun q => ?_, fun q => ?_, fun q => ?_, fun q => ?_, fun q => ?_, fun q => ?_, fun q => ?_, fun q => ?_, fun q0 q1 q2 q3 q4 q5 q6 q7 q8 q9 q10 => ?_⟩
  · subst q; simp +decide only [false_implies, true_implies, not_true_eq_false, not_false_eq_true, true_and, and_true, forall_eq]; exact ⟨by rw [tm1.1], ⟨tl, hkp, him, re, rv, r0, r1, r2, r3⟩⟩
  · subst q; simp +decide only [false_implies, true_implies, not_true_eq_false, not_false_eq_true, true_and, and_true, forall_eq]; exact ⟨by rw [tc2, tm2], ⟨tl, hkp, him, re, rv, r0, r1, r2, r3⟩⟩
  · subst q; simp +decide only [false_implies, true_implies, not_true_eq_false, not_false_eq_true, true_and, and_true, forall_eq]; exact ⟨by rw [tc3, tm3], ⟨tl, hkp, him, re, rv, r0, r1, r2, r3⟩⟩
  · subst q; simp +decide only [false_implies, true_implies, not_true_eq_false, not_false_eq_true, true_and, and_true, forall_eq]
    refine s_freeTog hn (m_sum3 hn tm1.1 ⟨?_, ⟨tl, hkp, him, re, rv, r0, r1, r2, r3⟩⟩)
    exact smI_cong (fun i hi => by rw [(cf i hi).2.2.2.1, tm1.2 i hi 3 (by decide)])
  · subst q; simp +decide only [false_implies, true_implies, not_true_eq_false, not_false_eq_true, true_and, and_true, forall_eq]
    refine s_howFree hn (m_free hn tm1.1 (m_bits ?_ ⟨?_, ⟨tl, hkp, him, re, rv, r0, r1, r2, r3⟩⟩))
    · exact st256 _ hn
    · rw [pop_st _ hn]
      congr 1
      exact fb_ct_cong (fun i hi => by rw [(cf i hi).2.2.2.1, tm1.2 i hi 3 (by decide)])
  · subst q; simp +decide only [false_implies, true_implies, not_true_eq_false, not_false_eq_true, true_and, and_true, forall_eq]
    refine s_deedsTog hn (m_sum5 hn tm1.1 ⟨?_, ⟨tl, hkp, him, re, rv, r0, r1, r2, r3⟩⟩)
    exact smI_cong (fun i hi => by rw [(cf i hi).2.2.2.2.2, tm1.2 i hi 5 (by decide)])
  · subst q; simp +decide only [false_implies, true_implies, not_true_eq_false, not_false_eq_true, true_and, and_true, forall_eq]
    refine s_whoGl hn (m_glov hn tm1.1 (fun i hi => by rw [tm1.2 i hi 4 (by decide)]; exact (ok i hi).2.2.2.2.1) ⟨?_, ⟨tl, hkp, him, re, rv, r0, r1, r2, r3⟩⟩)
    congr 1
    exact stN_cong (fun i hi => by rw [(cf i hi).2.2.2.2.1, tm1.2 i hi 4 (by decide)])
  · subst q; simp +decide only [false_implies, true_implies, not_true_eq_false, not_false_eq_true, true_and, and_true, forall_eq]; exact ⟨by rw [tc7, tm7], ⟨tl, hkp, him, re, rv, r0, r1, r2, r3⟩⟩
  · subst q; simp +decide only [false_implies, true_implies, not_true_eq_false, not_false_eq_true, true_and, and_true, forall_eq]; exact ⟨by rw [tc8, tm9], ⟨tl, hkp, him, re, rv, r0, r1, r2, r3⟩⟩
  · subst q; simp +decide only [false_implies, true_implies, not_true_eq_false, not_false_eq_true, true_and, and_true, forall_eq]; exact ⟨v1, ⟨tl, hkp, him, re, rv, r0, r1, r2, r3⟩⟩
  · subst q; simp +decide only [false_implies, true_implies, not_true_eq_false, not_false_eq_true, true_and, and_true, forall_eq]; exact ⟨by rw [tm4], ⟨tl, hkp, him, re, rv, r0, r1, r2, r3⟩⟩
  · simp only [q0, q1, q2, q3, q4, q5, q6, q7, q8, q9, q10, e_ref1, e_fin1, false_implies, true_implies, not_true_eq_false, not_false_eq_true, true_and, and_true, forall_eq]
    exact (by first | exact ⟨tl, hkp, him, re_upd re (k := 1) (by decide), rv, r0, r1, r2, r3⟩ | exact ⟨rfl, tl, hkp, him, re_upd re (k := 1) (by decide), rv, r0, r1, r2, r3⟩)
set_option maxHeartbeats 4000000 in
set_option maxRecDepth 100000 in
theorem op_ofSoul {ca : Nat → Nat → Int32} {ci : Nat → Int32} {ma : Nat → Nat → Int32} {mi : Nat → Int32} (h : Inv ca ci ma mi) (s1 : Int32) (s2 : Int32) : wp_X7_ofSoul s1 s2 (ci 4) (ci 5) (ci 6) (ca 49) (ca 6) (ca 7) (ca 9) (ca 11) (ca 10) (ca 8) (fun r1 c0 => wp_X8_ofSoul s1 s2 (ma 0) (ma 3) (fun r2 m0 => r1 = r2 ∧ Inv (va_up ca 49 c0) ci (va_up ma 3 m0) mi)) := by
  obtain ⟨tl, hkp, him, re, rv, r0, r1, r2, r3⟩ := h
  obtain ⟨n, sn, ln, F, tn, tk, nv, un, uk, uv, pn, wn, ⟨hn, hsn, hln, ok, wT, wU, hpn, hwn⟩, ⟨tc1, tc2, tc3, cf, cT, cU, tc7, tc8⟩, tm, mc, dc⟩ := id tl
  obtain ⟨tm1, tm2, tm3, tm4, tmT, tmU, tm7, tm8, tm9, tm10⟩ := id tm
  unfold wp_X7_ofSoul wp_X8_ofSoul lb_X8_ofSoul_18
  rw [tc1]
  by_cases c : (0 : Int32) ≤ s1 ∧ s1 ≤ nI n - 1
  · simp only [e_isSoul, e_isSoul8, tm1.1, e_within8, b2i_t c, z10, false_implies, true_implies, not_true_eq_false, not_false_eq_true, true_and, and_true, forall_eq]
    obtain ⟨i, hi, rfl⟩ := soul_of hn c
    have l8 : i < 8 := by omega
    rw [c8 hn hi]
    obtain ⟨f0, f1, f2, f3, f4, f5⟩ := cf i hi
    have p0 := tm1.2 i hi 0 (by decide)
    have p1 := tm1.2 i hi 1 (by decide)
    have p2 := tm1.2 i hi 2 (by decide)
    have p3 := tm1.2 i hi 3 (by decide)
    have p4 := tm1.2 i hi 4 (by decide)
    have p5 := tm1.2 i hi 5 (by decide)
    refine ⟨fun q => ?_, fun q => ?_, fun q => ?_, fun q => ?_, fun q => ?_, fun q => ?_, fun q => ?_, fun q => ?_, fun q => ?_, fun q0 q1 q2 q3 q4 q5 q6 q7 q8 => ?_⟩
    · subst q; simp +decide only [e_sI0 l8, false_implies, true_implies, not_true_eq_false, not_false_eq_true, true_and, and_true, forall_eq]; exact ⟨i8 hn hi, by rw [f0, p0], ⟨tl, hkp, him, re, rv, r0, r1, r2, r3⟩⟩
    · subst q; simp +decide only [e_sI1 l8, false_implies, true_implies, not_true_eq_false, not_false_eq_true, true_and, and_true, forall_eq]; exact ⟨i8 hn hi, by rw [f1, p1], ⟨tl, hkp, him, re, rv, r0, r1, r2, r3⟩⟩
    · subst q; simp +decide only [e_sI2 l8, false_implies, true_implies, not_true_eq_false, not_false_eq_true, true_and, and_true, forall_eq]; exact ⟨i8 hn hi, by rw [f2, p2], ⟨tl, hkp, him, re, rv, r0, r1, r2, r3⟩⟩
    · subst q; simp +decide only [e_sI3 l8, false_implies, true_implies, not_true_eq_false, not_false_eq_true, true_and, and_true, forall_eq]; exact ⟨i8 hn hi, by rw [f3, p3], ⟨tl, hkp, him, re, rv, r0, r1, r2, r3⟩⟩
    · subst q; simp +decide only [e_sI4 l8, false_implies, true_implies, not_true_eq_false, not_false_eq_true, true_and, and_true, forall_eq]; exact ⟨i8 hn hi, by rw [f4, p4], ⟨tl, hkp, him, re, rv, r0, r1, r2, r3⟩⟩
    · subst q; simp +decide only [e_sI5 l8, false_implies, true_implies, not_true_eq_false, not_false_eq_true, true_and, and_true, forall_eq]; exact ⟨i8 hn hi, by rw [f5, p5], ⟨tl, hkp, him, re, rv, r0, r1, r2, r3⟩⟩
    · subst q; simp +decide only [false_implies, true_implies, not_true_eq_false, not_false_eq_true, true_and, and_true, forall_eq]
      refine s_keeps hn hi (by rw [f0]; exact (ok i hi).1) (m_keeps l8 (by rw [p0]; exact (ok i hi).1) ⟨?_, ⟨tl, hkp, him, re, rv, r0, r1, r2, r3⟩⟩)
      rw [f0, f1, p0, p1, tc2, tm2]
    · subst q; simp +decide only [e_sI3 l8, false_implies, true_implies, not_true_eq_false, not_false_eq_true, true_and, and_true, forall_eq]
      refine s_hands hn hi (m_hands l8 ⟨?_, ⟨tl, hkp, him, re, rv, r0, r1, r2, r3⟩⟩)
      rw [f0, f1, f3, p0, p1, p3, tc3, tm3]
    · subst q; simp +decide only [false_implies, true_implies, not_true_eq_false, not_false_eq_true, true_and, and_true, forall_eq]
      refine s_runs hn hi (m_runs l8 ⟨?_, ⟨tl, hkp, him, re, rv, r0, r1, r2, r3⟩⟩)
      rw [f0, f1, p0, p1]
    · have d : ¬ ((0 : Int32) ≤ s2 ∧ s2 ≤ 8) := by
        intro d
        obtain ⟨k, hk, rfl⟩ := sm_of (n := 8) (by decide) d
        match k, hk with
        | 0, _ => exact q0 rfl
        | 1, _ => exact q1 rfl
        | 2, _ => exact q2 rfl
        | 3, _ => exact q3 rfl
        | 4, _ => exact q4 rfl
        | 5, _ => exact q5 rfl
        | 6, _ => exact q6 rfl
        | 7, _ => exact q7 rfl
        | 8, _ => exact q8 rfl
      simp only [b2i_f d, z00, e_ref1, e_fin1, false_implies, true_implies, not_true_eq_false, not_false_eq_true, true_and, and_true, forall_eq]
      exact (by first | exact ⟨tl, hkp, him, re_upd re (k := 1) (by decide), rv, r0, r1, r2, r3⟩ | exact ⟨rfl, tl, hkp, him, re_upd re (k := 1) (by decide), rv, r0, r1, r2, r3⟩)
  · simp only [e_isSoul, e_isSoul8, tm1.1, b2i_f c, z00, e_ref1, e_fin1, false_implies, true_implies, not_true_eq_false, not_false_eq_true, true_and, and_true, forall_eq]
    exact (by first | exact ⟨tl, hkp, him, re_upd re (k := 1) (by decide), rv, r0, r1, r2, r3⟩ | exact ⟨rfl, tl, hkp, him, re_upd re (k := 1) (by decide), rv, r0, r1, r2, r3⟩)
set_option maxHeartbeats 4000000 in
set_option maxRecDepth 100000 in
theorem op_meet {ca : Nat → Nat → Int32} {ci : Nat → Int32} {ma : Nat → Nat → Int32} {mi : Nat → Int32} (h : Inv ca ci ma mi) (s1 : Int32) (s2 : Int32) : wp_X7_meet s1 s2 (ci 4) (ci 5) (ca 49) (ca 8) (ca 10) (ci 2) (ca 0) (ca 1) (ca 2) (fun r1 c0 c1 => wp_X8_meet s1 s2 (ma 0) (ma 3) (ma 4) (ma 8) (ma 9) (fun r2 m0 m1 m2 m3 => r1 = r2 ∧ Inv (va_up (va_up ca 49 c0) 2 c1) ci (va_up (va_up (va_up (va_up ma 3 m0) 4 m1) 8 m2) 9 m3) mi)) := by
  obtain ⟨tl, hkp, him, re, rv, r0, r1, r2, r3⟩ := h
  obtain ⟨n, sn, ln, F, tn, tk, nv, un, uk, uv, pn, wn, ⟨hn, hsn, hln, ok, wT, wU, hpn, hwn⟩, ⟨tc1, tc2, tc3, cf, cT, cU, tc7, tc8⟩, tm, mc, dc⟩ := id tl
  obtain ⟨tm1, tm2, tm3, tm4, tmT, tmU, tm7, tm8, tm9, tm10⟩ := id tm
  unfold wp_X7_meet wp_X8_meet lb_X7_meet_21 lb_X8_meet_21
  rw [tc1]
  by_cases c : (0 : Int32) ≤ s1 ∧ s1 ≤ nI n - 1
  · by_cases d : (0 : Int32) ≤ s2 ∧ s2 ≤ nI n - 1
    · simp only [e_isSoul, e_isSoul8, tm1.1, b2i_t c, b2i_t d, z10, false_implies, true_implies, not_true_eq_false, not_false_eq_true, true_and, and_true, forall_eq]
      refine ⟨fun ne => ?_, fun e => ?_⟩
      · simp only [ne, false_implies, true_implies, not_true_eq_false, not_false_eq_true, true_and, and_true, forall_eq]
        obtain ⟨i, hi, rfl⟩ := soul_of hn c
        obtain ⟨o, ho, rfl⟩ := soul_of hn d
        rw [c8 hn hi]
        have M : ∀ (R : Int32 → (Nat → Int32) → (Nat → Int32) → (Nat → Int32) → Prop), (∀ mf nm p, MC (meV tn tk nv) mf → R (b2i (mtb (meV tn tk nv) n (nI sn) (F 2) (F 4) i o = true)) mf nm p) → wp_X8_doMeet (nI i) (nI o) (ma 0) (ma 4) (ma 8) (ma 9) R := fun R hR => m_doMeet hn tmT wT tm1 ok hi ho tm2 (by omega) mc (by rw [tm2]; exact hR)
        have keep : ∀ mf nm p pl, MC (meV tn tk nv) mf → Inv (va_up (va_up ca 49 (ca 49)) 2 pl) ci (va_up (va_up (va_up (va_up ma 3 (ma 3)) 4 mf) 8 nm) 9 p) mi := fun mf nm p pl hm => ⟨⟨n, sn, ln, F, tn, tk, nv, un, uk, uv, pn, wn, ⟨hn, hsn, hln, ok, wT, wU, hpn, hwn⟩, ⟨tc1, tc2, tc3, cf, cT, cU, tc7, tc8⟩, tm, hm, dc⟩, hkp, him, re, rv, r0, r1, r2, r3⟩
        have em : mtb (meV tn tk nv) n (nI sn) (F 2) (F 4) i o = mtb (meV tn tk nv) n (nI sn) (ca 8) (ca 10) i o := (mtb_cong (fun j hj => (cf j hj).2.2.1) (fun j hj => (cf j hj).2.2.2.2.1) hi ho).symm
        refine s_canTouch hn hi ho ⟨fun e => ?_, fun e => ⟨i8 hn hi, ?_⟩⟩
        · refine M _ (fun mf nm p hm => ?_)
          have nb : ¬ mtb (meV tn tk nv) n (nI sn) (F 2) (F 4) i o = true := by
            rw [em, mtb_iff]
            intro z
            rw [b2i_t ⟨z.1, z.2.1, z.2.2.1⟩] at e
            exact absurd e (by decide)
          rw [b2i_f nb]
          exact ⟨fun _ => keep _ _ _ _ hm, fun q => absurd rfl q⟩
        · have tch : ca 8 i = ca 8 o ∧ ca 10 i = 0 ∧ ca 10 o = 0 := by
            by_cases z : ca 8 i = ca 8 o ∧ ca 10 i = 0 ∧ ca 10 o = 0
            · exact z
            · rw [b2i_f z] at e; exact absurd rfl e
          unfold wp_X0_handsOnAt
          refine s_howAt hn (s_meets cT wT (fun pl => ⟨fun z => ⟨fun _ => ?_, fun q => absurd rfl q⟩, fun z => ⟨fun q => absurd q (by decide), fun _ => ?_⟩⟩))
          · refine M _ (fun mf nm p hm => ?_)
            have nb : ¬ mtb (meV tn tk nv) n (nI sn) (F 2) (F 4) i o = true := by
              rw [em, mtb_iff]
              intro y
              exact y.2.2.2 (by rw [← tc2]; exact z)
            rw [b2i_f nb]
            exact ⟨fun _ => keep _ _ _ _ hm, fun q => absurd rfl q⟩
          · refine M _ (fun mf nm p hm => ?_)
            have yb : mtb (meV tn tk nv) n (nI sn) (F 2) (F 4) i o = true := by
              rw [em, mtb_iff]
              exact ⟨tch.1, tch.2.1, tch.2.2, by rw [← tc2]; exact z⟩
            rw [b2i_t yb]
            exact ⟨fun q => absurd q (by decide), fun _ => keep _ _ _ _ hm⟩
      · simp only [e, e_ref1, e_fin1, false_implies, true_implies, not_true_eq_false, not_false_eq_true, true_and, and_true, forall_eq]
        exact (by first | exact ⟨tl, hkp, him, re_upd re (k := 1) (by decide), rv, r0, r1, r2, r3⟩ | exact ⟨rfl, tl, hkp, him, re_upd re (k := 1) (by decide), rv, r0, r1, r2, r3⟩)
    · simp only [e_isSoul, e_isSoul8, tm1.1, b2i_t c, b2i_f d, z10, z00, e_ref1, e_fin1, false_implies, true_implies, not_true_eq_false, not_false_eq_true, true_and, and_true, forall_eq]
      exact (by first | exact ⟨tl, hkp, him, re_upd re (k := 1) (by decide), rv, r0, r1, r2, r3⟩ | exact ⟨rfl, tl, hkp, him, re_upd re (k := 1) (by decide), rv, r0, r1, r2, r3⟩)
  · simp only [e_isSoul, e_isSoul8, tm1.1, b2i_f c, z00, e_ref1, e_fin1, false_implies, true_implies, not_true_eq_false, not_false_eq_true, true_and, and_true, forall_eq]
    exact (by first | exact ⟨tl, hkp, him, re_upd re (k := 1) (by decide), rv, r0, r1, r2, r3⟩ | exact ⟨rfl, tl, hkp, him, re_upd re (k := 1) (by decide), rv, r0, r1, r2, r3⟩)
