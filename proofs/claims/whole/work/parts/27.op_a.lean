set_option maxHeartbeats 4000000 in
set_option maxRecDepth 100000 in
theorem op_loss {ca : Nat → Nat → Int32} {ci : Nat → Int32} {ma : Nat → Nat → Int32} {mi : Nat → Int32} (h : Inv ca ci ma mi) (s1 : Int32) : wp_X7_loss s1 (ca 49) (ci 6) (fun r1 c0 c1 => wp_X8_loss s1 (ma 0) (ma 3) (fun r2 m0 m1 => r1 = r2 ∧ Inv (va_up ca 49 c0) (va_up ci 6 c1) (va_up (va_up ma 0 m0) 3 m1) mi)) := by
  obtain ⟨tl, hkp, him, re, rv, r0, r1, r2, r3⟩ := h
  obtain ⟨n, sn, ln, F, tn, tk, nv, un, uk, uv, pn, wn, ⟨hn, hsn, hln, ok, wT, wU, hpn, hwn⟩, ⟨tc1, tc2, tc3, cf, cT, cU, tc7, tc8⟩, tm, mc, dc⟩ := id tl
  obtain ⟨tm1, tm2, tm3, tm4, tmT, tmU, tm7, tm8, tm9, tm10⟩ := id tm
  unfold wp_X7_loss wp_X8_loss
  by_cases c : (1 : Int32) ≤ s1 ∧ s1 ≤ 9
  · simp only [e_within, e_within8, b2i_t c, z10, false_implies, true_implies, not_true_eq_false, not_false_eq_true, true_and, and_true, forall_eq]
    obtain ⟨k, hk, rfl⟩ := sm_of (n := 9) (by decide) ⟨Int32.le_trans (by decide) c.1, c.2⟩
    have hk1 : 1 ≤ k := by
      have := c.1
      rw [fa_lit 1, li_nn (by decide) (by omega)] at this
      exact this
    refine m_turn (k := 2) (by decide) ⟨?_, ?_⟩
    · rw [tc3, tm3]
    · obtain ⟨a1, a2, a3, a4, a5, a6, a7, a8, a9, a10⟩ := tm
      have tm' : TM n sn k F tn tk nv un uk uv pn wn (ci 1) (ca 14) (ca 15) (upd (ma 0) 2 (nI k)) := ⟨⟨by rw [up_n (by decide)]; exact a1.1, fun i hi f hf => by rw [up_n (by omega)]; exact a1.2 i hi f hf⟩, by rw [up_n (by decide)]; exact a2, up_s, by rw [up_n (by decide)]; exact a4, ⟨by rw [up_n (by decide)]; exact a5.1, fun i hi => by rw [up_n (by omega)]; exact a5.2 i hi⟩, ⟨by rw [up_n (by decide)]; exact a6.1, fun i hi => by rw [up_n (by omega)]; exact a6.2 i hi⟩, by rw [up_n (by decide)]; exact a7, fun i hi => by rw [up_n (by omega)]; exact a8 i hi, by rw [up_n (by decide)]; exact a9, fun i hi => by rw [up_n (by omega)]; exact a10 i hi⟩
      exact ⟨⟨n, sn, k, F, tn, tk, nv, un, uk, uv, pn, wn, ⟨hn, hsn, ⟨hk1, hk⟩, ok, wT, wU, hpn, hwn⟩, ⟨tc1, tc2, rfl, cf, cT, cU, tc7, tc8⟩, tm', mc, dc⟩, hkp, him, re, rv, r0, r1, r2, r3⟩
  · simp only [e_within, e_within8, b2i_f c, z00, e_ref1, e_fin1, false_implies, true_implies, not_true_eq_false, not_false_eq_true, true_and, and_true, forall_eq]
    exact (by first | exact ⟨tl, hkp, him, re_upd re (k := 1) (by decide), rv, r0, r1, r2, r3⟩ | exact ⟨rfl, tl, hkp, him, re_upd re (k := 1) (by decide), rv, r0, r1, r2, r3⟩)
set_option maxHeartbeats 4000000 in
set_option maxRecDepth 100000 in
theorem op_street {ca : Nat → Nat → Int32} {ci : Nat → Int32} {ma : Nat → Nat → Int32} {mi : Nat → Int32} (h : Inv ca ci ma mi) (s1 : Int32) (s2 : Int32) : wp_X7_street s1 s2 (ca 49) (ci 4) (ca 8) (ca 9) (fun r1 c0 => wp_X8_street s1 s2 (ma 3) (ma 0) (fun r2 m0 => r1 = r2 ∧ Inv (va_up ca 49 c0) ci (va_up ma 3 m0) mi)) := by
  obtain ⟨tl, hkp, him, re, rv, r0, r1, r2, r3⟩ := h
  obtain ⟨n, sn, ln, F, tn, tk, nv, un, uk, uv, pn, wn, ⟨hn, hsn, hln, ok, wT, wU, hpn, hwn⟩, ⟨tc1, tc2, tc3, cf, cT, cU, tc7, tc8⟩, tm, mc, dc⟩ := id tl
  obtain ⟨tm1, tm2, tm3, tm4, tmT, tmU, tm7, tm8, tm9, tm10⟩ := id tm
  unfold wp_X7_street wp_X8_street lb_X7_street_14 lb_X8_street_16
  by_cases c : (0 : Int32) ≤ s1 ∧ s1 ≤ 7
  · by_cases d : (0 : Int32) ≤ s2 ∧ s2 ≤ 1
    · simp only [e_isStreet, e_isStreet8, e_isEither, e_within8, b2i_t c, b2i_t d, z10, false_implies, true_implies, not_true_eq_false, not_false_eq_true, true_and, and_true, forall_eq]
      rw [tc1]
      refine ⟨fun e => ?_, fun e => ?_⟩
      · refine s_whoFreeAt hn ⟨fun _ => ?_, fun q => absurd q e⟩
        refine m_at hn tm1.1 (m_free hn tm1.1 ⟨?_, ⟨tl, hkp, him, re, rv, r0, r1, r2, r3⟩⟩)
        rw [fa_and, stN_and]
        congr 1
        refine stN_cong (fun i hi => ?_)
        rw [(cf i hi).2.2.1, (cf i hi).2.2.2.1, tm1.2 i hi 2 (by decide), tm1.2 i hi 3 (by decide)]
      · refine s_whoAt hn ⟨fun q => absurd e q, fun _ => ?_⟩
        refine m_at hn tm1.1 ⟨?_, ⟨tl, hkp, him, re, rv, r0, r1, r2, r3⟩⟩
        congr 1
        refine stN_cong (fun i hi => ?_)
        rw [(cf i hi).2.2.1, tm1.2 i hi 2 (by decide)]
    · simp only [e_isStreet, e_isStreet8, e_isEither, e_within8, b2i_t c, b2i_f d, z10, z00, e_ref1, e_fin1, false_implies, true_implies, not_true_eq_false, not_false_eq_true, true_and, and_true, forall_eq]
      exact (by first | exact ⟨tl, hkp, him, re_upd re (k := 1) (by decide), rv, r0, r1, r2, r3⟩ | exact ⟨rfl, tl, hkp, him, re_upd re (k := 1) (by decide), rv, r0, r1, r2, r3⟩)
  · simp only [e_isStreet, e_isStreet8, b2i_f c, z00, e_ref1, e_fin1, false_implies, true_implies, not_true_eq_false, not_false_eq_true, true_and, and_true, forall_eq]
    exact (by first | exact ⟨tl, hkp, him, re_upd re (k := 1) (by decide), rv, r0, r1, r2, r3⟩ | exact ⟨rfl, tl, hkp, him, re_upd re (k := 1) (by decide), rv, r0, r1, r2, r3⟩)
set_option maxHeartbeats 4000000 in
set_option maxRecDepth 100000 in
theorem op_as {ca : Nat → Nat → Int32} {ci : Nat → Int32} {ma : Nat → Nat → Int32} {mi : Nat → Int32} (h : Inv ca ci ma mi) (s1 : Int32) (s2 : Int32) : wp_X7_as s1 s2 (ci 4) (ca 49) (ca 6) (ca 7) (fun r1 c0 => wp_X8_as s1 s2 (ma 0) (ma 3) (fun r2 m0 => r1 = r2 ∧ Inv (va_up ca 49 c0) ci (va_up ma 3 m0) mi)) := by
  obtain ⟨tl, hkp, him, re, rv, r0, r1, r2, r3⟩ := h
  obtain ⟨n, sn, ln, F, tn, tk, nv, un, uk, uv, pn, wn, ⟨hn, hsn, hln, ok, wT, wU, hpn, hwn⟩, ⟨tc1, tc2, tc3, cf, cT, cU, tc7, tc8⟩, tm, mc, dc⟩ := id tl
  obtain ⟨tm1, tm2, tm3, tm4, tmT, tmU, tm7, tm8, tm9, tm10⟩ := id tm
  unfold wp_X7_as wp_X8_as lb_X7_as_18 lb_X8_as_18
  rw [tc1]
  by_cases c : (0 : Int32) ≤ s1 ∧ s1 ≤ nI n - 1
  · by_cases d : (0 : Int32) ≤ s2 ∧ s2 ≤ 6
    · simp only [e_isSoul, e_isSoul8, tm1.1, e_within, e_within8, b2i_t c, b2i_t d, z10, false_implies, true_implies, not_true_eq_false, not_false_eq_true, true_and, and_true, forall_eq]
      obtain ⟨i, hi, rfl⟩ := soul_of hn c
      obtain ⟨a, ha, rfl⟩ := sm_of (n := 6) (by decide) d
      refine ⟨i8 hn hi, ?_⟩
      simp only [c8 hn hi, e_sI0 (show i < 8 by omega), e_sI1 (show i < 8 by omega)]
      rw [(cf i hi).1, tm1.2 i hi 0 (by decide), (cf i hi).2.1, tm1.2 i hi 1 (by decide)]
      obtain ⟨k, hk, ek⟩ := (ok i hi).1
      rw [ek]
      refine s_under hk ha ⟨fun q => ⟨i8 hn hi, ?_⟩, fun q => ?_⟩
      · exact m_under hk ha ⟨fun q2 => absurd q2 q, fun _ => ⟨rfl, ⟨tl, hkp, him, re, rv, r0, r1, r2, r3⟩⟩⟩
      · rw [e_ref5]
        refine m_under hk ha ⟨fun _ => ?_, fun q2 => absurd q q2⟩
        rw [e_fin5]
        exact (by first | exact ⟨tl, hkp, him, re_upd re (k := 5) (by decide), rv, r0, r1, r2, r3⟩ | exact ⟨rfl, tl, hkp, him, re_upd re (k := 5) (by decide), rv, r0, r1, r2, r3⟩)
    · simp only [e_isSoul, e_isSoul8, tm1.1, e_within, e_within8, b2i_t c, b2i_f d, z10, z00, e_ref1, e_fin1, false_implies, true_implies, not_true_eq_false, not_false_eq_true, true_and, and_true, forall_eq]
      exact (by first | exact ⟨tl, hkp, him, re_upd re (k := 1) (by decide), rv, r0, r1, r2, r3⟩ | exact ⟨rfl, tl, hkp, him, re_upd re (k := 1) (by decide), rv, r0, r1, r2, r3⟩)
  · simp only [e_isSoul, e_isSoul8, tm1.1, b2i_f c, z00, e_ref1, e_fin1, false_implies, true_implies, not_true_eq_false, not_false_eq_true, true_and, and_true, forall_eq]
    exact (by first | exact ⟨tl, hkp, him, re_upd re (k := 1) (by decide), rv, r0, r1, r2, r3⟩ | exact ⟨rfl, tl, hkp, him, re_upd re (k := 1) (by decide), rv, r0, r1, r2, r3⟩)
set_option maxHeartbeats 4000000 in
set_option maxRecDepth 100000 in
theorem op_become {ca : Nat → Nat → Int32} {ci : Nat → Int32} {ma : Nat → Nat → Int32} {mi : Nat → Int32} (h : Inv ca ci ma mi) (s1 : Int32) (s2 : Int32) : wp_X7_become s1 s2 (ci 4) (ca 49) (ca 6) (ca 7) (fun r1 c0 c1 c2 => wp_X8_become s1 s2 (ma 0) (ma 3) (fun r2 m0 m1 => r1 = r2 ∧ Inv (va_up (va_up (va_up ca 49 c0) 6 c1) 7 c2) ci (va_up (va_up ma 0 m0) 3 m1) mi)) := by
  obtain ⟨tl, hkp, him, re, rv, r0, r1, r2, r3⟩ := h
  obtain ⟨n, sn, ln, F, tn, tk, nv, un, uk, uv, pn, wn, ⟨hn, hsn, hln, ok, wT, wU, hpn, hwn⟩, ⟨tc1, tc2, tc3, cf, cT, cU, tc7, tc8⟩, tm, mc, dc⟩ := id tl
  obtain ⟨tm1, tm2, tm3, tm4, tmT, tmU, tm7, tm8, tm9, tm10⟩ := id tm
  unfold wp_X7_become wp_X8_become lb_X7_become_15 lb_X8_become_15
  rw [tc1]
  by_cases c : (0 : Int32) ≤ s1 ∧ s1 ≤ nI n - 1
  · by_cases d : (0 : Int32) ≤ s2 ∧ s2 ≤ 69
    · simp only [e_isSoul, e_isSoul8, tm1.1, e_isKM, e_isKM8, b2i_t c, b2i_t d, z10, false_implies, true_implies, not_true_eq_false, not_false_eq_true, true_and, and_true, forall_eq]
      obtain ⟨i, hi, rfl⟩ := soul_of hn c
      obtain ⟨k1, k2⟩ := km_ok d
      refine ⟨i8 hn hi, ?_⟩
      rw [c8 hn hi]
      refine s_turnInto hn hi ?_
      simp only [e_sA1, e_sA0, nI_clamp (show 6 + 6 * i + 1 < 2 ^ 31 by omega)]
      refine ⟨vp_in_nI (by omega) (by decide), ?_⟩
      have p1 := pn_upd tm1 hi (show 1 < 6 by decide) (jrem s2 10)
      have p2 := pn_upd p1 hi (show 0 < 6 by decide) (s2 / 10)
      refine m_turn (by omega) ⟨?_, ?_⟩
      · rw [up_n (by omega), tm1.2 i hi 0 (by decide), (cf i hi).1]
      · have tm' := tm_gen (sn2 := sn) tm hpn hwn (fun j hj => by rw [up_n (by omega), up_n (by omega)]) (by rw [up_n (by omega), up_n (by omega)]; exact tm2) p2
        have ok' : okP n (stF (stF F i 1 (jrem s2 10)) i 0 (s2 / 10)) := by
          intro j hj
          obtain ⟨o0, o1, o2, o3, o4, o5⟩ := ok j hj
          by_cases e : j = i
          · subst e
            exact ⟨by rw [stF_s]; exact k1, by rw [stF_n (by omega), stF_s]; exact k2, by rw [stF_n (by omega), stF_n (by omega)]; exact o2, by rw [stF_n (by omega), stF_n (by omega)]; exact o3, by rw [stF_n (by omega), stF_n (by omega)]; exact o4, by rw [stF_n (by omega), stF_n (by omega)]; exact o5⟩
          · simp only [stF, e, false_and, if_false]
            exact ⟨o0, o1, o2, o3, o4, o5⟩
        obtain ⟨b0, b1, b2, b3, b4, b5⟩ := cf_iff.mp cf
        have cf' : CF n (stF (stF F i 1 (jrem s2 10)) i 0 (s2 / 10)) (upd (ca 6) i (s2 / 10)) (upd (ca 7) i (jrem s2 10)) (ca 8) (ca 9) (ca 10) (ca 11) := cf_iff.mpr ⟨st_upd (st_keep (by decide) b0), st_keep (by decide) (st_upd b1), st_keep (by decide) (st_keep (by decide) b2), st_keep (by decide) (st_keep (by decide) b3), st_keep (by decide) (st_keep (by decide) b4), st_keep (by decide) (st_keep (by decide) b5)⟩
        exact ⟨⟨n, sn, ln, _, tn, tk, nv, un, uk, uv, pn, wn, ⟨hn, hsn, hln, ok', wT, wU, hpn, hwn⟩, ⟨tc1, tc2, tc3, cf', cT, cU, tc7, tc8⟩, tm', mc, dc⟩, hkp, him, re, rv, r0, r1, r2, r3⟩
    · simp only [e_isSoul, e_isSoul8, tm1.1, e_isKM, e_isKM8, b2i_t c, b2i_f d, z10, z00, e_ref1, e_fin1, false_implies, true_implies, not_true_eq_false, not_false_eq_true, true_and, and_true, forall_eq]
      exact (by first | exact ⟨tl, hkp, him, re_upd re (k := 1) (by decide), rv, r0, r1, r2, r3⟩ | exact ⟨rfl, tl, hkp, him, re_upd re (k := 1) (by decide), rv, r0, r1, r2, r3⟩)
  · simp only [e_isSoul, e_isSoul8, tm1.1, b2i_f c, z00, e_ref1, e_fin1, false_implies, true_implies, not_true_eq_false, not_false_eq_true, true_and, and_true, forall_eq]
    exact (by first | exact ⟨tl, hkp, him, re_upd re (k := 1) (by decide), rv, r0, r1, r2, r3⟩ | exact ⟨rfl, tl, hkp, him, re_upd re (k := 1) (by decide), rv, r0, r1, r2, r3⟩)
