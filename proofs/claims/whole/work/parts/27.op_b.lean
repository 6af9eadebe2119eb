theorem soul_of40 {x : Int32} {n : Nat} (hn : n ≤ 60) (h : 0 ≤ x ∧ x ≤ nI n - 1) : ∃ i, i < n ∧ x = nI i := by
  rcases Nat.eq_zero_or_pos n with rfl | hp
  · exact absurd (Int32.le_trans h.1 h.2) (by decide)
  · obtain ⟨m, rfl⟩ : ∃ m, n = m + 1 := ⟨n - 1, by omega⟩
    rw [nI_pred] at h
    obtain ⟨j, h1, h2⟩ := nI_of2 (M := nI m) (n := m) (nI_toInt (by omega)) (fun q => (fa_of_lt q).2.1 h.1) h.2
    exact ⟨j, by omega, h2⟩
set_option maxHeartbeats 4000000 in
set_option maxRecDepth 100000 in
theorem op_told {ca : Nat → Nat → Int32} {ci : Nat → Int32} {ma : Nat → Nat → Int32} {mi : Nat → Int32} (h : Inv ca ci ma mi) (s1 : Int32) : wp_X7_told s1 (ca 49) (fun r1 c0 => wp_X8_told s1 (ma 3) (fun r2 m0 => r1 = r2 ∧ Inv (va_up ca 49 c0) ci (va_up ma 3 m0) mi)) := by
  obtain ⟨tl, hkp, him, re, rv, r0, r1, r2, r3⟩ := h
  obtain ⟨n, sn, ln, F, tn, tk, nv, un, uk, uv, pn, wn, ⟨hn, hsn, hln, ok, wT, wU, hpn, hwn⟩, ⟨tc1, tc2, tc3, cf, cT, cU, tc7, tc8⟩, tm, mc, dc⟩ := id tl
  obtain ⟨tm1, tm2, tm3, tm4, tmT, tmU, tm7, tm8, tm9, tm10⟩ := id tm
  unfold wp_X7_told wp_X8_told
  by_cases c : (1 : Int32) ≤ s1 ∧ s1 ≤ 5
  · simp only [e_within, e_within8, b2i_t c, z10, false_implies, true_implies, not_true_eq_false, not_false_eq_true, true_and, and_true, forall_eq]
    obtain ⟨k, hk, rfl⟩ := sm_of (n := 5) (by decide) ⟨Int32.le_trans (by decide) c.1, c.2⟩
    rw [nI_clamp (by omega)]
    exact ⟨vp_in_nI (by omega) (by decide), vp_in_nI (by omega) (by decide), re k (by omega), ⟨tl, hkp, him, re, rv, r0, r1, r2, r3⟩⟩
  · simp only [e_within, e_within8, b2i_f c, z00, e_ref1, e_fin1, false_implies, true_implies, not_true_eq_false, not_false_eq_true, true_and, and_true, forall_eq]
    exact (by first | exact ⟨tl, hkp, him, re_upd re (k := 1) (by decide), rv, r0, r1, r2, r3⟩ | exact ⟨rfl, tl, hkp, him, re_upd re (k := 1) (by decide), rv, r0, r1, r2, r3⟩)
set_option maxHeartbeats 4000000 in
set_option maxRecDepth 100000 in
theorem op_trace {ca : Nat → Nat → Int32} {ci : Nat → Int32} {ma : Nat → Nat → Int32} {mi : Nat → Int32} (h : Inv ca ci ma mi) (s1 : Int32) : wp_X7_trace s1 (ci 27) (ca 49) (ca 44) (fun r1 c0 => wp_X8_trace s1 (mi 6) (ma 11) (ma 3) (fun r2 m0 => r1 = r2 ∧ Inv (va_up ca 49 c0) ci (va_up ma 3 m0) mi)) := by
  obtain ⟨tl, hkp, him, re, rv, r0, r1, r2, r3⟩ := h
  obtain ⟨n, sn, ln, F, tn, tk, nv, un, uk, uv, pn, wn, ⟨hn, hsn, hln, ok, wT, wU, hpn, hwn⟩, ⟨tc1, tc2, tc3, cf, cT, cU, tc7, tc8⟩, tm, mc, dc⟩ := id tl
  obtain ⟨tm1, tm2, tm3, tm4, tmT, tmU, tm7, tm8, tm9, tm10⟩ := id tm
  unfold wp_X7_trace wp_X8_trace
  obtain ⟨v1, r, hr, v2, v3⟩ := id rv
  rw [← v1, v2]
  by_cases c : (0 : Int32) ≤ s1 ∧ s1 ≤ nI r - 1
  · simp only [e_within, e_within8, b2i_t c, z10, false_implies, true_implies, not_true_eq_false, not_false_eq_true, true_and, and_true, forall_eq]
    obtain ⟨k, hk, rfl⟩ := soul_of40 (by omega) c
    rw [nI_clamp (by omega)]
    exact ⟨vp_in_nI (by omega) (by decide), vp_in_nI (by omega) (by decide), v3 k hk, ⟨tl, hkp, him, re, rv, r0, r1, r2, r3⟩⟩
  · simp only [e_within, e_within8, b2i_f c, z00, e_ref2, e_fin2, false_implies, true_implies, not_true_eq_false, not_false_eq_true, true_and, and_true, forall_eq]
    exact (by first | exact ⟨tl, hkp, him, re_upd re (k := 2) (by decide), rv, r0, r1, r2, r3⟩ | exact ⟨rfl, tl, hkp, him, re_upd re (k := 2) (by decide), rv, r0, r1, r2, r3⟩)
set_option maxHeartbeats 4000000 in
set_option maxRecDepth 100000 in
theorem op_seed {ca : Nat → Nat → Int32} {ci : Nat → Int32} {ma : Nat → Nat → Int32} {mi : Nat → Int32} (h : Inv ca ci ma mi) (s1 : Int32) : wp_X7_seed s1 (ci 1) (fun r1 c0 => wp_X8_seed s1 (ma 0) (fun r2 m0 => r1 = r2 ∧ Inv ca (va_up ci 1 c0) (va_up ma 0 m0) mi)) := by
  obtain ⟨tl, hkp, him, re, rv, r0, r1, r2, r3⟩ := h
  obtain ⟨n, sn, ln, F, tn, tk, nv, un, uk, uv, pn, wn, ⟨hn, hsn, hln, ok, wT, wU, hpn, hwn⟩, ⟨tc1, tc2, tc3, cf, cT, cU, tc7, tc8⟩, tm, mc, dc⟩ := id tl
  obtain ⟨tm1, tm2, tm3, tm4, tmT, tmU, tm7, tm8, tm9, tm10⟩ := id tm
  unfold wp_X7_seed wp_X8_seed
  refine m_turn (k := 3) (by decide) ⟨tm4.symm, ?_⟩
  have tm' : TM n sn ln F tn tk nv un uk uv pn wn s1 (ca 14) (ca 15) (upd (ma 0) 3 s1) := ⟨⟨by rw [up_n (by decide)]; exact tm1.1, fun i hi f hf => by rw [up_n (by omega)]; exact tm1.2 i hi f hf⟩, by rw [up_n (by decide)]; exact tm2, by rw [up_n (by decide)]; exact tm3, up_s, ⟨by rw [up_n (by decide)]; exact tmT.1, fun i hi => by rw [up_n (by omega)]; exact tmT.2 i hi⟩, ⟨by rw [up_n (by decide)]; exact tmU.1, fun i hi => by rw [up_n (by omega)]; exact tmU.2 i hi⟩, by rw [up_n (by decide)]; exact tm7, fun i hi => by rw [up_n (by omega)]; exact tm8 i hi, by rw [up_n (by decide)]; exact tm9, fun i hi => by rw [up_n (by omega)]; exact tm10 i hi⟩
  exact ⟨⟨n, sn, ln, F, tn, tk, nv, un, uk, uv, pn, wn, ⟨hn, hsn, hln, ok, wT, wU, hpn, hwn⟩, ⟨tc1, tc2, tc3, cf, cT, cU, tc7, tc8⟩, tm', mc, dc⟩, hkp, him, re, rv, r0, r1, r2, r3⟩
set_option maxHeartbeats 4000000 in
set_option maxRecDepth 100000 in
theorem op_tell {ca : Nat → Nat → Int32} {ci : Nat → Int32} {ma : Nat → Nat → Int32} {mi : Nat → Int32} (h : Inv ca ci ma mi) (s1 : Int32) : wp_X7_tell s1 (ci 8) (ca 49) (ca 15) (fun r1 c0 c1 c2 => wp_X8_tell s1 (ma 0) (ma 3) (fun r2 m0 m1 => r1 = r2 ∧ Inv (va_up (va_up ca 49 c1) 15 c2) (va_up ci 8 c0) (va_up (va_up ma 0 m0) 3 m1) mi)) := by
  obtain ⟨tl, hkp, him, re, rv, r0, r1, r2, r3⟩ := h
  obtain ⟨n, sn, ln, F, tn, tk, nv, un, uk, uv, pn, wn, ⟨hn, hsn, hln, ok, wT, wU, hpn, hwn⟩, ⟨tc1, tc2, tc3, cf, cT, cU, tc7, tc8⟩, tm, mc, dc⟩ := id tl
  obtain ⟨tm1, tm2, tm3, tm4, tmT, tmU, tm7, tm8, tm9, tm10⟩ := id tm
  unfold wp_X7_tell wp_X8_tell wp_X4_add
  rw [tc8, tm9]
  by_cases c : wn = 20
  · subst c
    have d : ¬ nI 20 < (20 : Int32) := by decide
    have e : nI 20 = (20 : Int32) := by decide
    rw [show (nI 20 : Int32) = 20 from rfl]
    refine ⟨fun q => absurd q (by decide), fun _ => ?_⟩
    rw [e_ref4]
    refine ⟨fun q => absurd rfl q, fun _ => ?_⟩
    rw [e_fin4]
    exact ⟨rfl, ⟨n, sn, ln, F, tn, tk, nv, un, uk, uv, pn, 20, ⟨hn, hsn, hln, ok, wT, wU, hpn, hwn⟩, ⟨tc1, tc2, tc3, cf, cT, cU, tc7, rfl⟩, tm, mc, dc⟩, hkp, him, re_upd re (k := 4) (by decide), rv, r0, r1, r2, r3⟩
  · have lt : nI wn < (20 : Int32) := by rw [fa_lit 20, lt_nn (by omega) (by decide)]; omega
    have nle : ¬ (Int32.ofNat 20) ≤ nI wn := by
      show ¬ nI 20 ≤ nI wn
      rw [li_nn (by decide) (by omega)]; omega
    have ne : ¬ nI wn = (20 : Int32) := by rw [fa_lit 20, eq_nn (by omega) (by decide)]; omega
    refine ⟨fun _ => ⟨fun q => absurd q nle, fun _ => ⟨vp_in_nI (by omega) (by decide), ?_⟩⟩, fun q => absurd lt q⟩
    rintro v rfl
    refine ⟨fun _ => ?_, fun q => absurd q ne⟩
    have e1 : (104 : Int32) + nI wn = nI (104 + wn) := by rw [fa_lit 104, nI_add]
    rw [e1, nI_clamp (by omega), nI_clamp (by omega)]
    refine ⟨vp_in_nI (by omega) (by decide), ?_⟩
    rintro v2 rfl
    have e2 : upd (ma 0) (104 + wn) s1 5 = nI wn := by rw [up_n (by omega)]; exact tm9
    have e3 : nI wn + 1 = nI (wn + 1) := by rw [fa_lit 1, nI_add]
    rw [e2, e3]
    refine ⟨up_s.symm, ?_⟩
    have tm' : TM n sn ln F tn tk nv un uk uv pn (wn + 1) (ci 1) (ca 14) (upd (ca 15) wn s1) (upd (upd (ma 0) (104 + wn) s1) 5 (nI (wn + 1))) := by
      have r : ∀ j, j ≠ 5 → j ≠ 104 + wn → upd (upd (ma 0) (104 + wn) s1) 5 (nI (wn + 1)) j = ma 0 j := fun j h1 h2 => by rw [up_n h1, up_n h2]
      refine ⟨⟨by rw [r _ (by omega) (by omega)]; exact tm1.1, fun i hi f hf => by rw [r _ (by omega) (by omega)]; exact tm1.2 i hi f hf⟩, by rw [r _ (by omega) (by omega)]; exact tm2, by rw [r _ (by omega) (by omega)]; exact tm3, by rw [r _ (by omega) (by omega)]; exact tm4, ⟨by rw [r _ (by omega) (by omega)]; exact tmT.1, fun i hi => by rw [r _ (by omega) (by omega)]; exact tmT.2 i hi⟩, ⟨by rw [r _ (by omega) (by omega)]; exact tmU.1, fun i hi => by rw [r _ (by omega) (by omega)]; exact tmU.2 i hi⟩, by rw [r _ (by omega) (by omega)]; exact tm7, fun i hi => by rw [r _ (by omega) (by omega)]; exact tm8 i hi, up_s, fun i hi => ?_⟩
      by_cases e : i = wn
      · subst e; rw [up_s, up_n (by omega), up_s]
      · rw [up_n e, r _ (by omega) (by omega)]; exact tm10 i (by omega)
    exact ⟨⟨n, sn, ln, F, tn, tk, nv, un, uk, uv, pn, wn + 1, ⟨hn, hsn, hln, ok, wT, wU, hpn, by omega⟩, ⟨tc1, tc2, tc3, cf, cT, cU, tc7, rfl⟩, tm', mc, dc⟩, hkp, him, re, rv, r0, r1, r2, r3⟩
