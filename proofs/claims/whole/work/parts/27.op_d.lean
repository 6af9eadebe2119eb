theorem e_repl {i n : Nat} (hn : n ≤ 8) (hi : i < n) {v b : Int32} {q e : Nat → Int32} {Q : Int32 → (Nat → Int32) → (Nat → Int32) → Prop} (h1 : 0 ≤ v ∧ v ≤ b → Q (q i) (upd q i v) e) (h2 : ¬ (0 ≤ v ∧ v ≤ b) → Q (-1000000001) q (upd e 1 (e 1 + 1))) : wp_X7_replace (nI i) v b q e Q := by
  unfold wp_X7_replace lb_X7_replace_22
  by_cases c : 0 ≤ v ∧ v ≤ b
  · have d : (0 : Int32) ≤ nI i ∧ nI i ≤ 8 - 1 := of_soul (n := 8) (by decide) (by omega)
    simp only [e_within, b2i_t c, b2i_t d, z10, false_implies, true_implies, not_true_eq_false, not_false_eq_true, true_and, and_true, forall_eq]
    rw [c8 hn hi]
    exact ⟨i8 hn hi, i8 hn hi, h1 c⟩
  · simp only [e_within, b2i_f c, z00, e_ref1, false_implies, true_implies, not_true_eq_false, not_false_eq_true, true_and, and_true, forall_eq]
    exact h2 c
theorem b2i_bit {c : Prop} [Decidable c] : b2i c &&& 1 = b2i c := by
  unfold b2i
  split <;> decide
theorem e_may {x v : Int32} {Q : Int32 → Prop} (h : Q (b2i ((x = 0 ∧ 0 ≤ v ∧ v ≤ 7) ∨ (x = 1 ∧ 0 ≤ v ∧ v ≤ 99) ∨ (x = 2 ∧ 0 ≤ v ∧ v ≤ 1) ∨ (x = 3 ∧ 0 ≤ v ∧ v ≤ 9999)))) : wp_X8_mayBe x v Q := by
  unfold wp_X8_mayBe
  refine ⟨fun q0 => ⟨fun q1 => ⟨fun q2 => ⟨fun q3 => ?_, fun q3 => ?_⟩, fun q2 => ?_⟩, fun q1 => ?_⟩, fun q0 => ?_⟩
  · rw [b2i_f (by simp [q0, q1, q2, q3])] at h
    exact h
  · subst q3
    rw [e_within8]
    by_cases c : 0 ≤ v ∧ v ≤ (9999 : Int32)
    · rw [b2i_t (Or.inr (Or.inr (Or.inr ⟨rfl, c⟩)))] at h
      rw [b2i_t c]
      exact ⟨fun q => absurd q (by decide), fun _ => h⟩
    · rw [b2i_f (by simp +decide [c])] at h
      rw [b2i_f c]
      exact ⟨fun _ => h, fun q => absurd rfl q⟩
  · subst q2
    rw [e_within8]
    refine ⟨b2i_bit, ?_⟩
    by_cases c : 0 ≤ v ∧ v ≤ (1 : Int32)
    · rw [b2i_t (Or.inr (Or.inr (Or.inl ⟨rfl, c⟩)))] at h
      rw [b2i_t c]; exact h
    · rw [b2i_f (by simp +decide [c])] at h
      rw [b2i_f c]; exact h
  · subst q1
    rw [e_within8]
    refine ⟨b2i_bit, ?_⟩
    by_cases c : 0 ≤ v ∧ v ≤ (99 : Int32)
    · rw [b2i_t (Or.inr (Or.inl ⟨rfl, c⟩))] at h
      rw [b2i_t c]; exact h
    · rw [b2i_f (by simp +decide [c])] at h
      rw [b2i_f c]; exact h
  · subst q0
    rw [e_isStreet8]
    refine ⟨b2i_bit, ?_⟩
    by_cases c : 0 ≤ v ∧ v ≤ (7 : Int32)
    · rw [b2i_t (Or.inl ⟨rfl, c⟩)] at h
      rw [b2i_t c]; exact h
    · rw [b2i_f (by simp +decide [c])] at h
      rw [b2i_f c]; exact h
theorem ok_st {n : Nat} {F : Nat → Nat → Int32} (ok : okP n F) {i f b : Nat} (hi : i < n) (hb : (f = 2 ∧ b = 7) ∨ (f = 3 ∧ b = 99) ∨ (f = 4 ∧ b = 1) ∨ (f = 5 ∧ b = 9999)) {v : Int32} (hv : sm v b) : okP n (stF F i f v) := by
  intro j hj
  obtain ⟨o0, o1, o2, o3, o4, o5⟩ := ok j hj
  by_cases e : j = i
  · subst e
    rcases hb with ⟨rfl, rfl⟩ | ⟨rfl, rfl⟩ | ⟨rfl, rfl⟩ | ⟨rfl, rfl⟩
    · exact ⟨by rw [stF_n (by omega)]; exact o0, by rw [stF_n (by omega)]; exact o1, by rw [stF_s]; exact hv, by rw [stF_n (by omega)]; exact o3, by rw [stF_n (by omega)]; exact o4, by rw [stF_n (by omega)]; exact o5⟩
    · exact ⟨by rw [stF_n (by omega)]; exact o0, by rw [stF_n (by omega)]; exact o1, by rw [stF_n (by omega)]; exact o2, by rw [stF_s]; exact hv, by rw [stF_n (by omega)]; exact o4, by rw [stF_n (by omega)]; exact o5⟩
    · exact ⟨by rw [stF_n (by omega)]; exact o0, by rw [stF_n (by omega)]; exact o1, by rw [stF_n (by omega)]; exact o2, by rw [stF_n (by omega)]; exact o3, by rw [stF_s]; exact hv, by rw [stF_n (by omega)]; exact o5⟩
    · exact ⟨by rw [stF_n (by omega)]; exact o0, by rw [stF_n (by omega)]; exact o1, by rw [stF_n (by omega)]; exact o2, by rw [stF_n (by omega)]; exact o3, by rw [stF_n (by omega)]; exact o4, by rw [stF_s]; exact hv⟩
  · simp only [stF, e, false_and, if_false]
    exact ⟨o0, o1, o2, o3, o4, o5⟩
set_option maxHeartbeats 4000000 in
set_option maxRecDepth 100000 in
theorem op_change {ca : Nat → Nat → Int32} {ci : Nat → Int32} {ma : Nat → Nat → Int32} {mi : Nat → Int32} (h : Inv ca ci ma mi) (s1 : Int32) (s2 : Int32) (s3 : Int32) : wp_X7_change s1 s2 s3 (ci 4) (ca 49) (ca 11) (ca 10) (ca 9) (ca 8) (fun r1 c0 c1 c2 c3 c4 => wp_X8_change s1 s2 s3 (ma 0) (ma 3) (fun r2 m0 m1 => r1 = r2 ∧ Inv (va_up (va_up (va_up (va_up (va_up ca 49 c0) 11 c1) 10 c2) 9 c3) 8 c4) ci (va_up (va_up ma 0 m0) 3 m1) mi)) := by
  obtain ⟨tl, hkp, him, re, rv, r0, r1, r2, r3⟩ := h
  obtain ⟨n, sn, ln, F, tn, tk, nv, un, uk, uv, pn, wn, ⟨hn, hsn, hln, ok, wT, wU, hpn, hwn⟩, ⟨tc1, tc2, tc3, cf, cT, cU, tc7, tc8⟩, tm, mc, dc⟩ := id tl
  obtain ⟨tm1, tm2, tm3, tm4, tmT, tmU, tm7, tm8, tm9, tm10⟩ := id tm
  unfold wp_X7_change wp_X8_change lb_X8_change_31
  rw [tc1]
  by_cases c : (0 : Int32) ≤ s1 ∧ s1 ≤ nI n - 1
  · simp only [e_isSoul, e_isSoul8, tm1.1, b2i_t c, z10, false_implies, true_implies, not_true_eq_false, not_false_eq_true, true_and, and_true, forall_eq]
    obtain ⟨i, hi, rfl⟩ := soul_of hn c
    obtain ⟨b0, b1, b2, b3, b4, b5⟩ := cf_iff.mp cf
    have go : ∀ f b, f < 6 → ((f = 2 ∧ b = 7) ∨ (f = 3 ∧ b = 99) ∨ (f = 4 ∧ b = 1) ∨ (f = 5 ∧ b = 9999)) → sm s3 b → okP n (stF F i f s3) ∧ TM n sn ln (stF F i f s3) tn tk nv un uk uv pn wn (ci 1) (ca 14) (ca 15) (upd (ma 0) (6 + 6 * i + f) s3) := fun f b hf hb hv => ⟨ok_st ok hi hb hv, tm_gen (sn2 := sn) tm hpn hwn (fun j hj => by rw [up_n (by omega)]) (by rw [up_n (by omega)]; exact tm2) (pn_upd tm1 hi hf s3)⟩
    refine ⟨fun q => ?_, fun q => ?_, fun q => ?_, fun q => ?_, fun q0 q1 q2 q3 => ?_⟩
    · subst q
      refine e_repl hn hi (fun d => ?_) (fun d => ?_)
      rotate_left
      · refine e_may ?_
        rw [b2i_f (by simp +decide [d]), e_fin1]
        exact ⟨fun _ => (by first | exact ⟨tl, hkp, him, re_upd re (k := 1) (by decide), rv, r0, r1, r2, r3⟩ | exact ⟨rfl, tl, hkp, him, re_upd re (k := 1) (by decide), rv, r0, r1, r2, r3⟩), fun q => absurd rfl q⟩
      refine e_may ?_
      rw [b2i_t (Or.inl ⟨rfl, d⟩)]
      refine ⟨fun q => absurd q (by decide), fun _ => ?_⟩
      rw [show (2 : Int32) + 0 = 2 from rfl, e_sA2]
      obtain ⟨o', t'⟩ := go 2 7 (by decide) (Or.inl ⟨rfl, rfl⟩) (sm_of (by decide) d)
      have cf' : CF n (stF F i 2 s3) (ca 6) (ca 7) (upd (ca 8) i s3) (ca 9) (ca 10) (ca 11) := cf_iff.mpr ⟨st_keep (by decide) b0, st_keep (by decide) b1, st_upd b2, st_keep (by decide) b3, st_keep (by decide) b4, st_keep (by decide) b5⟩
      refine m_turn (by omega) ⟨by rw [tm1.2 i hi 2 (by decide), (cf i hi).2.2.1], ?_⟩
      exact ⟨⟨n, sn, ln, _, tn, tk, nv, un, uk, uv, pn, wn, ⟨hn, hsn, hln, o', wT, wU, hpn, hwn⟩, ⟨tc1, tc2, tc3, cf', cT, cU, tc7, tc8⟩, t', mc, dc⟩, hkp, him, re, rv, r0, r1, r2, r3⟩
    · subst q
      refine e_repl hn hi (fun d => ?_) (fun d => ?_)
      rotate_left
      · refine e_may ?_
        rw [b2i_f (by simp +decide [d]), e_fin1]
        exact ⟨fun _ => (by first | exact ⟨tl, hkp, him, re_upd re (k := 1) (by decide), rv, r0, r1, r2, r3⟩ | exact ⟨rfl, tl, hkp, him, re_upd re (k := 1) (by decide), rv, r0, r1, r2, r3⟩), fun q => absurd rfl q⟩
      refine e_may ?_
      rw [b2i_t (Or.inr (Or.inl ⟨rfl, d⟩))]
      refine ⟨fun q => absurd q (by decide), fun _ => ?_⟩
      rw [show (2 : Int32) + 1 = 3 from rfl, e_sA3]
      obtain ⟨o', t'⟩ := go 3 99 (by decide) (Or.inr (Or.inl ⟨rfl, rfl⟩)) (sm_of (by decide) d)
      have cf' : CF n (stF F i 3 s3) (ca 6) (ca 7) (ca 8) (upd (ca 9) i s3) (ca 10) (ca 11) := cf_iff.mpr ⟨st_keep (by decide) b0, st_keep (by decide) b1, st_keep (by decide) b2, st_upd b3, st_keep (by decide) b4, st_keep (by decide) b5⟩
      refine m_turn (by omega) ⟨by rw [tm1.2 i hi 3 (by decide), (cf i hi).2.2.2.1], ?_⟩
      exact ⟨⟨n, sn, ln, _, tn, tk, nv, un, uk, uv, pn, wn, ⟨hn, hsn, hln, o', wT, wU, hpn, hwn⟩, ⟨tc1, tc2, tc3, cf', cT, cU, tc7, tc8⟩, t', mc, dc⟩, hkp, him, re, rv, r0, r1, r2, r3⟩
    · subst q
      refine e_repl hn hi (fun d => ?_) (fun d => ?_)
      rotate_left
      · refine e_may ?_
        rw [b2i_f (by simp +decide [d]), e_fin1]
        exact ⟨fun _ => (by first | exact ⟨tl, hkp, him, re_upd re (k := 1) (by decide), rv, r0, r1, r2, r3⟩ | exact ⟨rfl, tl, hkp, him, re_upd re (k := 1) (by decide), rv, r0, r1, r2, r3⟩), fun q => absurd rfl q⟩
      refine e_may ?_
      rw [b2i_t (Or.inr (Or.inr (Or.inl ⟨rfl, d⟩)))]
      refine ⟨fun q => absurd q (by decide), fun _ => ?_⟩
      rw [show (2 : Int32) + 2 = 4 from rfl, e_sA4]
      obtain ⟨o', t'⟩ := go 4 1 (by decide) (Or.inr (Or.inr (Or.inl ⟨rfl, rfl⟩))) (sm_of (by decide) d)
      have cf' : CF n (stF F i 4 s3) (ca 6) (ca 7) (ca 8) (ca 9) (upd (ca 10) i s3) (ca 11) := cf_iff.mpr ⟨st_keep (by decide) b0, st_keep (by decide) b1, st_keep (by decide) b2, st_keep (by decide) b3, st_upd b4, st_keep (by decide) b5⟩
      refine m_turn (by omega) ⟨by rw [tm1.2 i hi 4 (by decide), (cf i hi).2.2.2.2.1], ?_⟩
      exact ⟨⟨n, sn, ln, _, tn, tk, nv, un, uk, uv, pn, wn, ⟨hn, hsn, hln, o', wT, wU, hpn, hwn⟩, ⟨tc1, tc2, tc3, cf', cT, cU, tc7, tc8⟩, t', mc, dc⟩, hkp, him, re, rv, r0, r1, r2, r3⟩
    · subst q
      refine e_repl hn hi (fun d => ?_) (fun d => ?_)
      rotate_left
      · refine e_may ?_
        rw [b2i_f (by simp +decide [d]), e_fin1]
        exact ⟨fun _ => (by first | exact ⟨tl, hkp, him, re_upd re (k := 1) (by decide), rv, r0, r1, r2, r3⟩ | exact ⟨rfl, tl, hkp, him, re_upd re (k := 1) (by decide), rv, r0, r1, r2, r3⟩), fun q => absurd rfl q⟩
      refine e_may ?_
      rw [b2i_t (Or.inr (Or.inr (Or.inr ⟨rfl, d⟩)))]
      refine ⟨fun q => absurd q (by decide), fun _ => ?_⟩
      rw [show (2 : Int32) + 3 = 5 from rfl, e_sA5]
      obtain ⟨o', t'⟩ := go 5 9999 (by decide) (Or.inr (Or.inr (Or.inr ⟨rfl, rfl⟩))) (sm_of (by decide) d)
      have cf' : CF n (stF F i 5 s3) (ca 6) (ca 7) (ca 8) (ca 9) (ca 10) (upd (ca 11) i s3) := cf_iff.mpr ⟨st_keep (by decide) b0, st_keep (by decide) b1, st_keep (by decide) b2, st_keep (by decide) b3, st_keep (by decide) b4, st_upd b5⟩
      refine m_turn (by omega) ⟨by rw [tm1.2 i hi 5 (by decide), (cf i hi).2.2.2.2.2], ?_⟩
      exact ⟨⟨n, sn, ln, _, tn, tk, nv, un, uk, uv, pn, wn, ⟨hn, hsn, hln, o', wT, wU, hpn, hwn⟩, ⟨tc1, tc2, tc3, cf', cT, cU, tc7, tc8⟩, t', mc, dc⟩, hkp, him, re, rv, r0, r1, r2, r3⟩
    · rw [e_ref1]
      refine e_may ?_
      rw [b2i_f (by simp [q0, q1, q2, q3]), e_fin1]
      exact ⟨fun _ => (by first | exact ⟨tl, hkp, him, re_upd re (k := 1) (by decide), rv, r0, r1, r2, r3⟩ | exact ⟨rfl, tl, hkp, him, re_upd re (k := 1) (by decide), rv, r0, r1, r2, r3⟩), fun q => absurd rfl q⟩
  · simp only [e_isSoul, e_isSoul8, tm1.1, b2i_f c, z00, e_ref1, e_fin1, false_implies, true_implies, not_true_eq_false, not_false_eq_true, true_and, and_true, forall_eq]
    exact (by first | exact ⟨tl, hkp, him, re_upd re (k := 1) (by decide), rv, r0, r1, r2, r3⟩ | exact ⟨rfl, tl, hkp, him, re_upd re (k := 1) (by decide), rv, r0, r1, r2, r3⟩)
