theorem s_read {pn : Nat} (hpn : pn ≤ 50) {x1 fn f0 p0 bz0 rz0 : Int32} {bi0 it sg0 nu0 : Nat → Int32} {Q : Int32 → Int32 → Int32 → Int32 → (Nat → Int32) → Int32 → (Nat → Int32) → (Nat → Int32) → Prop} (hu : (x1 = 0 ∧ fn = 0) ∨ (x1 = 1 ∧ fn = 3))
    (h : ∀ w, (∀ i, i < pn → w i = it i) → lb_X1_read_25 x1 (nI pn) it Q fn f0 p0 (nI pn) w 0 sg0 nu0) : wp_X1_read x1 f0 p0 bz0 bi0 (nI pn) it rz0 sg0 nu0 Q := by
  unfold wp_X1_read wp_X3_clear
  refine s_cpS (by decide) hpn (fun w hw => ?_)
  rcases hu with ⟨rfl, rfl⟩ | ⟨rfl, rfl⟩
  · exact ⟨fun z => absurd rfl z, fun _ => h w hw⟩
  · exact ⟨fun _ => h w hw, fun z => absurd z (by decide)⟩
theorem m_wr {B tn : Nat} (hB : B ≤ 176) (ht : tn ≤ 50) {us x1 at_ op iw : Int32} (eB : 124 + 52 * us = nI B) {er now code mf df : Nat → Int32} {Q : Int32 → Int32 → Int32 → Int32 → Int32 → Int32 → (Nat → Int32) → (Nat → Int32) → (Nat → Int32) → (Nat → Int32) → (Nat → Int32) → Prop}
    (h : ∀ w m d, (∀ j, j < tn → w (B + 1 + j) = code j) → (∀ j, ¬ (B + 1 ≤ j ∧ j < B + 1 + tn) → w j = now j) → (∀ j, j < 1728 → m j = 0) → (∀ j, j < 8000 → d j = 0) → Q 1 at_ op us iw (nI tn) er w code m d) :
    ∃ n, lb_X8_text_117 x1 Q n 0 at_ op us iw (nI tn) er now code mf df := by
  refine pk_loop (fun k i s => lb_X8_text_117 x1 Q k (nI i) at_ op us iw (nI tn) er s code mf df) (fun i s => (∀ j, j < i → s (B + 1 + j) = code j) ∧ ∀ j, ¬ (B + 1 ≤ j ∧ j < B + 1 + i) → s j = now j) tn 0 now (Nat.zero_le _) ⟨fun j hj => absurd hj (Nat.not_lt_zero _), fun j _ => rfl⟩ ?_ ?_
  · intro k s hs
    exact ⟨fun _ => m_forget (fun m d hm hd => h s m d hs.1 hs.2 hm hd), fun c => absurd (Int32.le_refl _) c⟩
  · intro k i s hi hs ih
    refine ⟨fun c => absurd c (nI_ge hi (by omega)), fun _ => ⟨vp_in_nI (by omega) (by decide), ?_⟩⟩
    rintro v rfl
    rw [eB, nI_1 B, nI_add, nI_1 i, nI_clamp (show B + 1 + i < 2 ^ 31 by omega), nI_clamp (show i < 2 ^ 31 by omega)]
    refine ⟨vp_in_nI (by omega) (by decide), ih _ ⟨fun j hj => ?_, fun j hj => ?_⟩⟩
    · by_cases e : j = i
      · subst e; rw [up_s]
      · rw [up_n (by omega)]; exact hs.1 j (by omega)
    · rw [up_n (by omega)]; exact hs.2 j (by omega)
theorem tm_tx {n sn ln : Nat} (hn : n ≤ 8) {F : Nat → Nat → Int32} {tn tn2 : Nat} {tk tk2 : Nat → Nat} {nv nv2 : Nat → Int32} {un un2 : Nat} {uk uk2 : Nat → Nat} {uv uv2 : Nat → Int32} {pn wn : Nat} {z : Int32} {ti wi now now2 : Nat → Int32} (hwn : wn ≤ 20) (h : TM n sn ln F tn tk nv un uk uv pn wn z ti wi now) (r : ∀ j, j < 124 → j ≠ 4 → now2 j = now j) (h4 : now2 4 = 0) (T : TRm tn2 tk2 nv2 124 now2) (U : TRm un2 uk2 uv2 176 now2) : TM n sn ln F tn2 tk2 nv2 un2 uk2 uv2 0 wn z ti wi now2 := by
  obtain ⟨a1, a2, a3, a4, a5, a6, a7, a8, a9, a10⟩ := h
  exact ⟨⟨(r _ (by decide) (by decide)).trans a1.1, fun i hi f hf => (r _ (by omega) (by omega)).trans (a1.2 i hi f hf)⟩, (r _ (by decide) (by decide)).trans a2, (r _ (by decide) (by decide)).trans a3, (r _ (by decide) (by decide)).trans a4, T, U, h4, fun i hi => absurd hi (Nat.not_lt_zero _), (r _ (by decide) (by decide)).trans a9, fun i hi => by rw [r _ (by omega) (by omega)]; exact a10 i hi⟩
theorem wf_ok {p tn : Nat} {tk tk0 : Nat → Nat} {nv nv0 : Nat → Int32} (hp : p ≤ 50) (h : okR 0 0 tk0 nv0 p tn tk nv) : wfT tn tk nv := by
  obtain ⟨h1, h2, h3, h4, h5, h6⟩ := h
  exact ⟨by omega, fun _ => h5, fun i hi => h6 i (Nat.zero_le _) hi⟩
set_option maxHeartbeats 4000000 in
set_option maxRecDepth 100000 in
theorem op_text {ca : Nat → Nat → Int32} {ci : Nat → Int32} {ma : Nat → Nat → Int32} {mi : Nat → Int32} (h : Inv ca ci ma mi) (s1 : Int32) : wp_X7_text s1 (ca 49) (ci 20) (ci 21) (ci 23) (ca 43) (ci 7) (ca 14) (ci 22) (ca 40) (ca 41) (ci 3) (ca 3) (ca 4) (ci 2) (ca 0) (ca 1) (fun r1 c0 c1 c2 c3 c4 c5 c6 c7 c8 c9 c10 c11 c12 c13 c14 => wp_X8_text s1 (mi 1) (mi 2) (mi 3) (mi 4) (mi 5) (ma 3) (ma 0) (ma 7) (ma 4) (ma 5) (fun r2 m0 m1 m2 m3 m4 m5 m6 m7 m8 m9 => r1 = r2 ∧ Inv (va_up (va_up (va_up (va_up (va_up (va_up (va_up (va_up ca 49 c0) 43 c4) 40 c7) 41 c8) 3 c10) 4 c11) 0 c13) 1 c14) (va_up (va_up (va_up (va_up (va_up (va_up (va_up ci 20 c1) 21 c2) 23 c3) 7 c5) 22 c6) 3 c9) 2 c12) (va_up (va_up (va_up (va_up (va_up ma 3 m5) 0 m6) 7 m7) 4 m8) 5 m9) (va_up (va_up (va_up (va_up (va_up mi 1 m0) 2 m1) 3 m2) 4 m3) 5 m4))) := by
  obtain ⟨tl, hkp, him, re, rv, r0, r1, r2, r3⟩ := h
  obtain ⟨n, sn, ln, F, tn, tk, nv, un, uk, uv, pn, wn, ⟨hn, hsn, hln, ok, wT, wU, hpn, hwn⟩, ⟨tc1, tc2, tc3, cf, cT, cU, tc7, tc8⟩, tm, mc, dc⟩ := id tl
  obtain ⟨tm1, tm2, tm3, tm4, tmT, tmU, tm7, tm8, tm9, tm10⟩ := id tm
  have hfl : TL (ci 1) (ci 4) (ci 5) (ci 6) (ca 6) (ca 7) (ca 8) (ca 9) (ca 10) (ca 11) (ci 2) (ca 0) (ca 1) (ci 3) (ca 3) (ca 4) 0 (ca 14) (ci 8) (ca 15) (upd (ma 0) 4 0) (ma 4) (ma 5) := ⟨n, sn, ln, F, tn, tk, nv, un, uk, uv, 0, wn, ⟨hn, hsn, hln, ok, wT, wU, Nat.zero_le _, hwn⟩, ⟨tc1, tc2, tc3, cf, cT, cU, rfl, tc8⟩, tm_tx hn hwn tm (fun j _ h4 => up_n h4) up_s ⟨(up_n (by decide)).trans tmT.1, fun i hi => (up_n (by omega)).trans (tmT.2 i hi)⟩ ⟨(up_n (by decide)).trans tmU.1, fun i hi => (up_n (by omega)).trans (tmU.2 i hi)⟩, mc, dc⟩
  unfold wp_X7_text
  by_cases c : (0 : Int32) ≤ s1 ∧ s1 ≤ 1
  · simp only [e_isUse, b2i_t c, z10, false_implies, true_implies, not_true_eq_false, not_false_eq_true, true_and, and_true, forall_eq]
    rw [tc7]
    have hs := i01.mp c
    obtain ⟨fn, hu⟩ : ∃ fn : Int32, (s1 = 0 ∧ fn = 0) ∨ (s1 = 1 ∧ fn = 3) := by
      rcases hs with e | e
      · exact ⟨0, Or.inl ⟨e, rfl⟩⟩
      · exact ⟨3, Or.inr ⟨e, rfl⟩⟩
    refine s_read hpn hu (fun w hw => ?_)
    obtain ⟨fine, p2, tn2, tk2, nv2, b1, b2, b3, b4, b5⟩ := (ls_rc hpn hu tm7 (fun i hi => (hw i hi).trans (tm8 i hi).1) 5 0 7 (by decide) (by decide)).2 0 0 (fun _ => 0) (fun _ => 0) (Nat.zero_le _) (Nat.le_refl _)
    have mt : ∀ R, (rc_X8_one 7).1 0 0 s1 0 0 (ma 0) (ma 7) (fun o3 o4 o5 o6 o7 => ((¬ o5 = 0 → (lb_X8_text_66 s1 R o3 o4 s1 o5 o6 (ma 3) (ma 0) o7 (ma 4) (ma 5))) ∧ (o5 = 0 → (((ma 0 4) ≤ o3 → (lb_X8_text_71 s1 R 0 o3 o4 s1 o5 o6 (ma 3) (ma 0) o7 (ma 4) (ma 5))) ∧ (¬ (ma 0 4) ≤ o3 → (lb_X8_text_66 s1 R o3 o4 s1 o5 o6 (ma 3) (ma 0) o7 (ma 4) (ma 5))))))) → wp_X8_text s1 (mi 1) (mi 2) (mi 3) (mi 4) (mi 5) (ma 3) (ma 0) (ma 7) (ma 4) (ma 5) R := by
      intro R hR
      unfold wp_X8_text
      rw [e_within8, b2i_t c]
      exact ⟨fun _ => hR, fun z => absurd z (by decide)⟩
    cases fine with
    | false =>
      refine b4 _ _ _ (fun i hi => absurd hi (Nat.not_lt_zero _)) (fun q => absurd q (by decide)) (fun _ t sg2 nu2 t50 => ⟨fun _ => ⟨fun z => absurd z (nI_pos (by omega)), fun _ => mt _ ?_⟩, fun z => absurd rfl z⟩)
      exact b5 _ _ (fun i hi => absurd hi (Nat.not_lt_zero _)) (fun q => absurd q (by decide)) (fun _ o2 c2 code2 => ⟨fun _ => ⟨Or.inr rfl, fun z => absurd z (by decide), fun _ => ⟨rfl, hfl, hkp, him, re, rv, r0, r1, r2, r3⟩⟩, fun z => absurd z (by decide)⟩)
    | true =>
      have o1 := b3 rfl
      have wf := wf_ok (by omega) o1
      by_cases ep : p2 = pn
      · subst ep
        rcases hu with ⟨rfl, rfl⟩ | ⟨rfl, rfl⟩
        · refine b4 _ _ _ (fun i hi => absurd hi (Nat.not_lt_zero _)) (fun _ sg2 nu2 hs2 => ⟨fun z => absurd z (by decide), fun _ => ⟨fun z => absurd rfl z, fun _ => ⟨fun _ => ⟨fun z => absurd rfl z, fun _ => mt _ ?_⟩, fun z => absurd (show (-1 : Int32) < 0 by decide) z⟩⟩⟩) (fun q => absurd q (by decide))
          refine b5 _ _ (fun i hi => absurd hi (Nat.not_lt_zero _)) (fun _ code2 hc2 => ⟨fun z => absurd rfl z, fun _ => ⟨fun _ => ⟨Or.inl rfl, fun _ => ⟨by unfold vp_in; decide, ?_⟩, fun z => absurd rfl z⟩, fun z => absurd (by rw [tm7]; exact Int32.le_refl _) z⟩⟩) (fun q => absurd q (by decide))
          refine m_wr (B := 124) (by decide) wf.1 (by decide) (fun w2 m d g1 g2 g3 g4 => ⟨rfl, ?_, hkp, him, re, rv, r0, r1, r2, r3⟩)
          refine ⟨n, sn, ln, F, tn2, tk2, nv2, un, uk, uv, 0, wn, ⟨hn, hsn, hln, ok, wf, wU, Nat.zero_le _, hwn⟩, ⟨tc1, tc2, tc3, cf, tr_cp wf ⟨rfl, hs2⟩, cU, rfl, tc8⟩, tm_tx hn hwn tm (fun j h1 h4 => ?_) ?_ ⟨?_, fun i hi => ?_⟩ ⟨?_, fun i hi => ?_⟩, mc_0 g3, dc_0 g4⟩
          · exact (g2 j (by omega)).trans ((up_n (show j ≠ 124 by omega)).trans (up_n h4))
          · exact (g2 4 (by omega)).trans ((up_n (by decide)).trans up_s)
          · exact (g2 124 (by omega)).trans (up_s)
          · exact (g1 i hi).trans (hc2 i hi)
          · have := wf.1
            exact (g2 176 (by omega)).trans (((up_n (show 176 ≠ 124 by decide)).trans (up_n (by decide))).trans tmU.1)
          · have := wf.1
            exact (g2 _ (by omega)).trans (((up_n (show 176 + 1 + i ≠ 124 by omega)).trans (up_n (by omega))).trans (tmU.2 i hi))
        · refine b4 _ _ _ (fun i hi => absurd hi (Nat.not_lt_zero _)) (fun _ sg2 nu2 hs2 => ⟨fun z => absurd z (by decide), fun _ => ⟨fun z => absurd rfl z, fun _ => ⟨fun _ => ⟨fun _ => mt _ ?_, fun z => absurd z (by decide)⟩, fun z => absurd (show (-1 : Int32) < 0 by decide) z⟩⟩⟩) (fun q => absurd q (by decide))
          refine b5 _ _ (fun i hi => absurd hi (Nat.not_lt_zero _)) (fun _ code2 hc2 => ⟨fun z => absurd rfl z, fun _ => ⟨fun _ => ⟨Or.inl rfl, fun _ => ⟨by unfold vp_in; decide, ?_⟩, fun z => absurd rfl z⟩, fun z => absurd (by rw [tm7]; exact Int32.le_refl _) z⟩⟩) (fun q => absurd q (by decide))
          refine m_wr (B := 176) (by decide) wf.1 (by decide) (fun w2 m d g1 g2 g3 g4 => ⟨rfl, ?_, hkp, him, re, rv, r0, r1, r2, r3⟩)
          refine ⟨n, sn, ln, F, tn, tk, nv, tn2, tk2, nv2, 0, wn, ⟨hn, hsn, hln, ok, wT, wf, Nat.zero_le _, hwn⟩, ⟨tc1, tc2, tc3, cf, cT, tr_cp wf ⟨rfl, hs2⟩, rfl, tc8⟩, tm_tx hn hwn tm (fun j h1 h4 => ?_) ?_ ⟨?_, fun i hi => ?_⟩ ⟨?_, fun i hi => ?_⟩, mc_0 g3, dc_0 g4⟩
          · exact (g2 j (by omega)).trans ((up_n (show j ≠ 176 by omega)).trans (up_n h4))
          · exact (g2 4 (by omega)).trans ((up_n (by decide)).trans up_s)
          · exact (g2 124 (by omega)).trans (((up_n (show 124 ≠ 176 by decide)).trans (up_n (by decide))).trans tmT.1)
          · have := wT.1
            exact (g2 _ (by omega)).trans (((up_n (show 124 + 1 + i ≠ 176 by omega)).trans (up_n (by omega))).trans (tmT.2 i hi))
          · exact (g2 176 (by omega)).trans (up_s)
          · exact (g1 i hi).trans (hc2 i hi)
      · have ne : ¬ nI p2 = nI pn := fun z => ep ((nI_eq (by omega) (by omega)).mp z)
        refine b4 _ _ _ (fun i hi => absurd hi (Nat.not_lt_zero _)) (fun _ sg2 nu2 hs2 => ⟨fun z => absurd z (by decide), fun _ => ⟨fun _ => ⟨fun z => absurd z (nI_pos (by omega)), fun _ => mt _ ?_⟩, fun z => absurd z ne⟩⟩) (fun q => absurd q (by decide))
        exact b5 _ _ (fun i hi => absurd hi (Nat.not_lt_zero _)) (fun _ code2 hc2 => ⟨fun z => absurd rfl z, fun _ => ⟨fun z => absurd z (by rw [tm7]; exact nI_ge (by omega) (by omega)), fun _ => ⟨Or.inr rfl, fun z => absurd z (by decide), fun _ => ⟨rfl, hfl, hkp, him, re, rv, r0, r1, r2, r3⟩⟩⟩⟩) (fun q => absurd q (by decide))
  · unfold wp_X8_text
    simp only [e_isUse, e_within8, b2i_f c, z00, e_ref1, e_fin1, false_implies, true_implies, not_true_eq_false, not_false_eq_true, true_and, and_true, forall_eq]
    exact (by first | exact ⟨tl, hkp, him, re_upd re (k := 1) (by decide), rv, r0, r1, r2, r3⟩ | exact ⟨rfl, tl, hkp, him, re_upd re (k := 1) (by decide), rv, r0, r1, r2, r3⟩)
