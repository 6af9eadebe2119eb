theorem gcd_nz {c : Nat} (hc : c ≤ 9) : ¬ nI (Nat.gcd c 9) = 0 := by
  have : ∀ c : Nat, c < 10 → ¬ nI (Nat.gcd c 9) = 0 := by decide
  exact this c (by omega)
theorem m_cdv {c : Nat} (hc : c ≤ 9) {x1 x2 x3 : Int32} {nw er as ah mf nm p df : Nat → Int32} {Q : Int32 → (Nat → Int32) → (Nat → Int32) → (Nat → Int32) → (Nat → Int32) → (Nat → Int32) → (Nat → Int32) → (Nat → Int32) → (Nat → Int32) → Prop} (h : Q (if x3 = 0 then nI c / nI (Nat.gcd c 9) else 9 / nI (Nat.gcd c 9)) nw er as ah mf nm p df) : ∃ n, lb_X8_odds_101 x1 x2 x3 Q n (nI c) 9 (nI c) nw er as ah mf nm p df := by
  refine ⟨8, ?_⟩
  by_cases z : x3 = 0
  · rw [if_pos z] at h
    match c, hc with
    | 0, _ => simp +decide only [lb_X8_odds_101, z, forall_eq, false_implies, true_implies, not_true_eq_false, not_false_eq_true, true_and, and_true]; exact h
    | 1, _ => simp +decide only [lb_X8_odds_101, z, forall_eq, false_implies, true_implies, not_true_eq_false, not_false_eq_true, true_and, and_true]; exact h
    | 2, _ => simp +decide only [lb_X8_odds_101, z, forall_eq, false_implies, true_implies, not_true_eq_false, not_false_eq_true, true_and, and_true]; exact h
    | 3, _ => simp +decide only [lb_X8_odds_101, z, forall_eq, false_implies, true_implies, not_true_eq_false, not_false_eq_true, true_and, and_true]; exact h
    | 4, _ => simp +decide only [lb_X8_odds_101, z, forall_eq, false_implies, true_implies, not_true_eq_false, not_false_eq_true, true_and, and_true]; exact h
    | 5, _ => simp +decide only [lb_X8_odds_101, z, forall_eq, false_implies, true_implies, not_true_eq_false, not_false_eq_true, true_and, and_true]; exact h
    | 6, _ => simp +decide only [lb_X8_odds_101, z, forall_eq, false_implies, true_implies, not_true_eq_false, not_false_eq_true, true_and, and_true]; exact h
    | 7, _ => simp +decide only [lb_X8_odds_101, z, forall_eq, false_implies, true_implies, not_true_eq_false, not_false_eq_true, true_and, and_true]; exact h
    | 8, _ => simp +decide only [lb_X8_odds_101, z, forall_eq, false_implies, true_implies, not_true_eq_false, not_false_eq_true, true_and, and_true]; exact h
    | 9, _ => simp +decide only [lb_X8_odds_101, z, forall_eq, false_implies, true_implies, not_true_eq_false, not_false_eq_true, true_and, and_true]; exact h
  · rw [if_neg z] at h
    match c, hc with
    | 0, _ => simp +decide only [lb_X8_odds_101, z, forall_eq, false_implies, true_implies, not_true_eq_false, not_false_eq_true, true_and, and_true]; exact h
    | 1, _ => simp +decide only [lb_X8_odds_101, z, forall_eq, false_implies, true_implies, not_true_eq_false, not_false_eq_true, true_and, and_true]; exact h
    | 2, _ => simp +decide only [lb_X8_odds_101, z, forall_eq, false_implies, true_implies, not_true_eq_false, not_false_eq_true, true_and, and_true]; exact h
    | 3, _ => simp +decide only [lb_X8_odds_101, z, forall_eq, false_implies, true_implies, not_true_eq_false, not_false_eq_true, true_and, and_true]; exact h
    | 4, _ => simp +decide only [lb_X8_odds_101, z, forall_eq, false_implies, true_implies, not_true_eq_false, not_false_eq_true, true_and, and_true]; exact h
    | 5, _ => simp +decide only [lb_X8_odds_101, z, forall_eq, false_implies, true_implies, not_true_eq_false, not_false_eq_true, true_and, and_true]; exact h
    | 6, _ => simp +decide only [lb_X8_odds_101, z, forall_eq, false_implies, true_implies, not_true_eq_false, not_false_eq_true, true_and, and_true]; exact h
    | 7, _ => simp +decide only [lb_X8_odds_101, z, forall_eq, false_implies, true_implies, not_true_eq_false, not_false_eq_true, true_and, and_true]; exact h
    | 8, _ => simp +decide only [lb_X8_odds_101, z, forall_eq, false_implies, true_implies, not_true_eq_false, not_false_eq_true, true_and, and_true]; exact h
    | 9, _ => simp +decide only [lb_X8_odds_101, z, forall_eq, false_implies, true_implies, not_true_eq_false, not_false_eq_true, true_and, and_true]; exact h
theorem s_odds {n tn un sn kk x : Nat} (hn : n ≤ 8) (hk : kk ≤ 60) (hx : x < n) {tk uk : Nat → Nat} {nv uv : Nat → Int32} {lo0 st x3 size usize : Int32} {F : Nat → Nat → Int32} {rf kind m at_ free gl de signs numbers usigns unumbers : Nat → Int32}
    (T : TRc tn tk nv size signs numbers) (w : wfT tn tk nv) (U : TRc un uk uv usize usigns unumbers) (v : wfT un uk uv) (ok : okP n F) (cf : CF n F kind m at_ free gl de) (hst : st = nI sn) {Q : Int32 → (Nat → Int32) → Int32 → Int32 → Int32 → (Nat → Int32) → (Nat → Int32) → (Nat → Int32) → (Nat → Int32) → (Nat → Int32) → (Nat → Int32) → (Nat → Int32) → (Nat → Int32) → (Nat → Int32) → (Nat → Int32) → Prop} {c : Nat} (hc : c = fb_ct (fun j => decide (¬ itF (meV tn tk nv) (deV un uk uv) n (nI sn) (nI (j + 1)) F kk 3 x ≤ 0)) 9)
    (h : ∀ t1 t2 t3 k1 m1 a f g d cc hh p q, Q (if x3 = 0 then nI c / nI (Nat.gcd c 9) else 9 / nI (Nat.gcd c 9)) rf t1 t2 t3 k1 m1 a f g d cc hh p q) :
    ∀ r i, i + r = 9 → ∀ y4 y5 t1 t2 t3 k1 m1 a f g d cc hh p q, y4 = nI (fb_ct (fun j => decide (¬ itF (meV tn tk nv) (deV un uk uv) n (nI sn) (nI (j + 1)) F kk 3 x ≤ 0)) i) → y5 = nI (i + 1) → lb_X7_odds_37 (nI x) (nI kk) x3 (nI n) st lo0 kind m at_ free gl de size signs numbers usize usigns unumbers Q (r + 1) y4 y5 rf t1 t2 t3 k1 m1 a f g d cc hh p q := by
  intro r
  induction r with
  | zero =>
    intro i hi y4 y5 t1 t2 t3 k1 m1 a f g d cc hh p q e e5
    have : i = 9 := by omega
    subst this
    subst e e5
    rw [← hc]
    have hc9 : c ≤ 9 := by rw [hc]; exact fb_ct_le _ _
    refine ⟨fun _ => s_cdv hc9 ⟨fun z => ⟨gcd_nz hc9, ?_⟩, fun z => ⟨gcd_nz hc9, ?_⟩⟩, fun q => absurd (show (9 : Int32) < nI (9 + 1) by decide) q⟩
    · rw [if_neg z] at h; exact h _ _ _ _ _ _ _ _ _ _ _ _ _
    · rw [if_pos z] at h; exact h _ _ _ _ _ _ _ _ _ _ _ _ _
  | succ r ih =>
    intro i hi y4 y5 t1 t2 t3 k1 m1 a f g d cc hh p q e e5
    subst e e5 hst
    refine ⟨fun q => absurd q ?_, fun _ => ?_⟩
    · rw [fa_lit 9, lt_nn (by decide) (by omega)]; omega
    refine s_think hn cf (fun k1 m1 a1 f1 g1 d1 cf1 => ?_)
    refine s_pass hn (by omega) T w U v ok cf1 (fun f c a hh p q d cf2 => ⟨i8 hn hx, ?_⟩)
    rw [c8 hn hx, (cf2 x hx).2.2.2.1, nI_1, nI_1]
    refine ⟨fun le => ih (i + 1) (by omega) _ _ _ _ _ _ _ _ _ _ _ _ _ _ _ ?_ rfl, fun nle => ih (i + 1) (by omega) _ _ _ _ _ _ _ _ _ _ _ _ _ _ _ ?_ rfl⟩
    · rw [fb_ct_succ]; simp [le]
    · rw [fb_ct_succ]; simp [nle]
theorem m_odds {n tn un sn kk x : Nat} (hn : n ≤ 8) (hk : kk ≤ 60) (hx : x < n) {tk uk : Nat → Nat} {nv uv now er : Nat → Int32} {F : Nat → Nat → Int32} {x3 : Int32} (T : TRm tn tk nv 124 now) (wf : wfT tn tk nv) (U : TRm un uk uv 176 now) (v : wfT un uk uv) (pn : PN n F now) (ok : okP n F) (h0 : now 0 = nI sn) (hsn : sn < 2 ^ 30) {Q : Int32 → (Nat → Int32) → (Nat → Int32) → (Nat → Int32) → (Nat → Int32) → (Nat → Int32) → (Nat → Int32) → (Nat → Int32) → (Nat → Int32) → Prop} {c : Nat} (hc : c = fb_ct (fun j => decide (¬ itF (meV tn tk nv) (deV un uk uv) n (nI sn) (nI (j + 1)) F kk 3 x ≤ 0)) 9)
    (h : ∀ nw as ah mf nm p df, ag nw now → MC (meV tn tk nv) mf → DC (deV un uk uv) df → Q (if x3 = 0 then nI c / nI (Nat.gcd c 9) else 9 / nI (Nat.gcd c 9)) nw er as ah mf nm p df) :
    ∀ r i, i + r = 9 → ∀ y4 y5 y6 nw as ah mf nm p df, y4 = now 2 → y5 = nI (fb_ct (fun j => decide (¬ itF (meV tn tk nv) (deV un uk uv) n (nI sn) (nI (j + 1)) F kk 3 x ≤ 0)) i) → y6 = nI (i + 1) → (∀ j, j < 228 → j ≠ 2 → nw j = now j) → MC (meV tn tk nv) mf → DC (deV un uk uv) df → lb_X8_odds_45 (nI x) (nI kk) x3 Q (r + 1) y4 y5 y6 nw er as ah mf nm p df := by
  intro r
  induction r with
  | zero =>
    intro i hi y4 y5 y6 nw as ah mf nm p df e4 e5 e6 rr m1 d1
    have : i = 9 := by omega
    subst this
    subst e4 e5 e6
    rw [← hc]
    have hc9 : c ≤ 9 := by rw [hc]; exact fb_ct_le _ _
    refine ⟨fun _ => m_cdv hc9 (h _ _ _ _ _ _ _ (fun j hj => ?_) m1 d1), fun q => absurd (show (9 : Int32) < nI (9 + 1) by decide) q⟩
    by_cases q : j = 2
    · subst q; rw [up_s]
    · rw [up_n q]; exact rr j hj q
  | succ r ih =>
    intro i hi y4 y5 y6 nw as ah mf nm p df e4 e5 e6 rr m1 d1
    subst e4 e5 e6
    refine ⟨fun q => absurd q ?_, fun _ => ?_⟩
    · rw [fa_lit 9, lt_nn (by decide) (by omega)]; omega
    have r2 : ∀ j, j < 228 → j ≠ 2 → upd nw 2 (nI (i + 1)) j = now j := fun j hj q => by rw [up_n q]; exact rr j hj q
    have wl := wf.1
    have vl := v.1
    refine m_freeBehind hn hk hx ⟨(r2 _ (by omega) (by omega)).trans T.1, fun j hj => (r2 _ (by omega) (by omega)).trans (T.2 j hj)⟩ wf ⟨(r2 _ (by omega) (by omega)).trans U.1, fun j hj => (r2 _ (by omega) (by omega)).trans (U.2 j hj)⟩ v ⟨(r2 _ (by omega) (by omega)).trans pn.1, fun j hj g hg => (r2 _ (by omega) (by omega)).trans (pn.2 j hj g hg)⟩ ok ((r2 _ (by omega) (by omega)).trans h0) hsn up_s m1 d1 (fun nw2 as2 ah2 mf2 nm2 p2 df2 b1 b2 b3 => ?_)
    have r3 : ∀ j, j < 228 → j ≠ 2 → nw2 j = now j := fun j hj q => (b1 j hj).trans (r2 j hj q)
    refine ⟨fun le => ?_, fun nle => ?_⟩
    · rintro v1 rfl
      refine ih (i + 1) (by omega) _ _ _ _ _ _ _ _ _ _ rfl ?_ ?_ r3 b2 b3
      · rw [fb_ct_succ]; simp [le]
      · rw [nI_1]
    · rintro v1 rfl
      refine ih (i + 1) (by omega) _ _ _ _ _ _ _ _ _ _ rfl ?_ ?_ r3 b2 b3
      · rw [fb_ct_succ, nI_1]; simp [nle]
      · rw [nI_1]
set_option maxHeartbeats 4000000 in
set_option maxRecDepth 100000 in
theorem op_odds {ca : Nat → Nat → Int32} {ci : Nat → Int32} {ma : Nat → Nat → Int32} {mi : Nat → Int32} (h : Inv ca ci ma mi) (s1 : Int32) (s2 : Int32) (s3 : Int32) : wp_X7_odds s1 s2 s3 (ci 4) (ci 5) (ci 6) (ca 49) (ci 17) (ci 18) (ci 19) (ca 6) (ca 32) (ca 7) (ca 33) (ca 8) (ca 34) (ca 9) (ca 35) (ca 10) (ca 36) (ca 11) (ca 37) (ca 39) (ca 38) (ci 2) (ca 0) (ca 1) (ca 2) (ci 3) (ca 3) (ca 4) (ca 5) (fun r1 c0 c1 c2 c3 c4 c5 c6 c7 c8 c9 c10 c11 c12 c13 => wp_X8_odds s1 s2 s3 (ma 0) (ma 3) (ma 2) (ma 6) (ma 4) (ma 8) (ma 9) (ma 5) (fun r2 m0 m1 m2 m3 m4 m5 m6 m7 => r1 = r2 ∧ Inv (va_up (va_up (va_up (va_up (va_up (va_up (va_up (va_up (va_up (va_up (va_up ca 49 c0) 32 c4) 33 c5) 34 c6) 35 c7) 36 c8) 37 c9) 39 c10) 38 c11) 2 c12) 5 c13) (va_up (va_up (va_up ci 17 c1) 18 c2) 19 c3) (va_up (va_up (va_up (va_up (va_up (va_up (va_up (va_up ma 0 m0) 3 m1) 2 m2) 6 m3) 4 m4) 8 m5) 9 m6) 5 m7) mi)) := by
  obtain ⟨tl, hkp, him, re, rv, r0, r1, r2, r3⟩ := h
  obtain ⟨n, sn, ln, F, tn, tk, nv, un, uk, uv, pn, wn, ⟨hn, hsn, hln, ok, wT, wU, hpn, hwn⟩, ⟨tc1, tc2, tc3, cf, cT, cU, tc7, tc8⟩, tm, mc, dc⟩ := id tl
  obtain ⟨tm1, tm2, tm3, tm4, tmT, tmU, tm7, tm8, tm9, tm10⟩ := id tm
  have fin : ∀ w mf df, ag w (ma 0) → MC (meV tn tk nv) mf → DC (deV un uk uv) df → TL (ci 1) (ci 4) (ci 5) (ci 6) (ca 6) (ca 7) (ca 8) (ca 9) (ca 10) (ca 11) (ci 2) (ca 0) (ca 1) (ci 3) (ca 3) (ca 4) (ci 7) (ca 14) (ci 8) (ca 15) w mf df := fun w mf df a1 a2 a3 => ⟨n, sn, ln, F, tn, tk, nv, un, uk, uv, pn, wn, ⟨hn, hsn, hln, ok, wT, wU, hpn, hwn⟩, ⟨tc1, tc2, tc3, cf, cT, cU, tc7, tc8⟩, tm_eq hn wT wU hpn hwn tm a1, a2, a3⟩
  unfold wp_X7_odds wp_X8_odds lb_X7_odds_25 lb_X8_odds_24
  rw [tc1]
  by_cases c : (0 : Int32) ≤ s1 ∧ s1 ≤ nI n - 1
  · by_cases d : (0 : Int32) ≤ s2 ∧ s2 ≤ 60
    · by_cases e : (0 : Int32) ≤ s3 ∧ s3 ≤ 1
      · simp only [e_within, e_isEither, e_within8, e_isBehind8, e_isSoul, e_isSoul8, tm1.1, b2i_t c, b2i_t d, b2i_t e, z10, false_implies, true_implies, not_true_eq_false, not_false_eq_true, true_and, and_true, forall_eq]
        obtain ⟨x, hx, rfl⟩ := soul_of hn c
        obtain ⟨k, hk, rfl⟩ := sm_of (n := 60) (by decide) d
        refine ⟨9 + 1, s_odds hn (by omega) hx cT wT cU wU ok cf tc2 rfl (fun t1 t2 t3 k1 m1 a f g d c hh p q => ?_) 9 0 rfl _ _ _ _ _ _ _ _ _ _ _ _ _ _ _ rfl rfl⟩
        exact ⟨9 + 1, m_odds hn (by omega) hx tmT wT tmU wU tm1 ok tm2 (by omega) rfl (fun nw as ah mf nm p df b1 b2 b3 => ⟨rfl, fin _ _ _ b1 b2 b3, hkp, him, re, rv, r0, r1, r2, r3⟩) 9 0 rfl _ _ _ _ _ _ _ _ _ _ rfl rfl rfl (fun _ _ _ => rfl) mc dc⟩
      · simp only [e_within, e_isEither, e_within8, e_isBehind8, e_isSoul, e_isSoul8, tm1.1, b2i_t c, b2i_t d, b2i_f e, z10, z00, e_ref1, e_fin1, false_implies, true_implies, not_true_eq_false, not_false_eq_true, true_and, and_true, forall_eq]
        exact (by first | exact ⟨tl, hkp, him, re_upd re (k := 1) (by decide), rv, r0, r1, r2, r3⟩ | exact ⟨rfl, tl, hkp, him, re_upd re (k := 1) (by decide), rv, r0, r1, r2, r3⟩)
    · simp only [e_within, e_isBehind8, e_isSoul, e_isSoul8, tm1.1, b2i_t c, b2i_f d, z10, z00, e_ref1, e_fin1, false_implies, true_implies, not_true_eq_false, not_false_eq_true, true_and, and_true, forall_eq]
      exact (by first | exact ⟨tl, hkp, him, re_upd re (k := 1) (by decide), rv, r0, r1, r2, r3⟩ | exact ⟨rfl, tl, hkp, him, re_upd re (k := 1) (by decide), rv, r0, r1, r2, r3⟩)
  · simp only [e_isSoul, e_isSoul8, tm1.1, b2i_f c, z00, e_ref1, e_fin1, false_implies, true_implies, not_true_eq_false, not_false_eq_true, true_and, and_true, forall_eq]
    exact (by first | exact ⟨tl, hkp, him, re_upd re (k := 1) (by decide), rv, r0, r1, r2, r3⟩ | exact ⟨rfl, tl, hkp, him, re_upd re (k := 1) (by decide), rv, r0, r1, r2, r3⟩)
