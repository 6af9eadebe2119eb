theorem stF_id {F : Nat → Nat → Int32} {i f : Nat} : stF F i f (F f i) = F := by
  funext g j
  unfold stF
  split
  · rename_i h; rw [h.1, h.2]
  · rfl
theorem s_touch {n tn un sn kk x : Nat} (hn : n ≤ 8) (hk : kk ≤ 60) (hx : x < n) {tk uk : Nat → Nat} {nv uv : Nat → Int32} {s0 : Int32 × Int32} {lo st s x3 size usize : Int32} {F : Nat → Nat → Int32} {rf kind m at_ free gl de signs numbers usigns unumbers : Nat → Int32}
    (T : TRc tn tk nv size signs numbers) (w : wfT tn tk nv) (U : TRc un uk uv usize usigns unumbers) (v : wfT un uk uv) (ok : okP n F) (cf : CF n F kind m at_ free gl de) (hs : sm s 7) (hst : st = nI sn) {Q : Int32 → (Nat → Int32) → Int32 → Int32 → Int32 → (Nat → Int32) → (Nat → Int32) → (Nat → Int32) → (Nat → Int32) → (Nat → Int32) → (Nat → Int32) → (Nat → Int32) → (Nat → Int32) → (Nat → Int32) → (Nat → Int32) → Prop}
    (h : ∀ t1 t2 t3 k1 m1 a f g d c hh p q, Q (if x3 = 0 then (mxF s0 (fun o => itF (meV tn tk nv) (deV un uk uv) n (nI sn) lo (stF F o 2 s) kk 3 x) n).1 else (mxF s0 (fun o => itF (meV tn tk nv) (deV un uk uv) n (nI sn) lo (stF F o 2 s) kk 3 x) n).2) rf t1 t2 t3 k1 m1 a f g d c hh p q) :
    ∀ r i, i + r = n → ∀ y4 y5 t1 t2 t3 k1 m1 a f g d c hh p q, (y4, y5) = mxF s0 (fun o => itF (meV tn tk nv) (deV un uk uv) n (nI sn) lo (stF F o 2 s) kk 3 x) i → lb_X7_touch_62 (nI x) (nI kk) x3 (nI n) st lo at_ kind m free gl de size signs numbers usize usigns unumbers Q (r + 1) s y4 y5 (nI i) rf t1 t2 t3 k1 m1 a f g d c hh p q := by
  intro r
  induction r with
  | zero =>
    intro i hi y4 y5 t1 t2 t3 k1 m1 a f g d c hh p q e
    have : i = n := by omega
    subst this
    rw [← e] at h
    refine ⟨fun _ => ⟨fun c => ?_, fun c => ?_⟩, fun c => absurd (Int32.le_refl _) c⟩
    · rw [if_neg c] at h; exact h _ _ _ _ _ _ _ _ _ _ _ _ _
    · rw [if_pos c] at h; exact h _ _ _ _ _ _ _ _ _ _ _ _ _
  | succ r ih =>
    intro i hi y4 y5 t1 t2 t3 k1 m1 a f g d c hh p q e
    refine ⟨fun c => absurd c (nI_ge (show i < n by omega) (by omega)), fun _ => ?_⟩
    refine s_hours hn hk hx (show i < n by omega) T w U v ok cf hs hst (fun st2 k1 m1 a f g d c hh p q => ?_)
    rw [nI_1]
    refine ⟨fun le => ih (i + 1) (by omega) _ _ _ _ _ _ _ _ _ _ _ _ _ _ _ ?_, fun nle => ih (i + 1) (by omega) _ _ _ _ _ _ _ _ _ _ _ _ _ _ _ ?_⟩
    · rw [mx_p (by rw [← e]; exact le)]; exact e
    · rw [mx_n (by rw [← e]; exact nle)]
theorem m_touch {n tn un sn kk x : Nat} (hn : n ≤ 8) (hk : kk ≤ 60) (hx : x < n) {tk uk : Nat → Nat} {nv uv now er : Nat → Int32} {s0 : Int32 × Int32} {F : Nat → Nat → Int32} {lo x3 : Int32} (T : TRm tn tk nv 124 now) (wf : wfT tn tk nv) (U : TRm un uk uv 176 now) (v : wfT un uk uv) (pn : PN n F now) (ok : okP n F) (h0 : now 0 = nI sn) (hsn : sn < 2 ^ 30) (l2 : now 2 = lo) {Q : Int32 → (Nat → Int32) → (Nat → Int32) → (Nat → Int32) → (Nat → Int32) → (Nat → Int32) → (Nat → Int32) → (Nat → Int32) → (Nat → Int32) → Prop}
    (h : ∀ nw as ah mf nm p df, ag nw now → MC (meV tn tk nv) mf → DC (deV un uk uv) df → Q (if x3 = 0 then (mxF s0 (fun o => itF (meV tn tk nv) (deV un uk uv) n (nI sn) lo (stF F o 2 (F 2 x)) kk 3 x) n).1 else (mxF s0 (fun o => itF (meV tn tk nv) (deV un uk uv) n (nI sn) lo (stF F o 2 (F 2 x)) kk 3 x) n).2) nw er as ah mf nm p df) :
    ∀ r i, i + r = n → ∀ y4 y5 nw as ah mf nm p df, (y4, y5) = mxF s0 (fun o => itF (meV tn tk nv) (deV un uk uv) n (nI sn) lo (stF F o 2 (F 2 x)) kk 3 x) i → ag nw now → MC (meV tn tk nv) mf → DC (deV un uk uv) df → lb_X8_touch_45 (nI x) (nI kk) x3 Q (r + 1) y4 y5 (nI i) nw er as ah mf nm p df := by
  intro r
  induction r with
  | zero =>
    intro i hi y5 y6 nw as ah mf nm p df e rr m1 d1
    have : i = n := by omega
    subst this
    rw [← e] at h
    have e1 : nw 1 = nI i := (ag_PN rr hn pn).1
    refine ⟨fun _ => ?_, fun c => absurd (by rw [e1]; exact Int32.le_refl _) c⟩
    refine ⟨fun c => ?_, fun c => ?_⟩
    · rw [if_neg c] at h; exact h _ _ _ _ _ _ _ rr m1 d1
    · rw [if_pos c] at h; exact h _ _ _ _ _ _ _ rr m1 d1
  | succ r ih =>
    intro i hi y5 y6 nw as ah mf nm p df e rr m1 d1
    have pw := ag_PN rr hn pn
    refine ⟨fun c => absurd (by rw [pw.1] at c; exact c) (nI_ge (show i < n by omega) (by omega)), fun _ => ?_⟩
    have hi2 : i < n := by omega
    rw [e_sI2 (show i < 8 by omega), e_sA2, e_sI2 (show x < 8 by omega), pw.2 x hx 2 (by decide)]
    refine ⟨vp_in_nI (by omega) (by decide), ?_⟩
    rw [nI_clamp (by omega)]
    have r2 : ∀ j, j < 228 → j ≠ 6 + 6 * i + 2 → upd nw (6 + 6 * i + 2) (F 2 x) j = now j := fun j hj q => by rw [up_n q]; exact rr j hj
    have wl := wf.1
    have vl := v.1
    refine m_freeBehind hn hk hx ⟨(r2 _ (by omega) (by omega)).trans T.1, fun j hj => (r2 _ (by omega) (by omega)).trans (T.2 j hj)⟩ wf ⟨(r2 _ (by omega) (by omega)).trans U.1, fun j hj => (r2 _ (by omega) (by omega)).trans (U.2 j hj)⟩ v (pn_st hi2 hn (by decide) pn r2 up_s) (ok_st ok hi2 (Or.inl ⟨rfl, rfl⟩) (ok x hx).2.2.1) ((r2 _ (by omega) (by omega)).trans h0) hsn ((r2 _ (by omega) (by omega)).trans l2) m1 d1 (fun nw2 as2 ah2 mf2 nm2 p2 df2 b1 b2 b3 => ?_)
    rw [e_sA2]
    refine ⟨vp_in_nI (by omega) (by decide), ?_⟩
    rw [nI_clamp (by omega), nI_1]
    have r3 : ag (upd nw2 (6 + 6 * i + 2) (nw (6 + 6 * i + 2))) now := fun j hj => by
      by_cases q : j = 6 + 6 * i + 2
      · subst q; rw [up_s]; exact rr _ hj
      · rw [up_n q]; exact (b1 j hj).trans (r2 j hj q)
    refine ⟨fun le => ?_, fun nle => ?_⟩
    · rintro v1 rfl
      rw [jmax_l le]
      exact ih (i + 1) (by omega) _ _ _ _ _ _ _ _ _ (by rw [mx_p (by rw [← e]; exact le)]; exact e) r3 b2 b3
    · rintro v1 rfl
      rw [jmax_r nle]
      exact ih (i + 1) (by omega) _ _ _ _ _ _ _ _ _ (by rw [mx_n (by rw [← e]; exact nle)]) r3 b2 b3
set_option maxHeartbeats 4000000 in
set_option maxRecDepth 100000 in
theorem op_touch {ca : Nat → Nat → Int32} {ci : Nat → Int32} {ma : Nat → Nat → Int32} {mi : Nat → Int32} (h : Inv ca ci ma mi) (s1 : Int32) (s2 : Int32) (s3 : Int32) : wp_X7_touch s1 s2 s3 (ci 4) (ci 5) (ci 6) (ca 49) (ca 8) (ci 17) (ci 18) (ci 19) (ca 6) (ca 32) (ca 7) (ca 33) (ca 34) (ca 9) (ca 35) (ca 10) (ca 36) (ca 11) (ca 37) (ca 39) (ca 38) (ci 2) (ca 0) (ca 1) (ca 2) (ci 3) (ca 3) (ca 4) (ca 5) (fun r1 c0 c1 c2 c3 c4 c5 c6 c7 c8 c9 c10 c11 c12 c13 => wp_X8_touch s1 s2 s3 (ma 0) (ma 3) (ma 2) (ma 6) (ma 4) (ma 8) (ma 9) (ma 5) (fun r2 m0 m1 m2 m3 m4 m5 m6 m7 => r1 = r2 ∧ Inv (va_up (va_up (va_up (va_up (va_up (va_up (va_up (va_up (va_up (va_up (va_up ca 49 c0) 32 c4) 33 c5) 34 c6) 35 c7) 36 c8) 37 c9) 39 c10) 38 c11) 2 c12) 5 c13) (va_up (va_up (va_up ci 17 c1) 18 c2) 19 c3) (va_up (va_up (va_up (va_up (va_up (va_up (va_up (va_up ma 0 m0) 3 m1) 2 m2) 6 m3) 4 m4) 8 m5) 9 m6) 5 m7) mi)) := by
  obtain ⟨tl, hkp, him, re, rv, r0, r1, r2, r3⟩ := h
  obtain ⟨n, sn, ln, F, tn, tk, nv, un, uk, uv, pn, wn, ⟨hn, hsn, hln, ok, wT, wU, hpn, hwn⟩, ⟨tc1, tc2, tc3, cf, cT, cU, tc7, tc8⟩, tm, mc, dc⟩ := id tl
  obtain ⟨tm1, tm2, tm3, tm4, tmT, tmU, tm7, tm8, tm9, tm10⟩ := id tm
  have fin : ∀ w mf df, ag w (ma 0) → MC (meV tn tk nv) mf → DC (deV un uk uv) df → TL (ci 1) (ci 4) (ci 5) (ci 6) (ca 6) (ca 7) (ca 8) (ca 9) (ca 10) (ca 11) (ci 2) (ca 0) (ca 1) (ci 3) (ca 3) (ca 4) (ci 7) (ca 14) (ci 8) (ca 15) w mf df := fun w mf df a1 a2 a3 => ⟨n, sn, ln, F, tn, tk, nv, un, uk, uv, pn, wn, ⟨hn, hsn, hln, ok, wT, wU, hpn, hwn⟩, ⟨tc1, tc2, tc3, cf, cT, cU, tc7, tc8⟩, tm_eq hn wT wU hpn hwn tm a1, a2, a3⟩
  unfold wp_X7_touch wp_X8_touch lb_X7_touch_25 lb_X8_touch_24
  rw [tc1]
  by_cases c : (0 : Int32) ≤ s1 ∧ s1 ≤ nI n - 1
  · by_cases d : (0 : Int32) ≤ s2 ∧ s2 ≤ 20
    · by_cases e : (0 : Int32) ≤ s3 ∧ s3 ≤ 1
      · simp only [e_within, e_isEither, e_within8, e_isSoon8, e_isSoul, e_isSoul8, tm1.1, b2i_t c, b2i_t d, b2i_t e, z10, false_implies, true_implies, not_true_eq_false, not_false_eq_true, true_and, and_true, forall_eq]
        obtain ⟨x, hx, rfl⟩ := soul_of hn c
        obtain ⟨k, hk, rfl⟩ := sm_of (n := 20) (by decide) d
        rw [tc3, c8 hn hx, (cf x hx).2.2.1]
        refine ⟨i8 hn hx, ?_⟩
        refine s_hours hn (by omega) hx hx cT wT cU wU ok cf (ok x hx).2.2.1 tc2 (fun st2 k1 m1 a f g d c hh p q => ?_)
        rw [stF_id]
        refine ⟨n + 1, s_touch hn (by omega) hx cT wT cU wU ok cf (ok x hx).2.2.1 tc2 (fun t1 t2 t3 k1 m1 a f g d c hh p q => ?_) n 0 (Nat.zero_add n) _ _ _ _ _ _ _ _ _ _ _ _ _ _ _ rfl⟩
        refine m_freeBehind hn (by omega) hx tmT wT tmU wU tm1 ok tm2 (by omega) tm3 mc dc (fun nw as ah mf nm p df b1 b2 b3 => ?_)
        exact ⟨n + 1, m_touch hn (by omega) hx tmT wT tmU wU tm1 ok tm2 (by omega) tm3 (fun nw as ah mf nm p df b1 b2 b3 => ⟨rfl, fin _ _ _ b1 b2 b3, hkp, him, re, rv, r0, r1, r2, r3⟩) n 0 (Nat.zero_add n) _ _ _ _ _ _ _ _ _ rfl b1 b2 b3⟩
      · simp only [e_within, e_isEither, e_within8, e_isSoon8, e_isSoul, e_isSoul8, tm1.1, b2i_t c, b2i_t d, b2i_f e, z10, z00, e_ref1, e_fin1, false_implies, true_implies, not_true_eq_false, not_false_eq_true, true_and, and_true, forall_eq]
        exact (by first | exact ⟨tl, hkp, him, re_upd re (k := 1) (by decide), rv, r0, r1, r2, r3⟩ | exact ⟨rfl, tl, hkp, him, re_upd re (k := 1) (by decide), rv, r0, r1, r2, r3⟩)
    · simp only [e_within, e_isSoon8, e_isSoul, e_isSoul8, tm1.1, b2i_t c, b2i_f d, z10, z00, e_ref1, e_fin1, false_implies, true_implies, not_true_eq_false, not_false_eq_true, true_and, and_true, forall_eq]
      exact (by first | exact ⟨tl, hkp, him, re_upd re (k := 1) (by decide), rv, r0, r1, r2, r3⟩ | exact ⟨rfl, tl, hkp, him, re_upd re (k := 1) (by decide), rv, r0, r1, r2, r3⟩)
  · simp only [e_isSoul, e_isSoul8, tm1.1, b2i_f c, z00, e_ref1, e_fin1, false_implies, true_implies, not_true_eq_false, not_false_eq_true, true_and, and_true, forall_eq]
    exact (by first | exact ⟨tl, hkp, him, re_upd re (k := 1) (by decide), rv, r0, r1, r2, r3⟩ | exact ⟨rfl, tl, hkp, him, re_upd re (k := 1) (by decide), rv, r0, r1, r2, r3⟩)
theorem s_cdv {c : Nat} (hc : c ≤ 9) {Q : Int32 → Prop} (h : Q (nI (Nat.gcd c 9))) : wp_X7_commonDivisor (nI c) 9 Q := by
  unfold wp_X7_commonDivisor
  refine ⟨8, ?_⟩
  match c, hc with
  | 0, _ => simp +decide only [lb_X7_commonDivisor_7, forall_eq, false_implies, true_implies, not_true_eq_false, not_false_eq_true, true_and, and_true]; exact h
  | 1, _ => simp +decide only [lb_X7_commonDivisor_7, forall_eq, false_implies, true_implies, not_true_eq_false, not_false_eq_true, true_and, and_true]; exact h
  | 2, _ => simp +decide only [lb_X7_commonDivisor_7, forall_eq, false_implies, true_implies, not_true_eq_false, not_false_eq_true, true_and, and_true]; exact h
  | 3, _ => simp +decide only [lb_X7_commonDivisor_7, forall_eq, false_implies, true_implies, not_true_eq_false, not_false_eq_true, true_and, and_true]; exact h
  | 4, _ => simp +decide only [lb_X7_commonDivisor_7, forall_eq, false_implies, true_implies, not_true_eq_false, not_false_eq_true, true_and, and_true]; exact h
  | 5, _ => simp +decide only [lb_X7_commonDivisor_7, forall_eq, false_implies, true_implies, not_true_eq_false, not_false_eq_true, true_and, and_true]; exact h
  | 6, _ => simp +decide only [lb_X7_commonDivisor_7, forall_eq, false_implies, true_implies, not_true_eq_false, not_false_eq_true, true_and, and_true]; exact h
  | 7, _ => simp +decide only [lb_X7_commonDivisor_7, forall_eq, false_implies, true_implies, not_true_eq_false, not_false_eq_true, true_and, and_true]; exact h
  | 8, _ => simp +decide only [lb_X7_commonDivisor_7, forall_eq, false_implies, true_implies, not_true_eq_false, not_false_eq_true, true_and, and_true]; exact h
  | 9, _ => simp +decide only [lb_X7_commonDivisor_7, forall_eq, false_implies, true_implies, not_true_eq_false, not_false_eq_true, true_and, and_true]; exact h
