theorem cf_st2 {n i : Nat} {F : Nat → Nat → Int32} {kind m at_ free gl de : Nat → Int32} {v : Int32} (cf : CF n F kind m at_ free gl de) : CF n (stF F i 2 v) kind m (upd at_ i v) free gl de := by
  obtain ⟨b0, b1, b2, b3, b4, b5⟩ := cf_iff.mp cf
  exact cf_iff.mpr ⟨st_keep (by decide) b0, st_keep (by decide) b1, st_upd b2, st_keep (by decide) b3, st_keep (by decide) b4, st_keep (by decide) b5⟩
theorem s_hours {n tn un sn kk x o : Nat} (hn : n ≤ 8) (hk : kk ≤ 60) (hx : x < n) (ho : o < n) {tk uk : Nat → Nat} {nv uv : Nat → Int32} {lo st s x1 x2 x3 size usize : Int32} {F : Nat → Nat → Int32} {kind m at_ free gl de k0 m0 a0 f0 g0 d0 crowd handed signs numbers pile usigns unumbers upile : Nat → Int32}
    (T : TRc tn tk nv size signs numbers) (w : wfT tn tk nv) (U : TRc un uk uv usize usigns unumbers) (v : wfT un uk uv) (ok : okP n F) (cf : CF n F kind m at_ free gl de) (hs : sm s 7) (hst : st = nI sn) {Q : Int32 → Int32 → Int32 → Int32 → (Nat → Int32) → (Nat → Int32) → (Nat → Int32) → (Nat → Int32) → (Nat → Int32) → (Nat → Int32) → (Nat → Int32) → (Nat → Int32) → (Nat → Int32) → (Nat → Int32) → Prop}
    (h : ∀ st2 k1 m1 a f g d c hh p q, Q (itF (meV tn tk nv) (deV un uk uv) n (nI sn) lo (stF F o 2 s) kk 3 x) (nI n) st2 lo k1 m1 a f g d c hh p q) :
    wp_X7_hoursWith (nI x) (nI kk) (nI o) s (nI n) st lo x1 x2 x3 kind k0 m m0 at_ a0 free f0 gl g0 de d0 crowd handed size signs numbers pile usize usigns unumbers upile Q := by
  unfold wp_X7_hoursWith
  subst hst
  refine s_think hn cf (fun k1 m1 a1 f1 g1 d1 cf1 => ⟨i8 hn ho, ?_⟩)
  rw [c8 hn ho]
  refine s_pass hn (by omega) T w U v (ok_st ok ho (Or.inl ⟨rfl, rfl⟩) hs) (cf_st2 cf1) (fun f c a hh p q d cf2 => ⟨i8 hn hx, ?_⟩)
  rw [c8 hn hx, (cf2 x hx).2.2.2.1]
  exact h _ _ _ _ _ _ _ _ _ _ _
/-- the first greatest of V below i, above s0 -/
def mxF (s0 : Int32 × Int32) (V : Nat → Int32) : Nat → Int32 × Int32
  | 0 => s0
  | i + 1 => if V i ≤ (mxF s0 V i).2 then mxF s0 V i else (nI i, V i)
theorem mx_p {s0 : Int32 × Int32} {V : Nat → Int32} {i : Nat} (h : V i ≤ (mxF s0 V i).2) : mxF s0 V (i + 1) = mxF s0 V i := if_pos h
theorem mx_n {s0 : Int32 × Int32} {V : Nat → Int32} {i : Nat} (h : ¬ V i ≤ (mxF s0 V i).2) : mxF s0 V (i + 1) = (nI i, V i) := if_neg h
theorem jmax_l {x y : Int32} (h : y ≤ x) : jmax x y = x := if_neg (fun c => (fa_of_lt c).2.1 h)
theorem jmax_r {x y : Int32} (h : ¬ y ≤ x) : jmax x y = y := by
  unfold jmax
  by_cases c : x < y
  · rw [if_pos c]
  · exact absurd (Int32.not_lt.mp c) h
theorem s_stand {n tn un sn kk x : Nat} (hn : n ≤ 8) (hk : kk ≤ 60) (hx : x < n) {tk uk : Nat → Nat} {nv uv : Nat → Int32} {lo st x3 size usize : Int32} {F : Nat → Nat → Int32} {rf kind m at_ free gl de signs numbers usigns unumbers : Nat → Int32}
    (T : TRc tn tk nv size signs numbers) (w : wfT tn tk nv) (U : TRc un uk uv usize usigns unumbers) (v : wfT un uk uv) (ok : okP n F) (cf : CF n F kind m at_ free gl de) (hst : st = nI sn) {Q : Int32 → (Nat → Int32) → Int32 → Int32 → Int32 → (Nat → Int32) → (Nat → Int32) → (Nat → Int32) → (Nat → Int32) → (Nat → Int32) → (Nat → Int32) → (Nat → Int32) → (Nat → Int32) → (Nat → Int32) → (Nat → Int32) → Prop}
    (h : ∀ t1 t2 t3 k1 m1 a f g d c hh p q, Q (if x3 = 0 then (mxF (0, -1) (fun s => itF (meV tn tk nv) (deV un uk uv) n (nI sn) lo (stF F x 2 (nI s)) kk 3 x) 8).1 else (mxF (0, -1) (fun s => itF (meV tn tk nv) (deV un uk uv) n (nI sn) lo (stF F x 2 (nI s)) kk 3 x) 8).2) rf t1 t2 t3 k1 m1 a f g d c hh p q) :
    ∀ r i, i + r = 8 → ∀ y4 y5 t1 t2 t3 k1 m1 a f g d c hh p q, (y4, y5) = mxF (0, -1) (fun s => itF (meV tn tk nv) (deV un uk uv) n (nI sn) lo (stF F x 2 (nI s)) kk 3 x) i → lb_X7_stand_40 (nI x) (nI kk) x3 (nI n) st lo kind m at_ free gl de size signs numbers usize usigns unumbers Q (r + 1) y4 y5 (nI i) rf t1 t2 t3 k1 m1 a f g d c hh p q := by
  intro r
  induction r with
  | zero =>
    intro i hi y4 y5 t1 t2 t3 k1 m1 a f g d c hh p q e
    have : i = 8 := by omega
    subst this
    rw [← e] at h
    refine ⟨fun _ => ⟨fun c => ?_, fun c => ?_⟩, fun c => absurd (show (8 : Int32) ≤ nI 8 by decide) c⟩
    · rw [if_neg c] at h; exact h _ _ _ _ _ _ _ _ _ _ _ _ _
    · rw [if_pos c] at h; exact h _ _ _ _ _ _ _ _ _ _ _ _ _
  | succ r ih =>
    intro i hi y4 y5 t1 t2 t3 k1 m1 a f g d c hh p q e
    refine ⟨fun c => absurd c (nI_ge (show i < 8 by omega) (by decide)), fun _ => ?_⟩
    refine s_hours hn hk hx hx T w U v ok cf (sm_nI (by omega)) hst (fun st2 k1 m1 a f g d c hh p q => ?_)
    rw [nI_1]
    refine ⟨fun le => ih (i + 1) (by omega) _ _ _ _ _ _ _ _ _ _ _ _ _ _ _ ?_, fun nle => ih (i + 1) (by omega) _ _ _ _ _ _ _ _ _ _ _ _ _ _ _ ?_⟩
    · rw [mx_p (by rw [← e]; exact le)]; exact e
    · rw [mx_n (by rw [← e]; exact nle)]
theorem pn_st {n i f : Nat} {F : Nat → Nat → Int32} {now w : Nat → Int32} {v : Int32} (hi : i < n) (hn : n ≤ 8) (hf : f < 6) (h : PN n F now) (r : ∀ j, j < 228 → j ≠ 6 + 6 * i + f → w j = now j) (e : w (6 + 6 * i + f) = v) : PN n (stF F i f v) w := by
  refine ⟨(r 1 (by decide) (by omega)).trans h.1, fun j hj g hg => ?_⟩
  by_cases q : j = i ∧ g = f
  · obtain ⟨rfl, rfl⟩ := q
    rw [stF_s, e]
  · rw [stF_n q, r _ (by omega) (by omega)]
    exact h.2 j hj g hg
theorem m_stand {n tn un sn kk x : Nat} (hn : n ≤ 8) (hk : kk ≤ 60) (hx : x < n) {tk uk : Nat → Nat} {nv uv now er : Nat → Int32} {F : Nat → Nat → Int32} {lo x3 : Int32} (T : TRm tn tk nv 124 now) (wf : wfT tn tk nv) (U : TRm un uk uv 176 now) (v : wfT un uk uv) (pn : PN n F now) (ok : okP n F) (h0 : now 0 = nI sn) (hsn : sn < 2 ^ 30) (l2 : now 2 = lo) {Q : Int32 → (Nat → Int32) → (Nat → Int32) → (Nat → Int32) → (Nat → Int32) → (Nat → Int32) → (Nat → Int32) → (Nat → Int32) → (Nat → Int32) → Prop}
    (h : ∀ nw as ah mf nm p df, ag nw now → MC (meV tn tk nv) mf → DC (deV un uk uv) df → Q (if x3 = 0 then (mxF (0, -1) (fun s => itF (meV tn tk nv) (deV un uk uv) n (nI sn) lo (stF F x 2 (nI s)) kk 3 x) 8).1 else (mxF (0, -1) (fun s => itF (meV tn tk nv) (deV un uk uv) n (nI sn) lo (stF F x 2 (nI s)) kk 3 x) 8).2) nw er as ah mf nm p df) :
    ∀ r i, i + r = 8 → ∀ y5 y6 nw as ah mf nm p df, (y5, y6) = mxF (0, -1) (fun s => itF (meV tn tk nv) (deV un uk uv) n (nI sn) lo (stF F x 2 (nI s)) kk 3 x) i → (∀ j, j < 228 → j ≠ 6 + 6 * x + 2 → nw j = now j) → MC (meV tn tk nv) mf → DC (deV un uk uv) df → lb_X8_stand_48 (nI x) (nI kk) x3 Q (r + 1) (now (6 + 6 * x + 2)) y5 y6 (nI i) nw er as ah mf nm p df := by
  intro r
  induction r with
  | zero =>
    intro i hi y5 y6 nw as ah mf nm p df e rr m1 d1
    have : i = 8 := by omega
    subst this
    rw [← e] at h
    refine ⟨fun _ => ?_, fun c => absurd (show (8 : Int32) ≤ nI 8 by decide) c⟩
    rw [e_sA2]
    have a1 : ag (upd nw (6 + 6 * x + 2) (now (6 + 6 * x + 2))) now := fun j hj => by
      by_cases q : j = 6 + 6 * x + 2
      · subst q; rw [up_s]
      · rw [up_n q]; exact rr j hj q
    refine ⟨vp_in_nI (by omega) (by decide), ?_⟩
    rw [nI_clamp (by omega)]
    refine ⟨fun c => ?_, fun c => ?_⟩
    · rw [if_neg c] at h; exact h _ _ _ _ _ _ _ a1 m1 d1
    · rw [if_pos c] at h; exact h _ _ _ _ _ _ _ a1 m1 d1
  | succ r ih =>
    intro i hi y5 y6 nw as ah mf nm p df e rr m1 d1
    refine ⟨fun c => absurd c (nI_ge (show i < 8 by omega) (by decide)), fun _ => ?_⟩
    rw [e_sA2]
    refine ⟨vp_in_nI (by omega) (by decide), ?_⟩
    rw [nI_clamp (by omega)]
    have r2 : ∀ j, j < 228 → j ≠ 6 + 6 * x + 2 → upd nw (6 + 6 * x + 2) (nI i) j = now j := fun j hj q => by rw [up_n q]; exact rr j hj q
    have wl := wf.1
    have vl := v.1
    refine m_freeBehind hn hk hx ⟨(r2 _ (by omega) (by omega)).trans T.1, fun j hj => (r2 _ (by omega) (by omega)).trans (T.2 j hj)⟩ wf ⟨(r2 _ (by omega) (by omega)).trans U.1, fun j hj => (r2 _ (by omega) (by omega)).trans (U.2 j hj)⟩ v (pn_st hx hn (by decide) pn r2 up_s) (ok_st ok hx (Or.inl ⟨rfl, rfl⟩) (sm_nI (by omega))) ((r2 _ (by omega) (by omega)).trans h0) hsn ((r2 _ (by omega) (by omega)).trans l2) m1 d1 (fun nw2 as2 ah2 mf2 nm2 p2 df2 b1 b2 b3 => ?_)
    rw [nI_1]
    have r3 : ∀ j, j < 228 → j ≠ 6 + 6 * x + 2 → nw2 j = now j := fun j hj q => (b1 j hj).trans (r2 j hj q)
    refine ⟨fun le => ?_, fun nle => ?_⟩
    · rintro v1 rfl
      rw [jmax_l le]
      exact ih (i + 1) (by omega) _ _ _ _ _ _ _ _ _ (by rw [mx_p (by rw [← e]; exact le)]; exact e) r3 b2 b3
    · rintro v1 rfl
      rw [jmax_r nle]
      exact ih (i + 1) (by omega) _ _ _ _ _ _ _ _ _ (by rw [mx_n (by rw [← e]; exact nle)]) r3 b2 b3
set_option maxHeartbeats 4000000 in
set_option maxRecDepth 100000 in
theorem op_stand {ca : Nat → Nat → Int32} {ci : Nat → Int32} {ma : Nat → Nat → Int32} {mi : Nat → Int32} (h : Inv ca ci ma mi) (s1 : Int32) (s2 : Int32) (s3 : Int32) : wp_X7_stand s1 s2 s3 (ci 4) (ci 5) (ci 6) (ca 49) (ci 17) (ci 18) (ci 19) (ca 6) (ca 32) (ca 7) (ca 33) (ca 8) (ca 34) (ca 9) (ca 35) (ca 10) (ca 36) (ca 11) (ca 37) (ca 39) (ca 38) (ci 2) (ca 0) (ca 1) (ca 2) (ci 3) (ca 3) (ca 4) (ca 5) (fun r1 c0 c1 c2 c3 c4 c5 c6 c7 c8 c9 c10 c11 c12 c13 => wp_X8_stand s1 s2 s3 (ma 0) (ma 3) (ma 2) (ma 6) (ma 4) (ma 8) (ma 9) (ma 5) (fun r2 m0 m1 m2 m3 m4 m5 m6 m7 => r1 = r2 ∧ Inv (va_up (va_up (va_up (va_up (va_up (va_up (va_up (va_up (va_up (va_up (va_up ca 49 c0) 32 c4) 33 c5) 34 c6) 35 c7) 36 c8) 37 c9) 39 c10) 38 c11) 2 c12) 5 c13) (va_up (va_up (va_up ci 17 c1) 18 c2) 19 c3) (va_up (va_up (va_up (va_up (va_up (va_up (va_up (va_up ma 0 m0) 3 m1) 2 m2) 6 m3) 4 m4) 8 m5) 9 m6) 5 m7) mi)) := by
  obtain ⟨tl, hkp, him, re, rv, r0, r1, r2, r3⟩ := h
  obtain ⟨n, sn, ln, F, tn, tk, nv, un, uk, uv, pn, wn, ⟨hn, hsn, hln, ok, wT, wU, hpn, hwn⟩, ⟨tc1, tc2, tc3, cf, cT, cU, tc7, tc8⟩, tm, mc, dc⟩ := id tl
  obtain ⟨tm1, tm2, tm3, tm4, tmT, tmU, tm7, tm8, tm9, tm10⟩ := id tm
  have fin : ∀ w mf df, ag w (ma 0) → MC (meV tn tk nv) mf → DC (deV un uk uv) df → TL (ci 1) (ci 4) (ci 5) (ci 6) (ca 6) (ca 7) (ca 8) (ca 9) (ca 10) (ca 11) (ci 2) (ca 0) (ca 1) (ci 3) (ca 3) (ca 4) (ci 7) (ca 14) (ci 8) (ca 15) w mf df := fun w mf df a1 a2 a3 => ⟨n, sn, ln, F, tn, tk, nv, un, uk, uv, pn, wn, ⟨hn, hsn, hln, ok, wT, wU, hpn, hwn⟩, ⟨tc1, tc2, tc3, cf, cT, cU, tc7, tc8⟩, tm_eq hn wT wU hpn hwn tm a1, a2, a3⟩
  unfold wp_X7_stand wp_X8_stand lb_X7_stand_25 lb_X8_stand_24
  rw [tc1]
  by_cases c : (0 : Int32) ≤ s1 ∧ s1 ≤ nI n - 1
  · by_cases d : (0 : Int32) ≤ s2 ∧ s2 ≤ 20
    · by_cases e : (0 : Int32) ≤ s3 ∧ s3 ≤ 1
      · simp only [e_within, e_isEither, e_within8, e_isSoon8, e_isSoul, e_isSoul8, tm1.1, b2i_t c, b2i_t d, b2i_t e, z10, false_implies, true_implies, not_true_eq_false, not_false_eq_true, true_and, and_true, forall_eq]
        obtain ⟨x, hx, rfl⟩ := soul_of hn c
        obtain ⟨k, hk, rfl⟩ := sm_of (n := 20) (by decide) d
        rw [tc3]
        refine ⟨8 + 1, s_stand hn (by omega) hx cT wT cU wU ok cf tc2 (fun t1 t2 t3 k1 m1 a f g d c hh p q => ?_) 8 0 rfl _ _ _ _ _ _ _ _ _ _ _ _ _ _ _ rfl⟩
        rw [e_sI2 (show x < 8 by omega)]
        exact ⟨8 + 1, m_stand hn (by omega) hx tmT wT tmU wU tm1 ok tm2 (by omega) tm3 (fun nw as ah mf nm p df b1 b2 b3 => ⟨rfl, fin _ _ _ b1 b2 b3, hkp, him, re, rv, r0, r1, r2, r3⟩) 8 0 rfl _ _ _ _ _ _ _ _ _ rfl (fun _ _ _ => rfl) mc dc⟩
      · simp only [e_within, e_isEither, e_within8, e_isSoon8, e_isSoul, e_isSoul8, tm1.1, b2i_t c, b2i_t d, b2i_f e, z10, z00, e_ref1, e_fin1, false_implies, true_implies, not_true_eq_false, not_false_eq_true, true_and, and_true, forall_eq]
        exact (by first | exact ⟨tl, hkp, him, re_upd re (k := 1) (by decide), rv, r0, r1, r2, r3⟩ | exact ⟨rfl, tl, hkp, him, re_upd re (k := 1) (by decide), rv, r0, r1, r2, r3⟩)
    · simp only [e_within, e_isSoon8, e_isSoul, e_isSoul8, tm1.1, b2i_t c, b2i_f d, z10, z00, e_ref1, e_fin1, false_implies, true_implies, not_true_eq_false, not_false_eq_true, true_and, and_true, forall_eq]
      exact (by first | exact ⟨tl, hkp, him, re_upd re (k := 1) (by decide), rv, r0, r1, r2, r3⟩ | exact ⟨rfl, tl, hkp, him, re_upd re (k := 1) (by decide), rv, r0, r1, r2, r3⟩)
  · simp only [e_isSoul, e_isSoul8, tm1.1, b2i_f c, z00, e_ref1, e_fin1, false_implies, true_implies, not_true_eq_false, not_false_eq_true, true_and, and_true, forall_eq]
    exact (by first | exact ⟨tl, hkp, him, re_upd re (k := 1) (by decide), rv, r0, r1, r2, r3⟩ | exact ⟨rfl, tl, hkp, him, re_upd re (k := 1) (by decide), rv, r0, r1, r2, r3⟩)
