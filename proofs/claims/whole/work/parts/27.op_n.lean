theorem s_check {n tn un sn wn : Nat} (hn : n ≤ 8) (hw : wn ≤ 20) {tk uk : Nat → Nat} {nv uv wi : Nat → Int32} {lo : Int32} {F : Nat → Nat → Int32} {z1 z2 z3 : Int32} {y1 y2 y3 y4 y5 y6 : Nat → Int32} {size usize : Int32} {signs numbers usigns unumbers : Nat → Int32} {kind m gl : Nat → Int32}
    (T : TRc tn tk nv size signs numbers) (w : wfT tn tk nv) (U : TRc un uk uv usize usigns unumbers) (v : wfT un uk uv) (ok : okP n F) {Q : Int32 → Int32 → Int32 → Int32 → (Nat → Int32) → (Nat → Int32) → (Nat → Int32) → (Nat → Int32) → (Nat → Int32) → (Nat → Int32) → (Nat → Int32) → (Nat → Int32) → (Nat → Int32) → (Nat → Int32) → Prop}
    (h1 : ∀ k t1 t2 t3 k1 m1 a f g d c hh p q, k < wn → ¬ smI (itF (meV tn tk nv) (deV un uk uv) n (nI sn) lo F (k + 1) 3) n = wi k → (∀ j, j < k → smI (itF (meV tn tk nv) (deV un uk uv) n (nI sn) lo F (j + 1) 3) n = wi j) → Q (nI k) t1 t2 t3 k1 m1 a f g d c hh p q)
    (h2 : ∀ t1 t2 t3 k1 m1 a f g d c hh p q, (∀ j, j < wn → smI (itF (meV tn tk nv) (deV un uk uv) n (nI sn) lo F (j + 1) 3) n = wi j) → Q (-1) t1 t2 t3 k1 m1 a f g d c hh p q) :
    ∀ r i, i + r = wn → ∀ st a f d c hh p q, st = nI (sn + i) → CF n (itF (meV tn tk nv) (deV un uk uv) n (nI sn) lo F i) kind m a f gl d → (∀ j, j < i → smI (itF (meV tn tk nv) (deV un uk uv) n (nI sn) lo F (j + 1) 3) n = wi j) → lb_X7_firstWrongOfWaiting_6 z1 z2 z3 y1 y2 y3 y4 y5 y6 (nI wn) size signs numbers usize usigns unumbers wi Q (r + 1) (nI i) (nI n) st lo kind m a f gl d c hh p q := by
  intro r
  induction r with
  | zero =>
    intro i hi st a f d c hh p q e1 e2 e3
    have : i = wn := by omega
    subst this
    exact ⟨fun _ => h2 _ _ _ _ _ _ _ _ _ _ _ _ _ e3, fun c => absurd (Int32.le_refl _) c⟩
  | succ r ih =>
    intro i hi st a f d c hh p q e1 e2 e3
    refine ⟨fun c => absurd c (nI_ge (show i < wn by omega) (by omega)), fun _ => ?_⟩
    refine s_pass1 hn T w U v ok e1 e2 (fun st2 f2 c2 a2 hh2 p2 q2 d2 g1 g2 => s_freeTog hn ⟨vp_in_nI (by omega) (by decide), ?_⟩)
    rw [nI_clamp (by omega), nI_1, smI_cong (f := f2) (fun j hj => (g2 j hj).2.2.2.1)]
    refine ⟨fun c => ih (i + 1) (by omega) _ _ _ _ _ _ _ _ g1 g2 (fun j hj => ?_), fun c => h1 i _ _ _ _ _ _ _ _ _ _ _ _ _ (by omega) c e3⟩
    by_cases e : j = i
    · subst e; exact c
    · exact e3 j (by omega)
theorem m_check {n tn un sn wn : Nat} (hn : n ≤ 8) (hw : wn ≤ 20) {tk uk : Nat → Nat} {nv uv wi now as : Nat → Int32} {F : Nat → Nat → Int32} {lo : Int32} (T : TRm tn tk nv 124 now) (w : wfT tn tk nv) (U : TRm un uk uv 176 now) (v : wfT un uk uv) (ok : okP n F) (hsn : sn < 2 ^ 29) (l2 : now 2 = lo) (hwi : ∀ j, j < wn → wi j = now (104 + j)) (has : ag as now) {Q : Int32 → (Nat → Int32) → (Nat → Int32) → (Nat → Int32) → (Nat → Int32) → (Nat → Int32) → (Nat → Int32) → (Nat → Int32) → Prop}
    (h1 : ∀ k nw ah mf nm p df, k < wn → ¬ smI (itF (meV tn tk nv) (deV un uk uv) n (nI sn) lo F (k + 1) 3) n = wi k → (∀ j, j < k → smI (itF (meV tn tk nv) (deV un uk uv) n (nI sn) lo F (j + 1) 3) n = wi j) → ag nw now → MC (meV tn tk nv) mf → DC (deV un uk uv) df → Q (1 + nI k) nw as ah mf nm p df)
    (h2 : ∀ nw ah mf nm p df, (∀ j, j < wn → smI (itF (meV tn tk nv) (deV un uk uv) n (nI sn) lo F (j + 1) 3) n = wi j) → ag nw now → MC (meV tn tk nv) mf → DC (deV un uk uv) df → Q 0 nw as ah mf nm p df) :
    ∀ r i, i + r = wn → ∀ nw ah mf nm p df, nw 0 = nI (sn + i) → PN n (itF (meV tn tk nv) (deV un uk uv) n (nI sn) lo F i) nw → rst now nw → (∀ j, j < i → smI (itF (meV tn tk nv) (deV un uk uv) n (nI sn) lo F (j + 1) 3) n = wi j) → MC (meV tn tk nv) mf → DC (deV un uk uv) df → lb_X8_check_29 Q (r + 2) (nI wn) 0 (nI i) nw as ah mf nm p df := by
  intro r
  induction r with
  | zero =>
    intro i hi nw ah mf nm p df e1 e2 e4 e3 m1 d1
    have : i = wn := by omega
    subst this
    exact ⟨fun _ => m_copy (fun w2 hw2 => h2 _ _ _ _ _ _ e3 (ag_tr hw2 has) m1 d1), fun c => absurd (Int32.le_refl _) c⟩
  | succ r ih =>
    intro i hi nw ah mf nm p df e1 e2 e4 e3 m1 d1
    refine ⟨fun c => absurd c (nI_ge (show i < wn by omega) (by omega)), fun _ => ⟨fun c => absurd rfl c, fun _ => ?_⟩⟩
    refine m_step1 hn (rst_T e4 (by decide) T) w (rst_T e4 (by decide) U) v e2 ok e1 (by omega) ((e4 2 (by omega)).trans l2) m1 d1 (fun nw2 ah2 m2 n2 p2 d2 b1 b2 b3 b4 b5 => ?_)
    rw [fa_lit 104, nI_add]
    refine ⟨vp_in_nI (by omega) (by decide), m_sum3 hn b2.1 ?_⟩
    rw [nI_clamp (by omega), nI_1, (rst_tr e4 b3) _ (by omega), ← hwi i (by omega), smI_cong (f := fun j => nw2 (6 + 6 * j + 3)) (g := itF (meV tn tk nv) (deV un uk uv) n (nI sn) lo F (i + 1) 3) (fun j hj => b2.2 j hj 3 (by decide))]
    refine ⟨fun c => ?_, fun c => ih (i + 1) (by omega) _ _ _ _ _ _ b1 b2 (rst_tr e4 b3) (fun j hj => ?_) b4 b5⟩
    · rintro v1 rfl
      have fin : lb_X8_check_73 Q (1 + nI i) nw2 as ah2 m2 n2 p2 d2 := m_copy (fun w2 hw2 => h1 i _ _ _ _ _ _ (by omega) (fun q => c q.symm) e3 (ag_tr hw2 has) b4 b5)
      have nz : ¬ (1 : Int32) + nI i = 0 := by
        rw [fa_lit 1, nI_add, fa_lit 0, eq_nn (by omega) (by decide)]; omega
      exact ⟨fun _ => fin, fun _ => ⟨fun _ => fin, fun q => absurd q nz⟩⟩
    · by_cases e : j = i
      · subst e; exact c.symm
      · exact e3 j (by omega)
set_option maxHeartbeats 4000000 in
set_option maxRecDepth 100000 in
theorem op_check {ca : Nat → Nat → Int32} {ci : Nat → Int32} {ma : Nat → Nat → Int32} {mi : Nat → Int32} (h : Inv ca ci ma mi) : wp_X7_check (ci 4) (ci 5) (ci 6) (ci 17) (ci 18) (ci 19) (ca 6) (ca 32) (ca 7) (ca 33) (ca 8) (ca 34) (ca 9) (ca 35) (ca 10) (ca 36) (ca 11) (ca 37) (ci 8) (ca 39) (ca 38) (ci 2) (ca 0) (ca 1) (ca 2) (ci 3) (ca 3) (ca 4) (ca 5) (ca 15) (fun r1 c0 c1 c2 c3 c4 c5 c6 c7 c8 c9 c10 c11 c12 c13 => wp_X8_check (ma 0) (ma 2) (ma 6) (ma 4) (ma 8) (ma 9) (ma 5) (fun r2 m0 m1 m2 m3 m4 m5 m6 => r1 = r2 ∧ Inv (va_up (va_up (va_up (va_up (va_up (va_up (va_up (va_up (va_up (va_up ca 32 c3) 33 c4) 34 c5) 35 c6) 36 c7) 37 c8) 39 c10) 38 c11) 2 c12) 5 c13) (va_up (va_up (va_up (va_up ci 17 c0) 18 c1) 19 c2) 8 c9) (va_up (va_up (va_up (va_up (va_up (va_up (va_up ma 0 m0) 2 m1) 6 m2) 4 m3) 8 m4) 9 m5) 5 m6) mi)) := by
  obtain ⟨tl, hkp, him, re, rv, r0, r1, r2, r3⟩ := h
  obtain ⟨n, sn, ln, F, tn, tk, nv, un, uk, uv, pn, wn, ⟨hn, hsn, hln, ok, wT, wU, hpn, hwn⟩, ⟨tc1, tc2, tc3, cf, cT, cU, tc7, tc8⟩, tm, mc, dc⟩ := id tl
  obtain ⟨tm1, tm2, tm3, tm4, tmT, tmU, tm7, tm8, tm9, tm10⟩ := id tm
  unfold wp_X7_check wp_X8_check wp_X7_firstWrongOfWaiting wp_X4_clear
  rw [tc1, tc8, tm9, tc3]
  have n5 : ∀ j, j ≠ 5 → upd (ma 0) 5 0 j = ma 0 j := fun j hj => up_n hj
  have tm' : TM n sn ln F tn tk nv un uk uv pn 0 (ci 1) (ca 14) (ca 15) (upd (ma 0) 5 0) := ⟨⟨(n5 _ (by omega)).trans tm1.1, fun i hi f hf => (n5 _ (by omega)).trans (tm1.2 i hi f hf)⟩, (n5 _ (by omega)).trans tm2, (n5 _ (by omega)).trans tm3, (n5 _ (by omega)).trans tm4, ⟨(n5 _ (by omega)).trans tmT.1, fun i hi => (n5 _ (by omega)).trans (tmT.2 i hi)⟩, ⟨(n5 _ (by omega)).trans tmU.1, fun i hi => (n5 _ (by omega)).trans (tmU.2 i hi)⟩, (n5 _ (by omega)).trans tm7, fun i hi => by rw [n5 _ (by omega)]; exact tm8 i hi, up_s, fun i hi => absurd hi (by omega)⟩
  have fin : ∀ w mf df, ag w (upd (ma 0) 5 0) → MC (meV tn tk nv) mf → DC (deV un uk uv) df → TL (ci 1) (ci 4) (ci 5) (ci 6) (ca 6) (ca 7) (ca 8) (ca 9) (ca 10) (ca 11) (ci 2) (ca 0) (ca 1) (ci 3) (ca 3) (ca 4) (ci 7) (ca 14) 0 (ca 15) w mf df := fun w mf df a1 a2 a3 => ⟨n, sn, ln, F, tn, tk, nv, un, uk, uv, pn, 0, ⟨hn, hsn, hln, ok, wT, wU, hpn, by decide⟩, ⟨tc1, tc2, tc3, cf, cT, cU, tc7, rfl⟩, tm_eq hn wT wU hpn (by decide) tm' a1, a2, a3⟩
  obtain ⟨u1, u2, u3, u4, uT, uU, u7, u8, u9, u10⟩ := id tm'
  refine s_think hn cf (fun k1 m1 a1 f1 g1 d1 cf1 => ⟨wn + 1, ?_⟩)
  have M : ∀ (R : Int32 → (Nat → Int32) → (Nat → Int32) → (Nat → Int32) → (Nat → Int32) → (Nat → Int32) → (Nat → Int32) → (Nat → Int32) → Prop) , (∀ as k nw ah mf nm p df, k < wn → ¬ smI (itF (meV tn tk nv) (deV un uk uv) n (nI sn) (nI ln) F (k + 1) 3) n = ca 15 k → (∀ j, j < k → smI (itF (meV tn tk nv) (deV un uk uv) n (nI sn) (nI ln) F (j + 1) 3) n = ca 15 j) → ag nw (upd (ma 0) 5 0) → MC (meV tn tk nv) mf → DC (deV un uk uv) df → R (1 + nI k) nw as ah mf nm p df) → (∀ as nw ah mf nm p df, (∀ j, j < wn → smI (itF (meV tn tk nv) (deV un uk uv) n (nI sn) (nI ln) F (j + 1) 3) n = ca 15 j) → ag nw (upd (ma 0) 5 0) → MC (meV tn tk nv) mf → DC (deV un uk uv) df → R 0 nw as ah mf nm p df) → ∀ v1 : Int32, v1 = nI wn → wp_X8_copy (upd (ma 0) 5 0) (ma 2) (fun o2 => ∃ n, lb_X8_check_29 R n v1 0 0 (upd (ma 0) 5 0) o2 (ma 6) (ma 4) (ma 8) (ma 9) (ma 5)) := fun R h1 h2 v1 hv1 => by
    subst hv1
    exact m_copy (fun as has => ⟨wn + 2, m_check hn hwn uT wT uU wU ok (by omega) u3 (fun j hj => by rw [n5 _ (by omega)]; exact tm10 j hj) has (h1 as) (h2 as) wn 0 (Nat.zero_add wn) _ _ _ _ _ _ u2 u1 (rst_rf _) (fun j hj => absurd hj (by omega)) mc dc⟩)
  refine s_check hn hwn cT wT cU wU ok ?_ ?_ wn 0 (Nat.zero_add wn) _ _ _ _ _ _ _ _ tc2 cf1 (fun j hj => absurd hj (by omega))
  · intro k t1 t2 t3 k1 m1 a f g d cc hh p q hk hp hj
    refine ⟨fun _ => M _ (fun as k' nw ah mf nm p df hk' hp' hj' ha hm hd => ⟨?_, fin _ _ _ ha hm hd, hkp, him, re, rv, r0, r1, r2, r3⟩) (fun as nw ah mf nm p df hj' ha hm hd => absurd (hj' k hk) hp), fun c => absurd (show (0 : Int32) ≤ nI k by rw [fa_lit 0, li_nn (by decide) (by omega)]; omega) c⟩
    congr 2
    rcases Nat.lt_trichotomy k k' with e | e | e
    · exact absurd (hj' k e) hp
    · exact e
    · exact absurd (hj k' e) hp'
  · intro t1 t2 t3 k1 m1 a f g d cc hh p q hj
    exact ⟨fun c => absurd c (by decide), fun _ => M _ (fun as k' nw ah mf nm p df hk' hp' hj' ha hm hd => absurd (hj k' hk') hp') (fun as nw ah mf nm p df hj' ha hm hd => ⟨rfl, fin _ _ _ ha hm hd, hkp, him, re, rv, r0, r1, r2, r3⟩)⟩
