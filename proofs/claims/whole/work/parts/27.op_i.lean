theorem s_pass1 {n k tn un sn : Nat} (hn : n ≤ 8) {tk uk : Nat → Nat} {nv uv : Nat → Int32} {lo st size usize : Int32} {free kind m crowd at_ handed signs numbers pile gl usigns unumbers upile deeds : Nat → Int32} {F : Nat → Nat → Int32}
    (T : TRc tn tk nv size signs numbers) (w : wfT tn tk nv) (U : TRc un uk uv usize usigns unumbers) (v : wfT un uk uv) (ok : okP n F) (hst : st = nI (sn + k)) (cf : CF n (itF (meV tn tk nv) (deV un uk uv) n (nI sn) lo F k) kind m at_ free gl deeds) {Q : Int32 → (Nat → Int32) → (Nat → Int32) → (Nat → Int32) → (Nat → Int32) → (Nat → Int32) → (Nat → Int32) → (Nat → Int32) → Prop}
    (h : ∀ st2 f c a hh p q d, st2 = nI (sn + (k + 1)) → CF n (itF (meV tn tk nv) (deV un uk uv) n (nI sn) lo F (k + 1)) kind m a f gl d → Q st2 f c a hh p q d) :
    wp_X0_pass 1 (nI n) st lo free kind m crowd at_ handed size signs numbers pile gl usize usigns unumbers upile deeds Q := by
  subst hst
  refine s_pass (kk := 1) hn (by decide) T w U v (ok_it (fun _ _ _ => sm_deV _ _ _ _ _ _) ok k) cf (fun f c a hh p q d cf2 => h _ f c a hh p q d (by rw [nI_add, Nat.add_assoc]) ?_)
  have e : nI (sn + k) + nI 0 = nI sn + nI k := by rw [nI_add, nI_add, Nat.add_zero]
  have cf3 : CF n (nxF (meV tn tk nv) (deV un uk uv) n (nI (sn + k) + nI 0) lo (itF (meV tn tk nv) (deV un uk uv) n (nI sn) lo F k)) kind m a f gl d := cf2
  rw [e] at cf3
  exact cf3
theorem m_step1 {n tn un sn k : Nat} (hn : n ≤ 8) {tk uk : Nat → Nat} {nv uv now mf named pile ahead df : Nat → Int32} {F : Nat → Nat → Int32} {lo : Int32} (T : TRm tn tk nv 124 now) (w : wfT tn tk nv) (U : TRm un uk uv 176 now) (v : wfT un uk uv) (pn : PN n (itF (meV tn tk nv) (deV un uk uv) n (nI sn) lo F k) now) (ok : okP n F) (h0 : now 0 = nI (sn + k)) (hsn : sn + k < 2 ^ 30) (h2 : now 2 = lo) (mc : MC (meV tn tk nv) mf) (dc : DC (deV un uk uv) df) {Q : (Nat → Int32) → (Nat → Int32) → (Nat → Int32) → (Nat → Int32) → (Nat → Int32) → (Nat → Int32) → Prop}
    (h : ∀ nw ah mf nm p df, nw 0 = nI (sn + (k + 1)) → PN n (itF (meV tn tk nv) (deV un uk uv) n (nI sn) lo F (k + 1)) nw → rst now nw → MC (meV tn tk nv) mf → DC (deV un uk uv) df → Q nw ah mf nm p df) : wp_X8_step now ahead mf named pile df Q := by
  refine m_step hn T w U v pn (ok_it (fun _ _ _ => sm_deV _ _ _ _ _ _) ok k) h0 (by omega) h2 mc dc (fun nw ah mf nm p df b1 b2 b3 b4 b5 => h nw ah mf nm p df ?_ ?_ b3 b4 b5)
  · rw [b1, h0, nI_1, Nat.add_assoc]
  · show PN n (nxF (meV tn tk nv) (deV un uk uv) n (nI sn + nI k) lo (itF (meV tn tk nv) (deV un uk uv) n (nI sn) lo F k)) nw
    rw [nI_add, ← h0]
    exact b2
theorem s_reach {n tn un sn x : Nat} (hn : n ≤ 8) (hx : x < n) {tk uk : Nat → Nat} {nv uv : Nat → Int32} {lo : Int32} {F : Nat → Nat → Int32} {z1 z2 z3 : Int32} {y1 y2 y3 y4 y5 y6 : Nat → Int32} {size usize : Int32} {signs numbers usigns unumbers : Nat → Int32} {rf kind m gl : Nat → Int32}
    (T : TRc tn tk nv size signs numbers) (w : wfT tn tk nv) (U : TRc un uk uv usize usigns unumbers) (v : wfT un uk uv) (ok : okP n F) {Q : Int32 → (Nat → Int32) → Int32 → Int32 → Int32 → (Nat → Int32) → (Nat → Int32) → (Nat → Int32) → (Nat → Int32) → (Nat → Int32) → (Nat → Int32) → (Nat → Int32) → (Nat → Int32) → (Nat → Int32) → (Nat → Int32) → Prop}
    (h1 : ∀ k st a f d c hh p q, k ≤ 60 → ¬ itF (meV tn tk nv) (deV un uk uv) n (nI sn) lo F k 3 x ≤ 0 → (∀ j, j < k → itF (meV tn tk nv) (deV un uk uv) n (nI sn) lo F j 3 x ≤ 0) → Q (nI k) rf (nI n) st lo kind m a f gl d c hh p q)
    (h2 : ∀ st a f d c hh p q, (∀ j, j ≤ 60 → itF (meV tn tk nv) (deV un uk uv) n (nI sn) lo F j 3 x ≤ 0) → Q (-1000000002) (upd rf 2 (rf 2 + 1)) (nI n) st lo kind m a f gl d c hh p q) :
    ∀ r i, i + r = 61 → ∀ st a f d c hh p q, st = nI (sn + i) → CF n (itF (meV tn tk nv) (deV un uk uv) n (nI sn) lo F i) kind m a f gl d → (∀ j, j < i → itF (meV tn tk nv) (deV un uk uv) n (nI sn) lo F j 3 x ≤ 0) → lb_X7_reaches_20 (nI x) z1 z2 z3 y1 y2 y3 y4 y5 y6 size signs numbers usize usigns unumbers Q (r + 1) (nI i) rf (nI n) st lo kind m a f gl d c hh p q := by
  intro r
  induction r with
  | zero =>
    intro i hi st a f d c hh p q e1 e2 e3
    have : i = 61 := by omega
    subst this
    refine ⟨fun _ => ?_, fun c => absurd (show (60 : Int32) < nI 61 by decide) c⟩
    rw [e_ref2]
    exact h2 _ _ _ _ _ _ _ _ (fun j hj => e3 j (by omega))
  | succ r ih =>
    intro i hi st a f d c hh p q e1 e2 e3
    refine ⟨fun c => absurd c ?_, fun _ => ⟨i8 hn hx, fun le => ?_, fun nle => ?_⟩⟩
    · rw [fa_lit 60, lt_nn (by decide) (by omega)]; omega
    · rw [c8 hn hx, (e2 x hx).2.2.2.1] at le
      refine s_pass1 hn T w U v ok e1 e2 (fun st2 f2 c2 a2 hh2 p2 q2 d2 g1 g2 => ?_)
      rw [nI_1]
      refine ih (i + 1) (by omega) _ _ _ _ _ _ _ _ g1 g2 (fun j hj => ?_)
      by_cases e : j = i
      · subst e; exact le
      · exact e3 j (by omega)
    · rw [c8 hn hx, (e2 x hx).2.2.2.1] at nle
      exact h1 i _ _ _ _ _ _ _ _ (by omega) nle e3
theorem z_iff {x : Int32} {b : Nat} (h : sm x b) (hb : b < 2 ^ 31) : x = 0 ↔ x ≤ 0 := by
  obtain ⟨k, hk, rfl⟩ := h
  rw [fa_lit 0, eq_nn (by omega) (by decide), li_nn (by omega) (by decide)]
  omega
theorem m_reach {n tn un sn x : Nat} (hn : n ≤ 8) (hx : x < n) {tk uk : Nat → Nat} {nv uv now er as : Nat → Int32} {F : Nat → Nat → Int32} {lo : Int32} (T : TRm tn tk nv 124 now) (w : wfT tn tk nv) (U : TRm un uk uv 176 now) (v : wfT un uk uv) (ok : okP n F) (hsn : sn < 2 ^ 29) (l2 : now 2 = lo) (has : ag as now) {Q : Int32 → (Nat → Int32) → (Nat → Int32) → (Nat → Int32) → (Nat → Int32) → (Nat → Int32) → (Nat → Int32) → (Nat → Int32) → (Nat → Int32) → Prop}
    (h1 : ∀ k nw ah mf nm p df, k ≤ 60 → ¬ itF (meV tn tk nv) (deV un uk uv) n (nI sn) lo F k 3 x ≤ 0 → (∀ j, j < k → itF (meV tn tk nv) (deV un uk uv) n (nI sn) lo F j 3 x ≤ 0) → ag nw now → MC (meV tn tk nv) mf → DC (deV un uk uv) df → Q (nI k) nw er as ah mf nm p df)
    (h2 : ∀ nw ah mf nm p df, (∀ j, j ≤ 60 → itF (meV tn tk nv) (deV un uk uv) n (nI sn) lo F j 3 x ≤ 0) → ag nw now → MC (meV tn tk nv) mf → DC (deV un uk uv) df → Q (-1000000002) nw (upd er 2 (er 2 + 1)) as ah mf nm p df) :
    ∀ r i, i + r = 60 → ∀ nw ah mf nm p df, nw 0 = nI (sn + i) → PN n (itF (meV tn tk nv) (deV un uk uv) n (nI sn) lo F i) nw → rst now nw → (∀ j, j < i → itF (meV tn tk nv) (deV un uk uv) n (nI sn) lo F j 3 x ≤ 0) → MC (meV tn tk nv) mf → DC (deV un uk uv) df → lb_X8_reaches_28 (nI x) Q (r + 1) (nI i) nw er as ah mf nm p df := by
  have l8 : x < 8 := by omega
  have sm3 : ∀ k, sm (itF (meV tn tk nv) (deV un uk uv) n (nI sn) lo F k 3 x) 99 := fun k => (ok_it (fun _ _ _ => sm_deV _ _ _ _ _ _) ok k x hx).2.2.2.1
  have E : ∀ i, i ≤ 60 → ∀ nw ah mf nm p df, PN n (itF (meV tn tk nv) (deV un uk uv) n (nI sn) lo F i) nw → (∀ j, j < i → itF (meV tn tk nv) (deV un uk uv) n (nI sn) lo F j 3 x ≤ 0) → (¬ itF (meV tn tk nv) (deV un uk uv) n (nI sn) lo F i 3 x ≤ 0 ∨ i = 60) → MC (meV tn tk nv) mf → DC (deV un uk uv) df → lb_X8_reaches_53 (nI x) Q (nI i) nw er as ah mf nm p df := by
    intro i hi nw ah mf nm p df e2 e3 hh m1 d1
    unfold lb_X8_reaches_53
    rw [e_sI3 l8, e2.2 x hx 3 (by decide)]
    refine m_copy (fun w2 hw2 => ⟨fun c => ?_, fun c => ?_⟩)
    · exact h1 i _ _ _ _ _ _ hi (fun q => c ((z_iff (sm3 i) (by decide)).mpr q)) e3 (ag_tr hw2 has) m1 d1
    · have le := (z_iff (sm3 i) (by decide)).mp c
      have : i = 60 := by
        rcases hh with q | q
        · exact absurd le q
        · exact q
      subst this
      rw [e_fin2]
      refine h2 _ _ _ _ _ _ (fun j hj => ?_) (ag_tr hw2 has) m1 d1
      by_cases e : j = 60
      · subst e; exact le
      · exact e3 j (by omega)
  intro r
  induction r with
  | zero =>
    intro i hi nw ah mf nm p df e1 e2 e4 e3 m1 d1
    have : i = 60 := by omega
    subst this
    exact ⟨fun _ => E 60 (by omega) _ _ _ _ _ _ e2 e3 (Or.inr rfl) m1 d1, fun c => absurd (show (60 : Int32) ≤ nI 60 by decide) c⟩
  | succ r ih =>
    intro i hi nw ah mf nm p df e1 e2 e4 e3 m1 d1
    refine ⟨fun c => absurd c (nI_ge (show i < 60 by omega) (by decide)), fun _ => ?_⟩
    rw [e_sI3 l8, e2.2 x hx 3 (by decide)]
    refine ⟨fun c => E i (by omega) _ _ _ _ _ _ e2 e3 (Or.inl (fun q => c ((z_iff (sm3 i) (by decide)).mpr q))) m1 d1, fun c => ?_⟩
    have le := (z_iff (sm3 i) (by decide)).mp c
    refine m_step1 hn (rst_T e4 (by decide) T) w (rst_T e4 (by decide) U) v e2 ok e1 (by omega) ((e4 2 (by omega)).trans l2) m1 d1 (fun nw2 ah2 m2 n2 p2 d2 b1 b2 b3 b4 b5 => ?_)
    rw [nI_1]
    refine ih (i + 1) (by omega) _ _ _ _ _ _ b1 b2 (rst_tr e4 b3) (fun j hj => ?_) b4 b5
    by_cases e : j = i
    · subst e; exact le
    · exact e3 j (by omega)
set_option maxHeartbeats 4000000 in
set_option maxRecDepth 100000 in
theorem op_reaches {ca : Nat → Nat → Int32} {ci : Nat → Int32} {ma : Nat → Nat → Int32} {mi : Nat → Int32} (h : Inv ca ci ma mi) (s1 : Int32) : wp_X7_reaches s1 (ci 4) (ci 5) (ci 6) (ca 49) (ci 17) (ci 18) (ci 19) (ca 6) (ca 32) (ca 7) (ca 33) (ca 8) (ca 34) (ca 9) (ca 35) (ca 10) (ca 36) (ca 11) (ca 37) (ca 39) (ca 38) (ci 2) (ca 0) (ca 1) (ca 2) (ci 3) (ca 3) (ca 4) (ca 5) (fun r1 c0 c1 c2 c3 c4 c5 c6 c7 c8 c9 c10 c11 c12 c13 => wp_X8_reaches s1 (ma 0) (ma 3) (ma 2) (ma 6) (ma 4) (ma 8) (ma 9) (ma 5) (fun r2 m0 m1 m2 m3 m4 m5 m6 m7 => r1 = r2 ∧ Inv (va_up (va_up (va_up (va_up (va_up (va_up (va_up (va_up (va_up (va_up (va_up ca 49 c0) 32 c4) 33 c5) 34 c6) 35 c7) 36 c8) 37 c9) 39 c10) 38 c11) 2 c12) 5 c13) (va_up (va_up (va_up ci 17 c1) 18 c2) 19 c3) (va_up (va_up (va_up (va_up (va_up (va_up (va_up (va_up ma 0 m0) 3 m1) 2 m2) 6 m3) 4 m4) 8 m5) 9 m6) 5 m7) mi)) := by
  obtain ⟨tl, hkp, him, re, rv, r0, r1, r2, r3⟩ := h
  obtain ⟨n, sn, ln, F, tn, tk, nv, un, uk, uv, pn, wn, ⟨hn, hsn, hln, ok, wT, wU, hpn, hwn⟩, ⟨tc1, tc2, tc3, cf, cT, cU, tc7, tc8⟩, tm, mc, dc⟩ := id tl
  obtain ⟨tm1, tm2, tm3, tm4, tmT, tmU, tm7, tm8, tm9, tm10⟩ := id tm
  have fin : ∀ w mf df, ag w (ma 0) → MC (meV tn tk nv) mf → DC (deV un uk uv) df → TL (ci 1) (ci 4) (ci 5) (ci 6) (ca 6) (ca 7) (ca 8) (ca 9) (ca 10) (ca 11) (ci 2) (ca 0) (ca 1) (ci 3) (ca 3) (ca 4) (ci 7) (ca 14) (ci 8) (ca 15) w mf df := fun w mf df a1 a2 a3 => ⟨n, sn, ln, F, tn, tk, nv, un, uk, uv, pn, wn, ⟨hn, hsn, hln, ok, wT, wU, hpn, hwn⟩, ⟨tc1, tc2, tc3, cf, cT, cU, tc7, tc8⟩, tm_eq hn wT wU hpn hwn tm a1, a2, a3⟩
  unfold wp_X7_reaches wp_X8_reaches
  rw [tc1]
  by_cases c : (0 : Int32) ≤ s1 ∧ s1 ≤ nI n - 1
  · simp only [e_isSoul, e_isSoul8, tm1.1, b2i_t c, z10, false_implies, true_implies, not_true_eq_false, not_false_eq_true, true_and, and_true, forall_eq]
    obtain ⟨x, hx, rfl⟩ := soul_of hn c
    refine s_think hn cf (fun k1 m1 a1 f1 g1 d1 cf1 => ?_)
    refine ⟨61 + 1, ?_⟩
    have M : ∀ (R : Int32 → (Nat → Int32) → (Nat → Int32) → (Nat → Int32) → (Nat → Int32) → (Nat → Int32) → (Nat → Int32) → (Nat → Int32) → (Nat → Int32) → Prop) , (∀ as k nw ah mf nm p df, k ≤ 60 → ¬ itF (meV tn tk nv) (deV un uk uv) n (nI sn) (nI ln) F k 3 x ≤ 0 → (∀ j, j < k → itF (meV tn tk nv) (deV un uk uv) n (nI sn) (nI ln) F j 3 x ≤ 0) → ag nw (ma 0) → MC (meV tn tk nv) mf → DC (deV un uk uv) df → R (nI k) nw (ma 3) as ah mf nm p df) → (∀ as nw ah mf nm p df, (∀ j, j ≤ 60 → itF (meV tn tk nv) (deV un uk uv) n (nI sn) (nI ln) F j 3 x ≤ 0) → ag nw (ma 0) → MC (meV tn tk nv) mf → DC (deV un uk uv) df → R (-1000000002) nw (upd (ma 3) 2 (ma 3 2 + 1)) as ah mf nm p df) → wp_X8_copy (ma 0) (ma 2) (fun o3 => ∃ n, lb_X8_reaches_28 (nI x) R n 0 (ma 0) (ma 3) o3 (ma 6) (ma 4) (ma 8) (ma 9) (ma 5)) := fun R h1 h2 => m_copy (fun as has => ⟨60 + 1, m_reach hn hx tmT wT tmU wU ok (by omega) tm3 has (h1 as) (h2 as) 60 0 rfl _ _ _ _ _ _ tm2 tm1 (rst_rf _) (fun j hj => absurd hj (by omega)) mc dc⟩)
    rw [tc3]
    refine s_reach hn hx cT wT cU wU ok ?_ ?_ 61 0 rfl _ _ _ _ _ _ _ _ tc2 cf1 (fun j hj => absurd hj (by omega))
    · intro k st a f d cc hh p q hk hp hj
      refine M _ (fun as k' nw ah mf nm p df hk' hp' hj' ha hm hd => ⟨?_, fin _ _ _ ha hm hd, hkp, him, re, rv, r0, r1, r2, r3⟩) (fun as nw ah mf nm p df hj' ha hm hd => absurd (hj' k hk) hp)
      congr 1
      rcases Nat.lt_trichotomy k k' with e | e | e
      · exact absurd (hj' k e) hp
      · exact e
      · exact absurd (hj k' e) hp'
    · intro st a f d cc hh p q hj
      refine M _ (fun as k' nw ah mf nm p df hk' hp' hj' ha hm hd => absurd (hj k' hk') hp') (fun as nw ah mf nm p df hj' ha hm hd => ⟨rfl, fin _ _ _ ha hm hd, hkp, him, re_upd re (k := 2) (by decide), rv, r0, r1, r2, r3⟩)
  · simp only [e_isSoul, e_isSoul8, tm1.1, b2i_f c, z00, e_ref1, e_fin1, false_implies, true_implies, not_true_eq_false, not_false_eq_true, true_and, and_true, forall_eq]
    exact (by first | exact ⟨tl, hkp, him, re_upd re (k := 1) (by decide), rv, r0, r1, r2, r3⟩ | exact ⟨rfl, tl, hkp, him, re_upd re (k := 1) (by decide), rv, r0, r1, r2, r3⟩)
