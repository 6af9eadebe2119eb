def ag (w now : Nat → Int32) : Prop := ∀ j, j < 228 → w j = now j
theorem ag_rf (w : Nat → Int32) : ag w w := fun _ _ => rfl
theorem ag_tr {a b c : Nat → Int32} (h : ag a b) (h2 : ag b c) : ag a c := fun j hj => (h j hj).trans (h2 j hj)
theorem ag_T {w now : Nat → Int32} (r : ag w now) {tn B : Nat} {tk : Nat → Nat} {nv : Nat → Int32} (hB : B + 51 ≤ 228) (wf : wfT tn tk nv) (T : TRm tn tk nv B now) : TRm tn tk nv B w := ⟨(r B (by omega)).trans T.1, fun i hi => (r _ (by have := wf.1; omega)).trans (T.2 i hi)⟩
theorem ag_PN {w now : Nat → Int32} (r : ag w now) {n : Nat} (hn : n ≤ 8) {F : Nat → Nat → Int32} (h : PN n F now) : PN n F w := ⟨(r 1 (by decide)).trans h.1, fun i hi f hf => (r _ (by omega)).trans (h.2 i hi f hf)⟩
theorem tm_eq {n sn ln : Nat} (hn : n ≤ 8) {F : Nat → Nat → Int32} {tn : Nat} {tk : Nat → Nat} {nv : Nat → Int32} {un : Nat} {uk : Nat → Nat} {uv : Nat → Int32} (wT : wfT tn tk nv) (wU : wfT un uk uv) {pn wn : Nat} {z : Int32} {ti wi now w : Nat → Int32} (hpn : pn ≤ 50) (hwn : wn ≤ 20) (h : TM n sn ln F tn tk nv un uk uv pn wn z ti wi now) (r : ag w now) : TM n sn ln F tn tk nv un uk uv pn wn z ti wi w := by
  obtain ⟨a1, a2, a3, a4, a5, a6, a7, a8, a9, a10⟩ := h
  exact ⟨ag_PN r hn a1, (r _ (by decide)).trans a2, (r _ (by decide)).trans a3, (r _ (by decide)).trans a4, ag_T r (by decide) wT a5, ag_T r (by decide) wU a6, (r _ (by decide)).trans a7, fun i hi => by rw [r _ (by omega)]; exact a8 i hi, (r _ (by decide)).trans a9, fun i hi => by rw [r _ (by omega)]; exact a10 i hi⟩
theorem cpy8 {f g : Nat → Int32} {j : Nat} (h : j < 8) : va_cpy f g (0 : Int32).toNatClampNeg (0 : Int32).toNatClampNeg (8 : Int32).toNatClampNeg j = f j := by
  show (if 0 ≤ j ∧ j < 0 + 8 then f (0 + (j - 0)) else g j) = f j
  rw [if_pos (by omega), Nat.zero_add, Nat.sub_zero]
theorem s_think {n : Nat} (hn : n ≤ 8) {F : Nat → Nat → Int32} {size step loss x1 x2 x3 : Int32} {kind m at_ free gl de k0 m0 a0 f0 g0 d0 : Nat → Int32} (cf : CF n F kind m at_ free gl de) {Q : Int32 → Int32 → Int32 → (Nat → Int32) → (Nat → Int32) → (Nat → Int32) → (Nat → Int32) → (Nat → Int32) → (Nat → Int32) → Prop}
    (h : ∀ k m a f g d, CF n F k m a f g d → Q size step loss k m a f g d) : wp_X7_think size step loss x1 x2 x3 kind k0 m m0 at_ a0 free f0 gl g0 de d0 Q := by
  unfold wp_X7_think wp_X0_copy
  refine h _ _ _ _ _ _ (fun i hi => ?_)
  have l8 : i < 8 := by omega
  rw [cpy8 l8, cpy8 l8, cpy8 l8, cpy8 l8, cpy8 l8, cpy8 l8]
  exact cf i hi
theorem m_freeBehind {n tn un sn kk i : Nat} (hn : n ≤ 8) (hkk : kk ≤ 60) (hi : i < n) {tk uk : Nat → Nat} {nv uv now aside mf named pile ahead df : Nat → Int32} {F : Nat → Nat → Int32} {lo : Int32} (T : TRm tn tk nv 124 now) (w : wfT tn tk nv) (U : TRm un uk uv 176 now) (v : wfT un uk uv) (pn : PN n F now) (ok : okP n F) (h0 : now 0 = nI sn) (hsn : sn < 2 ^ 30) (h2 : now 2 = lo) (mc : MC (meV tn tk nv) mf) (dc : DC (deV un uk uv) df) {Q : Int32 → (Nat → Int32) → (Nat → Int32) → (Nat → Int32) → (Nat → Int32) → (Nat → Int32) → (Nat → Int32) → (Nat → Int32) → Prop}
    (h : ∀ nw as ah mf nm p df, ag nw now → MC (meV tn tk nv) mf → DC (deV un uk uv) df → Q (itF (meV tn tk nv) (deV un uk uv) n (nI sn) lo F kk 3 i) nw as ah mf nm p df) : wp_X8_freeBehind (nI i) (nI kk) now aside ahead mf named pile df Q := by
  unfold wp_X8_freeBehind
  refine m_copy (fun as has => m_steps hn hkk T w U v pn ok h0 hsn h2 mc dc (fun nw ah mf nm p df b1 b2 b3 b4 b5 => ?_))
  rw [e_sI3 (show i < 8 by omega), b2.2 i hi 3 (by decide)]
  unfold wp_X8_putBack
  exact m_copy (fun w2 hw2 => h w2 as ah mf nm p df (fun j hj => (hw2 j hj).trans (has j hj)) b4 b5)
set_option maxHeartbeats 4000000 in
set_option maxRecDepth 100000 in
theorem op_then {ca : Nat → Nat → Int32} {ci : Nat → Int32} {ma : Nat → Nat → Int32} {mi : Nat → Int32} (h : Inv ca ci ma mi) (s1 : Int32) (s2 : Int32) (s3 : Int32) : wp_X7_then s1 s2 s3 (ci 4) (ci 5) (ci 6) (ca 49) (ci 17) (ci 18) (ci 19) (ca 6) (ca 32) (ca 7) (ca 33) (ca 8) (ca 34) (ca 9) (ca 35) (ca 10) (ca 36) (ca 11) (ca 37) (ca 39) (ca 38) (ci 2) (ca 0) (ca 1) (ca 2) (ci 3) (ca 3) (ca 4) (ca 5) (fun r1 c0 c1 c2 c3 c4 c5 c6 c7 c8 c9 c10 c11 c12 c13 => wp_X8_then s1 s2 s3 (ma 0) (ma 3) (ma 2) (ma 6) (ma 4) (ma 8) (ma 9) (ma 5) (fun r2 m0 m1 m2 m3 m4 m5 m6 m7 => r1 = r2 ∧ Inv (va_up (va_up (va_up (va_up (va_up (va_up (va_up (va_up (va_up (va_up (va_up ca 49 c0) 32 c4) 33 c5) 34 c6) 35 c7) 36 c8) 37 c9) 39 c10) 38 c11) 2 c12) 5 c13) (va_up (va_up (va_up ci 17 c1) 18 c2) 19 c3) (va_up (va_up (va_up (va_up (va_up (va_up (va_up (va_up ma 0 m0) 3 m1) 2 m2) 6 m3) 4 m4) 8 m5) 9 m6) 5 m7) mi)) := by
  obtain ⟨tl, hkp, him, re, rv, r0, r1, r2, r3⟩ := h
  obtain ⟨n, sn, ln, F, tn, tk, nv, un, uk, uv, pn, wn, ⟨hn, hsn, hln, ok, wT, wU, hpn, hwn⟩, ⟨tc1, tc2, tc3, cf, cT, cU, tc7, tc8⟩, tm, mc, dc⟩ := id tl
  obtain ⟨tm1, tm2, tm3, tm4, tmT, tmU, tm7, tm8, tm9, tm10⟩ := id tm
  have fin : ∀ w mf df, ag w (ma 0) → MC (meV tn tk nv) mf → DC (deV un uk uv) df → TL (ci 1) (ci 4) (ci 5) (ci 6) (ca 6) (ca 7) (ca 8) (ca 9) (ca 10) (ca 11) (ci 2) (ca 0) (ca 1) (ci 3) (ca 3) (ca 4) (ci 7) (ca 14) (ci 8) (ca 15) w mf df := fun w mf df a1 a2 a3 => ⟨n, sn, ln, F, tn, tk, nv, un, uk, uv, pn, wn, ⟨hn, hsn, hln, ok, wT, wU, hpn, hwn⟩, ⟨tc1, tc2, tc3, cf, cT, cU, tc7, tc8⟩, tm_eq hn wT wU hpn hwn tm a1, a2, a3⟩
  unfold wp_X7_then wp_X8_then lb_X7_then_27 lb_X8_then_24 lb_X8_then_68
  rw [tc1]
  by_cases c : (0 : Int32) ≤ s1 ∧ s1 ≤ 60
  · by_cases d : (0 : Int32) ≤ s2 ∧ s2 ≤ nI n - 1
    · by_cases e : (0 : Int32) ≤ s3 ∧ s3 ≤ 2
      · simp only [e_within, e_within8, e_isBehind8, e_isSoul, e_isSoul8, tm1.1, b2i_t c, b2i_t d, b2i_t e, z10, false_implies, true_implies, not_true_eq_false, not_false_eq_true, true_and, and_true, forall_eq]
        obtain ⟨k, hk, rfl⟩ := sm_of (n := 60) (by decide) c
        obtain ⟨i, hi, rfl⟩ := soul_of hn d
        have l8 : i < 8 := by omega
        refine s_think hn cf (fun k1 m1 a1 f1 g1 d1 cf1 => ?_)
        refine s_pass hn (by omega) cT wT cU wU ok cf1 (fun f cr a hh p q d cf' => ?_)
        rw [tc2, tc3] at cf'
        have M : ∀ (R : (Nat → Int32) → (Nat → Int32) → (Nat → Int32) → (Nat → Int32) → (Nat → Int32) → (Nat → Int32) → (Nat → Int32) → Prop), (∀ as nw ah mf nm p df, ag as (ma 0) → PN n (itF (meV tn tk nv) (deV un uk uv) n (nI sn) (nI ln) F k) nw → MC (meV tn tk nv) mf → DC (deV un uk uv) df → R as nw ah mf nm p df) → wp_X8_copy (ma 0) (ma 2) (fun o9 => wp_X8_stepsGo (nI k) (ma 0) (ma 6) (ma 4) (ma 8) (ma 9) (ma 5) (fun o10 o11 o12 o13 o14 o15 => R o9 o10 o11 o12 o13 o14 o15)) := fun R hR => m_copy (fun as has => m_steps hn hk tmT wT tmU wU tm1 ok tm2 (by omega) tm3 mc dc (fun nw ah mf nm p df b1 b2 b3 b4 b5 => hR as nw ah mf nm p df has b2 b4 b5))
        rw [c8 hn hi]
        refine ⟨fun q => ⟨i8 hn hi, ?_⟩, fun q => ⟨i8 hn hi, ?_⟩, fun q0 q1 => ⟨i8 hn hi, ?_⟩⟩
        · refine M _ (fun as nw ah mf nm p df has b2 b4 b5 => ?_)
          simp only [q, e_sI3 l8, false_implies, true_implies, not_true_eq_false, not_false_eq_true, true_and, and_true, forall_eq]
          exact m_copy (fun w2 hw2 => ⟨by rw [b2.2 i hi 3 (by decide), (cf' i hi).2.2.2.1], fin _ _ _ (fun j hj => (hw2 j hj).trans (has j hj)) b4 b5, hkp, him, re, rv, r0, r1, r2, r3⟩)
        · refine M _ (fun as nw ah mf nm p df has b2 b4 b5 => ?_)
          simp +decide only [q, e_sI2 l8, false_implies, true_implies, not_true_eq_false, not_false_eq_true, true_and, and_true, forall_eq]
          exact m_copy (fun w2 hw2 => ⟨by rw [b2.2 i hi 2 (by decide), (cf' i hi).2.2.1], fin _ _ _ (fun j hj => (hw2 j hj).trans (has j hj)) b4 b5, hkp, him, re, rv, r0, r1, r2, r3⟩)
        · refine M _ (fun as nw ah mf nm p df has b2 b4 b5 => ?_)
          simp only [q0, q1, e_sI5 l8, false_implies, true_implies, not_true_eq_false, not_false_eq_true, true_and, and_true, forall_eq]
          exact m_copy (fun w2 hw2 => ⟨by rw [b2.2 i hi 5 (by decide), (cf' i hi).2.2.2.2.2], fin _ _ _ (fun j hj => (hw2 j hj).trans (has j hj)) b4 b5, hkp, him, re, rv, r0, r1, r2, r3⟩)
      · simp only [e_within, e_within8, e_isBehind8, e_isSoul, e_isSoul8, tm1.1, b2i_t c, b2i_t d, b2i_f e, z10, z00, e_ref1, e_fin1, false_implies, true_implies, not_true_eq_false, not_false_eq_true, true_and, and_true, forall_eq]
        exact (by first | exact ⟨tl, hkp, him, re_upd re (k := 1) (by decide), rv, r0, r1, r2, r3⟩ | exact ⟨rfl, tl, hkp, him, re_upd re (k := 1) (by decide), rv, r0, r1, r2, r3⟩)
    · simp only [e_within, e_within8, e_isBehind8, e_isSoul, e_isSoul8, tm1.1, b2i_t c, b2i_f d, z10, z00, e_ref1, e_fin1, false_implies, true_implies, not_true_eq_false, not_false_eq_true, true_and, and_true, forall_eq]
      exact (by first | exact ⟨tl, hkp, him, re_upd re (k := 1) (by decide), rv, r0, r1, r2, r3⟩ | exact ⟨rfl, tl, hkp, him, re_upd re (k := 1) (by decide), rv, r0, r1, r2, r3⟩)
  · simp only [e_within, e_within8, e_isBehind8, b2i_f c, z00, e_ref1, e_fin1, false_implies, true_implies, not_true_eq_false, not_false_eq_true, true_and, and_true, forall_eq]
    exact (by first | exact ⟨tl, hkp, him, re_upd re (k := 1) (by decide), rv, r0, r1, r2, r3⟩ | exact ⟨rfl, tl, hkp, him, re_upd re (k := 1) (by decide), rv, r0, r1, r2, r3⟩)
set_option maxHeartbeats 4000000 in
set_option maxRecDepth 100000 in
theorem op_done {ca : Nat → Nat → Int32} {ci : Nat → Int32} {ma : Nat → Nat → Int32} {mi : Nat → Int32} (h : Inv ca ci ma mi) (s1 : Int32) : wp_X7_done s1 (ca 49) (ci 4) (ci 5) (ci 6) (ci 17) (ci 18) (ci 19) (ca 6) (ca 32) (ca 7) (ca 33) (ca 8) (ca 34) (ca 9) (ca 35) (ca 10) (ca 36) (ca 11) (ca 37) (ca 39) (ca 38) (ci 2) (ca 0) (ca 1) (ca 2) (ci 3) (ca 3) (ca 4) (ca 5) (fun r1 c0 c1 c2 c3 c4 c5 c6 c7 c8 c9 c10 c11 c12 c13 => wp_X8_done_ s1 (ma 3) (ma 0) (ma 2) (ma 6) (ma 4) (ma 8) (ma 9) (ma 5) (fun r2 m0 m1 m2 m3 m4 m5 m6 m7 => r1 = r2 ∧ Inv (va_up (va_up (va_up (va_up (va_up (va_up (va_up (va_up (va_up (va_up (va_up ca 49 c0) 32 c4) 33 c5) 34 c6) 35 c7) 36 c8) 37 c9) 39 c10) 38 c11) 2 c12) 5 c13) (va_up (va_up (va_up ci 17 c1) 18 c2) 19 c3) (va_up (va_up (va_up (va_up (va_up (va_up (va_up (va_up ma 3 m0) 0 m1) 2 m2) 6 m3) 4 m4) 8 m5) 9 m6) 5 m7) mi)) := by
  obtain ⟨tl, hkp, him, re, rv, r0, r1, r2, r3⟩ := h
  obtain ⟨n, sn, ln, F, tn, tk, nv, un, uk, uv, pn, wn, ⟨hn, hsn, hln, ok, wT, wU, hpn, hwn⟩, ⟨tc1, tc2, tc3, cf, cT, cU, tc7, tc8⟩, tm, mc, dc⟩ := id tl
  obtain ⟨tm1, tm2, tm3, tm4, tmT, tmU, tm7, tm8, tm9, tm10⟩ := id tm
  have fin : ∀ w mf df, ag w (ma 0) → MC (meV tn tk nv) mf → DC (deV un uk uv) df → TL (ci 1) (ci 4) (ci 5) (ci 6) (ca 6) (ca 7) (ca 8) (ca 9) (ca 10) (ca 11) (ci 2) (ca 0) (ca 1) (ci 3) (ca 3) (ca 4) (ci 7) (ca 14) (ci 8) (ca 15) w mf df := fun w mf df a1 a2 a3 => ⟨n, sn, ln, F, tn, tk, nv, un, uk, uv, pn, wn, ⟨hn, hsn, hln, ok, wT, wU, hpn, hwn⟩, ⟨tc1, tc2, tc3, cf, cT, cU, tc7, tc8⟩, tm_eq hn wT wU hpn hwn tm a1, a2, a3⟩
  unfold wp_X7_done wp_X8_done_
  rw [tc1]
  by_cases c : (0 : Int32) ≤ s1 ∧ s1 ≤ 60
  · simp only [e_within, e_isBehind8, b2i_t c, z10, false_implies, true_implies, not_true_eq_false, not_false_eq_true, true_and, and_true, forall_eq]
    obtain ⟨k, hk, rfl⟩ := sm_of (n := 60) (by decide) c
    refine s_think hn cf (fun k1 m1 a1 f1 g1 d1 cf1 => ?_)
    refine s_pass hn (by omega) cT wT cU wU ok cf1 (fun f cr a hh p q d cf' => ?_)
    rw [tc2, tc3] at cf'
    refine s_deedsTog hn (s_deedsTog hn (m_sum5 hn tm1.1 ?_))
    refine m_copy (fun as has => m_steps hn hk tmT wT tmU wU tm1 ok tm2 (by omega) tm3 mc dc (fun nw ah mf nm p df b1 b2 b3 b4 b5 => m_sum5 hn b2.1 ?_))
    unfold wp_X8_putBack
    refine m_copy (fun w2 hw2 => ⟨?_, fin _ _ _ (fun j hj => (hw2 j hj).trans (has j hj)) b4 b5, hkp, him, re, rv, r0, r1, r2, r3⟩)
    rw [smI_cong (f := d) (fun i hi => by rw [(cf' i hi).2.2.2.2.2, ← b2.2 i hi 5 (by decide)]), smI_cong (f := ca 11) (fun i hi => by rw [(cf i hi).2.2.2.2.2, ← tm1.2 i hi 5 (by decide)])]
  · simp only [e_within, e_isBehind8, b2i_f c, z00, e_ref1, e_fin1, false_implies, true_implies, not_true_eq_false, not_false_eq_true, true_and, and_true, forall_eq]
    exact (by first | exact ⟨tl, hkp, him, re_upd re (k := 1) (by decide), rv, r0, r1, r2, r3⟩ | exact ⟨rfl, tl, hkp, him, re_upd re (k := 1) (by decide), rv, r0, r1, r2, r3⟩)
