theorem s_from0 {n tn un sn kk : Nat} (hn : n ≤ 8) (hk : kk ≤ 60) {tk uk : Nat → Nat} {nv uv : Nat → Int32} {lo st x1 x2 size usize : Int32} {F : Nat → Nat → Int32} {rf kind m at_ free gl de signs numbers usigns unumbers : Nat → Int32} {b0 b1 b2 b3 e0 e1 e2 e3 : Int32} {n0 n1 n2 n3 : Nat → Int32}
    (T : TRc tn tk nv size signs numbers) (w : wfT tn tk nv) (U : TRc un uk uv usize usigns unumbers) (v : wfT un uk uv) (ok : okP n F) (cf : CF n F kind m at_ free gl de) (hst : st = nI sn) (hkk : n0 n = nI kk) {Q : Int32 → (Nat → Int32) → Int32 → Int32 → Int32 → (Nat → Int32) → (Nat → Int32) → (Nat → Int32) → (Nat → Int32) → (Nat → Int32) → (Nat → Int32) → (Nat → Int32) → (Nat → Int32) → (Nat → Int32) → (Nat → Int32) → Prop}
    (h : ∀ t1 t2 t3 k1 m1 a f g d c hh p q, Q (if x2 = 0 then nI (stN (cmP (meV tn tk nv) (deV un uk uv) n (nI sn) lo F kk n0) n) else nI (pop8 (stN (cmP (meV tn tk nv) (deV un uk uv) n (nI sn) lo F kk n0) n))) rf t1 t2 t3 k1 m1 a f g d c hh p q) :
    ∀ r i, i + r = n → ∀ y5 t1 t2 t3 k1 m1 a f g d c hh p q, y5 = nI (stN (cmP (meV tn tk nv) (deV un uk uv) n (nI sn) lo F kk n0) i) → lb_X7_from_81 x1 x2 (nI n) st lo b3 e3 n3 kind m at_ free gl de size signs numbers usize usigns unumbers b2 e2 n2 b1 e1 n1 b0 e0 n0 Q (r + 1) (nI n) y5 (nI i) rf t1 t2 t3 k1 m1 a f g d c hh p q := by
  intro r
  induction r with
  | zero =>
    intro i hi y5 t1 t2 t3 k1 m1 a f g d c hh p q e
    have : i = n := by omega
    subst this
    subst e
    refine ⟨fun _ => ⟨fun z => e_bitCount (st256 _ hn) ?_, fun z => ?_⟩, fun c => absurd (Int32.le_refl _) c⟩
    · rw [if_neg z] at h; exact h _ _ _ _ _ _ _ _ _ _ _ _ _
    · rw [if_pos z] at h; exact h _ _ _ _ _ _ _ _ _ _ _ _ _
  | succ r ih =>
    intro i hi y5 t1 t2 t3 k1 m1 a f g d c hh p q e
    have hi2 : i < n := by omega
    subst e
    refine ⟨fun c => absurd c (nI_ge hi2 (by omega)), fun _ => ⟨vp_in_nI (by omega) (by decide), ?_⟩⟩
    rw [nI_clamp (by omega), hkk]
    refine s_come hn hk hi2 T w U v ok cf hst (fun y t1 t2 t3 k1 m1 a f g d c hh p q => ⟨fun z => absurd z (by decide), fun _ => ?_⟩) (fun y t1 t2 t3 k1 m1 a f g d c hh p q => ⟨fun _ => ?_, fun z => absurd rfl z⟩)
    · rintro v1 rfl
      rw [nI_1]
      exact ih (i + 1) (by omega) _ _ _ _ _ _ _ _ _ _ _ _ _ _ (st_t (by omega) y)
    · rw [nI_1]
      exact ih (i + 1) (by omega) _ _ _ _ _ _ _ _ _ _ _ _ _ _ (st_f y)
theorem s_from1 {n tn un sn kk : Nat} (hn : n ≤ 8) (hk : kk ≤ 60) {tk uk : Nat → Nat} {nv uv : Nat → Int32} {lo st x1 x2 size usize : Int32} {F : Nat → Nat → Int32} {rf kind m at_ free gl de signs numbers usigns unumbers : Nat → Int32} {b0 b1 b2 b3 e0 e1 e2 e3 : Int32} {n0 n1 n2 n3 : Nat → Int32}
    (T : TRc tn tk nv size signs numbers) (w : wfT tn tk nv) (U : TRc un uk uv usize usigns unumbers) (v : wfT un uk uv) (ok : okP n F) (cf : CF n F kind m at_ free gl de) (hst : st = nI sn) (hkk : n1 n = nI kk) {Q : Int32 → (Nat → Int32) → Int32 → Int32 → Int32 → (Nat → Int32) → (Nat → Int32) → (Nat → Int32) → (Nat → Int32) → (Nat → Int32) → (Nat → Int32) → (Nat → Int32) → (Nat → Int32) → (Nat → Int32) → (Nat → Int32) → Prop}
    (h : ∀ t1 t2 t3 k1 m1 a f g d c hh p q, Q (if x2 = 0 then nI (stN (cmP (meV tn tk nv) (deV un uk uv) n (nI sn) lo F kk n1) n) else nI (pop8 (stN (cmP (meV tn tk nv) (deV un uk uv) n (nI sn) lo F kk n1) n))) rf t1 t2 t3 k1 m1 a f g d c hh p q) :
    ∀ r i, i + r = n → ∀ y5 t1 t2 t3 k1 m1 a f g d c hh p q, y5 = nI (stN (cmP (meV tn tk nv) (deV un uk uv) n (nI sn) lo F kk n1) i) → lb_X7_from_81v2 x1 x2 (nI n) st lo b3 e3 n3 kind m at_ free gl de size signs numbers usize usigns unumbers b2 e2 n2 b1 e1 n1 b0 e0 n0 Q (r + 1) (nI n) y5 (nI i) rf t1 t2 t3 k1 m1 a f g d c hh p q := by
  intro r
  induction r with
  | zero =>
    intro i hi y5 t1 t2 t3 k1 m1 a f g d c hh p q e
    have : i = n := by omega
    subst this
    subst e
    refine ⟨fun _ => ⟨fun z => e_bitCount (st256 _ hn) ?_, fun z => ?_⟩, fun c => absurd (Int32.le_refl _) c⟩
    · rw [if_neg z] at h; exact h _ _ _ _ _ _ _ _ _ _ _ _ _
    · rw [if_pos z] at h; exact h _ _ _ _ _ _ _ _ _ _ _ _ _
  | succ r ih =>
    intro i hi y5 t1 t2 t3 k1 m1 a f g d c hh p q e
    have hi2 : i < n := by omega
    subst e
    refine ⟨fun c => absurd c (nI_ge hi2 (by omega)), fun _ => ⟨vp_in_nI (by omega) (by decide), ?_⟩⟩
    rw [nI_clamp (by omega), hkk]
    refine s_come hn hk hi2 T w U v ok cf hst (fun y t1 t2 t3 k1 m1 a f g d c hh p q => ⟨fun z => absurd z (by decide), fun _ => ?_⟩) (fun y t1 t2 t3 k1 m1 a f g d c hh p q => ⟨fun _ => ?_, fun z => absurd rfl z⟩)
    · rintro v1 rfl
      rw [nI_1]
      exact ih (i + 1) (by omega) _ _ _ _ _ _ _ _ _ _ _ _ _ _ (st_t (by omega) y)
    · rw [nI_1]
      exact ih (i + 1) (by omega) _ _ _ _ _ _ _ _ _ _ _ _ _ _ (st_f y)
theorem s_from2 {n tn un sn kk : Nat} (hn : n ≤ 8) (hk : kk ≤ 60) {tk uk : Nat → Nat} {nv uv : Nat → Int32} {lo st x1 x2 size usize : Int32} {F : Nat → Nat → Int32} {rf kind m at_ free gl de signs numbers usigns unumbers : Nat → Int32} {b0 b1 b2 b3 e0 e1 e2 e3 : Int32} {n0 n1 n2 n3 : Nat → Int32}
    (T : TRc tn tk nv size signs numbers) (w : wfT tn tk nv) (U : TRc un uk uv usize usigns unumbers) (v : wfT un uk uv) (ok : okP n F) (cf : CF n F kind m at_ free gl de) (hst : st = nI sn) (hkk : n2 n = nI kk) {Q : Int32 → (Nat → Int32) → Int32 → Int32 → Int32 → (Nat → Int32) → (Nat → Int32) → (Nat → Int32) → (Nat → Int32) → (Nat → Int32) → (Nat → Int32) → (Nat → Int32) → (Nat → Int32) → (Nat → Int32) → (Nat → Int32) → Prop}
    (h : ∀ t1 t2 t3 k1 m1 a f g d c hh p q, Q (if x2 = 0 then nI (stN (cmP (meV tn tk nv) (deV un uk uv) n (nI sn) lo F kk n2) n) else nI (pop8 (stN (cmP (meV tn tk nv) (deV un uk uv) n (nI sn) lo F kk n2) n))) rf t1 t2 t3 k1 m1 a f g d c hh p q) :
    ∀ r i, i + r = n → ∀ y5 t1 t2 t3 k1 m1 a f g d c hh p q, y5 = nI (stN (cmP (meV tn tk nv) (deV un uk uv) n (nI sn) lo F kk n2) i) → lb_X7_from_81v3 x1 x2 (nI n) st lo b3 e3 n3 kind m at_ free gl de size signs numbers usize usigns unumbers b2 e2 n2 b1 e1 n1 b0 e0 n0 Q (r + 1) (nI n) y5 (nI i) rf t1 t2 t3 k1 m1 a f g d c hh p q := by
  intro r
  induction r with
  | zero =>
    intro i hi y5 t1 t2 t3 k1 m1 a f g d c hh p q e
    have : i = n := by omega
    subst this
    subst e
    refine ⟨fun _ => ⟨fun z => e_bitCount (st256 _ hn) ?_, fun z => ?_⟩, fun c => absurd (Int32.le_refl _) c⟩
    · rw [if_neg z] at h; exact h _ _ _ _ _ _ _ _ _ _ _ _ _
    · rw [if_pos z] at h; exact h _ _ _ _ _ _ _ _ _ _ _ _ _
  | succ r ih =>
    intro i hi y5 t1 t2 t3 k1 m1 a f g d c hh p q e
    have hi2 : i < n := by omega
    subst e
    refine ⟨fun c => absurd c (nI_ge hi2 (by omega)), fun _ => ⟨vp_in_nI (by omega) (by decide), ?_⟩⟩
    rw [nI_clamp (by omega), hkk]
    refine s_come hn hk hi2 T w U v ok cf hst (fun y t1 t2 t3 k1 m1 a f g d c hh p q => ⟨fun z => absurd z (by decide), fun _ => ?_⟩) (fun y t1 t2 t3 k1 m1 a f g d c hh p q => ⟨fun _ => ?_, fun z => absurd rfl z⟩)
    · rintro v1 rfl
      rw [nI_1]
      exact ih (i + 1) (by omega) _ _ _ _ _ _ _ _ _ _ _ _ _ _ (st_t (by omega) y)
    · rw [nI_1]
      exact ih (i + 1) (by omega) _ _ _ _ _ _ _ _ _ _ _ _ _ _ (st_f y)
theorem s_from3 {n tn un sn kk : Nat} (hn : n ≤ 8) (hk : kk ≤ 60) {tk uk : Nat → Nat} {nv uv : Nat → Int32} {lo st x1 x2 size usize : Int32} {F : Nat → Nat → Int32} {rf kind m at_ free gl de signs numbers usigns unumbers : Nat → Int32} {b0 b1 b2 b3 e0 e1 e2 e3 : Int32} {n0 n1 n2 n3 : Nat → Int32}
    (T : TRc tn tk nv size signs numbers) (w : wfT tn tk nv) (U : TRc un uk uv usize usigns unumbers) (v : wfT un uk uv) (ok : okP n F) (cf : CF n F kind m at_ free gl de) (hst : st = nI sn) (hkk : n3 n = nI kk) {Q : Int32 → (Nat → Int32) → Int32 → Int32 → Int32 → (Nat → Int32) → (Nat → Int32) → (Nat → Int32) → (Nat → Int32) → (Nat → Int32) → (Nat → Int32) → (Nat → Int32) → (Nat → Int32) → (Nat → Int32) → (Nat → Int32) → Prop}
    (h : ∀ t1 t2 t3 k1 m1 a f g d c hh p q, Q (if x2 = 0 then nI (stN (cmP (meV tn tk nv) (deV un uk uv) n (nI sn) lo F kk n3) n) else nI (pop8 (stN (cmP (meV tn tk nv) (deV un uk uv) n (nI sn) lo F kk n3) n))) rf t1 t2 t3 k1 m1 a f g d c hh p q) :
    ∀ r i, i + r = n → ∀ y5 t1 t2 t3 k1 m1 a f g d c hh p q, y5 = nI (stN (cmP (meV tn tk nv) (deV un uk uv) n (nI sn) lo F kk n3) i) → lb_X7_from_81v4 x1 x2 (nI n) st lo b3 e3 n3 kind m at_ free gl de size signs numbers usize usigns unumbers b2 e2 n2 b1 e1 n1 b0 e0 n0 Q (r + 1) (nI n) y5 (nI i) rf t1 t2 t3 k1 m1 a f g d c hh p q := by
  intro r
  induction r with
  | zero =>
    intro i hi y5 t1 t2 t3 k1 m1 a f g d c hh p q e
    have : i = n := by omega
    subst this
    subst e
    refine ⟨fun _ => ⟨fun z => e_bitCount (st256 _ hn) ?_, fun z => ?_⟩, fun c => absurd (Int32.le_refl _) c⟩
    · rw [if_neg z] at h; exact h _ _ _ _ _ _ _ _ _ _ _ _ _
    · rw [if_pos z] at h; exact h _ _ _ _ _ _ _ _ _ _ _ _ _
  | succ r ih =>
    intro i hi y5 t1 t2 t3 k1 m1 a f g d c hh p q e
    have hi2 : i < n := by omega
    subst e
    refine ⟨fun c => absurd c (nI_ge hi2 (by omega)), fun _ => ⟨vp_in_nI (by omega) (by decide), ?_⟩⟩
    rw [nI_clamp (by omega), hkk]
    refine s_come hn hk hi2 T w U v ok cf hst (fun y t1 t2 t3 k1 m1 a f g d c hh p q => ⟨fun z => absurd z (by decide), fun _ => ?_⟩) (fun y t1 t2 t3 k1 m1 a f g d c hh p q => ⟨fun _ => ?_, fun z => absurd rfl z⟩)
    · rintro v1 rfl
      rw [nI_1]
      exact ih (i + 1) (by omega) _ _ _ _ _ _ _ _ _ _ _ _ _ _ (st_t (by omega) y)
    · rw [nI_1]
      exact ih (i + 1) (by omega) _ _ _ _ _ _ _ _ _ _ _ _ _ _ (st_f y)
theorem m_from {n tn un sn kk qq : Nat} (hn : n ≤ 8) (hk : kk ≤ 60) (hq : qq < 4) {tk uk : Nat → Nat} {nv uv now er nums mnum wds szs : Nat → Int32} {F : Nat → Nat → Int32} {lo wd x2 : Int32} (T : TRm tn tk nv 124 now) (w : wfT tn tk nv) (U : TRm un uk uv 176 now) (v : wfT un uk uv) (pn : PN n F now) (ok : okP n F) (h0 : now 0 = nI sn) (hsn : sn < 2 ^ 29) (l2 : now 2 = lo) (nr : ∀ j, j < n + 1 → nrel wd (nums j) (mnum (40 * qq + j))) (hkk : mnum (40 * qq + n) = nI kk) {Q : Int32 → (Nat → Int32) → (Nat → Int32) → (Nat → Int32) → (Nat → Int32) → (Nat → Int32) → (Nat → Int32) → (Nat → Int32) → (Nat → Int32) → Prop}
    (h : ∀ nw as ah mf nm p df, ag nw now → MC (meV tn tk nv) mf → DC (deV un uk uv) df → Q (if x2 = 0 then nI (stN (cmP (meV tn tk nv) (deV un uk uv) n (nI sn) lo F kk nums) n) else nI (pop8 (stN (cmP (meV tn tk nv) (deV un uk uv) n (nI sn) lo F kk nums) n))) er nw as ah mf nm p df) :
    ∀ r i, i + r = n → ∀ y4 nw as ah mf nm p df, y4 = nI (stN (cmP (meV tn tk nv) (deV un uk uv) n (nI sn) lo F kk nums) i) → ag nw now → MC (meV tn tk nv) mf → DC (deV un uk uv) df → lb_X8_from_81 (nI qq) x2 wds szs mnum Q (r + 1) (nI n) y4 (nI i) er nw as ah mf nm p df := by
  intro r
  induction r with
  | zero =>
    intro i hi y4 nw as ah mf nm p df e a m1 d1
    have : i = n := by omega
    subst this
    subst e
    refine ⟨fun _ => ⟨fun z => m_bits (st256 _ hn) ?_, fun z => ?_⟩, fun c => absurd (Int32.le_refl _) c⟩
    · rw [if_neg z] at h; exact h _ _ _ _ _ _ _ a m1 d1
    · rw [if_pos z] at h; exact h _ _ _ _ _ _ _ a m1 d1
  | succ r ih =>
    intro i hi y4 nw as ah mf nm p df e a m1 d1
    have hi2 : i < n := by omega
    subst e
    refine ⟨fun c => absurd c (nI_ge hi2 (by omega)), fun _ => ?_⟩
    refine m_come hn hk hi2 hq (ag_T a (by decide) w T) w (ag_T a (by decide) v U) v (ag_PN a hn pn) ok ((a 0 (by decide)).trans h0) hsn ((a 2 (by decide)).trans l2) m1 d1 nr hkk (fun y nw2 as2 ah2 mf2 nm2 p2 df2 b1 b2 b3 => ⟨fun z => absurd z (by decide), fun _ => ?_⟩) (fun y nw2 as2 ah2 mf2 nm2 p2 df2 b1 b2 b3 => ⟨fun _ => ?_, fun z => absurd rfl z⟩)
    · rintro v1 rfl
      rw [nI_1]
      exact ih (i + 1) (by omega) _ _ _ _ _ _ _ _ (st_t (by omega) y) (ag_tr b1 a) b2 b3
    · rintro v1 rfl
      rw [nI_1, or_z]
      exact ih (i + 1) (by omega) _ _ _ _ _ _ _ _ (st_f y) (ag_tr b1 a) b2 b3
theorem e_miss {b : Int32} {Q : Int32 → Prop} : wp_X2_isMissing b Q = Q (b2i (b = 0)) := by
  unfold wp_X2_isMissing
  by_cases c : b = 0
  · simp [c, b2i]
  · simp [c, b2i]
theorem sm20 {x : Int32} : (0 ≤ x ∧ x ≤ 20) ↔ sm x 20 := ⟨fun q => sm_of (by decide) q, fun ⟨k, hk, e⟩ => by
  rw [e, fa_lit 0, fa_lit 20, li_nn (by decide) (by omega), li_nn (by omega) (by decide)]; omega⟩
set_option maxHeartbeats 4000000 in
set_option maxRecDepth 100000 in
theorem op_from {ca : Nat → Nat → Int32} {ci : Nat → Int32} {ma : Nat → Nat → Int32} {mi : Nat → Int32} (h : Inv ca ci ma mi) (s1 : Int32) (s2 : Int32) : wp_X7_from s1 s2 (ca 49) (ci 4) (ci 5) (ci 6) (ci 34) (ci 35) (ca 48) (ci 17) (ci 18) (ci 19) (ca 6) (ca 32) (ca 7) (ca 33) (ca 8) (ca 34) (ca 9) (ca 35) (ca 10) (ca 36) (ca 11) (ca 37) (ca 39) (ca 38) (ci 2) (ca 0) (ca 1) (ca 2) (ci 3) (ca 3) (ca 4) (ca 5) (ci 32) (ci 33) (ca 47) (ci 30) (ci 31) (ca 46) (ci 28) (ci 29) (ca 45) (fun r1 c0 c1 c2 c3 c4 c5 c6 c7 c8 c9 c10 c11 c12 c13 => wp_X8_from s1 s2 (ma 3) (ma 0) (ma 12) (ma 13) (ma 14) (ma 2) (ma 6) (ma 4) (ma 8) (ma 9) (ma 5) (fun r2 m0 m1 m2 m3 m4 m5 m6 m7 => r1 = r2 ∧ Inv (va_up (va_up (va_up (va_up (va_up (va_up (va_up (va_up (va_up (va_up (va_up ca 49 c0) 32 c4) 33 c5) 34 c6) 35 c7) 36 c8) 37 c9) 39 c10) 38 c11) 2 c12) 5 c13) (va_up (va_up (va_up ci 17 c1) 18 c2) 19 c3) (va_up (va_up (va_up (va_up (va_up (va_up (va_up (va_up ma 3 m0) 0 m1) 2 m2) 6 m3) 4 m4) 8 m5) 9 m6) 5 m7) mi)) := by
  obtain ⟨tl, hkp, him, re, rv, r0, r1, r2, r3⟩ := h
  obtain ⟨n, sn, ln, F, tn, tk, nv, un, uk, uv, pn, wn, ⟨hn, hsn, hln, ok, wT, wU, hpn, hwn⟩, ⟨tc1, tc2, tc3, cf, cT, cU, tc7, tc8⟩, tm, mc, dc⟩ := id tl
  obtain ⟨tm1, tm2, tm3, tm4, tmT, tmU, tm7, tm8, tm9, tm10⟩ := id tm
  have fin : ∀ w mf df, ag w (ma 0) → MC (meV tn tk nv) mf → DC (deV un uk uv) df → TL (ci 1) (ci 4) (ci 5) (ci 6) (ca 6) (ca 7) (ca 8) (ca 9) (ca 10) (ca 11) (ci 2) (ca 0) (ca 1) (ci 3) (ca 3) (ca 4) (ci 7) (ca 14) (ci 8) (ca 15) w mf df := fun w mf df a1 a2 a3 => ⟨n, sn, ln, F, tn, tk, nv, un, uk, uv, pn, wn, ⟨hn, hsn, hln, ok, wT, wU, hpn, hwn⟩, ⟨tc1, tc2, tc3, cf, cT, cU, tc7, tc8⟩, tm_eq hn wT wU hpn hwn tm a1, a2, a3⟩
  by_cases c : (0 : Int32) ≤ s1 ∧ s1 ≤ 3
  · by_cases d : (0 : Int32) ≤ s2 ∧ s2 ≤ 1
    · have one : ∀ qq2 : Nat, qq2 < 4 → ∀ (bits size : Int32) (nums : Nat → Int32), RSh qq2 bits size nums (ma 12) (ma 13) (ma 14) → ∀ (R : Int32 → (Nat → Int32) → (Nat → Int32) → (Nat → Int32) → (Nat → Int32) → (Nat → Int32) → (Nat → Int32) → (Nat → Int32) → (Nat → Int32) → Prop),
          ((bits = 0 ∨ ¬ size = nI n + 1 ∨ ¬ sm (nums n) 20) → R (-1000000002) (upd (ma 3) 2 (ma 3 2 + 1)) (ma 0) (ma 2) (ma 6) (ma 4) (ma 8) (ma 9) (ma 5)) →
          (¬ bits = 0 → size = nI n + 1 → ∀ kk, kk ≤ 20 → nums n = nI kk → ∀ nw as ah mf nm p df, ag nw (ma 0) → MC (meV tn tk nv) mf → DC (deV un uk uv) df → R (if s2 = 0 then nI (stN (cmP (meV tn tk nv) (deV un uk uv) n (nI sn) (nI ln) F kk nums) n) else nI (pop8 (stN (cmP (meV tn tk nv) (deV un uk uv) n (nI sn) (nI ln) F kk nums) n))) (ma 3) nw as ah mf nm p df) →
          wp_X8_from (nI qq2) s2 (ma 3) (ma 0) (ma 12) (ma 13) (ma 14) (ma 2) (ma 6) (ma 4) (ma 8) (ma 9) (ma 5) R := by
        intro qq2 hq2 bits size nums ⟨w1, w2, len, hl, w3, w4, w5⟩ R h1 h2
        have c2 : (0 : Int32) ≤ nI qq2 ∧ nI qq2 ≤ 3 := by
          rw [fa_lit 0, fa_lit 3, li_nn (by decide) (by omega), li_nn (by omega) (by decide)]; omega
        unfold wp_X8_from lb_X8_from_16 lb_X8_from_68
        simp only [e_isSheet8, e_within8, b2i_t c2, b2i_t d, z10, false_implies, true_implies, not_true_eq_false, not_false_eq_true, true_and, and_true, forall_eq]
        have ix : (40 : Int32) * nI qq2 + nI n = nI (40 * qq2 + n) := by rw [fa_lit 40, pk_mul, nI_add]
        rw [tm1.1, ix, nI_clamp (by omega), nI_clamp (by omega), ← w1, w4, ← w3, e_fin2, e_isSoon8]
        refine ⟨vp_in_nI hq2 (by decide), fun z => h1 (Or.inl z), fun nz => ⟨vp_in_nI hq2 (by decide), fun z => h1 (Or.inr (Or.inl z)), fun ez => ⟨vp_in_nI (by omega) (by decide), ?_⟩⟩⟩
        have el : len = n + 1 := by
          have ez2 := ez
          rw [w3, nI_1, eq_nn (by omega) (by omega)] at ez2
          exact ez2
        subst el
        have nr := w5 n (by omega)
        have s1 := nr_sm nr (show 20 ≤ 127 by decide)
        by_cases g : sm (nums n) 20
        · rw [b2i_t (sm20.mpr (s1.mp g))]
          refine ⟨fun _ => ?_, fun z => absurd z (by decide)⟩
          obtain ⟨kk, hk, ek⟩ := g
          exact ⟨n + 1, m_from hn (by omega) hq2 tmT wT tmU wU tm1 ok tm2 (by omega) tm3 w5 ((nr_k nr (by omega)).mp ek) (h2 nz ez kk hk ek) n 0 (Nat.zero_add n) _ _ _ _ _ _ _ _ rfl (ag_rf _) mc dc⟩
        · rw [b2i_f (fun q => g (s1.mpr (sm20.mp q)))]
          exact ⟨fun z => absurd rfl z, fun _ => h1 (Or.inr (Or.inr g))⟩
      unfold wp_X7_from wp_X7_rowOf lb_X7_from_17 lb_X7_from_69
      rw [tc1, tc3]
      simp only [e_within, e_isEither, e_miss, b2i_t c, b2i_t d, z10, false_implies, true_implies, not_true_eq_false, not_false_eq_true, true_and, and_true, forall_eq]
      obtain ⟨qq, hq, rfl⟩ := sm_of (n := 3) (by decide) c
      refine ⟨vp_in_nI (by omega) (by decide), fun e => ?_, fun e => ?_, fun e => ?_, fun e => ?_⟩
      · have eq0 : qq = 0 := by rw [fa_lit 0, eq_nn (by omega) (by decide)] at e; exact e
        subst eq0
        by_cases z : ci 28 = 0
        · simp only [b2i_t z, z10, e_ref2, false_implies, true_implies, not_true_eq_false, not_false_eq_true, true_and, and_true, forall_eq]
          exact one 0 (by decide) _ _ _ r0 _ (fun _ => (by first | exact ⟨tl, hkp, him, re_upd re (k := 2) (by decide), rv, r0, r1, r2, r3⟩ | exact ⟨rfl, tl, hkp, him, re_upd re (k := 2) (by decide), rv, r0, r1, r2, r3⟩)) (fun y => absurd z y)
        · simp only [b2i_f z, z00, e_ref2, false_implies, true_implies, not_true_eq_false, not_false_eq_true, true_and, and_true, forall_eq]
          refine ⟨fun y => one 0 (by decide) _ _ _ r0 _ (fun _ => (by first | exact ⟨tl, hkp, him, re_upd re (k := 2) (by decide), rv, r0, r1, r2, r3⟩ | exact ⟨rfl, tl, hkp, him, re_upd re (k := 2) (by decide), rv, r0, r1, r2, r3⟩)) (fun _ y2 => absurd y2 y), fun y => ⟨vp_in_nI (by omega) (by decide), ?_⟩⟩
          rw [nI_clamp (by omega)]
          by_cases g : sm (ca 45 n) 20
          · rw [b2i_t (sm20.mpr g)]
            refine ⟨fun _ => ?_, fun u => absurd u (by decide)⟩
            obtain ⟨kk, hk, ek⟩ := g
            refine ⟨n + 1, s_from0 hn (by omega) cT wT cU wU ok cf tc2 ek (fun t1 t2 t3 k1 m1 a f g d c hh p q => ?_) n 0 (Nat.zero_add n) _ _ _ _ _ _ _ _ _ _ _ _ _ _ rfl⟩
            refine one 0 (by decide) _ _ _ r0 _ (fun u => ?_) (fun _ _ kk2 hk2 ek2 nw as ah mf nm p df a1 a2 a3 => ⟨?_, fin _ _ _ a1 a2 a3, hkp, him, re, rv, r0, r1, r2, r3⟩)
            · rcases u with u | u | u
              · exact absurd u z
              · exact absurd y u
              · exact absurd ⟨kk, hk, ek⟩ u
            · have ee : kk = kk2 := by
                rw [ek, eq_nn (by omega) (by omega)] at ek2
                exact ek2
              subst ee
              rfl
          · rw [b2i_f (fun u => g (sm20.mp u))]
            exact ⟨fun u => absurd rfl u, fun _ => one 0 (by decide) _ _ _ r0 _ (fun _ => (by first | exact ⟨tl, hkp, him, re_upd re (k := 2) (by decide), rv, r0, r1, r2, r3⟩ | exact ⟨rfl, tl, hkp, him, re_upd re (k := 2) (by decide), rv, r0, r1, r2, r3⟩)) (fun _ _ kk2 hk2 ek2 => absurd ⟨kk2, hk2, ek2⟩ g)⟩
      · have eq0 : qq = 1 := by rw [fa_lit 1, eq_nn (by omega) (by decide)] at e; exact e
        subst eq0
        by_cases z : ci 30 = 0
        · simp only [b2i_t z, z10, e_ref2, false_implies, true_implies, not_true_eq_false, not_false_eq_true, true_and, and_true, forall_eq]
          exact one 1 (by decide) _ _ _ r1 _ (fun _ => (by first | exact ⟨tl, hkp, him, re_upd re (k := 2) (by decide), rv, r0, r1, r2, r3⟩ | exact ⟨rfl, tl, hkp, him, re_upd re (k := 2) (by decide), rv, r0, r1, r2, r3⟩)) (fun y => absurd z y)
        · simp only [b2i_f z, z00, e_ref2, false_implies, true_implies, not_true_eq_false, not_false_eq_true, true_and, and_true, forall_eq]
          refine ⟨fun y => one 1 (by decide) _ _ _ r1 _ (fun _ => (by first | exact ⟨tl, hkp, him, re_upd re (k := 2) (by decide), rv, r0, r1, r2, r3⟩ | exact ⟨rfl, tl, hkp, him, re_upd re (k := 2) (by decide), rv, r0, r1, r2, r3⟩)) (fun _ y2 => absurd y2 y), fun y => ⟨vp_in_nI (by omega) (by decide), ?_⟩⟩
          rw [nI_clamp (by omega)]
          by_cases g : sm (ca 46 n) 20
          · rw [b2i_t (sm20.mpr g)]
            refine ⟨fun _ => ?_, fun u => absurd u (by decide)⟩
            obtain ⟨kk, hk, ek⟩ := g
            refine ⟨n + 1, s_from1 hn (by omega) cT wT cU wU ok cf tc2 ek (fun t1 t2 t3 k1 m1 a f g d c hh p q => ?_) n 0 (Nat.zero_add n) _ _ _ _ _ _ _ _ _ _ _ _ _ _ rfl⟩
            refine one 1 (by decide) _ _ _ r1 _ (fun u => ?_) (fun _ _ kk2 hk2 ek2 nw as ah mf nm p df a1 a2 a3 => ⟨?_, fin _ _ _ a1 a2 a3, hkp, him, re, rv, r0, r1, r2, r3⟩)
            · rcases u with u | u | u
              · exact absurd u z
              · exact absurd y u
              · exact absurd ⟨kk, hk, ek⟩ u
            · have ee : kk = kk2 := by
                rw [ek, eq_nn (by omega) (by omega)] at ek2
                exact ek2
              subst ee
              rfl
          · rw [b2i_f (fun u => g (sm20.mp u))]
            exact ⟨fun u => absurd rfl u, fun _ => one 1 (by decide) _ _ _ r1 _ (fun _ => (by first | exact ⟨tl, hkp, him, re_upd re (k := 2) (by decide), rv, r0, r1, r2, r3⟩ | exact ⟨rfl, tl, hkp, him, re_upd re (k := 2) (by decide), rv, r0, r1, r2, r3⟩)) (fun _ _ kk2 hk2 ek2 => absurd ⟨kk2, hk2, ek2⟩ g)⟩
      · have eq0 : qq = 2 := by rw [fa_lit 2, eq_nn (by omega) (by decide)] at e; exact e
        subst eq0
        by_cases z : ci 32 = 0
        · simp only [b2i_t z, z10, e_ref2, false_implies, true_implies, not_true_eq_false, not_false_eq_true, true_and, and_true, forall_eq]
          exact one 2 (by decide) _ _ _ r2 _ (fun _ => (by first | exact ⟨tl, hkp, him, re_upd re (k := 2) (by decide), rv, r0, r1, r2, r3⟩ | exact ⟨rfl, tl, hkp, him, re_upd re (k := 2) (by decide), rv, r0, r1, r2, r3⟩)) (fun y => absurd z y)
        · simp only [b2i_f z, z00, e_ref2, false_implies, true_implies, not_true_eq_false, not_false_eq_true, true_and, and_true, forall_eq]
          refine ⟨fun y => one 2 (by decide) _ _ _ r2 _ (fun _ => (by first | exact ⟨tl, hkp, him, re_upd re (k := 2) (by decide), rv, r0, r1, r2, r3⟩ | exact ⟨rfl, tl, hkp, him, re_upd re (k := 2) (by decide), rv, r0, r1, r2, r3⟩)) (fun _ y2 => absurd y2 y), fun y => ⟨vp_in_nI (by omega) (by decide), ?_⟩⟩
          rw [nI_clamp (by omega)]
          by_cases g : sm (ca 47 n) 20
          · rw [b2i_t (sm20.mpr g)]
            refine ⟨fun _ => ?_, fun u => absurd u (by decide)⟩
            obtain ⟨kk, hk, ek⟩ := g
            refine ⟨n + 1, s_from2 hn (by omega) cT wT cU wU ok cf tc2 ek (fun t1 t2 t3 k1 m1 a f g d c hh p q => ?_) n 0 (Nat.zero_add n) _ _ _ _ _ _ _ _ _ _ _ _ _ _ rfl⟩
            refine one 2 (by decide) _ _ _ r2 _ (fun u => ?_) (fun _ _ kk2 hk2 ek2 nw as ah mf nm p df a1 a2 a3 => ⟨?_, fin _ _ _ a1 a2 a3, hkp, him, re, rv, r0, r1, r2, r3⟩)
            · rcases u with u | u | u
              · exact absurd u z
              · exact absurd y u
              · exact absurd ⟨kk, hk, ek⟩ u
            · have ee : kk = kk2 := by
                rw [ek, eq_nn (by omega) (by omega)] at ek2
                exact ek2
              subst ee
              rfl
          · rw [b2i_f (fun u => g (sm20.mp u))]
            exact ⟨fun u => absurd rfl u, fun _ => one 2 (by decide) _ _ _ r2 _ (fun _ => (by first | exact ⟨tl, hkp, him, re_upd re (k := 2) (by decide), rv, r0, r1, r2, r3⟩ | exact ⟨rfl, tl, hkp, him, re_upd re (k := 2) (by decide), rv, r0, r1, r2, r3⟩)) (fun _ _ kk2 hk2 ek2 => absurd ⟨kk2, hk2, ek2⟩ g)⟩
      · have eq0 : qq = 3 := by rw [fa_lit 3, eq_nn (by omega) (by decide)] at e; exact e
        subst eq0
        by_cases z : ci 34 = 0
        · simp only [b2i_t z, z10, e_ref2, false_implies, true_implies, not_true_eq_false, not_false_eq_true, true_and, and_true, forall_eq]
          exact one 3 (by decide) _ _ _ r3 _ (fun _ => (by first | exact ⟨tl, hkp, him, re_upd re (k := 2) (by decide), rv, r0, r1, r2, r3⟩ | exact ⟨rfl, tl, hkp, him, re_upd re (k := 2) (by decide), rv, r0, r1, r2, r3⟩)) (fun y => absurd z y)
        · simp only [b2i_f z, z00, e_ref2, false_implies, true_implies, not_true_eq_false, not_false_eq_true, true_and, and_true, forall_eq]
          refine ⟨fun y => one 3 (by decide) _ _ _ r3 _ (fun _ => (by first | exact ⟨tl, hkp, him, re_upd re (k := 2) (by decide), rv, r0, r1, r2, r3⟩ | exact ⟨rfl, tl, hkp, him, re_upd re (k := 2) (by decide), rv, r0, r1, r2, r3⟩)) (fun _ y2 => absurd y2 y), fun y => ⟨vp_in_nI (by omega) (by decide), ?_⟩⟩
          rw [nI_clamp (by omega)]
          by_cases g : sm (ca 48 n) 20
          · rw [b2i_t (sm20.mpr g)]
            refine ⟨fun _ => ?_, fun u => absurd u (by decide)⟩
            obtain ⟨kk, hk, ek⟩ := g
            refine ⟨n + 1, s_from3 hn (by omega) cT wT cU wU ok cf tc2 ek (fun t1 t2 t3 k1 m1 a f g d c hh p q => ?_) n 0 (Nat.zero_add n) _ _ _ _ _ _ _ _ _ _ _ _ _ _ rfl⟩
            refine one 3 (by decide) _ _ _ r3 _ (fun u => ?_) (fun _ _ kk2 hk2 ek2 nw as ah mf nm p df a1 a2 a3 => ⟨?_, fin _ _ _ a1 a2 a3, hkp, him, re, rv, r0, r1, r2, r3⟩)
            · rcases u with u | u | u
              · exact absurd u z
              · exact absurd y u
              · exact absurd ⟨kk, hk, ek⟩ u
            · have ee : kk = kk2 := by
                rw [ek, eq_nn (by omega) (by omega)] at ek2
                exact ek2
              subst ee
              rfl
          · rw [b2i_f (fun u => g (sm20.mp u))]
            exact ⟨fun u => absurd rfl u, fun _ => one 3 (by decide) _ _ _ r3 _ (fun _ => (by first | exact ⟨tl, hkp, him, re_upd re (k := 2) (by decide), rv, r0, r1, r2, r3⟩ | exact ⟨rfl, tl, hkp, him, re_upd re (k := 2) (by decide), rv, r0, r1, r2, r3⟩)) (fun _ _ kk2 hk2 ek2 => absurd ⟨kk2, hk2, ek2⟩ g)⟩
    · unfold wp_X7_from wp_X8_from wp_X7_rowOf lb_X7_from_17 lb_X8_from_16
      simp only [e_within, e_isEither, e_isSheet8, e_within8, b2i_t c, b2i_f d, z10, z00, e_ref1, e_fin1, false_implies, true_implies, not_true_eq_false, not_false_eq_true, true_and, and_true, forall_eq]
      obtain ⟨qq, hq, rfl⟩ := sm_of (n := 3) (by decide) c
      refine ⟨vp_in_nI (by omega) (by decide), fun _ => ?_, fun _ => ?_, fun _ => ?_, fun _ => ?_⟩
      · exact (by first | exact ⟨tl, hkp, him, re_upd re (k := 1) (by decide), rv, r0, r1, r2, r3⟩ | exact ⟨rfl, tl, hkp, him, re_upd re (k := 1) (by decide), rv, r0, r1, r2, r3⟩)
      · exact (by first | exact ⟨tl, hkp, him, re_upd re (k := 1) (by decide), rv, r0, r1, r2, r3⟩ | exact ⟨rfl, tl, hkp, him, re_upd re (k := 1) (by decide), rv, r0, r1, r2, r3⟩)
      · exact (by first | exact ⟨tl, hkp, him, re_upd re (k := 1) (by decide), rv, r0, r1, r2, r3⟩ | exact ⟨rfl, tl, hkp, him, re_upd re (k := 1) (by decide), rv, r0, r1, r2, r3⟩)
      · exact (by first | exact ⟨tl, hkp, him, re_upd re (k := 1) (by decide), rv, r0, r1, r2, r3⟩ | exact ⟨rfl, tl, hkp, him, re_upd re (k := 1) (by decide), rv, r0, r1, r2, r3⟩)
  · unfold wp_X7_from wp_X8_from wp_X7_rowOf lb_X7_from_17 lb_X8_from_16
    simp only [e_within, e_isSheet8, b2i_f c, z00, e_ref1, e_fin1, false_implies, true_implies, not_true_eq_false, not_false_eq_true, true_and, and_true, forall_eq]
    exact (by first | exact ⟨tl, hkp, him, re_upd re (k := 1) (by decide), rv, r0, r1, r2, r3⟩ | exact ⟨rfl, tl, hkp, him, re_upd re (k := 1) (by decide), rv, r0, r1, r2, r3⟩)
