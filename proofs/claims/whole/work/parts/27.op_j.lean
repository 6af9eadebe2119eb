theorem stN_z {p : Nat → Bool} {n : Nat} : stN p n = 0 ↔ fb_ct p n = 0 := by
  rw [fb_ct_zero]
  constructor
  · intro h k hk
    have := stN_bit p n k
    rw [h, Nat.zero_testBit] at this
    simpa [hk] using this.symm
  · intro h
    apply Nat.eq_of_testBit_eq
    intro i
    rw [stN_bit, Nat.zero_testBit]
    by_cases hi : i < n
    · rw [h i hi]; simp
    · simp [hi]
theorem st_z {p : Nat → Bool} {n : Nat} (hn : n ≤ 8) : nI (stN p n) = 0 ↔ fb_ct p n = 0 := by
  have := st256 p hn
  rw [fa_lit 0, eq_nn (by omega) (by decide), stN_z]
theorem ct_z {p : Nat → Bool} {n : Nat} (hn : n ≤ 8) : nI (fb_ct p n) = 0 ↔ fb_ct p n = 0 := by
  have := fb_ct_le p n
  rw [fa_lit 0, eq_nn (by omega) (by decide)]
theorem s_dies {n tn un sn : Nat} (hn : n ≤ 8) {tk uk : Nat → Nat} {nv uv : Nat → Int32} {lo : Int32} {F : Nat → Nat → Int32} {z1 z2 z3 : Int32} {y1 y2 y3 y4 y5 y6 : Nat → Int32} {size usize : Int32} {signs numbers usigns unumbers : Nat → Int32} {rf kind m gl : Nat → Int32}
    (T : TRc tn tk nv size signs numbers) (w : wfT tn tk nv) (U : TRc un uk uv usize usigns unumbers) (v : wfT un uk uv) (ok : okP n F) {Q : Int32 → Int32 → Int32 → Int32 → (Nat → Int32) → (Nat → Int32) → (Nat → Int32) → (Nat → Int32) → (Nat → Int32) → (Nat → Int32) → (Nat → Int32) → (Nat → Int32) → (Nat → Int32) → (Nat → Int32) → (Nat → Int32) → Prop}
    (h1 : ∀ k st a f d c hh p q, k ≤ 60 → fb_ct (fun i => decide (¬ itF (meV tn tk nv) (deV un uk uv) n (nI sn) lo F k 3 i ≤ 0)) n = 0 → (∀ j, j < k → ¬ fb_ct (fun i => decide (¬ itF (meV tn tk nv) (deV un uk uv) n (nI sn) lo F j 3 i ≤ 0)) n = 0) → Q (nI k) (nI n) st lo kind m a f gl d c hh p q rf)
    (h2 : ∀ st a f d c hh p q, (∀ j, j ≤ 60 → ¬ fb_ct (fun i => decide (¬ itF (meV tn tk nv) (deV un uk uv) n (nI sn) lo F j 3 i ≤ 0)) n = 0) → Q (-1000000002) (nI n) st lo kind m a f gl d c hh p q (upd rf 2 (rf 2 + 1))) :
    ∀ r i, i + r = 61 → ∀ st a f d c hh p q, st = nI (sn + i) → CF n (itF (meV tn tk nv) (deV un uk uv) n (nI sn) lo F i) kind m a f gl d → (∀ j, j < i → ¬ fb_ct (fun i => decide (¬ itF (meV tn tk nv) (deV un uk uv) n (nI sn) lo F j 3 i ≤ 0)) n = 0) → lb_X7_dies_6 z1 z2 z3 y1 y2 y3 y4 y5 y6 size signs numbers usize usigns unumbers Q (r + 1) (nI i) (nI n) st lo kind m a f gl d c hh p q rf := by
  intro r
  induction r with
  | zero =>
    intro i hi st a f d c hh p q e1 e2 e3
    have : i = 61 := by omega
    subst this
    refine ⟨fun _ => ?_, fun c => absurd (show (60 : Int32) < nI 61 by decide) c⟩
    rw [e_ref2]
    exact h2 _ _ _ _ _ _ _ _ (fun j hj => e3 j (by omega))
  | succ r ih =>
    intro i hi st a f d c hh p q e1 e2 e3
    refine ⟨fun c => absurd c ?_, fun _ => s_howFree hn ?_⟩
    · rw [fa_lit 60, lt_nn (by decide) (by omega)]; omega
    rw [ct_z hn, fb_ct_cong (p := fun i => decide (¬ f i ≤ 0)) (q := fun j => decide (¬ itF (meV tn tk nv) (deV un uk uv) n (nI sn) lo F i 3 j ≤ 0)) (fun j hj => by rw [(e2 j hj).2.2.2.1])]
    refine ⟨fun nz => ?_, fun z => ?_⟩
    · refine s_pass1 hn T w U v ok e1 e2 (fun st2 f2 c2 a2 hh2 p2 q2 d2 g1 g2 => ?_)
      rw [nI_1]
      refine ih (i + 1) (by omega) _ _ _ _ _ _ _ _ g1 g2 (fun j hj => ?_)
      by_cases e : j = i
      · subst e; exact nz
      · exact e3 j (by omega)
    · exact h1 i _ _ _ _ _ _ _ _ (by omega) z e3
theorem m_dies {n tn un sn : Nat} (hn : n ≤ 8) {tk uk : Nat → Nat} {nv uv now er as : Nat → Int32} {F : Nat → Nat → Int32} {lo : Int32} (T : TRm tn tk nv 124 now) (w : wfT tn tk nv) (U : TRm un uk uv 176 now) (v : wfT un uk uv) (ok : okP n F) (hsn : sn < 2 ^ 29) (l2 : now 2 = lo) (has : ag as now) {Q : Int32 → (Nat → Int32) → (Nat → Int32) → (Nat → Int32) → (Nat → Int32) → (Nat → Int32) → (Nat → Int32) → (Nat → Int32) → (Nat → Int32) → Prop}
    (h1 : ∀ k nw ah mf nm p df, k ≤ 60 → fb_ct (fun i => decide (¬ itF (meV tn tk nv) (deV un uk uv) n (nI sn) lo F k 3 i ≤ 0)) n = 0 → (∀ j, j < k → ¬ fb_ct (fun i => decide (¬ itF (meV tn tk nv) (deV un uk uv) n (nI sn) lo F j 3 i ≤ 0)) n = 0) → ag nw now → MC (meV tn tk nv) mf → DC (deV un uk uv) df → Q (nI k) nw as ah mf nm p df er)
    (h2 : ∀ nw ah mf nm p df, (∀ j, j ≤ 60 → ¬ fb_ct (fun i => decide (¬ itF (meV tn tk nv) (deV un uk uv) n (nI sn) lo F j 3 i ≤ 0)) n = 0) → ag nw now → MC (meV tn tk nv) mf → DC (deV un uk uv) df → Q (-1000000002) nw as ah mf nm p df (upd er 2 (er 2 + 1))) :
    ∀ r i, i + r = 60 → ∀ nw ah mf nm p df, nw 0 = nI (sn + i) → PN n (itF (meV tn tk nv) (deV un uk uv) n (nI sn) lo F i) nw → rst now nw → (∀ j, j < i → ¬ fb_ct (fun i => decide (¬ itF (meV tn tk nv) (deV un uk uv) n (nI sn) lo F j 3 i ≤ 0)) n = 0) → MC (meV tn tk nv) mf → DC (deV un uk uv) df → lb_X8_dies_13 Q (r + 1) (nI i) nw as ah mf nm p df er := by
  have cg : ∀ i nw, PN n (itF (meV tn tk nv) (deV un uk uv) n (nI sn) lo F i) nw → fb_ct (fun j => decide (¬ nw (6 + 6 * j + 3) ≤ 0)) n = fb_ct (fun j => decide (¬ itF (meV tn tk nv) (deV un uk uv) n (nI sn) lo F i 3 j ≤ 0)) n := fun i nw e2 => fb_ct_cong (fun j hj => by rw [e2.2 j hj 3 (by decide)])
  have E : ∀ i, i ≤ 60 → ∀ nw ah mf nm p df, PN n (itF (meV tn tk nv) (deV un uk uv) n (nI sn) lo F i) nw → (∀ j, j < i → ¬ fb_ct (fun i => decide (¬ itF (meV tn tk nv) (deV un uk uv) n (nI sn) lo F j 3 i ≤ 0)) n = 0) → (fb_ct (fun j => decide (¬ itF (meV tn tk nv) (deV un uk uv) n (nI sn) lo F i 3 j ≤ 0)) n = 0 ∨ i = 60) → MC (meV tn tk nv) mf → DC (deV un uk uv) df → lb_X8_dies_36 Q (nI i) nw as ah mf nm p df er := by
    intro i hi nw ah mf nm p df e2 e3 hh m1 d1
    unfold lb_X8_dies_36
    refine m_free hn e2.1 ?_
    rw [st_z hn, cg i nw e2]
    refine ⟨fun nz => ?_, fun z => ?_⟩
    · have : i = 60 := by
        rcases hh with q | q
        · exact absurd q nz
        · exact q
      subst this
      refine m_copy (fun w2 hw2 => ⟨fun _ => ?_, fun c => absurd rfl c⟩)
      rw [e_fin2]
      refine h2 _ _ _ _ _ _ (fun j hj => ?_) (ag_tr hw2 has) m1 d1
      by_cases e : j = 60
      · subst e; exact nz
      · exact e3 j (by omega)
    · exact m_copy (fun w2 hw2 => ⟨fun c => absurd c (by decide), fun _ => h1 i _ _ _ _ _ _ hi z e3 (ag_tr hw2 has) m1 d1⟩)
  intro r
  induction r with
  | zero =>
    intro i hi nw ah mf nm p df e1 e2 e4 e3 m1 d1
    have : i = 60 := by omega
    subst this
    exact ⟨fun _ => E 60 (by omega) _ _ _ _ _ _ e2 e3 (Or.inr rfl) m1 d1, fun c => absurd (show (60 : Int32) ≤ nI 60 by decide) c⟩
  | succ r ih =>
    intro i hi nw ah mf nm p df e1 e2 e4 e3 m1 d1
    refine ⟨fun c => absurd c (nI_ge (show i < 60 by omega) (by decide)), fun _ => m_free hn e2.1 ?_⟩
    rw [st_z hn, cg i nw e2]
    refine ⟨fun z => E i (by omega) _ _ _ _ _ _ e2 e3 (Or.inl z) m1 d1, fun nz => ?_⟩
    refine m_step1 hn (rst_T e4 (by decide) T) w (rst_T e4 (by decide) U) v e2 ok e1 (by omega) ((e4 2 (by omega)).trans l2) m1 d1 (fun nw2 ah2 m2 n2 p2 d2 b1 b2 b3 b4 b5 => ?_)
    rw [nI_1]
    refine ih (i + 1) (by omega) _ _ _ _ _ _ b1 b2 (rst_tr e4 b3) (fun j hj => ?_) b4 b5
    by_cases e : j = i
    · subst e; exact nz
    · exact e3 j (by omega)
set_option maxHeartbeats 4000000 in
set_option maxRecDepth 100000 in
theorem op_dies {ca : Nat → Nat → Int32} {ci : Nat → Int32} {ma : Nat → Nat → Int32} {mi : Nat → Int32} (h : Inv ca ci ma mi) : wp_X7_dies (ci 4) (ci 5) (ci 6) (ci 17) (ci 18) (ci 19) (ca 6) (ca 32) (ca 7) (ca 33) (ca 8) (ca 34) (ca 9) (ca 35) (ca 10) (ca 36) (ca 11) (ca 37) (ca 39) (ca 38) (ci 2) (ca 0) (ca 1) (ca 2) (ci 3) (ca 3) (ca 4) (ca 5) (ca 49) (fun r1 c0 c1 c2 c3 c4 c5 c6 c7 c8 c9 c10 c11 c12 c13 => wp_X8_dies (ma 0) (ma 2) (ma 6) (ma 4) (ma 8) (ma 9) (ma 5) (ma 3) (fun r2 m0 m1 m2 m3 m4 m5 m6 m7 => r1 = r2 ∧ Inv (va_up (va_up (va_up (va_up (va_up (va_up (va_up (va_up (va_up (va_up (va_up ca 32 c3) 33 c4) 34 c5) 35 c6) 36 c7) 37 c8) 39 c9) 38 c10) 2 c11) 5 c12) 49 c13) (va_up (va_up (va_up ci 17 c0) 18 c1) 19 c2) (va_up (va_up (va_up (va_up (va_up (va_up (va_up (va_up ma 0 m0) 2 m1) 6 m2) 4 m3) 8 m4) 9 m5) 5 m6) 3 m7) mi)) := by
  obtain ⟨tl, hkp, him, re, rv, r0, r1, r2, r3⟩ := h
  obtain ⟨n, sn, ln, F, tn, tk, nv, un, uk, uv, pn, wn, ⟨hn, hsn, hln, ok, wT, wU, hpn, hwn⟩, ⟨tc1, tc2, tc3, cf, cT, cU, tc7, tc8⟩, tm, mc, dc⟩ := id tl
  obtain ⟨tm1, tm2, tm3, tm4, tmT, tmU, tm7, tm8, tm9, tm10⟩ := id tm
  have fin : ∀ w mf df, ag w (ma 0) → MC (meV tn tk nv) mf → DC (deV un uk uv) df → TL (ci 1) (ci 4) (ci 5) (ci 6) (ca 6) (ca 7) (ca 8) (ca 9) (ca 10) (ca 11) (ci 2) (ca 0) (ca 1) (ci 3) (ca 3) (ca 4) (ci 7) (ca 14) (ci 8) (ca 15) w mf df := fun w mf df a1 a2 a3 => ⟨n, sn, ln, F, tn, tk, nv, un, uk, uv, pn, wn, ⟨hn, hsn, hln, ok, wT, wU, hpn, hwn⟩, ⟨tc1, tc2, tc3, cf, cT, cU, tc7, tc8⟩, tm_eq hn wT wU hpn hwn tm a1, a2, a3⟩
  unfold wp_X7_dies wp_X8_dies
  rw [tc1]
  refine s_think hn cf (fun k1 m1 a1 f1 g1 d1 cf1 => ?_)
  refine ⟨61 + 1, ?_⟩
  have M : ∀ (R : Int32 → (Nat → Int32) → (Nat → Int32) → (Nat → Int32) → (Nat → Int32) → (Nat → Int32) → (Nat → Int32) → (Nat → Int32) → (Nat → Int32) → Prop) , (∀ as k nw ah mf nm p df, k ≤ 60 → fb_ct (fun i => decide (¬ itF (meV tn tk nv) (deV un uk uv) n (nI sn) (nI ln) F k 3 i ≤ 0)) n = 0 → (∀ j, j < k → ¬ fb_ct (fun i => decide (¬ itF (meV tn tk nv) (deV un uk uv) n (nI sn) (nI ln) F j 3 i ≤ 0)) n = 0) → ag nw (ma 0) → MC (meV tn tk nv) mf → DC (deV un uk uv) df → R (nI k) nw as ah mf nm p df (ma 3)) → (∀ as nw ah mf nm p df, (∀ j, j ≤ 60 → ¬ fb_ct (fun i => decide (¬ itF (meV tn tk nv) (deV un uk uv) n (nI sn) (nI ln) F j 3 i ≤ 0)) n = 0) → ag nw (ma 0) → MC (meV tn tk nv) mf → DC (deV un uk uv) df → R (-1000000002) nw as ah mf nm p df (upd (ma 3) 2 (ma 3 2 + 1))) → wp_X8_copy (ma 0) (ma 2) (fun o3 => ∃ n, lb_X8_dies_13 R n 0 (ma 0) o3 (ma 6) (ma 4) (ma 8) (ma 9) (ma 5) (ma 3)) := fun R h1 h2 => m_copy (fun as has => ⟨60 + 1, m_dies hn tmT wT tmU wU ok (by omega) tm3 has (h1 as) (h2 as) 60 0 rfl _ _ _ _ _ _ tm2 tm1 (rst_rf _) (fun j hj => absurd hj (by omega)) mc dc⟩)
  rw [tc3]
  refine s_dies hn cT wT cU wU ok ?_ ?_ 61 0 rfl _ _ _ _ _ _ _ _ tc2 cf1 (fun j hj => absurd hj (by omega))
  · intro k st a f d cc hh p q hk hp hj
    refine M _ (fun as k' nw ah mf nm p df hk' hp' hj' ha hm hd => ⟨?_, fin _ _ _ ha hm hd, hkp, him, re, rv, r0, r1, r2, r3⟩) (fun as nw ah mf nm p df hj' ha hm hd => absurd hp (hj' k hk))
    congr 1
    rcases Nat.lt_trichotomy k k' with e | e | e
    · exact absurd hp (hj' k e)
    · exact e
    · exact absurd hp' (hj k' e)
  · intro st a f d cc hh p q hj
    exact M _ (fun as k' nw ah mf nm p df hk' hp' hj' ha hm hd => absurd hp' (hj k' hk')) (fun as nw ah mf nm p df hj' ha hm hd => ⟨rfl, fin _ _ _ ha hm hd, hkp, him, re_upd re (k := 2) (by decide), rv, r0, r1, r2, r3⟩)
/-- the first greatest of h below i -/
def bsF (h : Nat → Nat) : Nat → Nat
  | 0 => 0
  | i + 1 => if h i ≤ h (bsF h i) then bsF h i else i
theorem bsF_lt (h : Nat → Nat) : ∀ i, 0 < i → bsF h i < i
  | 0, q => absurd q (by decide)
  | 1, _ => by unfold bsF; split <;> simp [bsF]
  | i + 2, _ => by
    have := bsF_lt h (i + 1) (by omega)
    unfold bsF
    split
    · omega
    · omega
theorem bsF_1 (h : Nat → Nat) : (0 : Int32) = nI (bsF h 1) := by
  have e : bsF h 1 = 0 := by
    show (if h 0 ≤ h (bsF h 0) then bsF h 0 else 0) = 0
    split <;> rfl
  rw [e]
  rfl
theorem s_crush {n : Nat} (hn : n ≤ 8) {z1 z2 z3 : Int32} {y1 y2 y3 y4 y5 y6 : Nat → Int32} {size usize : Int32} {signs numbers usigns unumbers : Nat → Int32} {x1 x2 st lo : Int32} {A rf kind m gl a f d c hh p q : Nat → Int32} (hA : ∀ i, i < n → a i = A i) {Q : Int32 → (Nat → Int32) → Int32 → Int32 → Int32 → (Nat → Int32) → (Nat → Int32) → (Nat → Int32) → (Nat → Int32) → (Nat → Int32) → (Nat → Int32) → (Nat → Int32) → (Nat → Int32) → (Nat → Int32) → (Nat → Int32) → Prop}
    (h : Q (if x2 = 0 then nI (bsF (fun s => fb_ct (fun i => decide (A i = nI s)) n) 8) else nI (fb_ct (fun i => decide (A i = nI (bsF (fun s => fb_ct (fun i => decide (A i = nI s)) n) 8))) n)) rf (nI n) st lo kind m a f gl d c hh p q) :
    ∀ r i, 1 ≤ i → i + r = 8 → ∀ y, y = nI (bsF (fun s => fb_ct (fun i => decide (A i = nI s)) n) i) → lb_X7_crush_40 x1 x2 z1 z2 z3 y1 y2 y3 y4 y5 y6 size signs numbers usize usigns unumbers Q (r + 1) y (nI i) rf (nI n) st lo kind m a f gl d c hh p q := by
  have cg : ∀ s, fb_ct (fun i => decide (a i = nI s)) n = fb_ct (fun i => decide (A i = nI s)) n := fun s => fb_ct_cong (fun j hj => by rw [hA j hj])
  intro r
  induction r with
  | zero =>
    intro i h1 hi y hy
    subst hy
    have : i = 8 := by omega
    subst this
    refine ⟨fun _ => ⟨fun c => s_howAt hn ?_, fun c => ?_⟩, fun c => absurd (show (8 : Int32) ≤ nI 8 by decide) c⟩
    · rw [if_neg c] at h
      rw [cg]; exact h
    · rw [if_pos c] at h
      exact h
  | succ r ih =>
    intro i h1 hi y hy
    subst hy
    refine ⟨fun c => absurd c (nI_ge (show i < 8 by omega) (by decide)), fun _ => s_howAt hn (s_howAt hn ?_)⟩
    rw [cg, cg, nI_1]
    have e := ih (i + 1) (by omega) (by omega) _ rfl
    have l1 := fb_ct_le (fun j => decide (A j = nI i)) n
    have l2 := fb_ct_le (fun j => decide (A j = nI (bsF (fun s => fb_ct (fun i => decide (A i = nI s)) n) i))) n
    rw [li_nn (by omega) (by omega)]
    unfold bsF at e
    refine ⟨fun c => ?_, fun c => ?_⟩
    · rw [if_pos c] at e; exact e
    · rw [if_neg c] at e; exact e
theorem m_crush {n : Nat} (hn : n ≤ 8) {x1 x2 : Int32} {A er now nw as ah mf nm p df : Nat → Int32} (hA : ∀ i, i < n → nw (6 + 6 * i + 2) = A i) (h1 : nw 1 = nI n) (has : ag as now) {Q : Int32 → (Nat → Int32) → (Nat → Int32) → (Nat → Int32) → (Nat → Int32) → (Nat → Int32) → (Nat → Int32) → (Nat → Int32) → (Nat → Int32) → Prop}
    (h : ∀ w2, ag w2 now → Q (if x2 = 0 then nI (bsF (fun s => fb_ct (fun i => decide (A i = nI s)) n) 8) else nI (fb_ct (fun i => decide (A i = nI (bsF (fun s => fb_ct (fun i => decide (A i = nI s)) n) 8))) n)) er w2 as ah mf nm p df) :
    ∀ r i, 1 ≤ i → i + r = 8 → ∀ y, y = nI (bsF (fun s => fb_ct (fun i => decide (A i = nI s)) n) i) → lb_X8_crush_44 x1 x2 Q (r + 1) y (nI i) er nw as ah mf nm p df := by
  have bt : ∀ s (R : Int32 → Prop), R (nI (fb_ct (fun i => decide (A i = nI s)) n)) → wp_X8_atStreet (nI s) nw (fun r => wp_X8_bits r R) := fun s R hR => by
    refine m_at hn h1 (m_bits (st256 _ hn) ?_)
    rw [pop_st _ hn, fb_ct_cong (q := fun i => decide (A i = nI s)) (fun j hj => by rw [hA j hj])]
    exact hR
  intro r
  induction r with
  | zero =>
    intro i hi1 hi y hy
    subst hy
    have : i = 8 := by omega
    subst this
    refine ⟨fun _ => ⟨fun c => bt _ _ ?_, fun c => ?_⟩, fun c => absurd (show (8 : Int32) ≤ nI 8 by decide) c⟩
    · rw [if_neg c] at h
      exact m_copy (fun w2 hw2 => h w2 (ag_tr hw2 has))
    · rw [if_pos c] at h
      exact m_copy (fun w2 hw2 => h w2 (ag_tr hw2 has))
  | succ r ih =>
    intro i hi1 hi y hy
    subst hy
    refine ⟨fun c => absurd c (nI_ge (show i < 8 by omega) (by decide)), fun _ => bt _ _ (bt _ _ ?_)⟩
    rw [nI_1]
    have e := ih (i + 1) (by omega) (by omega) _ rfl
    have l1 := fb_ct_le (fun j => decide (A j = nI i)) n
    have l2 := fb_ct_le (fun j => decide (A j = nI (bsF (fun s => fb_ct (fun i => decide (A i = nI s)) n) i))) n
    rw [li_nn (by omega) (by omega)]
    unfold bsF at e
    refine ⟨fun c => ?_, fun c => ?_⟩
    · rw [if_pos c] at e; exact e
    · rw [if_neg c] at e; exact e
set_option maxHeartbeats 4000000 in
set_option maxRecDepth 100000 in
theorem op_crush {ca : Nat → Nat → Int32} {ci : Nat → Int32} {ma : Nat → Nat → Int32} {mi : Nat → Int32} (h : Inv ca ci ma mi) (s1 : Int32) (s2 : Int32) : wp_X7_crush s1 s2 (ca 49) (ci 4) (ci 5) (ci 6) (ci 17) (ci 18) (ci 19) (ca 6) (ca 32) (ca 7) (ca 33) (ca 8) (ca 34) (ca 9) (ca 35) (ca 10) (ca 36) (ca 11) (ca 37) (ca 39) (ca 38) (ci 2) (ca 0) (ca 1) (ca 2) (ci 3) (ca 3) (ca 4) (ca 5) (fun r1 c0 c1 c2 c3 c4 c5 c6 c7 c8 c9 c10 c11 c12 c13 => wp_X8_crush s1 s2 (ma 3) (ma 0) (ma 2) (ma 6) (ma 4) (ma 8) (ma 9) (ma 5) (fun r2 m0 m1 m2 m3 m4 m5 m6 m7 => r1 = r2 ∧ Inv (va_up (va_up (va_up (va_up (va_up (va_up (va_up (va_up (va_up (va_up (va_up ca 49 c0) 32 c4) 33 c5) 34 c6) 35 c7) 36 c8) 37 c9) 39 c10) 38 c11) 2 c12) 5 c13) (va_up (va_up (va_up ci 17 c1) 18 c2) 19 c3) (va_up (va_up (va_up (va_up (va_up (va_up (va_up (va_up ma 3 m0) 0 m1) 2 m2) 6 m3) 4 m4) 8 m5) 9 m6) 5 m7) mi)) := by
  obtain ⟨tl, hkp, him, re, rv, r0, r1, r2, r3⟩ := h
  obtain ⟨n, sn, ln, F, tn, tk, nv, un, uk, uv, pn, wn, ⟨hn, hsn, hln, ok, wT, wU, hpn, hwn⟩, ⟨tc1, tc2, tc3, cf, cT, cU, tc7, tc8⟩, tm, mc, dc⟩ := id tl
  obtain ⟨tm1, tm2, tm3, tm4, tmT, tmU, tm7, tm8, tm9, tm10⟩ := id tm
  have fin : ∀ w mf df, ag w (ma 0) → MC (meV tn tk nv) mf → DC (deV un uk uv) df → TL (ci 1) (ci 4) (ci 5) (ci 6) (ca 6) (ca 7) (ca 8) (ca 9) (ca 10) (ca 11) (ci 2) (ca 0) (ca 1) (ci 3) (ca 3) (ca 4) (ci 7) (ca 14) (ci 8) (ca 15) w mf df := fun w mf df a1 a2 a3 => ⟨n, sn, ln, F, tn, tk, nv, un, uk, uv, pn, wn, ⟨hn, hsn, hln, ok, wT, wU, hpn, hwn⟩, ⟨tc1, tc2, tc3, cf, cT, cU, tc7, tc8⟩, tm_eq hn wT wU hpn hwn tm a1, a2, a3⟩
  unfold wp_X7_crush wp_X8_crush lb_X7_crush_17 lb_X8_crush_16
  rw [tc1]
  by_cases c : (0 : Int32) ≤ s1 ∧ s1 ≤ 60
  · by_cases d : (0 : Int32) ≤ s2 ∧ s2 ≤ 1
    · simp only [e_within, e_isEither, e_within8, e_isBehind8, b2i_t c, b2i_t d, z10, false_implies, true_implies, not_true_eq_false, not_false_eq_true, true_and, and_true, forall_eq]
      obtain ⟨k, hk, rfl⟩ := sm_of (n := 60) (by decide) c
      refine s_think hn cf (fun k1 m1 a1 f1 g1 d1 cf1 => ?_)
      refine s_pass hn (by omega) cT wT cU wU ok cf1 (fun f cr a hh p q dd cf' => ⟨7 + 1, ?_⟩)
      rw [tc2, tc3] at cf'
      refine s_crush hn (A := itF (meV tn tk nv) (deV un uk uv) n (nI sn) (nI ln) F k 2) (fun i hi => (cf' i hi).2.2.1) ?_ 7 1 (by decide) (by decide) _ (bsF_1 _)
      refine m_copy (fun as has => m_steps hn hk tmT wT tmU wU tm1 ok tm2 (by omega) tm3 mc dc (fun nw ah mf nm p df b1 b2 b3 b4 b5 => ⟨7 + 1, ?_⟩))
      refine m_crush hn (A := itF (meV tn tk nv) (deV un uk uv) n (nI sn) (nI ln) F k 2) (fun i hi => b2.2 i hi 2 (by decide)) b2.1 has (fun w2 hw2 => ⟨rfl, fin _ _ _ hw2 b4 b5, hkp, him, re, rv, r0, r1, r2, r3⟩) 7 1 (by decide) (by decide) _ (bsF_1 _)
    · simp only [e_within, e_isEither, e_within8, e_isBehind8, b2i_t c, b2i_f d, z10, z00, e_ref1, e_fin1, false_implies, true_implies, not_true_eq_false, not_false_eq_true, true_and, and_true, forall_eq]
      exact (by first | exact ⟨tl, hkp, him, re_upd re (k := 1) (by decide), rv, r0, r1, r2, r3⟩ | exact ⟨rfl, tl, hkp, him, re_upd re (k := 1) (by decide), rv, r0, r1, r2, r3⟩)
  · simp only [e_within, e_isBehind8, b2i_f c, z00, e_ref1, e_fin1, false_implies, true_implies, not_true_eq_false, not_false_eq_true, true_and, and_true, forall_eq]
    exact (by first | exact ⟨tl, hkp, him, re_upd re (k := 1) (by decide), rv, r0, r1, r2, r3⟩ | exact ⟨rfl, tl, hkp, him, re_upd re (k := 1) (by decide), rv, r0, r1, r2, r3⟩)
