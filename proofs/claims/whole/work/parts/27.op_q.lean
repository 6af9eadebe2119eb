theorem p256 {n : Nat} (hn : n ≤ 8) : 2 ^ n ≤ 256 := Nat.pow_le_pow_right (n := 2) (by decide) hn
theorem s_gloI {n tn un sn kk c : Nat} (hn : n ≤ 8) (hc : c ≤ 8) (hk : kk ≤ 60) {tk uk : Nat → Nat} {nv uv : Nat → Int32} {lo st s size usize : Int32} {F : Nat → Nat → Int32} {rf kind m at_ free gl de signs numbers usigns unumbers : Nat → Int32}
    (T : TRc tn tk nv size signs numbers) (w : wfT tn tk nv) (U : TRc un uk uv usize usigns unumbers) (v : wfT un uk uv) (ok : okP n F) (cf : CF n F kind m at_ free gl de) (hst : st = nI sn) {Q : Int32 → (Nat → Int32) → Int32 → Int32 → Int32 → (Nat → Int32) → (Nat → Int32) → (Nat → Int32) → (Nat → Int32) → (Nat → Int32) → (Nat → Int32) → (Nat → Int32) → (Nat → Int32) → (Nat → Int32) → (Nat → Int32) → Prop} {K : Int32 → Int32 → Int32 → (Nat → Int32) → Int32 → Int32 → Int32 → (Nat → Int32) → (Nat → Int32) → (Nat → Int32) → (Nat → Int32) → (Nat → Int32) → (Nat → Int32) → (Nat → Int32) → (Nat → Int32) → (Nat → Int32) → (Nat → Int32) → Prop}
    (h1 : ∀ b t1 t2 t3 k1 m1 a f g d c2 hh p q, b < 2 ^ n → pop8 b = c → saP (itF (meV tn tk nv) (deV un uk uv) n (nI sn) lo (glF F b)) n s kk → (∀ m', m' < b → pop8 m' = c → ¬ saP (itF (meV tn tk nv) (deV un uk uv) n (nI sn) lo (glF F m')) n s kk) → Q (nI b) rf t1 t2 t3 k1 m1 a f g d c2 hh p q)
    (h2 : ∀ t1 t2 t3 k1 m1 a f g d c2 hh p q, (∀ m', m' < 2 ^ n → pop8 m' = c → ¬ saP (itF (meV tn tk nv) (deV un uk uv) n (nI sn) lo (glF F m')) n s kk) → K (nI n) (nI (2 ^ n)) (nI (c + 1)) rf t1 t2 t3 k1 m1 a f g d c2 hh p q) :
    ∀ r i, i + r = 2 ^ n → ∀ t1 t2 t3 k1 m1 a f g d c2 hh p q, (∀ m', m' < i → pop8 m' = c → ¬ saP (itF (meV tn tk nv) (deV un uk uv) n (nI sn) lo (glF F m')) n s kk) → lb_X7_gloves_51 s (nI kk) (nI n) st lo kind m at_ free gl de size signs numbers usize usigns unumbers Q K (r + 1) (nI n) (nI (2 ^ n)) (nI c) (nI i) rf t1 t2 t3 k1 m1 a f g d c2 hh p q := by
  have p2 := p256 hn
  intro r
  induction r with
  | zero =>
    intro i hi t1 t2 t3 k1 m1 a f g d c2 hh p q e
    have : i = 2 ^ n := by omega
    subst this
    refine ⟨fun _ => ?_, fun c => absurd (Int32.le_refl _) c⟩
    rw [nI_1]
    exact h2 _ _ _ _ _ _ _ _ _ _ _ _ _ e
  | succ r ih =>
    intro i hi t1 t2 t3 k1 m1 a f g d c2 hh p q e
    have hi2 : i < 2 ^ n := by omega
    refine ⟨fun c => absurd c (nI_ge hi2 (by omega)), fun _ => e_bitCount (by omega) ?_⟩
    have pl := pop_le hn hi2
    rw [eq_nn (by omega) (by omega), nI_1]
    have skip : (pop8 i = c → ¬ saP (itF (meV tn tk nv) (deV un uk uv) n (nI sn) lo (glF F i)) n s kk) → ∀ m', m' < i + 1 → pop8 m' = c → ¬ saP (itF (meV tn tk nv) (deV un uk uv) n (nI sn) lo (glF F m')) n s kk := fun q m' hm' => by
      by_cases z : m' = i
      · subst z; exact q
      · exact e m' (by omega)
    refine ⟨fun ne => ih (i + 1) (by omega) _ _ _ _ _ _ _ _ _ _ _ _ _ (skip (fun q => absurd q ne)), fun eq => ?_⟩
    refine s_away hn hk (by omega) T w U v ok cf hst (fun sa t1 t2 t3 k1 m1 a f g d c2 hh p q => ⟨fun z => absurd z (by decide), fun _ => h1 i _ _ _ _ _ _ _ _ _ _ _ _ _ hi2 eq sa e⟩) (fun ns t1 t2 t3 k1 m1 a f g d c2 hh p q => ⟨fun _ => ih (i + 1) (by omega) _ _ _ _ _ _ _ _ _ _ _ _ _ (skip (fun _ => ns)), fun z => absurd rfl z⟩)
def bstP (A : Nat → Prop) (N b : Nat) : Prop := b < N ∧ A b ∧ ∀ m, m < N → A m → pop8 b < pop8 m ∨ (pop8 b = pop8 m ∧ b ≤ m)
theorem bst_one {A : Nat → Prop} {N b c : Nat} (h : bstP A N b) (h2 : bstP A N c) : b = c := by
  have e1 := h.2.2 c h2.1 h2.2.1
  have e2 := h2.2.2 b h.1 h.2.1
  omega
theorem s_glo {n tn un sn kk : Nat} (hn : n ≤ 8) (hk : kk ≤ 60) {tk uk : Nat → Nat} {nv uv : Nat → Int32} {lo st s size usize : Int32} {F : Nat → Nat → Int32} {rf kind m at_ free gl de signs numbers usigns unumbers : Nat → Int32}
    (T : TRc tn tk nv size signs numbers) (w : wfT tn tk nv) (U : TRc un uk uv usize usigns unumbers) (v : wfT un uk uv) (ok : okP n F) (cf : CF n F kind m at_ free gl de) (hst : st = nI sn) {Q : Int32 → (Nat → Int32) → Int32 → Int32 → Int32 → (Nat → Int32) → (Nat → Int32) → (Nat → Int32) → (Nat → Int32) → (Nat → Int32) → (Nat → Int32) → (Nat → Int32) → (Nat → Int32) → (Nat → Int32) → (Nat → Int32) → Prop}
    (h1 : ∀ b t1 t2 t3 k1 m1 a f g d c2 hh p q, bstP (fun m' => saP (itF (meV tn tk nv) (deV un uk uv) n (nI sn) lo (glF F m')) n s kk) (2 ^ n) b → Q (nI b) rf t1 t2 t3 k1 m1 a f g d c2 hh p q)
    (h2 : ∀ t1 t2 t3 k1 m1 a f g d c2 hh p q, (∀ m', m' < 2 ^ n → ¬ saP (itF (meV tn tk nv) (deV un uk uv) n (nI sn) lo (glF F m')) n s kk) → Q (-1000000002) (upd rf 2 (rf 2 + 1)) t1 t2 t3 k1 m1 a f g d c2 hh p q) :
    ∀ r c, c + r = n + 1 → ∀ t1 t2 t3 k1 m1 a f g d c2 hh p q, (∀ m', m' < 2 ^ n → pop8 m' < c → ¬ saP (itF (meV tn tk nv) (deV un uk uv) n (nI sn) lo (glF F m')) n s kk) → lb_X7_gloves_42 s (nI kk) (nI n) st lo kind m at_ free gl de size signs numbers usize usigns unumbers Q (r + 1) (nI n) (nI (2 ^ n)) (nI c) rf t1 t2 t3 k1 m1 a f g d c2 hh p q := by
  intro r
  induction r with
  | zero =>
    intro c hi t1 t2 t3 k1 m1 a f g d c2 hh p q e
    have : c = n + 1 := by omega
    subst this
    refine ⟨fun _ => ?_, fun c => absurd ?_ c⟩
    · rw [e_ref2]
      exact h2 _ _ _ _ _ _ _ _ _ _ _ _ _ (fun m' hm' => e m' hm' (by have := pop_le hn hm'; omega))
    · rw [lt_nn (by omega) (by omega)]; omega
  | succ r ih =>
    intro c hi t1 t2 t3 k1 m1 a f g d c2 hh p q e
    refine ⟨fun q => absurd q ?_, fun _ => ⟨2 ^ n + 1, ?_⟩⟩
    · rw [lt_nn (by omega) (by omega)]; omega
    refine s_gloI hn (by omega) hk T w U v ok cf hst (fun b t1 t2 t3 k1 m1 a f g d c2 hh p q b1 b2 b3 b4 => h1 b _ _ _ _ _ _ _ _ _ _ _ _ _ ⟨b1, b3, fun m' hm' hs => ?_⟩) (fun t1 t2 t3 k1 m1 a f g d c2 hh p q b => ih (c + 1) (by omega) _ _ _ _ _ _ _ _ _ _ _ _ _ (fun m' hm' hp => ?_)) (2 ^ n) 0 (Nat.zero_add _) _ _ _ _ _ _ _ _ _ _ _ _ _ (fun m' hm' => absurd hm' (by omega))
    · have n1 : ¬ pop8 m' < c := fun q => e m' hm' q hs
      by_cases q : pop8 m' = c
      · exact Or.inr ⟨by omega, by
          rcases Nat.lt_or_ge m' b with l | l
          · exact absurd hs (b4 m' l q)
          · exact l⟩
      · exact Or.inl (by omega)
    · by_cases q : pop8 m' = c
      · exact b m' hm' q
      · exact e m' hm' (by omega)
theorem m_glo {n tn un sn kk : Nat} (hn : n ≤ 8) (hk : kk ≤ 60) {tk uk : Nat → Nat} {nv uv now er : Nat → Int32} {F : Nat → Nat → Int32} {lo s : Int32} (T : TRm tn tk nv 124 now) (w : wfT tn tk nv) (U : TRm un uk uv 176 now) (v : wfT un uk uv) (pn : PN n F now) (ok : okP n F) (h0 : now 0 = nI sn) (hsn : sn < 2 ^ 29) (l2 : now 2 = lo) {Q : Int32 → (Nat → Int32) → (Nat → Int32) → (Nat → Int32) → (Nat → Int32) → (Nat → Int32) → (Nat → Int32) → (Nat → Int32) → (Nat → Int32) → Prop}
    (h1 : ∀ b nw as ah mf nm p df, bstP (fun m' => saP (itF (meV tn tk nv) (deV un uk uv) n (nI sn) lo (glF F m')) n s kk) (2 ^ n) b → ag nw now → MC (meV tn tk nv) mf → DC (deV un uk uv) df → Q (nI b) er nw as ah mf nm p df)
    (h2 : ∀ nw as ah mf nm p df, (∀ m', m' < 2 ^ n → ¬ saP (itF (meV tn tk nv) (deV un uk uv) n (nI sn) lo (glF F m')) n s kk) → ag nw now → MC (meV tn tk nv) mf → DC (deV un uk uv) df → Q (-1000000002) (upd er 2 (er 2 + 1)) nw as ah mf nm p df) :
    ∀ r i, i + r = 2 ^ n → ∀ y3 nw as ah mf nm p df, ((y3 = -1 ∧ ∀ m', m' < i → ¬ saP (itF (meV tn tk nv) (deV un uk uv) n (nI sn) lo (glF F m')) n s kk) ∨ ∃ b, y3 = nI b ∧ bstP (fun m' => saP (itF (meV tn tk nv) (deV un uk uv) n (nI sn) lo (glF F m')) n s kk) i b) → ag nw now → MC (meV tn tk nv) mf → DC (deV un uk uv) df → lb_X8_gloves_26 s (nI kk) Q (r + 1) y3 (nI i) er nw as ah mf nm p df := by
  have p2 := p256 hn
  intro r
  induction r with
  | zero =>
    intro i hi y3 nw as ah mf nm p df e a m1 d1
    have : i = 2 ^ n := by omega
    subst this
    have en : jshl 1 (nw 1) = nI (2 ^ n) := by rw [(ag_PN a hn pn).1, shl_1 (by omega)]
    refine ⟨fun _ => ⟨fun c => ?_, fun c => ?_⟩, fun c => absurd (by rw [en]; exact Int32.le_refl _) c⟩
    · rcases e with ⟨rfl, _⟩ | ⟨b, rfl, hb⟩
      · exact absurd c (by decide)
      · exact h1 b _ _ _ _ _ _ _ hb a m1 d1
    · rcases e with ⟨rfl, ha⟩ | ⟨b, rfl, hb⟩
      · rw [e_fin2]
        exact h2 _ _ _ _ _ _ _ ha a m1 d1
      · exact absurd (by rw [fa_lit 0, li_nn (by decide) (by have := hb.1; omega)]; omega) c
  | succ r ih =>
    intro i hi y3 nw as ah mf nm p df e a m1 d1
    have hi2 : i < 2 ^ n := by omega
    have en : jshl 1 (nw 1) = nI (2 ^ n) := by rw [(ag_PN a hn pn).1, shl_1 (by omega)]
    refine ⟨fun c => absurd (by rw [en] at c; exact c) (nI_ge hi2 (by omega)), fun _ => ?_⟩
    rcases e with ⟨rfl, ha⟩ | ⟨b, rfl, hb⟩
    · refine ⟨fun _ => ?_, fun c => absurd (show (-1 : Int32) < 0 by decide) c⟩
      refine ⟨fun c => absurd c (by decide), fun _ => ?_⟩
      rw [nI_1]
      refine m_away hn hk (by omega) (ag_T a (by decide) w T) w (ag_T a (by decide) v U) v (ag_PN a hn pn) ok ((a 0 (by decide)).trans h0) hsn ((a 2 (by decide)).trans l2) m1 d1 (fun sa nw2 as2 ah2 mf2 nm2 p2 df2 b1 b2 b3 => ⟨fun z => absurd z (by decide), fun _ => ih (i + 1) (by omega) _ _ _ _ _ _ _ _ (Or.inr ⟨i, rfl, by omega, sa, fun m' hm' hs => ?_⟩) (ag_tr b1 a) b2 b3⟩) (fun ns nw2 as2 ah2 mf2 nm2 p2 df2 b1 b2 b3 => ⟨fun _ => ih (i + 1) (by omega) _ _ _ _ _ _ _ _ (Or.inl ⟨rfl, fun m' hm' => ?_⟩) (ag_tr b1 a) b2 b3, fun z => absurd rfl z⟩)
      · by_cases z : m' = i
        · subst z; exact Or.inr ⟨rfl, Nat.le_refl _⟩
        · exact absurd hs (ha m' (by omega))
      · by_cases z : m' = i
        · subst z; exact ns
        · exact ha m' (by omega)
    · have bl := hb.1
      refine ⟨fun c => absurd c (by rw [fa_lit 0, lt_nn (by omega) (by decide)]; omega), fun _ => ?_⟩
      have pl1 := pop_le hn hi2
      have pl2 := pop_le hn (show b < 2 ^ n by omega)
      refine m_bits (by omega) (m_bits (by omega) ?_)
      rw [li_nn (by omega) (by omega)]
      have keep : (saP (itF (meV tn tk nv) (deV un uk uv) n (nI sn) lo (glF F i)) n s kk → pop8 b ≤ pop8 i) → bstP (fun m' => saP (itF (meV tn tk nv) (deV un uk uv) n (nI sn) lo (glF F m')) n s kk) (i + 1) b := fun q => ⟨by omega, hb.2.1, fun m' hm' hs => by
        by_cases z : m' = i
        · subst z
          have := q hs
          omega
        · exact hb.2.2 m' (by omega) hs⟩
      refine ⟨fun le => ?_, fun nle => ?_⟩
      · refine ⟨fun _ => ?_, fun c => absurd rfl c⟩
        rw [nI_1]
        exact ih (i + 1) (by omega) _ _ _ _ _ _ _ _ (Or.inr ⟨b, rfl, keep (fun _ => le)⟩) a m1 d1
      · refine ⟨fun c => absurd c (by decide), fun _ => ?_⟩
        rw [nI_1]
        refine m_away hn hk (by omega) (ag_T a (by decide) w T) w (ag_T a (by decide) v U) v (ag_PN a hn pn) ok ((a 0 (by decide)).trans h0) hsn ((a 2 (by decide)).trans l2) m1 d1 (fun sa nw2 as2 ah2 mf2 nm2 p2 df2 b1 b2 b3 => ⟨fun z => absurd z (by decide), fun _ => ih (i + 1) (by omega) _ _ _ _ _ _ _ _ (Or.inr ⟨i, rfl, by omega, sa, fun m' hm' hs => ?_⟩) (ag_tr b1 a) b2 b3⟩) (fun ns nw2 as2 ah2 mf2 nm2 p2 df2 b1 b2 b3 => ⟨fun _ => ih (i + 1) (by omega) _ _ _ _ _ _ _ _ (Or.inr ⟨b, rfl, keep (fun q => absurd q ns)⟩) (ag_tr b1 a) b2 b3, fun z => absurd rfl z⟩)
        by_cases z : m' = i
        · subst z; exact Or.inr ⟨rfl, Nat.le_refl _⟩
        · have := hb.2.2 m' (by omega) hs
          exact Or.inl (by omega)
set_option maxHeartbeats 4000000 in
set_option maxRecDepth 100000 in
theorem op_gloves {ca : Nat → Nat → Int32} {ci : Nat → Int32} {ma : Nat → Nat → Int32} {mi : Nat → Int32} (h : Inv ca ci ma mi) (s1 : Int32) (s2 : Int32) : wp_X7_gloves s1 s2 (ca 49) (ci 4) (ci 5) (ci 6) (ci 17) (ci 18) (ci 19) (ca 6) (ca 32) (ca 7) (ca 33) (ca 8) (ca 34) (ca 9) (ca 35) (ca 10) (ca 36) (ca 11) (ca 37) (ca 39) (ca 38) (ci 2) (ca 0) (ca 1) (ca 2) (ci 3) (ca 3) (ca 4) (ca 5) (fun r1 c0 c1 c2 c3 c4 c5 c6 c7 c8 c9 c10 c11 c12 c13 => wp_X8_gloves s1 s2 (ma 3) (ma 0) (ma 2) (ma 6) (ma 4) (ma 8) (ma 9) (ma 5) (fun r2 m0 m1 m2 m3 m4 m5 m6 m7 => r1 = r2 ∧ Inv (va_up (va_up (va_up (va_up (va_up (va_up (va_up (va_up (va_up (va_up (va_up ca 49 c0) 32 c4) 33 c5) 34 c6) 35 c7) 36 c8) 37 c9) 39 c10) 38 c11) 2 c12) 5 c13) (va_up (va_up (va_up ci 17 c1) 18 c2) 19 c3) (va_up (va_up (va_up (va_up (va_up (va_up (va_up (va_up ma 3 m0) 0 m1) 2 m2) 6 m3) 4 m4) 8 m5) 9 m6) 5 m7) mi)) := by
  obtain ⟨tl, hkp, him, re, rv, r0, r1, r2, r3⟩ := h
  obtain ⟨n, sn, ln, F, tn, tk, nv, un, uk, uv, pn, wn, ⟨hn, hsn, hln, ok, wT, wU, hpn, hwn⟩, ⟨tc1, tc2, tc3, cf, cT, cU, tc7, tc8⟩, tm, mc, dc⟩ := id tl
  obtain ⟨tm1, tm2, tm3, tm4, tmT, tmU, tm7, tm8, tm9, tm10⟩ := id tm
  have fin : ∀ w mf df, ag w (ma 0) → MC (meV tn tk nv) mf → DC (deV un uk uv) df → TL (ci 1) (ci 4) (ci 5) (ci 6) (ca 6) (ca 7) (ca 8) (ca 9) (ca 10) (ca 11) (ci 2) (ca 0) (ca 1) (ci 3) (ca 3) (ca 4) (ci 7) (ca 14) (ci 8) (ca 15) w mf df := fun w mf df a1 a2 a3 => ⟨n, sn, ln, F, tn, tk, nv, un, uk, uv, pn, wn, ⟨hn, hsn, hln, ok, wT, wU, hpn, hwn⟩, ⟨tc1, tc2, tc3, cf, cT, cU, tc7, tc8⟩, tm_eq hn wT wU hpn hwn tm a1, a2, a3⟩
  unfold wp_X7_gloves wp_X8_gloves lb_X7_gloves_17 lb_X8_gloves_14
  rw [tc1]
  by_cases c : (0 : Int32) ≤ s1 ∧ s1 ≤ 7
  · by_cases d : (0 : Int32) ≤ s2 ∧ s2 ≤ 20
    · simp only [e_within, e_isStreet, e_isStreet8, e_isSoon8, b2i_t c, b2i_t d, z10, false_implies, true_implies, not_true_eq_false, not_false_eq_true, true_and, and_true, forall_eq]
      obtain ⟨k, hk, rfl⟩ := sm_of (n := 20) (by decide) d
      rw [tc3, shl_1 (show n < 31 by omega)]
      have M : ∀ (R : Int32 → (Nat → Int32) → (Nat → Int32) → (Nat → Int32) → (Nat → Int32) → (Nat → Int32) → (Nat → Int32) → (Nat → Int32) → (Nat → Int32) → Prop), (∀ b nw as ah mf nm p df, bstP (fun m' => saP (itF (meV tn tk nv) (deV un uk uv) n (nI sn) (nI ln) (glF F m')) n s1 k) (2 ^ n) b → ag nw (ma 0) → MC (meV tn tk nv) mf → DC (deV un uk uv) df → R (nI b) (ma 3) nw as ah mf nm p df) → (∀ nw as ah mf nm p df, (∀ m', m' < 2 ^ n → ¬ saP (itF (meV tn tk nv) (deV un uk uv) n (nI sn) (nI ln) (glF F m')) n s1 k) → ag nw (ma 0) → MC (meV tn tk nv) mf → DC (deV un uk uv) df → R (-1000000002) (upd (ma 3) 2 (ma 3 2 + 1)) nw as ah mf nm p df) → ∃ n, lb_X8_gloves_26 s1 (nI k) R n (-1) 0 (ma 3) (ma 0) (ma 2) (ma 6) (ma 4) (ma 8) (ma 9) (ma 5) := fun R h1 h2 => ⟨2 ^ n + 1, m_glo hn (by omega) tmT wT tmU wU tm1 ok tm2 (by omega) tm3 h1 h2 (2 ^ n) 0 (Nat.zero_add _) _ _ _ _ _ _ _ _ (Or.inl ⟨rfl, fun m' hm' => absurd hm' (by omega)⟩) (ag_rf _) mc dc⟩
      refine ⟨n + 1 + 1, s_glo hn (by omega) cT wT cU wU ok cf tc2 (fun b t1 t2 t3 k1 m1 a f g d c2 hh p q hb => ?_) (fun t1 t2 t3 k1 m1 a f g d c2 hh p q ha => ?_) (n + 1) 0 (Nat.zero_add _) _ _ _ _ _ _ _ _ _ _ _ _ _ (fun m' _ h => absurd h (by omega))⟩
      · exact M _ (fun b' nw as ah mf nm p df hb' a1 a2 a3 => ⟨by rw [bst_one hb hb'], fin _ _ _ a1 a2 a3, hkp, him, re, rv, r0, r1, r2, r3⟩) (fun nw as ah mf nm p df ha' a1 a2 a3 => absurd hb.2.1 (ha' b hb.1))
      · exact M _ (fun b' nw as ah mf nm p df hb' a1 a2 a3 => absurd hb'.2.1 (ha b' hb'.1)) (fun nw as ah mf nm p df ha' a1 a2 a3 => ⟨rfl, fin _ _ _ a1 a2 a3, hkp, him, re_upd re (k := 2) (by decide), rv, r0, r1, r2, r3⟩)
    · simp only [e_within, e_isStreet, e_isStreet8, e_isSoon8, b2i_t c, b2i_f d, z10, z00, e_ref1, e_fin1, false_implies, true_implies, not_true_eq_false, not_false_eq_true, true_and, and_true, forall_eq]
      exact (by first | exact ⟨tl, hkp, him, re_upd re (k := 1) (by decide), rv, r0, r1, r2, r3⟩ | exact ⟨rfl, tl, hkp, him, re_upd re (k := 1) (by decide), rv, r0, r1, r2, r3⟩)
  · simp only [e_isStreet, e_isStreet8, b2i_f c, z00, e_ref1, e_fin1, false_implies, true_implies, not_true_eq_false, not_false_eq_true, true_and, and_true, forall_eq]
    exact (by first | exact ⟨tl, hkp, him, re_upd re (k := 1) (by decide), rv, r0, r1, r2, r3⟩ | exact ⟨rfl, tl, hkp, him, re_upd re (k := 1) (by decide), rv, r0, r1, r2, r3⟩)
