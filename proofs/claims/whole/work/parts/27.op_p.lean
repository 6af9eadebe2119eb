theorem shr_bit {m i : Nat} (hm : m < 256) (hi : i < 8) : ((jshr (nI m) (nI i)) &&& 1 = 1) ↔ m.testBit i = true := by
  have : ∀ m : Fin 256, ∀ i : Fin 8, decide ((jshr (nI m.val) (nI i.val)) &&& 1 = 1) = m.val.testBit i.val := by decide +kernel
  have e := this ⟨m, hm⟩ ⟨i, hi⟩
  rw [← e, decide_eq_true_iff]
theorem pop_le {m n : Nat} (hn : n ≤ 8) (hm : m < 2 ^ n) : pop8 m ≤ n := by
  unfold pop8
  have e := fb_ct_split (fun i => m.testBit i) n (8 - n)
  rw [Nat.add_sub_cancel' hn] at e
  have z : fb_ct (fun k => m.testBit (n + k)) (8 - n) = 0 := fb_ct_zero.mpr (fun k hk => Nat.testBit_lt_two_pow (Nat.lt_of_lt_of_le hm (Nat.pow_le_pow_right (by decide) (by omega))))
  have := fb_ct_le (fun i => m.testBit i) n
  omega
def glF (F : Nat → Nat → Int32) (mk : Nat) : Nat → Nat → Int32 := fun f j => if f = 4 ∧ mk.testBit j = true then 1 else F f j
theorem gl_y {F : Nat → Nat → Int32} {mk j : Nat} (h : mk.testBit j = true) : glF F mk 4 j = 1 := if_pos ⟨rfl, h⟩
theorem gl_n {F : Nat → Nat → Int32} {mk f j : Nat} (h : ¬ (f = 4 ∧ mk.testBit j = true)) : glF F mk f j = F f j := if_neg h
theorem ok_gl {n mk : Nat} {F : Nat → Nat → Int32} (o : okP n F) : okP n (glF F mk) := fun i hi => by
  obtain ⟨o0, o1, o2, o3, o4, o5⟩ := o i hi
  refine ⟨by rw [gl_n (by omega)]; exact o0, by rw [gl_n (by omega)]; exact o1, by rw [gl_n (by omega)]; exact o2, by rw [gl_n (by omega)]; exact o3, ?_, by rw [gl_n (by omega)]; exact o5⟩
  by_cases t : mk.testBit i = true
  · rw [gl_y t]; exact ⟨1, by decide, rfl⟩
  · rw [gl_n (fun q => t q.2)]; exact o4
theorem s_putG {n mk : Nat} (hn : n ≤ 8) (hm : mk < 256) {F : Nat → Nat → Int32} {kind m at_ free gl de : Nat → Int32} (cf : CF n F kind m at_ free gl de) {Q : (Nat → Int32) → Prop} (h : ∀ g, CF n (glF F mk) kind m at_ free g de → Q g) : wp_X0_putGlovesOn (nI mk) (nI n) gl Q := by
  unfold wp_X0_putGlovesOn
  refine pk_loop (fun k i s => lb_X0_putGlovesOn_2 (nI mk) (nI n) Q k (nI i) s) (fun i s => ∀ j, j < n → s j = if j < i ∧ mk.testBit j = true then 1 else gl j) n 0 gl (Nat.zero_le _) (fun j hj => by rw [if_neg (by omega)]) ?_ ?_
  · intro k g hg
    refine ⟨fun _ => h g (fun j hj => ?_), fun c => absurd (Int32.le_refl _) c⟩
    obtain ⟨f0, f1, f2, f3, f4, f5⟩ := cf j hj
    refine ⟨by rw [gl_n (by omega)]; exact f0, by rw [gl_n (by omega)]; exact f1, by rw [gl_n (by omega)]; exact f2, by rw [gl_n (by omega)]; exact f3, ?_, by rw [gl_n (by omega)]; exact f5⟩
    rw [hg j hj]
    by_cases t : mk.testBit j = true
    · rw [gl_y t, if_pos ⟨hj, t⟩]
    · rw [gl_n (fun q => t q.2), if_neg (fun q => t q.2)]; exact f4
  · intro k i g hi hg ih
    refine ⟨fun c => absurd c (nI_ge hi (by omega)), fun _ => ?_⟩
    rw [shr_bit hm (show i < 8 by omega), nI_1]
    refine ⟨fun c => ih g (fun j hj => ?_), fun c => ⟨i8 hn hi, ih _ (fun j hj => ?_)⟩⟩
    · rw [hg j hj]
      by_cases e : j = i
      · subst e; rw [if_neg (fun q => c q.2), if_neg (fun q => c q.2)]
      · by_cases t : mk.testBit j = true
        · by_cases l : j < i
          · rw [if_pos ⟨l, t⟩, if_pos ⟨by omega, t⟩]
          · rw [if_neg (fun q => l q.1), if_neg (by omega)]
        · rw [if_neg (fun q => t q.2), if_neg (fun q => t q.2)]
    · rw [c8 hn hi]
      by_cases e : j = i
      · subst e; rw [up_s, if_pos ⟨by omega, c⟩]
      · rw [up_n e, hg j hj]
        by_cases t : mk.testBit j = true
        · by_cases l : j < i
          · rw [if_pos ⟨l, t⟩, if_pos ⟨by omega, t⟩]
          · rw [if_neg (fun q => l q.1), if_neg (by omega)]
        · rw [if_neg (fun q => t q.2), if_neg (fun q => t q.2)]
/-- none is free there, k steps long -/
def saP (G : Nat → Nat → Nat → Int32) (n : Nat) (s : Int32) (kk : Nat) : Prop := ∀ k, k < kk → fb_ct (fun i => decide (G (k + 1) 2 i = s) && decide (¬ G (k + 1) 3 i ≤ 0)) n = 0
theorem s_away {n tn un sn kk mk : Nat} (hn : n ≤ 8) (hk : kk ≤ 60) (hm : mk < 256) {tk uk : Nat → Nat} {nv uv : Nat → Int32} {lo st s x1 x2 x3 size usize : Int32} {F : Nat → Nat → Int32} {kind m at_ free gl de k0 m0 a0 f0 g0 d0 crowd handed signs numbers pile usigns unumbers upile : Nat → Int32}
    (T : TRc tn tk nv size signs numbers) (w : wfT tn tk nv) (U : TRc un uk uv usize usigns unumbers) (v : wfT un uk uv) (ok : okP n F) (cf : CF n F kind m at_ free gl de) (hst : st = nI sn) {Q : Int32 → Int32 → Int32 → Int32 → (Nat → Int32) → (Nat → Int32) → (Nat → Int32) → (Nat → Int32) → (Nat → Int32) → (Nat → Int32) → (Nat → Int32) → (Nat → Int32) → (Nat → Int32) → (Nat → Int32) → Prop}
    (h1 : saP (itF (meV tn tk nv) (deV un uk uv) n (nI sn) lo (glF F mk)) n s kk → ∀ t1 t2 t3 k1 m1 a f g d c hh p q, Q 1 t1 t2 t3 k1 m1 a f g d c hh p q)
    (h2 : ¬ saP (itF (meV tn tk nv) (deV un uk uv) n (nI sn) lo (glF F mk)) n s kk → ∀ t1 t2 t3 k1 m1 a f g d c hh p q, Q 0 t1 t2 t3 k1 m1 a f g d c hh p q) :
    wp_X7_staysAway s (nI kk) (nI mk) (nI n) st lo x1 x2 x3 kind k0 m m0 at_ a0 free f0 gl g0 de d0 crowd handed size signs numbers pile usize usigns unumbers upile Q := by
  unfold wp_X7_staysAway
  subst hst
  refine s_think hn cf (fun k1 m1 a1 f1 g1 d1 cf1 => s_putG hn hm cf1 (fun g2 cf2 => ⟨kk + 1, ?_⟩))
  have L : ∀ r i, i + r = kk → ∀ st a f d c hh p q, st = nI (sn + i) → CF n (itF (meV tn tk nv) (deV un uk uv) n (nI sn) lo (glF F mk) i) k1 m1 a f g2 d → (∀ k, k < i → fb_ct (fun j => decide (itF (meV tn tk nv) (deV un uk uv) n (nI sn) lo (glF F mk) (k + 1) 2 j = s) && decide (¬ itF (meV tn tk nv) (deV un uk uv) n (nI sn) lo (glF F mk) (k + 1) 3 j ≤ 0)) n = 0) → lb_X7_staysAway_15 s (nI kk) (nI mk) (nI n) (nI sn) lo kind m at_ free gl de size signs numbers usize usigns unumbers Q (r + 1) (nI i) (nI n) st lo k1 m1 a f g2 d c hh p q := by
    intro r
    induction r with
    | zero =>
      intro i hi st a f d c hh p q e1 e2 e3
      have : i = kk := by omega
      subst this
      exact ⟨fun _ => h1 e3 _ _ _ _ _ _ _ _ _ _ _ _ _, fun c => absurd (Int32.le_refl _) c⟩
    | succ r ih =>
      intro i hi st a f d c hh p q e1 e2 e3
      refine ⟨fun c => absurd c (nI_ge (show i < kk by omega) (by omega)), fun _ => ?_⟩
      refine s_pass1 hn T w U v (ok_gl ok) e1 e2 (fun st2 f2 c2 a2 hh2 p2 q2 d2 g1 g3 => s_whoFreeAt hn ?_)
      rw [st_z hn, fb_ct_cong (q := fun j => decide (itF (meV tn tk nv) (deV un uk uv) n (nI sn) lo (glF F mk) (i + 1) 2 j = s) && decide (¬ itF (meV tn tk nv) (deV un uk uv) n (nI sn) lo (glF F mk) (i + 1) 3 j ≤ 0)) (fun j hj => by rw [(g3 j hj).2.2.1, (g3 j hj).2.2.2.1]), nI_1]
      refine ⟨fun z => ih (i + 1) (by omega) _ _ _ _ _ _ _ _ g1 g3 (fun k hk => ?_), fun nz => h2 (fun q => nz (q i (by omega))) _ _ _ _ _ _ _ _ _ _ _ _ _⟩
      by_cases e : k = i
      · subst e; exact z
      · exact e3 k (by omega)
  exact L kk 0 (Nat.zero_add kk) _ _ _ _ _ _ _ _ rfl cf2 (fun k hk => absurd hk (by omega))
theorem m_away {n tn un sn kk mk : Nat} (hn : n ≤ 8) (hk : kk ≤ 60) (hm : mk < 256) {tk uk : Nat → Nat} {nv uv now aside mf named pile ahead df : Nat → Int32} {F : Nat → Nat → Int32} {lo s : Int32} (T : TRm tn tk nv 124 now) (w : wfT tn tk nv) (U : TRm un uk uv 176 now) (v : wfT un uk uv) (pn : PN n F now) (ok : okP n F) (h0 : now 0 = nI sn) (hsn : sn < 2 ^ 29) (l2 : now 2 = lo) (mc : MC (meV tn tk nv) mf) (dc : DC (deV un uk uv) df) {Q : Int32 → (Nat → Int32) → (Nat → Int32) → (Nat → Int32) → (Nat → Int32) → (Nat → Int32) → (Nat → Int32) → (Nat → Int32) → Prop}
    (h1 : saP (itF (meV tn tk nv) (deV un uk uv) n (nI sn) lo (glF F mk)) n s kk → ∀ nw as ah mf nm p df, ag nw now → MC (meV tn tk nv) mf → DC (deV un uk uv) df → Q 1 nw as ah mf nm p df)
    (h2 : ¬ saP (itF (meV tn tk nv) (deV un uk uv) n (nI sn) lo (glF F mk)) n s kk → ∀ nw as ah mf nm p df, ag nw now → MC (meV tn tk nv) mf → DC (deV un uk uv) df → Q 0 nw as ah mf nm p df) :
    wp_X8_staysAway (nI mk) s (nI kk) now aside ahead mf named pile df Q := by
  unfold wp_X8_staysAway
  have wl := w.1
  have vl := v.1
  refine m_copy (fun as has => ⟨n + 1, ?_⟩)
  have L : ∀ (nw0 : Nat → Int32), nw0 0 = nI sn → PN n (glF F mk) nw0 → (∀ j, (1 ≤ j ∧ j < 6) ∨ 54 ≤ j → nw0 j = now j) → ∀ r i, i + r = kk → ∀ nw ah mf nm p df, nw 0 = nI (sn + i) → PN n (itF (meV tn tk nv) (deV un uk uv) n (nI sn) lo (glF F mk) i) nw → rst nw0 nw → (∀ k, k < i → fb_ct (fun j => decide (itF (meV tn tk nv) (deV un uk uv) n (nI sn) lo (glF F mk) (k + 1) 2 j = s) && decide (¬ itF (meV tn tk nv) (deV un uk uv) n (nI sn) lo (glF F mk) (k + 1) 3 j ≤ 0)) n = 0) → MC (meV tn tk nv) mf → DC (deV un uk uv) df → lb_X8_staysAway_68 (nI mk) s (nI kk) Q (r + 2) 1 (nI i) nw as ah mf nm p df := by
    intro nw0 q1 q2 q3 r
    have T0 : TRm tn tk nv 124 nw0 := ⟨(q3 _ (by omega)).trans T.1, fun j hj => (q3 _ (by omega)).trans (T.2 j hj)⟩
    have U0 : TRm un uk uv 176 nw0 := ⟨(q3 _ (by omega)).trans U.1, fun j hj => (q3 _ (by omega)).trans (U.2 j hj)⟩
    have l0 : nw0 2 = lo := (q3 2 (by omega)).trans l2
    induction r with
    | zero =>
      intro i hi nw ah mf nm p df e1 e2 e4 e3 m1 d1
      have : i = kk := by omega
      subst this
      exact ⟨fun _ => m_copy (fun w2 hw2 => ⟨by decide, h1 e3 _ _ _ _ _ _ _ (ag_tr hw2 has) m1 d1⟩), fun c => absurd (Int32.le_refl _) c⟩
    | succ r ih =>
      intro i hi nw ah mf nm p df e1 e2 e4 e3 m1 d1
      refine ⟨fun c => absurd c (nI_ge (show i < kk by omega) (by omega)), fun _ => ⟨fun c => absurd c (by decide), fun _ => ?_⟩⟩
      refine m_step1 hn (rst_T e4 (by decide) T0) w (rst_T e4 (by decide) U0) v e2 (ok_gl ok) e1 (by omega) ((e4 2 (by omega)).trans l0) m1 d1 (fun nw2 ah2 m2 n2 p2 d2 b1 b2 b3 b4 b5 => ?_)
      refine m_at hn b2.1 (m_free hn b2.1 ?_)
      rw [fa_and, stN_and, st_z hn, fb_ct_cong (q := fun j => decide (itF (meV tn tk nv) (deV un uk uv) n (nI sn) lo (glF F mk) (i + 1) 2 j = s) && decide (¬ itF (meV tn tk nv) (deV un uk uv) n (nI sn) lo (glF F mk) (i + 1) 3 j ≤ 0)) (fun j hj => by rw [b2.2 j hj 2 (by decide), b2.2 j hj 3 (by decide)]), nI_1]
      refine ⟨fun nz => ?_, fun z => ih (i + 1) (by omega) _ _ _ _ _ _ b1 b2 (rst_tr e4 b3) (fun k hk => ?_) b4 b5⟩
      · have fin : lb_X8_staysAway_109 (nI mk) s (nI kk) Q 0 nw2 as ah2 m2 n2 p2 d2 := m_copy (fun w2 hw2 => ⟨by decide, h2 (fun q => nz (q i (by omega))) _ _ _ _ _ _ _ (ag_tr hw2 has) b4 b5⟩)
        exact ⟨fun _ => fin, fun _ => ⟨fun _ => fin, fun c => absurd rfl c⟩⟩
      · by_cases e : k = i
        · subst e; exact z
        · exact e3 k (by omega)
  have Z : ∀ r i, i + r = n → ∀ nw, (∀ j, (j < 6 ∨ 54 ≤ j) → nw j = now j) → (∀ j, j < n → ∀ f, f < 6 → nw (6 + 6 * j + f) = if f = 4 ∧ j < i ∧ mk.testBit j = true then 1 else F f j) → lb_X8_staysAway_14 (nI mk) s (nI kk) Q (r + 1) (nI i) nw as ahead mf named pile df := by
    intro r
    induction r with
    | zero =>
      intro i hi nw e1 e2
      have : i = n := by omega
      subst this
      have en : nw 1 = nI i := (e1 1 (by omega)).trans pn.1
      refine ⟨fun _ => ⟨kk + 2, ?_⟩, fun c => absurd (by rw [en]; exact Int32.le_refl _) c⟩
      have p0 : PN i (glF F mk) nw := ⟨en, fun j hj f hf => by
        rw [e2 j hj f hf]
        by_cases t : f = 4 ∧ mk.testBit j = true
        · obtain ⟨rfl, t⟩ := t
          rw [if_pos ⟨rfl, hj, t⟩, gl_y t]
        · rw [if_neg (fun q => t ⟨q.1, q.2.2⟩), gl_n t]⟩
      have z0 : nw 0 = nI sn := (e1 0 (by omega)).trans h0
      exact L nw z0 p0 (fun j hj => e1 j (by omega)) kk 0 (Nat.zero_add kk) _ _ _ _ _ _ z0 p0 (rst_rf _) (fun k hk => absurd hk (by omega)) mc dc
    | succ r ih =>
      intro i hi nw e1 e2
      have hi2 : i < n := by omega
      have en : nw 1 = nI n := (e1 1 (by omega)).trans pn.1
      refine ⟨fun c => absurd (by rw [en] at c; exact c) (nI_ge hi2 (by omega)), fun _ => ?_⟩
      rw [e_sA4]
      unfold wp_X8_hasBit
      rw [shr_bit hm (show i < 8 by omega)]
      have up : ∀ x, x = (if mk.testBit i = true then 1 else F 4 i) → ∀ j, j < n → ∀ f, f < 6 → upd nw (6 + 6 * i + 4) x (6 + 6 * j + f) = if f = 4 ∧ j < i + 1 ∧ mk.testBit j = true then 1 else F f j := fun x hx j hj f hf => by
        by_cases q : f = 4 ∧ j = i
        · obtain ⟨rfl, rfl⟩ := q
          rw [up_s, hx]
          by_cases t : mk.testBit j = true
          · rw [if_pos t, if_pos ⟨rfl, by omega, t⟩]
          · rw [if_neg t, if_neg (fun q => t q.2.2)]
        · rw [up_n (by omega), e2 j hj f hf]
          by_cases t : f = 4 ∧ j < i ∧ mk.testBit j = true
          · rw [if_pos t, if_pos ⟨t.1, by omega, t.2.2⟩]
          · rw [if_neg t, if_neg (fun z => t ⟨z.1, by omega, z.2.2⟩)]
      have rr : ∀ x j, (j < 6 ∨ 54 ≤ j) → upd nw (6 + 6 * i + 4) x j = now j := fun x j hj => by rw [up_n (by omega)]; exact e1 j hj
      refine ⟨fun c => ⟨fun _ => ?_, fun q => absurd rfl q⟩, fun c => ⟨fun q => absurd q (by decide), fun _ => ⟨vp_in_nI (by omega) (by decide), ?_⟩⟩⟩
      · rw [e_sI4 (show i < 8 by omega)]
        refine ⟨vp_in_nI (by omega) (by decide), ?_⟩
        rw [nI_clamp (by omega), nI_1]
        exact ih (i + 1) (by omega) _ (rr _) (up _ (by rw [e2 i hi2 4 (by decide), if_neg (by omega), if_neg c]))
      · rw [nI_clamp (by omega), nI_1]
        exact ih (i + 1) (by omega) _ (rr _) (up _ (by rw [if_pos c]))
  exact Z n 0 (Nat.zero_add n) now (fun _ _ => rfl) (fun j hj f hf => by rw [if_neg (by omega)]; exact pn.2 j hj f hf)
