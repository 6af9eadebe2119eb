theorem w8_ {x : Int32} {k : Nat} (hk : k ≤ 127) (h : x &&& 255 = x) : x = nI k ↔ ji2b x = nI k := by
  have : ∀ u : Fin 256, (u.val < 128 → ji2b (nI u.val) = nI u.val) ∧ (128 ≤ u.val → ji2b (nI u.val) < 0) := by decide +kernel
  obtain ⟨u, hu, e⟩ := sm_and (y := x)
  rw [h] at e
  subst e
  obtain ⟨t1, t2⟩ := this ⟨u, by omega⟩
  by_cases c : u < 128
  · rw [t1 c]
  · have n1 := t2 (by show 128 ≤ u; omega)
    constructor
    · intro q
      rw [eq_nn (by omega) (by omega)] at q
      omega
    · intro q
      rw [q, fa_lit 0, lt_nn (by omega) (by decide)] at n1
      omega
theorem sm_and16 {y : Int32} : sm (y &&& 65535) 65535 := by
  refine ⟨(y &&& 65535).toUInt32.toNat, ?_, ?_⟩
  · show (y.toBitVec &&& 65535#32).toNat ≤ 65535
    rw [BitVec.toNat_and]
    exact Nat.and_le_right
  · show (y &&& 65535) = (UInt32.ofNat (y &&& 65535).toUInt32.toNat).toInt32
    rw [UInt32.ofNat_toNat]
    rfl
theorem w16_ {x : Int32} {k : Nat} (hk : k ≤ 127) (h : x &&& 65535 = x) : x = nI k ↔ ji2s x = nI k := by
  obtain ⟨u, hu, e⟩ := sm_and16 (y := x)
  rw [h] at e
  subst e
  have t : (ji2s (nI u)).toInt = (u : Int).bmod 65536 := by
    unfold ji2s
    rw [Int16.toInt_toInt32, Int32.toInt_toInt16, nI_toInt (by omega)]
  have q : (ji2s (nI u) = nI k) ↔ (u : Int).bmod 65536 = (k : Int) := by
    rw [← Int32.toInt_inj, t, nI_toInt (by omega)]
  rw [q, eq_nn (by omega) (by omega), Int.bmod_def]
  constructor
  · intro e; subst e; split <;> omega
  · intro e; split at e <;> omega
theorem nr_k {w a b : Int32} (h : nrel w a b) {k : Nat} (hk : k ≤ 127) : a = nI k ↔ b = nI k := by
  unfold nrel at h
  by_cases c : w = 8
  · rw [if_pos c] at h
    rw [h.2]
    exact w8_ hk h.1
  · rw [if_neg c] at h
    by_cases d : w = 16
    · rw [if_pos d] at h
      rw [h.2]
      exact w16_ hk h.1
    · rw [if_neg d] at h
      rw [h]
theorem nr_sm {w a b : Int32} (h : nrel w a b) {k : Nat} (hk : k ≤ 127) : sm a k ↔ sm b k := by
  constructor
  · rintro ⟨j, hj, e⟩; exact ⟨j, hj, (nr_k h (by omega)).mp e⟩
  · rintro ⟨j, hj, e⟩; exact ⟨j, hj, (nr_k h (by omega)).mpr e⟩
def loF (F : Nat → Nat → Int32) (x : Nat) : Nat → Nat → Int32 := fun f j => if f = 3 ∧ j ≠ x then 0 else F f j
theorem lo_y {F : Nat → Nat → Int32} {x j : Nat} (h : j ≠ x) : loF F x 3 j = 0 := if_pos ⟨rfl, h⟩
theorem lo_n {F : Nat → Nat → Int32} {x f j : Nat} (h : ¬ (f = 3 ∧ j ≠ x)) : loF F x f j = F f j := if_neg h
theorem ok_lo {n x : Nat} {F : Nat → Nat → Int32} (o : okP n F) : okP n (loF F x) := fun i hi => by
  obtain ⟨o0, o1, o2, o3, o4, o5⟩ := o i hi
  refine ⟨by rw [lo_n (by omega)]; exact o0, by rw [lo_n (by omega)]; exact o1, by rw [lo_n (by omega)]; exact o2, ?_, by rw [lo_n (by omega)]; exact o4, by rw [lo_n (by omega)]; exact o5⟩
  by_cases t : i = x
  · rw [lo_n (fun q => q.2 t)]; exact o3
  · rw [lo_y t]; exact ⟨0, by decide, rfl⟩
theorem s_leave {n x : Nat} (hn : n ≤ 8) (hx : x < n) {F : Nat → Nat → Int32} {kind m at_ free gl de : Nat → Int32} (cf : CF n F kind m at_ free gl de) {Q : (Nat → Int32) → Prop} (h : ∀ f, CF n (loF F x) kind m at_ f gl de → Q f) : wp_X0_leaveFreeOnly (nI x) (nI n) free Q := by
  unfold wp_X0_leaveFreeOnly
  refine pk_loop (fun k i s => lb_X0_leaveFreeOnly_2 (nI x) (nI n) Q k (nI i) s) (fun i s => ∀ j, j < n → s j = if j < i ∧ j ≠ x then 0 else free j) n 0 free (Nat.zero_le _) (fun j hj => by rw [if_neg (by omega)]) ?_ ?_
  · intro k g hg
    refine ⟨fun _ => h g (fun j hj => ?_), fun c => absurd (Int32.le_refl _) c⟩
    obtain ⟨f0, f1, f2, f3, f4, f5⟩ := cf j hj
    refine ⟨by rw [lo_n (by omega)]; exact f0, by rw [lo_n (by omega)]; exact f1, by rw [lo_n (by omega)]; exact f2, ?_, by rw [lo_n (by omega)]; exact f4, by rw [lo_n (by omega)]; exact f5⟩
    rw [hg j hj]
    by_cases t : j = x
    · rw [lo_n (fun q => q.2 t), if_neg (fun q => q.2 t)]; exact f3
    · rw [lo_y t, if_pos ⟨hj, t⟩]
  · intro k i g hi hg ih
    refine ⟨fun c => absurd c (nI_ge hi (by omega)), fun _ => ?_⟩
    rw [eq_nn (by omega) (by omega), nI_1]
    refine ⟨fun c => ih g (fun j hj => ?_), fun c => ⟨i8 hn hi, ih _ (fun j hj => ?_)⟩⟩
    · rw [hg j hj]
      by_cases t : j < i ∧ j ≠ x
      · rw [if_pos t, if_pos ⟨by omega, t.2⟩]
      · rw [if_neg t, if_neg (by omega)]
    · rw [c8 hn hi]
      by_cases e : j = i
      · subst e; rw [up_s, if_pos ⟨by omega, c⟩]
      · rw [up_n e, hg j hj]
        by_cases t : j < i ∧ j ≠ x
        · rw [if_pos t, if_pos ⟨by omega, t.2⟩]
        · rw [if_neg t, if_neg (by omega)]
/-- x alone can have been it -/
def cmP (ME DE : Int32 → Int32 → Int32 → Int32) (n : Nat) (st lo : Int32) (F : Nat → Nat → Int32) (kk : Nat) (nums : Nat → Int32) (x : Nat) : Bool := decide (∀ j, j < n → itF ME DE n st lo (loF F x) kk 3 j = nums j)
theorem s_come {n tn un sn kk x : Nat} (hn : n ≤ 8) (hk : kk ≤ 60) (hx : x < n) {tk uk : Nat → Nat} {nv uv : Nat → Int32} {lo st x1 x2 x3 size usize : Int32} {F : Nat → Nat → Int32} {kind m at_ free gl de k0 m0 a0 f0 g0 d0 crowd handed signs numbers pile usigns unumbers upile nums : Nat → Int32}
    (T : TRc tn tk nv size signs numbers) (w : wfT tn tk nv) (U : TRc un uk uv usize usigns unumbers) (v : wfT un uk uv) (ok : okP n F) (cf : CF n F kind m at_ free gl de) (hst : st = nI sn) {Q : Int32 → Int32 → Int32 → Int32 → (Nat → Int32) → (Nat → Int32) → (Nat → Int32) → (Nat → Int32) → (Nat → Int32) → (Nat → Int32) → (Nat → Int32) → (Nat → Int32) → (Nat → Int32) → (Nat → Int32) → Prop}
    (h1 : cmP (meV tn tk nv) (deV un uk uv) n (nI sn) lo F kk nums x = true → ∀ t1 t2 t3 k1 m1 a f g d c hh p q, Q 1 t1 t2 t3 k1 m1 a f g d c hh p q)
    (h2 : ¬ cmP (meV tn tk nv) (deV un uk uv) n (nI sn) lo F kk nums x = true → ∀ t1 t2 t3 k1 m1 a f g d c hh p q, Q 0 t1 t2 t3 k1 m1 a f g d c hh p q) :
    wp_X7_canHaveComeBy (nI x) (nI kk) (nI n) st lo x1 x2 x3 kind k0 m m0 at_ a0 free f0 gl g0 de d0 crowd handed size signs numbers pile usize usigns unumbers upile nums Q := by
  unfold wp_X7_canHaveComeBy
  subst hst
  refine s_think hn cf (fun k1 m1 a1 f1 g1 d1 cf1 => s_leave hn hx cf1 (fun f2 cf2 => s_pass hn (by omega) T w U v (ok_lo ok) cf2 (fun f c a hh p q d cf3 => ⟨n + 1, ?_⟩)))
  unfold cmP at h1 h2
  rw [decide_eq_true_iff] at h1 h2
  have L : ∀ r i, i + r = n → (∀ j, j < i → itF (meV tn tk nv) (deV un uk uv) n (nI sn) lo (loF F x) kk 3 j = nums j) → lb_X7_canHaveComeBy_23 (nI x) (nI kk) (nI n) (nI sn) lo kind m at_ free gl de size signs numbers usize usigns unumbers nums Q (r + 1) (nI i) (nI n) (nI sn + nI kk) lo k1 m1 a f g1 d c hh p q := by
    intro r
    induction r with
    | zero =>
      intro i hi e
      have : i = n := by omega
      subst this
      exact ⟨fun _ => h1 e _ _ _ _ _ _ _ _ _ _ _ _ _, fun c => absurd (Int32.le_refl _) c⟩
    | succ r ih =>
      intro i hi e
      have hi2 : i < n := by omega
      refine ⟨fun c => absurd c (nI_ge hi2 (by omega)), fun _ => ⟨i8 hn hi2, vp_in_nI (by omega) (by decide), ?_⟩⟩
      rw [c8 hn hi2, (cf3 i hi2).2.2.2.1, nI_1]
      refine ⟨fun c => ih (i + 1) (by omega) (fun j hj => ?_), fun c => h2 (fun q => c (q i hi2)) _ _ _ _ _ _ _ _ _ _ _ _ _⟩
      by_cases z : j = i
      · subst z; exact c
      · exact e j (by omega)
  exact L n 0 (Nat.zero_add n) (fun j hj => absurd hj (by omega))
theorem m_come {n tn un sn kk x qq : Nat} (hn : n ≤ 8) (hk : kk ≤ 60) (hx : x < n) (hq : qq < 4) {tk uk : Nat → Nat} {nv uv now aside mf named pile ahead df nums mnum : Nat → Int32} {F : Nat → Nat → Int32} {lo wd : Int32} (T : TRm tn tk nv 124 now) (w : wfT tn tk nv) (U : TRm un uk uv 176 now) (v : wfT un uk uv) (pn : PN n F now) (ok : okP n F) (h0 : now 0 = nI sn) (hsn : sn < 2 ^ 29) (l2 : now 2 = lo) (mc : MC (meV tn tk nv) mf) (dc : DC (deV un uk uv) df) (nr : ∀ j, j < n + 1 → nrel wd (nums j) (mnum (40 * qq + j))) (hkk : mnum (40 * qq + n) = nI kk) {Q : Int32 → (Nat → Int32) → (Nat → Int32) → (Nat → Int32) → (Nat → Int32) → (Nat → Int32) → (Nat → Int32) → (Nat → Int32) → Prop}
    (h1 : cmP (meV tn tk nv) (deV un uk uv) n (nI sn) lo F kk nums x = true → ∀ nw as ah mf nm p df, ag nw now → MC (meV tn tk nv) mf → DC (deV un uk uv) df → Q 1 nw as ah mf nm p df)
    (h2 : ¬ cmP (meV tn tk nv) (deV un uk uv) n (nI sn) lo F kk nums x = true → ∀ nw as ah mf nm p df, ag nw now → MC (meV tn tk nv) mf → DC (deV un uk uv) df → Q 0 nw as ah mf nm p df) :
    wp_X8_comesFrom (nI qq) (nI x) now aside mnum ahead mf named pile df Q := by
  unfold wp_X8_comesFrom
  have wl := w.1
  have vl := v.1
  rw [pn.1]
  rintro v1 rfl
  refine m_copy (fun as has => ⟨n + 1, ?_⟩)
  have ix : ∀ j, (40 : Int32) * nI qq + nI j = nI (40 * qq + j) := fun j => by rw [fa_lit 40, pk_mul, nI_add]
  unfold cmP at h1 h2
  rw [decide_eq_true_iff] at h1 h2
  have C : ∀ nw ah mf nm p df, PN n (itF (meV tn tk nv) (deV un uk uv) n (nI sn) lo (loF F x) kk) nw → MC (meV tn tk nv) mf → DC (deV un uk uv) df → ∀ r i, i + r = n → ∀ y4, (y4 = 1 ∧ ∀ j, j < i → itF (meV tn tk nv) (deV un uk uv) n (nI sn) lo (loF F x) kk 3 j = nums j) ∨ (y4 = 0 ∧ ∃ j, j < n ∧ ¬ itF (meV tn tk nv) (deV un uk uv) n (nI sn) lo (loF F x) kk 3 j = nums j) → lb_X8_comesFrom_82 (nI qq) (nI x) mnum Q (r + 1) (nI n) y4 (nI i) nw as ah mf nm p df := by
    intro nw ah mf nm p df pk m1 d1 r
    induction r with
    | zero =>
      intro i hi y4 e
      have : i = n := by omega
      subst this
      refine ⟨fun _ => m_copy (fun w2 hw2 => ?_), fun c => absurd (Int32.le_refl _) c⟩
      rcases e with ⟨rfl, e⟩ | ⟨rfl, j, hj, e⟩
      · exact ⟨by decide, h1 e _ _ _ _ _ _ _ (ag_tr hw2 has) m1 d1⟩
      · exact ⟨by decide, h2 (fun q => e (q j hj)) _ _ _ _ _ _ _ (ag_tr hw2 has) m1 d1⟩
    | succ r ih =>
      intro i hi y4 e
      have hi2 : i < n := by omega
      refine ⟨fun c => absurd c (nI_ge hi2 (by omega)), fun _ => ?_⟩
      rw [nI_1]
      rcases e with ⟨rfl, e⟩ | ⟨rfl, e⟩
      · refine ⟨fun c => absurd c (by decide), fun _ => ?_⟩
        rw [ix, e_sI3 (show i < 8 by omega), pk.2 i hi2 3 (by decide), nI_clamp (by omega)]
        refine ⟨vp_in_nI (by omega) (by decide), ?_⟩
        obtain ⟨g, hg, eg⟩ := (ok_it (fun _ _ _ => sm_deV un uk uv _ _ _) (ok_lo ok) kk i hi2 : _ ∧ _ ∧ _ ∧ sm (itF (meV tn tk nv) (deV un uk uv) n (nI sn) lo (loF F x) kk 3 i) 99 ∧ _).2.2.2.1
        have iff := nr_k (nr i (by omega)) (show g ≤ 127 by omega)
        refine ⟨fun c => ih (i + 1) (by omega) _ (Or.inr ⟨rfl, i, hi2, fun q => c ?_⟩), fun c => ih (i + 1) (by omega) _ (Or.inl ⟨rfl, fun j hj => ?_⟩)⟩
        · rw [eg]; exact iff.mp (by rw [← q, eg])
        · by_cases z : j = i
          · subst z; rw [eg]; exact (iff.mpr (by rw [c, eg])).symm
          · exact e j (by omega)
      · exact ⟨fun _ => ih (i + 1) (by omega) _ (Or.inr ⟨rfl, e⟩), fun c => absurd rfl c⟩
  have Z : ∀ r i, i + r = n → ∀ nw, (∀ j, (j < 6 ∨ 54 ≤ j) → nw j = now j) → (∀ j, j < n → ∀ f, f < 6 → nw (6 + 6 * j + f) = if f = 3 ∧ j < i ∧ j ≠ x then 0 else F f j) → lb_X8_comesFrom_21 (nI qq) (nI x) mnum Q (r + 1) (nI n) (nI i) nw as ahead mf named pile df := by
    intro r
    induction r with
    | zero =>
      intro i hi nw e1 e2
      have : i = n := by omega
      subst this
      refine ⟨fun _ => ?_, fun c => absurd (Int32.le_refl _) c⟩
      rw [ix, nI_clamp (by omega), hkk]
      refine ⟨vp_in_nI (by omega) (by decide), ?_⟩
      have p0 : PN i (loF F x) nw := ⟨(e1 1 (by omega)).trans pn.1, fun j hj f hf => by
        rw [e2 j hj f hf]
        by_cases t : f = 3 ∧ j ≠ x
        · obtain ⟨rfl, t⟩ := t
          rw [if_pos ⟨rfl, hj, t⟩, lo_y t]
        · rw [if_neg (fun q => t ⟨q.1, q.2.2⟩), lo_n t]⟩
      refine m_steps hn hk ⟨(e1 _ (by omega)).trans T.1, fun j hj => (e1 _ (by omega)).trans (T.2 j hj)⟩ w ⟨(e1 _ (by omega)).trans U.1, fun j hj => (e1 _ (by omega)).trans (U.2 j hj)⟩ v p0 (ok_lo ok) ((e1 0 (by omega)).trans h0) (by omega) ((e1 2 (by omega)).trans l2) mc dc (fun nw2 ah2 mf2 nm2 p2 df2 b1 b2 b3 b4 b5 => ⟨i + 1, ?_⟩)
      exact C _ _ _ _ _ _ b2 b4 b5 i 0 (Nat.zero_add i) _ (Or.inl ⟨rfl, fun j hj => absurd hj (by omega)⟩)
    | succ r ih =>
      intro i hi nw e1 e2
      have hi2 : i < n := by omega
      refine ⟨fun c => absurd c (nI_ge hi2 (by omega)), fun _ => ?_⟩
      rw [e_sA3, eq_nn (by omega) (by omega)]
      have up : ∀ y, y = (if i ≠ x then 0 else F 3 i) → ∀ j, j < n → ∀ f, f < 6 → upd nw (6 + 6 * i + 3) y (6 + 6 * j + f) = if f = 3 ∧ j < i + 1 ∧ j ≠ x then 0 else F f j := fun y hy j hj f hf => by
        by_cases q : f = 3 ∧ j = i
        · obtain ⟨rfl, rfl⟩ := q
          rw [up_s, hy]
          by_cases t : j ≠ x
          · rw [if_pos t, if_pos ⟨rfl, by omega, t⟩]
          · rw [if_neg t, if_neg (fun q => t q.2.2)]
        · rw [up_n (by omega), e2 j hj f hf]
          by_cases t : f = 3 ∧ j < i ∧ j ≠ x
          · rw [if_pos t, if_pos ⟨t.1, by omega, t.2.2⟩]
          · rw [if_neg t, if_neg (fun z => t ⟨z.1, by omega, z.2.2⟩)]
      have rr : ∀ y j, (j < 6 ∨ 54 ≤ j) → upd nw (6 + 6 * i + 3) y j = now j := fun y j hj => by rw [up_n (by omega)]; exact e1 j hj
      refine ⟨fun c => ⟨vp_in_nI (by omega) (by decide), ?_⟩, fun c => ?_⟩
      · rw [nI_clamp (by omega), nI_1]
        exact ih (i + 1) (by omega) _ (rr _) (up _ (by rw [if_pos c]))
      · rw [e_sI3 (show i < 8 by omega)]
        refine ⟨vp_in_nI (by omega) (by decide), ?_⟩
        rw [nI_clamp (by omega), nI_1]
        exact ih (i + 1) (by omega) _ (rr _) (up _ (by rw [e2 i hi2 3 (by decide), if_neg (by omega), if_neg (by omega)]))
  exact Z n 0 (Nat.zero_add n) now (fun _ _ => rfl) (fun j hj f hf => by rw [if_neg (by omega)]; exact pn.2 j hj f hf)
