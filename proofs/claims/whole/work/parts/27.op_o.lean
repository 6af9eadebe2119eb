/-- how often one is free in k steps -/
def tfF (G : Nat → Nat → Nat → Int32) (k j : Nat) : Nat := fb_ct (fun t => decide (¬ G (t + 1) 3 j ≤ 0)) k
theorem tf_p {G : Nat → Nat → Nat → Int32} {k j : Nat} (h : G (k + 1) 3 j ≤ 0) : tfF G (k + 1) j = tfF G k j := by
  unfold tfF; rw [fb_ct_succ]; simp [h]
theorem tf_n {G : Nat → Nat → Nat → Int32} {k j : Nat} (h : ¬ G (k + 1) 3 j ≤ 0) : tfF G (k + 1) j = tfF G k j + 1 := by
  unfold tfF; rw [fb_ct_succ]; simp [h]
theorem tf_le {G : Nat → Nat → Nat → Int32} {k j : Nat} : tfF G k j ≤ k := fb_ct_le _ _
def tmF (G : Nat → Nat → Nat → Int32) (k i j : Nat) : Nat := if j < i then tfF G (k + 1) j else tfF G k j
theorem tm_upd {G : Nat → Nat → Nat → Int32} {k i n : Nat} (hi : i < n) {tf : Nat → Int32} {x : Int32} (h : ∀ j, j < n → tf j = nI (tmF G k i j)) (hx : x = nI (tfF G (k + 1) i)) : ∀ j, j < n → upd tf i x j = nI (tmF G k (i + 1) j) := fun j hj => by
  unfold tmF
  by_cases e : j = i
  · subst e; rw [up_s, if_pos (by omega), hx]
  · rw [up_n e, h j hj]
    unfold tmF
    by_cases c : j < i
    · rw [if_pos c, if_pos (by omega)]
    · rw [if_neg c, if_neg (by omega)]
theorem s_cti {n k : Nat} (hn : n ≤ 8) {G : Nat → Nat → Nat → Int32} {z1 z2 z3 : Int32} {y1 y2 y3 y4 y5 y6 : Nat → Int32} {size usize : Int32} {signs numbers usigns unumbers : Nat → Int32} {x1 st lo : Int32} {kind m gl a f d c hh p q : Nat → Int32} {Q : Int32 → Int32 → Int32 → (Nat → Int32) → (Nat → Int32) → (Nat → Int32) → (Nat → Int32) → (Nat → Int32) → (Nat → Int32) → (Nat → Int32) → (Nat → Int32) → (Nat → Int32) → (Nat → Int32) → (Nat → Int32) → Prop} {K : Int32 → Int32 → Int32 → Int32 → (Nat → Int32) → (Nat → Int32) → (Nat → Int32) → (Nat → Int32) → (Nat → Int32) → (Nat → Int32) → (Nat → Int32) → (Nat → Int32) → (Nat → Int32) → (Nat → Int32) → (Nat → Int32) → Prop}
    (hf : ∀ j, j < n → f j = G (k + 1) 3 j) (h : ∀ tf, (∀ j, j < n → tf j = nI (tfF G (k + 1) j)) → K (nI (k + 1)) (nI n) st lo kind m a f gl d tf c hh p q) :
    ∀ r i, i + r = n → ∀ tf, (∀ j, j < n → tf j = nI (tmF G k i j)) → lb_X7_countTimesFree_47 x1 z1 z2 z3 y1 y2 y3 y4 y5 y6 size signs numbers usize usigns unumbers Q K (r + 1) (nI k) (nI i) (nI n) st lo kind m a f gl d tf c hh p q := by
  intro r
  induction r with
  | zero =>
    intro i hi tf ht
    have : i = n := by omega
    subst this
    refine ⟨fun _ => ?_, fun c => absurd (Int32.le_refl _) c⟩
    rw [nI_1]
    exact h tf (fun j hj => by rw [ht j hj]; unfold tmF; rw [if_pos hj])
  | succ r ih =>
    intro i hi tf ht
    have hi2 : i < n := by omega
    refine ⟨fun c => absurd c (nI_ge hi2 (by omega)), fun _ => ⟨i8 hn hi2, i8 hn hi2, ?_⟩⟩
    have e0 : tf i = nI (tfF G k i) := by rw [ht i hi2]; unfold tmF; rw [if_neg (Nat.lt_irrefl _)]
    rw [c8 hn hi2, hf i hi2, e0, nI_1]
    refine ⟨fun le => ?_, fun nle => ?_⟩
    · rintro v rfl
      exact ⟨i8 hn hi2, ih (i + 1) (by omega) _ (tm_upd hi2 ht (by rw [tf_p le]; exact add_z _))⟩
    · rintro v rfl
      exact ⟨i8 hn hi2, ih (i + 1) (by omega) _ (tm_upd hi2 ht (by rw [tf_n nle, nI_1]))⟩
theorem s_ct {n tn un sn kk : Nat} (hn : n ≤ 8) (hk : kk ≤ 60) {tk uk : Nat → Nat} {nv uv : Nat → Int32} {lo : Int32} {F : Nat → Nat → Int32} {z1 z2 z3 : Int32} {y1 y2 y3 y4 y5 y6 : Nat → Int32} {size usize : Int32} {signs numbers usigns unumbers : Nat → Int32} {kind m gl : Nat → Int32}
    (T : TRc tn tk nv size signs numbers) (w : wfT tn tk nv) (U : TRc un uk uv usize usigns unumbers) (v : wfT un uk uv) (ok : okP n F) {Q : Int32 → Int32 → Int32 → (Nat → Int32) → (Nat → Int32) → (Nat → Int32) → (Nat → Int32) → (Nat → Int32) → (Nat → Int32) → (Nat → Int32) → (Nat → Int32) → (Nat → Int32) → (Nat → Int32) → (Nat → Int32) → Prop}
    (h : ∀ t1 t2 t3 k1 m1 a f g d tf c hh p q, (∀ j, j < n → tf j = nI (tfF (itF (meV tn tk nv) (deV un uk uv) n (nI sn) lo F) kk j)) → Q t1 t2 t3 k1 m1 a f g d tf c hh p q) :
    ∀ r i, i + r = kk → ∀ st a f d tf c hh p q, st = nI (sn + i) → CF n (itF (meV tn tk nv) (deV un uk uv) n (nI sn) lo F i) kind m a f gl d → (∀ j, j < n → tf j = nI (tfF (itF (meV tn tk nv) (deV un uk uv) n (nI sn) lo F) i j)) → lb_X7_countTimesFree_32 (nI kk) z1 z2 z3 y1 y2 y3 y4 y5 y6 size signs numbers usize usigns unumbers Q (r + 1) (nI i) (nI n) st lo kind m a f gl d tf c hh p q := by
  intro r
  induction r with
  | zero =>
    intro i hi st a f d tf c hh p q e1 e2 e3
    have : i = kk := by omega
    subst this
    exact ⟨fun _ => h _ _ _ _ _ _ _ _ _ _ _ _ _ _ e3, fun c => absurd (Int32.le_refl _) c⟩
  | succ r ih =>
    intro i hi st a f d tf c hh p q e1 e2 e3
    refine ⟨fun c => absurd c (nI_ge (show i < kk by omega) (by omega)), fun _ => ?_⟩
    refine s_pass1 hn T w U v ok e1 e2 (fun st2 f2 c2 a2 hh2 p2 q2 d2 g1 g2 => ⟨n + 1, ?_⟩)
    exact s_cti hn (G := itF (meV tn tk nv) (deV un uk uv) n (nI sn) lo F) (k := i) (fun j hj => (g2 j hj).2.2.2.1) (fun tf2 ht2 => ih (i + 1) (by omega) _ _ _ _ _ _ _ _ _ g1 g2 ht2) n 0 (Nat.zero_add n) tf (fun j hj => by rw [e3 j hj]; unfold tmF; rw [if_neg (Nat.not_lt_zero _)])
theorem s_ctz {n : Nat} (hn : n ≤ 8) {z1 z2 z3 : Int32} {y1 y2 y3 y4 y5 y6 : Nat → Int32} {size usize : Int32} {signs numbers usigns unumbers : Nat → Int32} {x1 st lo : Int32} {kind m gl a f d c hh p q : Nat → Int32} {Q : Int32 → Int32 → Int32 → (Nat → Int32) → (Nat → Int32) → (Nat → Int32) → (Nat → Int32) → (Nat → Int32) → (Nat → Int32) → (Nat → Int32) → (Nat → Int32) → (Nat → Int32) → (Nat → Int32) → (Nat → Int32) → Prop}
    (h : ∀ tf, (∀ j, j < n → tf j = 0) → ∃ k, lb_X7_countTimesFree_32 x1 z1 z2 z3 y1 y2 y3 y4 y5 y6 size signs numbers usize usigns unumbers Q k 0 (nI n) st lo kind m a f gl d tf c hh p q) :
    ∀ r i, i + r = n → ∀ tf, (∀ j, j < i → tf j = 0) → lb_X7_countTimesFree_6 x1 z1 z2 z3 y1 y2 y3 y4 y5 y6 size signs numbers usize usigns unumbers Q (r + 1) (nI i) (nI n) st lo kind m a f gl d tf c hh p q := by
  intro r
  induction r with
  | zero =>
    intro i hi tf ht
    have : i = n := by omega
    subst this
    exact ⟨fun _ => h tf ht, fun c => absurd (Int32.le_refl _) c⟩
  | succ r ih =>
    intro i hi tf ht
    have hi2 : i < n := by omega
    refine ⟨fun c => absurd c (nI_ge hi2 (by omega)), fun _ => ⟨i8 hn hi2, ?_⟩⟩
    rw [c8 hn hi2, nI_1]
    refine ih (i + 1) (by omega) _ (fun j hj => ?_)
    by_cases e : j = i
    · subst e; rw [up_s]
    · rw [up_n e]; exact ht j (by omega)
theorem s_best {n kk : Nat} (hn : n ≤ 8) (hp : 0 < n) (hk : kk ≤ 60) {h0 : Nat → Nat} (hh0 : ∀ j, h0 j ≤ 60) {z1 z2 z3 : Int32} {y1 y2 y3 y4 y5 y6 : Nat → Int32} {size usize : Int32} {signs numbers usigns unumbers : Nat → Int32} {x1 x2 : Int32} {rf tf : Nat → Int32} {t1 t2 t3 : Int32} {k1 m1 a f g d c hh p q : Nat → Int32} {Q : Int32 → (Nat → Int32) → Int32 → Int32 → Int32 → (Nat → Int32) → (Nat → Int32) → (Nat → Int32) → (Nat → Int32) → (Nat → Int32) → (Nat → Int32) → (Nat → Int32) → (Nat → Int32) → (Nat → Int32) → (Nat → Int32) → (Nat → Int32) → Prop}
    (ht : ∀ j, j < n → tf j = nI (h0 j)) (h : Q (if x2 = 0 then nI (bsF h0 n) else nI (h0 (bsF h0 n))) rf t1 t2 t3 k1 m1 a f g d tf c hh p q) :
    ∀ r i, 1 ≤ i → i + r = n → ∀ y, y = nI (bsF h0 i) → lb_X7_last_52 x1 x2 (nI n) z2 z3 y1 y2 y3 y4 y5 y6 size signs numbers usize usigns unumbers Q (r + 1) y (nI i) rf t1 t2 t3 k1 m1 a f g d tf c hh p q := by
  intro r
  induction r with
  | zero =>
    intro i h1 hi y hy
    subst hy
    have : i = n := by omega
    subst this
    have lb := bsF_lt h0 i hp
    refine ⟨fun _ => ⟨fun c => ⟨i8 hn lb, ?_⟩, fun c => ?_⟩, fun c => absurd (Int32.le_refl _) c⟩
    · rw [if_neg c] at h
      rw [c8 hn lb, ht _ lb]; exact h
    · rw [if_pos c] at h; exact h
  | succ r ih =>
    intro i h1 hi y hy
    subst hy
    have hi2 : i < n := by omega
    have lb : bsF h0 i < n := Nat.lt_trans (bsF_lt h0 i h1) hi2
    refine ⟨fun c => absurd c (nI_ge hi2 (by omega)), fun _ => ⟨i8 hn hi2, i8 hn lb, ?_⟩⟩
    have l1 := hh0 i
    have l2 := hh0 (bsF h0 i)
    rw [c8 hn hi2, c8 hn lb, ht _ hi2, ht _ lb, li_nn (by omega) (by omega), nI_1]
    refine ⟨fun c => ih (i + 1) (by omega) (by omega) _ ?_, fun c => ih (i + 1) (by omega) (by omega) _ ?_⟩
    · show _ = nI (if h0 i ≤ h0 (bsF h0 i) then bsF h0 i else i)
      rw [if_pos c]
    · show _ = nI (if h0 i ≤ h0 (bsF h0 i) then bsF h0 i else i)
      rw [if_neg c]
theorem m_best {n : Nat} (hn : n ≤ 8) (hp : 0 < n) {h0 : Nat → Nat} (hh0 : ∀ j, h0 j ≤ 60) {x1 x2 : Int32} {er nw as of_ ah mf nm p df : Nat → Int32} (e1 : nw 1 = nI n) {Q : Int32 → (Nat → Int32) → (Nat → Int32) → (Nat → Int32) → (Nat → Int32) → (Nat → Int32) → (Nat → Int32) → (Nat → Int32) → (Nat → Int32) → (Nat → Int32) → Prop}
    (ht : ∀ j, j < n → of_ j = nI (h0 j)) (h : Q (if x2 = 0 then nI (bsF h0 n) else nI (h0 (bsF h0 n))) er nw as of_ ah mf nm p df) :
    ∀ r i, 1 ≤ i → i + r = n → ∀ y, y = nI (bsF h0 i) → lb_X8_last_152 x1 x2 Q (r + 1) y (nI i) er nw as of_ ah mf nm p df := by
  intro r
  induction r with
  | zero =>
    intro i h1 hi y hy
    subst hy
    have : i = n := by omega
    subst this
    have lb := bsF_lt h0 i hp
    refine ⟨fun _ => ⟨fun c => ⟨i8 hn lb, ?_⟩, fun c => ?_⟩, fun c => absurd (by rw [e1]; exact Int32.le_refl _) c⟩
    · rw [if_neg c] at h
      rw [c8 hn lb, ht _ lb]; exact h
    · rw [if_pos c] at h; exact h
  | succ r ih =>
    intro i h1 hi y hy
    subst hy
    have hi2 : i < n := by omega
    have lb : bsF h0 i < n := Nat.lt_trans (bsF_lt h0 i h1) hi2
    refine ⟨fun c => absurd (by rw [e1] at c; exact c) (nI_ge hi2 (by omega)), fun _ => ⟨i8 hn hi2, i8 hn lb, ?_⟩⟩
    have l1 := hh0 i
    have l2 := hh0 (bsF h0 i)
    rw [c8 hn hi2, c8 hn lb, ht _ hi2, ht _ lb, li_nn (by omega) (by omega), nI_1]
    refine ⟨fun c => ih (i + 1) (by omega) (by omega) _ ?_, fun c => ih (i + 1) (by omega) (by omega) _ ?_⟩
    · show _ = nI (if h0 i ≤ h0 (bsF h0 i) then bsF h0 i else i)
      rw [if_pos c]
    · show _ = nI (if h0 i ≤ h0 (bsF h0 i) then bsF h0 i else i)
      rw [if_neg c]
theorem m_cti {n k : Nat} (hn : n ≤ 8) {G : Nat → Nat → Nat → Int32} {x1 x2 : Int32} {er nw as ah mf nm p df : Nat → Int32} {Q : Int32 → (Nat → Int32) → (Nat → Int32) → (Nat → Int32) → (Nat → Int32) → (Nat → Int32) → (Nat → Int32) → (Nat → Int32) → (Nat → Int32) → (Nat → Int32) → Prop} {K : Int32 → (Nat → Int32) → (Nat → Int32) → (Nat → Int32) → (Nat → Int32) → (Nat → Int32) → (Nat → Int32) → (Nat → Int32) → (Nat → Int32) → (Nat → Int32) → Prop}
    (pn : PN n (G (k + 1)) nw) (h : ∀ tf, (∀ j, j < n → tf j = nI (tfF G (k + 1) j)) → K (nI (k + 1)) er nw as tf ah mf nm p df) :
    ∀ r i, i + r = n → ∀ tf, (∀ j, j < n → tf j = nI (tmF G k i j)) → lb_X8_last_88 x1 x2 Q K (r + 1) (nI k) (nI i) er nw as tf ah mf nm p df := by
  intro r
  induction r with
  | zero =>
    intro i hi tf ht
    have : i = n := by omega
    subst this
    refine ⟨fun _ => ?_, fun c => absurd (by rw [pn.1]; exact Int32.le_refl _) c⟩
    rw [nI_1]
    exact h tf (fun j hj => by rw [ht j hj]; unfold tmF; rw [if_pos hj])
  | succ r ih =>
    intro i hi tf ht
    have hi2 : i < n := by omega
    refine ⟨fun c => absurd (by rw [pn.1] at c; exact c) (nI_ge hi2 (by omega)), fun _ => ⟨i8 hn hi2, ?_⟩⟩
    have e0 : tf i = nI (tfF G k i) := by rw [ht i hi2]; unfold tmF; rw [if_neg (Nat.lt_irrefl _)]
    rw [e_sI3 (show i < 8 by omega), pn.2 i hi2 3 (by decide), c8 hn hi2, e0, nI_1]
    refine ⟨fun le => ?_, fun nle => ?_⟩
    · rintro v rfl
      exact ⟨i8 hn hi2, ih (i + 1) (by omega) _ (tm_upd hi2 ht (by rw [tf_p le]; exact add_z _))⟩
    · rintro v rfl
      exact ⟨i8 hn hi2, ih (i + 1) (by omega) _ (tm_upd hi2 ht (by rw [tf_n nle, nI_1]))⟩
theorem m_ct {n tn un sn kk : Nat} (hn : n ≤ 8) (hp : 0 < n) (hk : kk ≤ 60) {tk uk : Nat → Nat} {nv uv now er as : Nat → Int32} {F : Nat → Nat → Int32} {lo x2 : Int32} (T : TRm tn tk nv 124 now) (w : wfT tn tk nv) (U : TRm un uk uv 176 now) (v : wfT un uk uv) (pn0 : PN n F now) (ok : okP n F) (hsn : sn < 2 ^ 29) (l2 : now 2 = lo) (has : ag as now) {Q : Int32 → (Nat → Int32) → (Nat → Int32) → (Nat → Int32) → (Nat → Int32) → (Nat → Int32) → (Nat → Int32) → (Nat → Int32) → (Nat → Int32) → (Nat → Int32) → Prop}
    (h : ∀ nw of_ ah mf nm p df, ag nw now → MC (meV tn tk nv) mf → DC (deV un uk uv) df → Q (if x2 = 0 then nI (bsF (tfF (itF (meV tn tk nv) (deV un uk uv) n (nI sn) lo F) kk) n) else nI (tfF (itF (meV tn tk nv) (deV un uk uv) n (nI sn) lo F) kk (bsF (tfF (itF (meV tn tk nv) (deV un uk uv) n (nI sn) lo F) kk) n))) er nw as of_ ah mf nm p df) :
    ∀ r i, i + r = kk → ∀ nw tf ah mf nm p df, nw 0 = nI (sn + i) → PN n (itF (meV tn tk nv) (deV un uk uv) n (nI sn) lo F i) nw → rst now nw → (∀ j, j < n → tf j = nI (tfF (itF (meV tn tk nv) (deV un uk uv) n (nI sn) lo F) i j)) → MC (meV tn tk nv) mf → DC (deV un uk uv) df → lb_X8_last_76 (nI kk) x2 Q (r + 1) (nI i) er nw as tf ah mf nm p df := by
  intro r
  induction r with
  | zero =>
    intro i hi nw tf ah mf nm p df e1 e2 e4 e3 m1 d1
    have : i = kk := by omega
    subst this
    refine ⟨fun _ => m_copy (fun w2 hw2 => ⟨n - 1 + 1, ?_⟩), fun c => absurd (Int32.le_refl _) c⟩
    have a2 := ag_tr hw2 has
    exact m_best hn hp (fun j => Nat.le_trans tf_le hk) (ag_PN a2 hn pn0).1 e3 (h _ _ _ _ _ _ _ a2 m1 d1) (n - 1) 1 (by decide) (by omega) _ (bsF_1 _)
  | succ r ih =>
    intro i hi nw tf ah mf nm p df e1 e2 e4 e3 m1 d1
    refine ⟨fun c => absurd c (nI_ge (show i < kk by omega) (by omega)), fun _ => ?_⟩
    refine m_step1 hn (rst_T e4 (by decide) T) w (rst_T e4 (by decide) U) v e2 ok e1 (by omega) ((e4 2 (by omega)).trans l2) m1 d1 (fun nw2 ah2 m2 n2 p2 d2 b1 b2 b3 b4 b5 => ⟨n + 1, ?_⟩)
    exact m_cti hn (G := itF (meV tn tk nv) (deV un uk uv) n (nI sn) lo F) (k := i) b2 (fun tf2 ht2 => ih (i + 1) (by omega) _ _ _ _ _ _ _ b1 b2 (rst_tr e4 b3) ht2 b4 b5) n 0 (Nat.zero_add n) tf (fun j hj => by rw [e3 j hj]; unfold tmF; rw [if_neg (Nat.not_lt_zero _)])
theorem m_ctz {x1 x2 : Int32} {er nw as ah mf nm p df : Nat → Int32} {Q : Int32 → (Nat → Int32) → (Nat → Int32) → (Nat → Int32) → (Nat → Int32) → (Nat → Int32) → (Nat → Int32) → (Nat → Int32) → (Nat → Int32) → (Nat → Int32) → Prop}
    (h : ∀ tf, (∀ j, j < 8 → tf j = 0) → ∃ k, lb_X8_last_76 x1 x2 Q k 0 er nw as tf ah mf nm p df) :
    ∀ r i, i + r = 8 → ∀ tf, (∀ j, j < i → tf j = 0) → lb_X8_last_55 x1 x2 Q (r + 1) (nI i) er nw as tf ah mf nm p df := by
  intro r
  induction r with
  | zero =>
    intro i hi tf ht
    have : i = 8 := by omega
    subst this
    exact ⟨fun _ => h tf ht, fun c => absurd (show (8 : Int32) ≤ nI 8 by decide) c⟩
  | succ r ih =>
    intro i hi tf ht
    have hi2 : i < 8 := by omega
    refine ⟨fun c => absurd c (nI_ge hi2 (by decide)), fun _ => ⟨vp_in_nI hi2 (by decide), ?_⟩⟩
    rw [nI_clamp (by omega), nI_1]
    refine ih (i + 1) (by omega) _ (fun j hj => ?_)
    by_cases e : j = i
    · subst e; rw [up_s]
    · rw [up_n e]; exact ht j (by omega)
set_option maxHeartbeats 4000000 in
set_option maxRecDepth 100000 in
theorem op_last {ca : Nat → Nat → Int32} {ci : Nat → Int32} {ma : Nat → Nat → Int32} {mi : Nat → Int32} (h : Inv ca ci ma mi) (s1 : Int32) (s2 : Int32) : wp_X7_last s1 s2 (ca 49) (ci 4) (ci 5) (ci 6) (ci 17) (ci 18) (ci 19) (ca 6) (ca 32) (ca 7) (ca 33) (ca 8) (ca 34) (ca 9) (ca 35) (ca 10) (ca 36) (ca 11) (ca 37) (ca 50) (ca 39) (ca 38) (ci 2) (ca 0) (ca 1) (ca 2) (ci 3) (ca 3) (ca 4) (ca 5) (fun r1 c0 c1 c2 c3 c4 c5 c6 c7 c8 c9 c10 c11 c12 c13 c14 => wp_X8_last s1 s2 (ma 3) (ma 0) (ma 2) (ma 10) (ma 6) (ma 4) (ma 8) (ma 9) (ma 5) (fun r2 m0 m1 m2 m3 m4 m5 m6 m7 m8 => r1 = r2 ∧ Inv (va_up (va_up (va_up (va_up (va_up (va_up (va_up (va_up (va_up (va_up (va_up (va_up ca 49 c0) 32 c4) 33 c5) 34 c6) 35 c7) 36 c8) 37 c9) 50 c10) 39 c11) 38 c12) 2 c13) 5 c14) (va_up (va_up (va_up ci 17 c1) 18 c2) 19 c3) (va_up (va_up (va_up (va_up (va_up (va_up (va_up (va_up (va_up ma 3 m0) 0 m1) 2 m2) 10 m3) 6 m4) 4 m5) 8 m6) 9 m7) 5 m8) mi)) := by
  obtain ⟨tl, hkp, him, re, rv, r0, r1, r2, r3⟩ := h
  obtain ⟨n, sn, ln, F, tn, tk, nv, un, uk, uv, pn, wn, ⟨hn, hsn, hln, ok, wT, wU, hpn, hwn⟩, ⟨tc1, tc2, tc3, cf, cT, cU, tc7, tc8⟩, tm, mc, dc⟩ := id tl
  obtain ⟨tm1, tm2, tm3, tm4, tmT, tmU, tm7, tm8, tm9, tm10⟩ := id tm
  have fin : ∀ w mf df, ag w (ma 0) → MC (meV tn tk nv) mf → DC (deV un uk uv) df → TL (ci 1) (ci 4) (ci 5) (ci 6) (ca 6) (ca 7) (ca 8) (ca 9) (ca 10) (ca 11) (ci 2) (ca 0) (ca 1) (ci 3) (ca 3) (ca 4) (ci 7) (ca 14) (ci 8) (ca 15) w mf df := fun w mf df a1 a2 a3 => ⟨n, sn, ln, F, tn, tk, nv, un, uk, uv, pn, wn, ⟨hn, hsn, hln, ok, wT, wU, hpn, hwn⟩, ⟨tc1, tc2, tc3, cf, cT, cU, tc7, tc8⟩, tm_eq hn wT wU hpn hwn tm a1, a2, a3⟩
  unfold wp_X7_last wp_X8_last lb_X7_last_17 lb_X8_last_19
  rw [tc1, tm1.1]
  by_cases c : (1 : Int32) ≤ s1 ∧ s1 ≤ 60
  · by_cases d : (0 : Int32) ≤ s2 ∧ s2 ≤ 1
    · simp only [e_within, e_isEither, e_within8, b2i_t c, b2i_t d, z10, false_implies, true_implies, not_true_eq_false, not_false_eq_true, true_and, and_true, forall_eq]
      obtain ⟨k, hk, rfl⟩ := sm_of (n := 60) (by decide) ⟨Int32.le_trans (by decide) c.1, c.2⟩
      by_cases z : n = 0
      · subst z
        simp +decide only [e_ref2, e_fin2, false_implies, true_implies, not_true_eq_false, not_false_eq_true, true_and, and_true, forall_eq]
        exact (by first | exact ⟨tl, hkp, him, re_upd re (k := 2) (by decide), rv, r0, r1, r2, r3⟩ | exact ⟨rfl, tl, hkp, him, re_upd re (k := 2) (by decide), rv, r0, r1, r2, r3⟩)
      · have nz : ¬ nI n = (0 : Int32) := by rw [fa_lit 0, eq_nn (by omega) (by decide)]; exact z
        have hp : 0 < n := by omega
        simp only [nz, false_implies, true_implies, not_true_eq_false, not_false_eq_true, true_and, and_true, forall_eq]
        unfold wp_X7_countTimesFree
        rw [tc3]
        refine s_think hn cf (fun k1 m1 a1 f1 g1 d1 cf1 => ⟨n + 1, s_ctz hn (fun tf ht => ⟨k + 1, ?_⟩) n 0 (Nat.zero_add n) _ (fun j hj => absurd hj (by omega))⟩)
        refine s_ct hn hk cT wT cU wU ok (fun t1 t2 t3 k1 m1 a f g d tf2 c hh p q htf => ⟨n - 1 + 1, ?_⟩) k 0 (Nat.zero_add k) _ _ _ _ _ _ _ _ _ tc2 cf1 (fun j hj => by rw [ht j hj]; rfl)
        refine s_best (z1 := 0) hn hp hk (fun j => Nat.le_trans tf_le hk) htf ?_ (n - 1) 1 (by decide) (by omega) _ (bsF_1 _)
        refine m_copy (fun as has => ⟨8 + 1, m_ctz (fun tf3 ht3 => ⟨k + 1, ?_⟩) 8 0 rfl _ (fun j hj => absurd hj (by omega))⟩)
        exact m_ct hn hp hk tmT wT tmU wU tm1 ok (by omega) tm3 has (fun nw of_ ah mf nm p df b1 b2 b3 => ⟨rfl, fin _ _ _ b1 b2 b3, hkp, him, re, rv, r0, r1, r2, r3⟩) k 0 (Nat.zero_add k) _ _ _ _ _ _ _ tm2 tm1 (rst_rf _) (fun j hj => by rw [ht3 j (by omega)]; rfl) mc dc
    · simp only [e_within, e_isEither, e_within8, b2i_t c, b2i_f d, z10, z00, e_ref1, e_fin1, false_implies, true_implies, not_true_eq_false, not_false_eq_true, true_and, and_true, forall_eq]
      exact (by first | exact ⟨tl, hkp, him, re_upd re (k := 1) (by decide), rv, r0, r1, r2, r3⟩ | exact ⟨rfl, tl, hkp, him, re_upd re (k := 1) (by decide), rv, r0, r1, r2, r3⟩)
  · simp only [e_within, e_within8, b2i_f c, z00, e_ref1, e_fin1, false_implies, true_implies, not_true_eq_false, not_false_eq_true, true_and, and_true, forall_eq]
    exact (by first | exact ⟨tl, hkp, him, re_upd re (k := 1) (by decide), rv, r0, r1, r2, r3⟩ | exact ⟨rfl, tl, hkp, him, re_upd re (k := 1) (by decide), rv, r0, r1, r2, r3⟩)
