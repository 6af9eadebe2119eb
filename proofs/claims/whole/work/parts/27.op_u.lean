theorem jmin_nn {a b : Nat} (ha : a < 2 ^ 31) (hb : b < 2 ^ 31) : jmin (nI a) (nI b) = nI (min a b) := by
  unfold jmin
  by_cases c : nI b < nI a
  · rw [if_pos c]
    rw [lt_nn hb ha] at c
    rw [Nat.min_eq_right (by omega)]
  · rw [if_neg c]
    rw [lt_nn hb ha] at c
    rw [Nat.min_eq_left (by omega)]
/-- the first place below N where P fails -/
def fkP (P : Nat → Prop) (N K : Nat) : Prop := K ≤ N ∧ (∀ i, i < K → P i) ∧ (K = N ∨ ¬ P K)
theorem fk_one {P : Nat → Prop} {N K L : Nat} (h : fkP P N K) (h2 : fkP P N L) : K = L := by
  rcases Nat.lt_trichotomy K L with l | l | l
  · rcases h.2.2 with q | q
    · have := h2.1; omega
    · exact absurd (h2.2.1 K l) q
  · exact l
  · rcases h2.2.2 with q | q
    · have := h.1; omega
    · exact absurd (h.2.1 L l) q
theorem fk_cong {P R : Nat → Prop} {N K : Nat} (h : fkP P N K) (e : ∀ i, i < N → (P i ↔ R i)) : fkP R N K := by
  refine ⟨h.1, fun i hi => (e i (by have := h.1; omega)).mp (h.2.1 i hi), ?_⟩
  rcases h.2.2 with q | q
  · exact Or.inl q
  · by_cases z : K = N
    · exact Or.inl z
    · exact Or.inr (fun y => q ((e K (by have := h.1; omega)).mpr y))
theorem sm99 {x : Int32} : (0 ≤ x ∧ x ≤ 99) ↔ sm x 99 := ⟨fun q => sm_of (by decide) q, fun ⟨k, hk, e⟩ => by
  rw [e, fa_lit 0, fa_lit 99, li_nn (by decide) (by omega), li_nn (by omega) (by decide)]; omega⟩
def frF (F : Nat → Nat → Int32) (K : Nat) (nums : Nat → Int32) : Nat → Nat → Int32 := fun f j => if f = 3 ∧ j < K then nums j else F f j
theorem fr_y {F : Nat → Nat → Int32} {K j : Nat} {nums : Nat → Int32} (h : j < K) : frF F K nums 3 j = nums j := if_pos ⟨rfl, h⟩
theorem fr_n {F : Nat → Nat → Int32} {K f j : Nat} {nums : Nat → Int32} (h : ¬ (f = 3 ∧ j < K)) : frF F K nums f j = F f j := if_neg h
theorem ok_fr {n K : Nat} {F : Nat → Nat → Int32} {nums : Nat → Int32} (o : okP n F) (h : ∀ i, i < K → sm (nums i) 99) : okP n (frF F K nums) := fun i hi => by
  obtain ⟨o0, o1, o2, o3, o4, o5⟩ := o i hi
  refine ⟨by rw [fr_n (by omega)]; exact o0, by rw [fr_n (by omega)]; exact o1, by rw [fr_n (by omega)]; exact o2, ?_, by rw [fr_n (by omega)]; exact o4, by rw [fr_n (by omega)]; exact o5⟩
  by_cases c : i < K
  · rw [fr_y c]; exact h i c
  · rw [fr_n (fun q => c q.2)]; exact o3
theorem cf_fr {n K : Nat} {F : Nat → Nat → Int32} {nums kind m at_ f gl de : Nat → Int32} (cf : CF n (frF F K nums) kind m at_ f gl de) : CF n (frF F (K + 1) nums) kind m at_ (upd f K (nums K)) gl de := fun i hi => by
  obtain ⟨f0, f1, f2, f3, f4, f5⟩ := cf i hi
  rw [fr_n (by omega)] at f0 f1 f2 f4 f5
  refine ⟨by rw [fr_n (by omega)]; exact f0, by rw [fr_n (by omega)]; exact f1, by rw [fr_n (by omega)]; exact f2, ?_, by rw [fr_n (by omega)]; exact f4, by rw [fr_n (by omega)]; exact f5⟩
  by_cases e : i = K
  · subst e; rw [up_s, fr_y (by omega)]
  · rw [up_n e, f3]
    by_cases c : i < K
    · rw [fr_y c, fr_y (by omega)]
    · rw [fr_n (fun q => c q.2), fr_n (by omega)]
theorem s_frees0 {n N : Nat} (hn : n ≤ 8) (hN : N ≤ n) {F : Nat → Nat → Int32} {x1 : Int32} {rf kind m at_ gl de : Nat → Int32} {b0 b1 b2 b3 e0 e1 e2 e3 : Int32} {n0 n1 n2 n3 : Nat → Int32} {Q : Int32 → (Nat → Int32) → (Nat → Int32) → Prop}
    (h : ∀ K f, fkP (fun i => sm (n0 i) 99) N K → CF n (frF F K n0) kind m at_ f gl de → Q (nI K) rf f) :
    ∀ r i, i + r = N → (∀ j, j < i → sm (n0 j) 99) → ∀ f, CF n (frF F i n0) kind m at_ f gl de → lb_X7_frees_50 x1 b3 e3 (nI n) n3 b2 e2 n2 b1 e1 n1 b0 e0 n0 Q (r + 1) (nI N) (nI i) rf f := by
  intro r
  induction r with
  | zero =>
    intro i hi e f cf
    have : i = N := by omega
    subst this
    exact ⟨fun _ => h i f ⟨Nat.le_refl _, e, Or.inl rfl⟩ cf, fun c => absurd (Int32.le_refl _) c⟩
  | succ r ih =>
    intro i hi e f cf
    refine ⟨fun c => absurd c (nI_ge (show i < N by omega) (by omega)), fun _ => ⟨vp_in_nI (by omega) (by decide), ?_⟩⟩
    rw [nI_clamp (by omega), e_within, nI_1]
    by_cases g : sm (n0 i) 99
    · rw [b2i_t (sm99.mpr g)]
      refine ⟨fun _ => ⟨vp_in_nI (by omega) (by decide), ?_⟩, fun z => absurd z (by decide)⟩
      rintro v rfl
      refine ⟨vp_in_nI (by omega) (by decide), ih (i + 1) (by omega) (fun j hj => ?_) _ (cf_fr cf)⟩
      by_cases z : j = i
      · subst z; exact g
      · exact e j (by omega)
    · rw [b2i_f (fun q => g (sm99.mp q))]
      exact ⟨fun z => absurd rfl z, fun _ => h i f ⟨by omega, e, Or.inr g⟩ cf⟩
theorem s_judge0 {n N : Nat} (hn : n ≤ 8) (hN : N ≤ n) {x1 : Int32} {rf at_ : Nat → Int32} {b0 b1 b2 b3 e0 e1 e2 e3 : Int32} {n0 n1 n2 n3 : Nat → Int32} {Q : Int32 → (Nat → Int32) → Prop}
    (h : ∀ K, fkP (fun i => n0 i = at_ i) N K → Q (if K = N ∧ e0 = nI n then -1 else nI K) rf) :
    ∀ r i, i + r = N → (∀ j, j < i → n0 j = at_ j) → lb_X7_judge_50 x1 b3 e3 (nI n) n3 at_ b2 e2 n2 b1 e1 n1 b0 e0 n0 Q (r + 1) (nI N) (nI i) rf := by
  intro r
  induction r with
  | zero =>
    intro i hi e
    have : i = N := by omega
    subst this
    have hq := h i ⟨Nat.le_refl _, e, Or.inl rfl⟩
    refine ⟨fun _ => ⟨fun c => ?_, fun c => ?_⟩, fun c => absurd (Int32.le_refl _) c⟩
    · rw [if_neg (fun z => c z.2)] at hq; exact hq
    · rw [if_pos ⟨rfl, c⟩] at hq; exact hq
  | succ r ih =>
    intro i hi e
    refine ⟨fun c => absurd c (nI_ge (show i < N by omega) (by omega)), fun _ => ⟨vp_in_nI (by omega) (by decide), vp_in_nI (by omega) (by decide), ?_⟩⟩
    rw [nI_clamp (by omega), nI_1]
    refine ⟨fun c => ih (i + 1) (by omega) (fun j hj => ?_), fun c => ?_⟩
    · by_cases z : j = i
      · subst z; exact c
      · exact e j (by omega)
    · have hq := h i ⟨by omega, e, Or.inr c⟩
      rw [if_neg (by omega)] at hq
      exact hq
theorem s_frees1 {n N : Nat} (hn : n ≤ 8) (hN : N ≤ n) {F : Nat → Nat → Int32} {x1 : Int32} {rf kind m at_ gl de : Nat → Int32} {b0 b1 b2 b3 e0 e1 e2 e3 : Int32} {n0 n1 n2 n3 : Nat → Int32} {Q : Int32 → (Nat → Int32) → (Nat → Int32) → Prop}
    (h : ∀ K f, fkP (fun i => sm (n1 i) 99) N K → CF n (frF F K n1) kind m at_ f gl de → Q (nI K) rf f) :
    ∀ r i, i + r = N → (∀ j, j < i → sm (n1 j) 99) → ∀ f, CF n (frF F i n1) kind m at_ f gl de → lb_X7_frees_50v2 x1 b3 e3 (nI n) n3 b2 e2 n2 b1 e1 n1 b0 e0 n0 Q (r + 1) (nI N) (nI i) rf f := by
  intro r
  induction r with
  | zero =>
    intro i hi e f cf
    have : i = N := by omega
    subst this
    exact ⟨fun _ => h i f ⟨Nat.le_refl _, e, Or.inl rfl⟩ cf, fun c => absurd (Int32.le_refl _) c⟩
  | succ r ih =>
    intro i hi e f cf
    refine ⟨fun c => absurd c (nI_ge (show i < N by omega) (by omega)), fun _ => ⟨vp_in_nI (by omega) (by decide), ?_⟩⟩
    rw [nI_clamp (by omega), e_within, nI_1]
    by_cases g : sm (n1 i) 99
    · rw [b2i_t (sm99.mpr g)]
      refine ⟨fun _ => ⟨vp_in_nI (by omega) (by decide), ?_⟩, fun z => absurd z (by decide)⟩
      rintro v rfl
      refine ⟨vp_in_nI (by omega) (by decide), ih (i + 1) (by omega) (fun j hj => ?_) _ (cf_fr cf)⟩
      by_cases z : j = i
      · subst z; exact g
      · exact e j (by omega)
    · rw [b2i_f (fun q => g (sm99.mp q))]
      exact ⟨fun z => absurd rfl z, fun _ => h i f ⟨by omega, e, Or.inr g⟩ cf⟩
theorem s_judge1 {n N : Nat} (hn : n ≤ 8) (hN : N ≤ n) {x1 : Int32} {rf at_ : Nat → Int32} {b0 b1 b2 b3 e0 e1 e2 e3 : Int32} {n0 n1 n2 n3 : Nat → Int32} {Q : Int32 → (Nat → Int32) → Prop}
    (h : ∀ K, fkP (fun i => n1 i = at_ i) N K → Q (if K = N ∧ e1 = nI n then -1 else nI K) rf) :
    ∀ r i, i + r = N → (∀ j, j < i → n1 j = at_ j) → lb_X7_judge_50v2 x1 b3 e3 (nI n) n3 at_ b2 e2 n2 b1 e1 n1 b0 e0 n0 Q (r + 1) (nI N) (nI i) rf := by
  intro r
  induction r with
  | zero =>
    intro i hi e
    have : i = N := by omega
    subst this
    have hq := h i ⟨Nat.le_refl _, e, Or.inl rfl⟩
    refine ⟨fun _ => ⟨fun c => ?_, fun c => ?_⟩, fun c => absurd (Int32.le_refl _) c⟩
    · rw [if_neg (fun z => c z.2)] at hq; exact hq
    · rw [if_pos ⟨rfl, c⟩] at hq; exact hq
  | succ r ih =>
    intro i hi e
    refine ⟨fun c => absurd c (nI_ge (show i < N by omega) (by omega)), fun _ => ⟨vp_in_nI (by omega) (by decide), vp_in_nI (by omega) (by decide), ?_⟩⟩
    rw [nI_clamp (by omega), nI_1]
    refine ⟨fun c => ih (i + 1) (by omega) (fun j hj => ?_), fun c => ?_⟩
    · by_cases z : j = i
      · subst z; exact c
      · exact e j (by omega)
    · have hq := h i ⟨by omega, e, Or.inr c⟩
      rw [if_neg (by omega)] at hq
      exact hq
theorem s_frees2 {n N : Nat} (hn : n ≤ 8) (hN : N ≤ n) {F : Nat → Nat → Int32} {x1 : Int32} {rf kind m at_ gl de : Nat → Int32} {b0 b1 b2 b3 e0 e1 e2 e3 : Int32} {n0 n1 n2 n3 : Nat → Int32} {Q : Int32 → (Nat → Int32) → (Nat → Int32) → Prop}
    (h : ∀ K f, fkP (fun i => sm (n2 i) 99) N K → CF n (frF F K n2) kind m at_ f gl de → Q (nI K) rf f) :
    ∀ r i, i + r = N → (∀ j, j < i → sm (n2 j) 99) → ∀ f, CF n (frF F i n2) kind m at_ f gl de → lb_X7_frees_50v3 x1 b3 e3 (nI n) n3 b2 e2 n2 b1 e1 n1 b0 e0 n0 Q (r + 1) (nI N) (nI i) rf f := by
  intro r
  induction r with
  | zero =>
    intro i hi e f cf
    have : i = N := by omega
    subst this
    exact ⟨fun _ => h i f ⟨Nat.le_refl _, e, Or.inl rfl⟩ cf, fun c => absurd (Int32.le_refl _) c⟩
  | succ r ih =>
    intro i hi e f cf
    refine ⟨fun c => absurd c (nI_ge (show i < N by omega) (by omega)), fun _ => ⟨vp_in_nI (by omega) (by decide), ?_⟩⟩
    rw [nI_clamp (by omega), e_within, nI_1]
    by_cases g : sm (n2 i) 99
    · rw [b2i_t (sm99.mpr g)]
      refine ⟨fun _ => ⟨vp_in_nI (by omega) (by decide), ?_⟩, fun z => absurd z (by decide)⟩
      rintro v rfl
      refine ⟨vp_in_nI (by omega) (by decide), ih (i + 1) (by omega) (fun j hj => ?_) _ (cf_fr cf)⟩
      by_cases z : j = i
      · subst z; exact g
      · exact e j (by omega)
    · rw [b2i_f (fun q => g (sm99.mp q))]
      exact ⟨fun z => absurd rfl z, fun _ => h i f ⟨by omega, e, Or.inr g⟩ cf⟩
theorem s_judge2 {n N : Nat} (hn : n ≤ 8) (hN : N ≤ n) {x1 : Int32} {rf at_ : Nat → Int32} {b0 b1 b2 b3 e0 e1 e2 e3 : Int32} {n0 n1 n2 n3 : Nat → Int32} {Q : Int32 → (Nat → Int32) → Prop}
    (h : ∀ K, fkP (fun i => n2 i = at_ i) N K → Q (if K = N ∧ e2 = nI n then -1 else nI K) rf) :
    ∀ r i, i + r = N → (∀ j, j < i → n2 j = at_ j) → lb_X7_judge_50v3 x1 b3 e3 (nI n) n3 at_ b2 e2 n2 b1 e1 n1 b0 e0 n0 Q (r + 1) (nI N) (nI i) rf := by
  intro r
  induction r with
  | zero =>
    intro i hi e
    have : i = N := by omega
    subst this
    have hq := h i ⟨Nat.le_refl _, e, Or.inl rfl⟩
    refine ⟨fun _ => ⟨fun c => ?_, fun c => ?_⟩, fun c => absurd (Int32.le_refl _) c⟩
    · rw [if_neg (fun z => c z.2)] at hq; exact hq
    · rw [if_pos ⟨rfl, c⟩] at hq; exact hq
  | succ r ih =>
    intro i hi e
    refine ⟨fun c => absurd c (nI_ge (show i < N by omega) (by omega)), fun _ => ⟨vp_in_nI (by omega) (by decide), vp_in_nI (by omega) (by decide), ?_⟩⟩
    rw [nI_clamp (by omega), nI_1]
    refine ⟨fun c => ih (i + 1) (by omega) (fun j hj => ?_), fun c => ?_⟩
    · by_cases z : j = i
      · subst z; exact c
      · exact e j (by omega)
    · have hq := h i ⟨by omega, e, Or.inr c⟩
      rw [if_neg (by omega)] at hq
      exact hq
theorem s_frees3 {n N : Nat} (hn : n ≤ 8) (hN : N ≤ n) {F : Nat → Nat → Int32} {x1 : Int32} {rf kind m at_ gl de : Nat → Int32} {b0 b1 b2 b3 e0 e1 e2 e3 : Int32} {n0 n1 n2 n3 : Nat → Int32} {Q : Int32 → (Nat → Int32) → (Nat → Int32) → Prop}
    (h : ∀ K f, fkP (fun i => sm (n3 i) 99) N K → CF n (frF F K n3) kind m at_ f gl de → Q (nI K) rf f) :
    ∀ r i, i + r = N → (∀ j, j < i → sm (n3 j) 99) → ∀ f, CF n (frF F i n3) kind m at_ f gl de → lb_X7_frees_50v4 x1 b3 e3 (nI n) n3 b2 e2 n2 b1 e1 n1 b0 e0 n0 Q (r + 1) (nI N) (nI i) rf f := by
  intro r
  induction r with
  | zero =>
    intro i hi e f cf
    have : i = N := by omega
    subst this
    exact ⟨fun _ => h i f ⟨Nat.le_refl _, e, Or.inl rfl⟩ cf, fun c => absurd (Int32.le_refl _) c⟩
  | succ r ih =>
    intro i hi e f cf
    refine ⟨fun c => absurd c (nI_ge (show i < N by omega) (by omega)), fun _ => ⟨vp_in_nI (by omega) (by decide), ?_⟩⟩
    rw [nI_clamp (by omega), e_within, nI_1]
    by_cases g : sm (n3 i) 99
    · rw [b2i_t (sm99.mpr g)]
      refine ⟨fun _ => ⟨vp_in_nI (by omega) (by decide), ?_⟩, fun z => absurd z (by decide)⟩
      rintro v rfl
      refine ⟨vp_in_nI (by omega) (by decide), ih (i + 1) (by omega) (fun j hj => ?_) _ (cf_fr cf)⟩
      by_cases z : j = i
      · subst z; exact g
      · exact e j (by omega)
    · rw [b2i_f (fun q => g (sm99.mp q))]
      exact ⟨fun z => absurd rfl z, fun _ => h i f ⟨by omega, e, Or.inr g⟩ cf⟩
theorem s_judge3 {n N : Nat} (hn : n ≤ 8) (hN : N ≤ n) {x1 : Int32} {rf at_ : Nat → Int32} {b0 b1 b2 b3 e0 e1 e2 e3 : Int32} {n0 n1 n2 n3 : Nat → Int32} {Q : Int32 → (Nat → Int32) → Prop}
    (h : ∀ K, fkP (fun i => n3 i = at_ i) N K → Q (if K = N ∧ e3 = nI n then -1 else nI K) rf) :
    ∀ r i, i + r = N → (∀ j, j < i → n3 j = at_ j) → lb_X7_judge_50v4 x1 b3 e3 (nI n) n3 at_ b2 e2 n2 b1 e1 n1 b0 e0 n0 Q (r + 1) (nI N) (nI i) rf := by
  intro r
  induction r with
  | zero =>
    intro i hi e
    have : i = N := by omega
    subst this
    have hq := h i ⟨Nat.le_refl _, e, Or.inl rfl⟩
    refine ⟨fun _ => ⟨fun c => ?_, fun c => ?_⟩, fun c => absurd (Int32.le_refl _) c⟩
    · rw [if_neg (fun z => c z.2)] at hq; exact hq
    · rw [if_pos ⟨rfl, c⟩] at hq; exact hq
  | succ r ih =>
    intro i hi e
    refine ⟨fun c => absurd c (nI_ge (show i < N by omega) (by omega)), fun _ => ⟨vp_in_nI (by omega) (by decide), vp_in_nI (by omega) (by decide), ?_⟩⟩
    rw [nI_clamp (by omega), nI_1]
    refine ⟨fun c => ih (i + 1) (by omega) (fun j hj => ?_), fun c => ?_⟩
    · by_cases z : j = i
      · subst z; exact c
      · exact e j (by omega)
    · have hq := h i ⟨by omega, e, Or.inr c⟩
      rw [if_neg (by omega)] at hq
      exact hq
theorem m_frees {n len qq : Nat} (hn : n ≤ 8) (hl : len ≤ 40) (hq : qq < 4) {F : Nat → Nat → Int32} {now er wds szs mnum nums : Nat → Int32} {wd : Int32} (pn : PN n F now) (hs : szs qq = nI len) (nr : ∀ j, j < len → nrel wd (nums j) (mnum (40 * qq + j))) {Q : Int32 → (Nat → Int32) → (Nat → Int32) → Prop}
    (h : ∀ K w, fkP (fun i => sm (nums i) 99) (min len n) K → PN n (frF F K nums) w → (∀ j, (j < 6 ∨ 54 ≤ j) → w j = now j) → Q (nI K) er w) :
    ∀ r i, i + r = min len n → (∀ j, j < i → sm (nums j) 99) → ∀ w, PN n (frF F i nums) w → (∀ j, (j < 6 ∨ 54 ≤ j) → w j = now j) → lb_X8_frees_32 (nI qq) wds szs mnum Q (r + 1) (nI i) er w := by
  have ix : ∀ j, (40 : Int32) * nI qq + nI j = nI (40 * qq + j) := fun j => by rw [fa_lit 40, pk_mul, nI_add]
  intro r
  induction r with
  | zero =>
    intro i hi e w pw rw_
    have hm : i = min len n := by omega
    have fin := h i w ⟨by omega, e, Or.inl hm⟩ pw rw_
    refine ⟨vp_in_nI hq (by decide), fun _ => fin, fun c => ?_⟩
    rw [nI_clamp (by omega), hs, li_nn (by omega) (by omega)] at c
    rw [e_isSoul8, pw.1]
    have ns : ¬ ((0 : Int32) ≤ nI i ∧ nI i ≤ nI n - 1) := fun z => by
      obtain ⟨j, hj, e⟩ := soul_of hn z
      rw [eq_nn (by omega) (by omega)] at e
      omega
    rw [b2i_f ns]
    exact ⟨fun _ => fin, fun z => absurd rfl z⟩
  | succ r ih =>
    intro i hi e w pw rw_
    have h1 : i < len := by omega
    have h2 : i < n := by omega
    refine ⟨vp_in_nI hq (by decide), fun c => ?_, fun _ => ?_⟩
    · rw [nI_clamp (by omega), hs] at c
      exact absurd c (nI_ge h1 (by omega))
    rw [e_isSoul8, pw.1, b2i_t (of_soul hn h2)]
    refine ⟨fun z => absurd z (by decide), fun _ => ?_⟩
    rw [ix, nI_clamp (by omega), e_within8, e_sA3, nI_1, nI_clamp (by omega)]
    refine ⟨vp_in_nI (by omega) (by decide), ?_⟩
    have sq := nr_sm (nr i h1) (show 99 ≤ 127 by decide)
    by_cases g : sm (nums i) 99
    · rw [b2i_t (sm99.mpr (sq.mp g))]
      refine ⟨fun z => absurd z (by decide), fun _ => ⟨vp_in_nI (by omega) (by decide), ?_⟩⟩
      rintro v rfl
      have ev : mnum (40 * qq + i) = nums i := by
        obtain ⟨k, hk, ek⟩ := g
        rw [(nr_k (nr i h1) (show k ≤ 127 by omega)).mp ek, ek]
      rw [ev]
      refine ⟨vp_in_nI (by omega) (by decide), ih (i + 1) (by omega) (fun j hj => ?_) _ ⟨by rw [up_n (by omega)]; exact pw.1, fun j hj f hf => ?_⟩ (fun j hj => by rw [up_n (by omega)]; exact rw_ j hj)⟩
      · by_cases z : j = i
        · subst z; exact g
        · exact e j (by omega)
      · by_cases z : f = 3 ∧ j = i
        · obtain ⟨rfl, rfl⟩ := z
          rw [up_s, fr_y (by omega)]
        · rw [up_n (by omega), pw.2 j hj f hf]
          by_cases y : f = 3 ∧ j < i
          · obtain ⟨rfl, y⟩ := y
            rw [fr_y y, fr_y (by omega)]
          · rw [fr_n y, fr_n (by omega)]
    · rw [b2i_f (fun z => g (sq.mpr (sm99.mp z)))]
      exact ⟨fun _ => h i w ⟨by omega, e, Or.inr g⟩ pw rw_, fun z => absurd rfl z⟩
theorem m_judge {n len qq : Nat} (hn : n ≤ 8) (hl : len ≤ 40) (hq : qq < 4) {F : Nat → Nat → Int32} {now er wds szs mnum nums : Nat → Int32} {wd : Int32} (pn : PN n F now) (ok : okP n F) (hs : szs qq = nI len) (nr : ∀ j, j < len → nrel wd (nums j) (mnum (40 * qq + j))) {Q : Int32 → (Nat → Int32) → Prop}
    (h : ∀ K, fkP (fun i => nums i = F 2 i) (min len n) K → Q (if K = min len n ∧ nI len = nI n then -1 else nI K) er) :
    ∀ r i, i + r = min len n → (∀ j, j < i → nums j = F 2 j) → lb_X8_judge_32 (nI qq) wds szs now mnum Q (r + 1) (nI i) er := by
  have ix : ∀ j, (40 : Int32) * nI qq + nI j = nI (40 * qq + j) := fun j => by rw [fa_lit 40, pk_mul, nI_add]
  have E : ∀ i, i ≤ min len n → Q (if i = min len n ∧ nI len = nI n then -1 else nI i) er → lb_X8_judge_76 (nI qq) wds szs now mnum Q (nI i) er := by
    intro i hi hQ
    refine ⟨vp_in_nI hq (by decide), ?_⟩
    rw [nI_clamp (by omega), hs, pn.1, eq_nn (by omega) (by omega), eq_nn (by omega) (by omega)]
    refine ⟨fun c => ?_, fun c => ⟨fun d => ?_, fun d => ?_⟩⟩
    · rw [if_neg (fun z => by rw [eq_nn (by omega) (by omega)] at z; omega)] at hQ; exact hQ
    · rw [if_neg (fun z => by rw [eq_nn (by omega) (by omega)] at z; omega)] at hQ; exact hQ
    · rw [if_pos ⟨by omega, by rw [← c, ← d]⟩] at hQ; exact hQ
  intro r
  induction r with
  | zero =>
    intro i hi e
    have hm : i = min len n := by omega
    have fin := E i (by omega) (h i ⟨by omega, e, Or.inl hm⟩)
    refine ⟨vp_in_nI hq (by decide), fun _ => fin, fun c => ?_⟩
    rw [nI_clamp (by omega), hs, li_nn (by omega) (by omega)] at c
    rw [e_isSoul8, pn.1]
    have ns : ¬ ((0 : Int32) ≤ nI i ∧ nI i ≤ nI n - 1) := fun z => by
      obtain ⟨j, hj, e⟩ := soul_of hn z
      rw [eq_nn (by omega) (by omega)] at e
      omega
    rw [b2i_f ns]
    exact ⟨fun _ => fin, fun z => absurd rfl z⟩
  | succ r ih =>
    intro i hi e
    have h1 : i < len := by omega
    have h2 : i < n := by omega
    refine ⟨vp_in_nI hq (by decide), fun c => ?_, fun _ => ?_⟩
    · rw [nI_clamp (by omega), hs] at c
      exact absurd c (nI_ge h1 (by omega))
    rw [e_isSoul8, pn.1, b2i_t (of_soul hn h2)]
    refine ⟨fun z => absurd z (by decide), fun _ => ?_⟩
    rw [ix, nI_clamp (by omega), e_sI2 (show i < 8 by omega), pn.2 i h2 2 (by decide), nI_1]
    refine ⟨vp_in_nI (by omega) (by decide), ?_⟩
    obtain ⟨g, hg, eg⟩ := (ok i h2).2.2.1
    have iff := nr_k (nr i h1) (show g ≤ 127 by omega)
    refine ⟨fun c => E i (by omega) (h i ⟨by omega, e, Or.inr (fun z => c ?_)⟩), fun c => ih (i + 1) (by omega) (fun j hj => ?_)⟩
    · rw [eg]; exact iff.mp (by rw [z, eg])
    · by_cases z : j = i
      · subst z; rw [eg]; exact iff.mpr (by rw [c, eg])
      · exact e j (by omega)
set_option maxHeartbeats 4000000 in
set_option maxRecDepth 100000 in
theorem op_frees {ca : Nat → Nat → Int32} {ci : Nat → Int32} {ma : Nat → Nat → Int32} {mi : Nat → Int32} (h : Inv ca ci ma mi) (s1 : Int32) : wp_X7_frees s1 (ci 34) (ci 35) (ca 49) (ci 4) (ca 48) (ca 9) (ci 32) (ci 33) (ca 47) (ci 30) (ci 31) (ca 46) (ci 28) (ci 29) (ca 45) (fun r1 c0 c1 => wp_X8_frees s1 (ma 3) (ma 12) (ma 13) (ma 0) (ma 14) (fun r2 m0 m1 => r1 = r2 ∧ Inv (va_up (va_up ca 49 c0) 9 c1) ci (va_up (va_up ma 3 m0) 0 m1) mi)) := by
  obtain ⟨tl, hkp, him, re, rv, r0, r1, r2, r3⟩ := h
  obtain ⟨n, sn, ln, F, tn, tk, nv, un, uk, uv, pn, wn, ⟨hn, hsn, hln, ok, wT, wU, hpn, hwn⟩, ⟨tc1, tc2, tc3, cf, cT, cU, tc7, tc8⟩, tm, mc, dc⟩ := id tl
  obtain ⟨tm1, tm2, tm3, tm4, tmT, tmU, tm7, tm8, tm9, tm10⟩ := id tm
  by_cases c : (0 : Int32) ≤ s1 ∧ s1 ≤ 3
  · have one : ∀ qq : Nat, qq < 4 → ∀ (bits size : Int32) (nums : Nat → Int32), RSh qq bits size nums (ma 12) (ma 13) (ma 14) → ∀ (R : Int32 → (Nat → Int32) → (Nat → Int32) → Prop), (bits = 0 → R (-1000000002) (upd (ma 3) 2 (ma 3 2 + 1)) (ma 0)) → (∀ len, ¬ bits = 0 → size = nI len → len ≤ 40 → ∀ K w, fkP (fun i => sm (nums i) 99) (min len n) K → PN n (frF F K nums) w → (∀ j, (j < 6 ∨ 54 ≤ j) → w j = ma 0 j) → R (nI K) (ma 3) w) → wp_X8_frees (nI qq) (ma 3) (ma 12) (ma 13) (ma 0) (ma 14) R := by
      intro qq hq bits size nums ⟨w1, w2, len, hl, w3, w4, w5⟩ R h1 h2
      have c2 : (0 : Int32) ≤ nI qq ∧ nI qq ≤ 3 := by
        rw [fa_lit 0, fa_lit 3, li_nn (by decide) (by omega), li_nn (by omega) (by decide)]; omega
      unfold wp_X8_frees
      simp only [e_isSheet8, b2i_t c2, z10, false_implies, true_implies, not_true_eq_false, not_false_eq_true, true_and, and_true, forall_eq]
      rw [nI_clamp (by omega), ← w1, e_fin2]
      refine ⟨vp_in_nI hq (by decide), fun nz => ⟨min len n + 1, ?_⟩, fun z => h1 z⟩
      exact m_frees hn hl hq tm1 w4 w5 (h2 len nz w3 hl) (min len n) 0 (Nat.zero_add _) (fun j hj => absurd hj (by omega)) _ ⟨tm1.1, fun j hj f hf => by rw [fr_n (by omega)]; exact tm1.2 j hj f hf⟩ (fun _ _ => rfl)
    have cf0 : ∀ nums, CF n (frF F 0 nums) (ca 6) (ca 7) (ca 8) (ca 9) (ca 10) (ca 11) := fun nums i hi => by
      obtain ⟨f0, f1, f2, f3, f4, f5⟩ := cf i hi
      exact ⟨by rw [fr_n (by omega)]; exact f0, by rw [fr_n (by omega)]; exact f1, by rw [fr_n (by omega)]; exact f2, by rw [fr_n (by omega)]; exact f3, by rw [fr_n (by omega)]; exact f4, by rw [fr_n (by omega)]; exact f5⟩
    unfold wp_X7_frees wp_X7_rowOf
    rw [tc1]
    simp only [e_within, e_miss, b2i_t c, z10, false_implies, true_implies, not_true_eq_false, not_false_eq_true, true_and, and_true, forall_eq]
    obtain ⟨qq, hq, rfl⟩ := sm_of (n := 3) (by decide) c
    refine ⟨vp_in_nI (by omega) (by decide), fun e => ?_, fun e => ?_, fun e => ?_, fun e => ?_⟩
    · have eq0 : qq = 0 := by rw [fa_lit 0, eq_nn (by omega) (by decide)] at e; exact e
      subst eq0
      by_cases z : ci 28 = 0
      · simp only [b2i_t z, z10, e_ref2, false_implies, true_implies, not_true_eq_false, not_false_eq_true, true_and, and_true, forall_eq]
        exact one 0 (by decide) _ _ _ r0 _ (fun _ => (by first | exact ⟨tl, hkp, him, re_upd re (k := 2) (by decide), rv, r0, r1, r2, r3⟩ | exact ⟨rfl, tl, hkp, him, re_upd re (k := 2) (by decide), rv, r0, r1, r2, r3⟩)) (fun _ y => absurd z y)
      · simp only [b2i_f z, z00, false_implies, true_implies, not_true_eq_false, not_false_eq_true, true_and, and_true, forall_eq]
        obtain ⟨_, _, len, hl, w3, _, _⟩ := id r0
        rw [w3, jmin_nn (by omega) (by omega)]
        refine ⟨min len n + 1, s_frees0 hn (by omega) (fun K f fk cf' => ?_) (min len n) 0 (Nat.zero_add _) (fun j hj => absurd hj (by omega)) _ (cf0 _)⟩
        refine one 0 (by decide) _ _ _ r0 _ (fun y => absurd y z) (fun len2 _ y2 hl2 K2 w fk2 pw rr => ?_)
        have el : len2 = len := by rw [w3, eq_nn (by omega) (by omega)] at y2; omega
        subst el
        have ek := fk_one fk fk2
        subst ek
        have ok' := ok_fr ok fk.2.1
        have tm' := tm_gen (sn2 := sn) tm hpn hwn (fun j hj => rr j (by omega)) ((rr 0 (by omega)).trans tm2) pw
        exact ⟨rfl, ⟨n, sn, ln, _, tn, tk, nv, un, uk, uv, pn, wn, ⟨hn, hsn, hln, ok', wT, wU, hpn, hwn⟩, ⟨tc1, tc2, tc3, cf', cT, cU, tc7, tc8⟩, tm', mc, dc⟩, hkp, him, re, rv, r0, r1, r2, r3⟩
    · have eq0 : qq = 1 := by rw [fa_lit 1, eq_nn (by omega) (by decide)] at e; exact e
      subst eq0
      by_cases z : ci 30 = 0
      · simp only [b2i_t z, z10, e_ref2, false_implies, true_implies, not_true_eq_false, not_false_eq_true, true_and, and_true, forall_eq]
        exact one 1 (by decide) _ _ _ r1 _ (fun _ => (by first | exact ⟨tl, hkp, him, re_upd re (k := 2) (by decide), rv, r0, r1, r2, r3⟩ | exact ⟨rfl, tl, hkp, him, re_upd re (k := 2) (by decide), rv, r0, r1, r2, r3⟩)) (fun _ y => absurd z y)
      · simp only [b2i_f z, z00, false_implies, true_implies, not_true_eq_false, not_false_eq_true, true_and, and_true, forall_eq]
        obtain ⟨_, _, len, hl, w3, _, _⟩ := id r1
        rw [w3, jmin_nn (by omega) (by omega)]
        refine ⟨min len n + 1, s_frees1 hn (by omega) (fun K f fk cf' => ?_) (min len n) 0 (Nat.zero_add _) (fun j hj => absurd hj (by omega)) _ (cf0 _)⟩
        refine one 1 (by decide) _ _ _ r1 _ (fun y => absurd y z) (fun len2 _ y2 hl2 K2 w fk2 pw rr => ?_)
        have el : len2 = len := by rw [w3, eq_nn (by omega) (by omega)] at y2; omega
        subst el
        have ek := fk_one fk fk2
        subst ek
        have ok' := ok_fr ok fk.2.1
        have tm' := tm_gen (sn2 := sn) tm hpn hwn (fun j hj => rr j (by omega)) ((rr 0 (by omega)).trans tm2) pw
        exact ⟨rfl, ⟨n, sn, ln, _, tn, tk, nv, un, uk, uv, pn, wn, ⟨hn, hsn, hln, ok', wT, wU, hpn, hwn⟩, ⟨tc1, tc2, tc3, cf', cT, cU, tc7, tc8⟩, tm', mc, dc⟩, hkp, him, re, rv, r0, r1, r2, r3⟩
    · have eq0 : qq = 2 := by rw [fa_lit 2, eq_nn (by omega) (by decide)] at e; exact e
      subst eq0
      by_cases z : ci 32 = 0
      · simp only [b2i_t z, z10, e_ref2, false_implies, true_implies, not_true_eq_false, not_false_eq_true, true_and, and_true, forall_eq]
        exact one 2 (by decide) _ _ _ r2 _ (fun _ => (by first | exact ⟨tl, hkp, him, re_upd re (k := 2) (by decide), rv, r0, r1, r2, r3⟩ | exact ⟨rfl, tl, hkp, him, re_upd re (k := 2) (by decide), rv, r0, r1, r2, r3⟩)) (fun _ y => absurd z y)
      · simp only [b2i_f z, z00, false_implies, true_implies, not_true_eq_false, not_false_eq_true, true_and, and_true, forall_eq]
        obtain ⟨_, _, len, hl, w3, _, _⟩ := id r2
        rw [w3, jmin_nn (by omega) (by omega)]
        refine ⟨min len n + 1, s_frees2 hn (by omega) (fun K f fk cf' => ?_) (min len n) 0 (Nat.zero_add _) (fun j hj => absurd hj (by omega)) _ (cf0 _)⟩
        refine one 2 (by decide) _ _ _ r2 _ (fun y => absurd y z) (fun len2 _ y2 hl2 K2 w fk2 pw rr => ?_)
        have el : len2 = len := by rw [w3, eq_nn (by omega) (by omega)] at y2; omega
        subst el
        have ek := fk_one fk fk2
        subst ek
        have ok' := ok_fr ok fk.2.1
        have tm' := tm_gen (sn2 := sn) tm hpn hwn (fun j hj => rr j (by omega)) ((rr 0 (by omega)).trans tm2) pw
        exact ⟨rfl, ⟨n, sn, ln, _, tn, tk, nv, un, uk, uv, pn, wn, ⟨hn, hsn, hln, ok', wT, wU, hpn, hwn⟩, ⟨tc1, tc2, tc3, cf', cT, cU, tc7, tc8⟩, tm', mc, dc⟩, hkp, him, re, rv, r0, r1, r2, r3⟩
    · have eq0 : qq = 3 := by rw [fa_lit 3, eq_nn (by omega) (by decide)] at e; exact e
      subst eq0
      by_cases z : ci 34 = 0
      · simp only [b2i_t z, z10, e_ref2, false_implies, true_implies, not_true_eq_false, not_false_eq_true, true_and, and_true, forall_eq]
        exact one 3 (by decide) _ _ _ r3 _ (fun _ => (by first | exact ⟨tl, hkp, him, re_upd re (k := 2) (by decide), rv, r0, r1, r2, r3⟩ | exact ⟨rfl, tl, hkp, him, re_upd re (k := 2) (by decide), rv, r0, r1, r2, r3⟩)) (fun _ y => absurd z y)
      · simp only [b2i_f z, z00, false_implies, true_implies, not_true_eq_false, not_false_eq_true, true_and, and_true, forall_eq]
        obtain ⟨_, _, len, hl, w3, _, _⟩ := id r3
        rw [w3, jmin_nn (by omega) (by omega)]
        refine ⟨min len n + 1, s_frees3 hn (by omega) (fun K f fk cf' => ?_) (min len n) 0 (Nat.zero_add _) (fun j hj => absurd hj (by omega)) _ (cf0 _)⟩
        refine one 3 (by decide) _ _ _ r3 _ (fun y => absurd y z) (fun len2 _ y2 hl2 K2 w fk2 pw rr => ?_)
        have el : len2 = len := by rw [w3, eq_nn (by omega) (by omega)] at y2; omega
        subst el
        have ek := fk_one fk fk2
        subst ek
        have ok' := ok_fr ok fk.2.1
        have tm' := tm_gen (sn2 := sn) tm hpn hwn (fun j hj => rr j (by omega)) ((rr 0 (by omega)).trans tm2) pw
        exact ⟨rfl, ⟨n, sn, ln, _, tn, tk, nv, un, uk, uv, pn, wn, ⟨hn, hsn, hln, ok', wT, wU, hpn, hwn⟩, ⟨tc1, tc2, tc3, cf', cT, cU, tc7, tc8⟩, tm', mc, dc⟩, hkp, him, re, rv, r0, r1, r2, r3⟩
  · unfold wp_X7_frees wp_X8_frees wp_X7_rowOf
    simp only [e_within, e_isSheet8, b2i_f c, z00, e_ref1, e_fin1, false_implies, true_implies, not_true_eq_false, not_false_eq_true, true_and, and_true, forall_eq]
    exact (by first | exact ⟨tl, hkp, him, re_upd re (k := 1) (by decide), rv, r0, r1, r2, r3⟩ | exact ⟨rfl, tl, hkp, him, re_upd re (k := 1) (by decide), rv, r0, r1, r2, r3⟩)
set_option maxHeartbeats 4000000 in
set_option maxRecDepth 100000 in
theorem op_judge {ca : Nat → Nat → Int32} {ci : Nat → Int32} {ma : Nat → Nat → Int32} {mi : Nat → Int32} (h : Inv ca ci ma mi) (s1 : Int32) : wp_X7_judge s1 (ci 34) (ci 35) (ca 49) (ci 4) (ca 48) (ca 8) (ci 32) (ci 33) (ca 47) (ci 30) (ci 31) (ca 46) (ci 28) (ci 29) (ca 45) (fun r1 c0 => wp_X8_judge s1 (ma 3) (ma 12) (ma 13) (ma 0) (ma 14) (fun r2 m0 => r1 = r2 ∧ Inv (va_up ca 49 c0) ci (va_up ma 3 m0) mi)) := by
  obtain ⟨tl, hkp, him, re, rv, r0, r1, r2, r3⟩ := h
  obtain ⟨n, sn, ln, F, tn, tk, nv, un, uk, uv, pn, wn, ⟨hn, hsn, hln, ok, wT, wU, hpn, hwn⟩, ⟨tc1, tc2, tc3, cf, cT, cU, tc7, tc8⟩, tm, mc, dc⟩ := id tl
  obtain ⟨tm1, tm2, tm3, tm4, tmT, tmU, tm7, tm8, tm9, tm10⟩ := id tm
  by_cases c : (0 : Int32) ≤ s1 ∧ s1 ≤ 3
  · have one : ∀ qq : Nat, qq < 4 → ∀ (bits size : Int32) (nums : Nat → Int32), RSh qq bits size nums (ma 12) (ma 13) (ma 14) → ∀ (R : Int32 → (Nat → Int32) → Prop), (bits = 0 → R (-1000000002) (upd (ma 3) 2 (ma 3 2 + 1))) → (∀ len, ¬ bits = 0 → size = nI len → len ≤ 40 → ∀ K, fkP (fun i => nums i = F 2 i) (min len n) K → R (if K = min len n ∧ nI len = nI n then -1 else nI K) (ma 3)) → wp_X8_judge (nI qq) (ma 3) (ma 12) (ma 13) (ma 0) (ma 14) R := by
      intro qq hq bits size nums ⟨w1, w2, len, hl, w3, w4, w5⟩ R h1 h2
      have c2 : (0 : Int32) ≤ nI qq ∧ nI qq ≤ 3 := by
        rw [fa_lit 0, fa_lit 3, li_nn (by decide) (by omega), li_nn (by omega) (by decide)]; omega
      unfold wp_X8_judge
      simp only [e_isSheet8, b2i_t c2, z10, false_implies, true_implies, not_true_eq_false, not_false_eq_true, true_and, and_true, forall_eq]
      rw [nI_clamp (by omega), ← w1, e_fin2]
      refine ⟨vp_in_nI hq (by decide), fun nz => ⟨min len n + 1, ?_⟩, fun z => h1 z⟩
      exact m_judge hn hl hq tm1 ok w4 w5 (h2 len nz w3 hl) (min len n) 0 (Nat.zero_add _) (fun j hj => absurd hj (by omega))
    unfold wp_X7_judge wp_X7_rowOf
    rw [tc1]
    simp only [e_within, e_miss, b2i_t c, z10, false_implies, true_implies, not_true_eq_false, not_false_eq_true, true_and, and_true, forall_eq]
    obtain ⟨qq, hq, rfl⟩ := sm_of (n := 3) (by decide) c
    refine ⟨vp_in_nI (by omega) (by decide), fun e => ?_, fun e => ?_, fun e => ?_, fun e => ?_⟩
    · have eq0 : qq = 0 := by rw [fa_lit 0, eq_nn (by omega) (by decide)] at e; exact e
      subst eq0
      by_cases z : ci 28 = 0
      · simp only [b2i_t z, z10, e_ref2, false_implies, true_implies, not_true_eq_false, not_false_eq_true, true_and, and_true, forall_eq]
        exact one 0 (by decide) _ _ _ r0 _ (fun _ => (by first | exact ⟨tl, hkp, him, re_upd re (k := 2) (by decide), rv, r0, r1, r2, r3⟩ | exact ⟨rfl, tl, hkp, him, re_upd re (k := 2) (by decide), rv, r0, r1, r2, r3⟩)) (fun _ y => absurd z y)
      · simp only [b2i_f z, z00, false_implies, true_implies, not_true_eq_false, not_false_eq_true, true_and, and_true, forall_eq]
        obtain ⟨_, _, len, hl, w3, _, _⟩ := id r0
        rw [w3, jmin_nn (by omega) (by omega)]
        refine ⟨min len n + 1, s_judge0 hn (by omega) (fun K fk => ?_) (min len n) 0 (Nat.zero_add _) (fun j hj => absurd hj (by omega))⟩
        refine one 0 (by decide) _ _ _ r0 _ (fun y => absurd y z) (fun len2 _ y2 hl2 K2 fk2 => ?_)
        have el : len2 = len := by rw [w3, eq_nn (by omega) (by omega)] at y2; omega
        subst el
        have ek := fk_one (fk_cong fk (fun i hi => by rw [(cf i (by omega)).2.2.1])) fk2
        subst ek
        exact ⟨rfl, ⟨tl, hkp, him, re, rv, r0, r1, r2, r3⟩⟩
    · have eq0 : qq = 1 := by rw [fa_lit 1, eq_nn (by omega) (by decide)] at e; exact e
      subst eq0
      by_cases z : ci 30 = 0
      · simp only [b2i_t z, z10, e_ref2, false_implies, true_implies, not_true_eq_false, not_false_eq_true, true_and, and_true, forall_eq]
        exact one 1 (by decide) _ _ _ r1 _ (fun _ => (by first | exact ⟨tl, hkp, him, re_upd re (k := 2) (by decide), rv, r0, r1, r2, r3⟩ | exact ⟨rfl, tl, hkp, him, re_upd re (k := 2) (by decide), rv, r0, r1, r2, r3⟩)) (fun _ y => absurd z y)
      · simp only [b2i_f z, z00, false_implies, true_implies, not_true_eq_false, not_false_eq_true, true_and, and_true, forall_eq]
        obtain ⟨_, _, len, hl, w3, _, _⟩ := id r1
        rw [w3, jmin_nn (by omega) (by omega)]
        refine ⟨min len n + 1, s_judge1 hn (by omega) (fun K fk => ?_) (min len n) 0 (Nat.zero_add _) (fun j hj => absurd hj (by omega))⟩
        refine one 1 (by decide) _ _ _ r1 _ (fun y => absurd y z) (fun len2 _ y2 hl2 K2 fk2 => ?_)
        have el : len2 = len := by rw [w3, eq_nn (by omega) (by omega)] at y2; omega
        subst el
        have ek := fk_one (fk_cong fk (fun i hi => by rw [(cf i (by omega)).2.2.1])) fk2
        subst ek
        exact ⟨rfl, ⟨tl, hkp, him, re, rv, r0, r1, r2, r3⟩⟩
    · have eq0 : qq = 2 := by rw [fa_lit 2, eq_nn (by omega) (by decide)] at e; exact e
      subst eq0
      by_cases z : ci 32 = 0
      · simp only [b2i_t z, z10, e_ref2, false_implies, true_implies, not_true_eq_false, not_false_eq_true, true_and, and_true, forall_eq]
        exact one 2 (by decide) _ _ _ r2 _ (fun _ => (by first | exact ⟨tl, hkp, him, re_upd re (k := 2) (by decide), rv, r0, r1, r2, r3⟩ | exact ⟨rfl, tl, hkp, him, re_upd re (k := 2) (by decide), rv, r0, r1, r2, r3⟩)) (fun _ y => absurd z y)
      · simp only [b2i_f z, z00, false_implies, true_implies, not_true_eq_false, not_false_eq_true, true_and, and_true, forall_eq]
        obtain ⟨_, _, len, hl, w3, _, _⟩ := id r2
        rw [w3, jmin_nn (by omega) (by omega)]
        refine ⟨min len n + 1, s_judge2 hn (by omega) (fun K fk => ?_) (min len n) 0 (Nat.zero_add _) (fun j hj => absurd hj (by omega))⟩
        refine one 2 (by decide) _ _ _ r2 _ (fun y => absurd y z) (fun len2 _ y2 hl2 K2 fk2 => ?_)
        have el : len2 = len := by rw [w3, eq_nn (by omega) (by omega)] at y2; omega
        subst el
        have ek := fk_one (fk_cong fk (fun i hi => by rw [(cf i (by omega)).2.2.1])) fk2
        subst ek
        exact ⟨rfl, ⟨tl, hkp, him, re, rv, r0, r1, r2, r3⟩⟩
    · have eq0 : qq = 3 := by rw [fa_lit 3, eq_nn (by omega) (by decide)] at e; exact e
      subst eq0
      by_cases z : ci 34 = 0
      · simp only [b2i_t z, z10, e_ref2, false_implies, true_implies, not_true_eq_false, not_false_eq_true, true_and, and_true, forall_eq]
        exact one 3 (by decide) _ _ _ r3 _ (fun _ => (by first | exact ⟨tl, hkp, him, re_upd re (k := 2) (by decide), rv, r0, r1, r2, r3⟩ | exact ⟨rfl, tl, hkp, him, re_upd re (k := 2) (by decide), rv, r0, r1, r2, r3⟩)) (fun _ y => absurd z y)
      · simp only [b2i_f z, z00, false_implies, true_implies, not_true_eq_false, not_false_eq_true, true_and, and_true, forall_eq]
        obtain ⟨_, _, len, hl, w3, _, _⟩ := id r3
        rw [w3, jmin_nn (by omega) (by omega)]
        refine ⟨min len n + 1, s_judge3 hn (by omega) (fun K fk => ?_) (min len n) 0 (Nat.zero_add _) (fun j hj => absurd hj (by omega))⟩
        refine one 3 (by decide) _ _ _ r3 _ (fun y => absurd y z) (fun len2 _ y2 hl2 K2 fk2 => ?_)
        have el : len2 = len := by rw [w3, eq_nn (by omega) (by omega)] at y2; omega
        subst el
        have ek := fk_one (fk_cong fk (fun i hi => by rw [(cf i (by omega)).2.2.1])) fk2
        subst ek
        exact ⟨rfl, ⟨tl, hkp, him, re, rv, r0, r1, r2, r3⟩⟩
  · unfold wp_X7_judge wp_X8_judge wp_X7_rowOf
    simp only [e_within, e_isSheet8, b2i_f c, z00, e_ref1, e_fin1, false_implies, true_implies, not_true_eq_false, not_false_eq_true, true_and, and_true, forall_eq]
    exact (by first | exact ⟨tl, hkp, him, re_upd re (k := 1) (by decide), rv, r0, r1, r2, r3⟩ | exact ⟨rfl, tl, hkp, him, re_upd re (k := 1) (by decide), rv, r0, r1, r2, r3⟩)
