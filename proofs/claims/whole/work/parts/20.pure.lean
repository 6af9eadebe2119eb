theorem up_s {f : Nat → Int32} {k : Nat} {x : Int32} : upd f k x k = x := pk_us
theorem up_n {f : Nat → Int32} {k j : Nat} {x : Int32} (h : j ≠ k) : upd f k x j = f j := pk_un h
theorem nI_sub2 {h : Nat} (h2 : 2 ≤ h) : nI h - 2 = nI (h - 2) := by
  rw [fa_lit 2, pk_sub h2]
theorem nI_sub1 {h : Nat} (h1 : 1 ≤ h) : nI h - 1 = nI (h - 1) := by
  rw [fa_lit 1, pk_sub h1]
theorem nI_dec {h : Nat} (h1 : 1 ≤ h) : nI h + (-1) = nI (h - 1) := by
  obtain ⟨k, rfl⟩ : ∃ k, h = k + 1 := ⟨h - 1, by omega⟩
  exact pk_m1 k
/-- a number, a name: more than that -/
theorem sg_lo {t : Nat} (h : t ≤ 3) : ¬ (3 : Int32) < sgT t := by
  rcases (show t = 0 ∨ t = 1 ∨ t = 2 ∨ t = 3 by omega) with rfl | rfl | rfl | rfl <;> decide
theorem sg_hi : ∀ t : Nat, t < 15 → 4 ≤ t → (3 : Int32) < sgT t ∧ (sgT t = 33 ↔ t = 14) := by decide
theorem cd_hi : ∀ t : Nat, t < 15 → 4 ≤ t → (20000 : Int32) ≤ cdT t ∧ (cdT t = 20010 ↔ t = 14) := by decide
theorem cd_nm : ∀ t : Nat, t < 4 → 1 ≤ t → ¬ (20000 : Int32) ≤ cdT t ∧ (10000 : Int32) ≤ cdT t ∧ cdT t - 10000 = nI (t - 1) := by decide
theorem s_single {t : Nat} (h : t ≤ 3) {v a b c : Int32} {Q : Int32 → Prop} (hq : Q (vlT t v a b c)) : wp_X3_single (sgT t) v a b c Q := by
  revert hq
  unfold wp_X3_single
  rcases (show t = 0 ∨ t = 1 ∨ t = 2 ∨ t = 3 by omega) with rfl | rfl | rfl | rfl <;> intro hq
  · exact ⟨fun q => absurd q (by decide), fun q => absurd q (by decide), fun q => absurd q (by decide), fun _ _ _ => hq⟩
  · exact ⟨fun _ => hq, fun q => absurd q (by decide), fun q => absurd q (by decide), fun q => absurd rfl q⟩
  · exact ⟨fun q => absurd q (by decide), fun _ => hq, fun q => absurd q (by decide), fun _ q => absurd rfl q⟩
  · exact ⟨fun q => absurd q (by decide), fun q => absurd q (by decide), fun _ => hq, fun _ _ q => absurd rfl q⟩
/-- the pile agrees up to its height -/
def agP (h : Nat) (f g : Nat → Int32) : Prop := ∀ j, j < h → f j = g j
theorem ag_push {h : Nat} {f g : Nat → Int32} (a : agP h f g) {x y : Int32} (e : x = y) : agP (h + 1) (upd f h x) (upd g h y) := fun j hj => by
  by_cases q : j = h
  · subst q; rw [up_s, up_s, e]
  · rw [up_n q, up_n q]; exact a j (by omega)
theorem ag_set {h k : Nat} {f g : Nat → Int32} (a : agP h f g) {x y : Int32} (e : x = y) (m : Nat) (hm : m ≤ h) : agP m (upd f k x) (upd g k y) := fun j hj => by
  by_cases q : j = k
  · subst q; rw [up_s, up_s, e]
  · rw [up_n q, up_n q]; exact a j (by omega)
theorem s_gives {tn : Nat} {tk : Nat → Nat} {nv : Nat → Int32} {size : Int32} {signs numbers pile : Nat → Int32} {a b c : Int32} {Q : Int32 → (Nat → Int32) → Prop} (T : TRc tn tk nv size signs numbers) (w : wfT tn tk nv) (h0 : 0 < tn) (h : ∀ p, Q (plT tk nv a b c tn 0) p) : wp_X3_gives a b c size signs numbers pile Q := by
  obtain ⟨rfl, T⟩ := T
  obtain ⟨w1, w2, w3⟩ := w
  unfold wp_X3_gives
  refine pk_loop (fun k i (s : Int32 × (Nat → Int32)) => lb_X3_gives_6 a b c (nI tn) signs numbers Q k s.1 (nI i) s.2) (fun i s => s.1 = nI (hg tk i) ∧ agP (hg tk i) s.2 (plT tk nv a b c i)) tn 0 (0, pile) (Nat.zero_le tn) ⟨rfl, fun j hj => absurd hj (Nat.not_lt_zero j)⟩ ?_ ?_
  · rintro k ⟨y, p⟩ ⟨e1, e2⟩
    simp only at e1 e2
    subst e1
    show lb_X3_gives_6 a b c (nI tn) signs numbers Q (k + 1) (nI (hg tk tn)) (nI tn) p
    rw [w2 h0] at e2 ⊢
    refine ⟨fun _ => ⟨fun q => absurd q (by decide), fun _ => ?_⟩, fun q => absurd (Int32.le_refl _) q⟩
    rw [e2 0 (by decide)]
    exact h p
  · rintro k i ⟨y, p⟩ hi ⟨e1, e2⟩ ih
    simp only at e1 e2
    subst e1
    show lb_X3_gives_6 a b c (nI tn) signs numbers Q (k + 1) (nI (hg tk i)) (nI i) p
    have ih : ∀ y' p', y' = nI (hg tk (i + 1)) → agP (hg tk (i + 1)) p' (plT tk nv a b c (i + 1)) → lb_X3_gives_6 a b c (nI tn) signs numbers Q k y' (nI (i + 1)) p' := fun y' p' a1 a2 => ih (y', p') ⟨a1, a2⟩
    have hle := hg_le tk i
    obtain ⟨t1, t2⟩ := T i hi
    obtain ⟨v1, v2, v3, v4⟩ := w3 i hi
    have i50 : vp_in (nI i) 50 := vp_in_nI (by omega) (by decide)
    have c50 : (nI i).toNatClampNeg = i := nI_clamp (by omega)
    refine ⟨fun q => absurd q (nI_ge hi (by omega)), fun _ => ⟨i50, fun v ev => ?_⟩⟩
    rw [c50, t1] at ev
    subst ev
    rw [c50, nI_1]
    by_cases c3 : tk i ≤ 3
    · refine ⟨fun q => absurd q (sg_lo c3), fun _ => ⟨fun q => absurd q (nI_ge (a := hg tk i) (b := 50) (by omega) (by decide)), fun _ => ⟨i50, ?_⟩⟩⟩
      refine s_single c3 ⟨vp_in_nI (by omega) (by decide), ?_⟩
      rw [nI_clamp (by omega), nI_1]
      refine ih _ _ ?_ ?_
      · simp only [hg, if_pos c3]
      · simp only [hg, plT, if_pos c3]
        refine ag_push e2 ?_
        by_cases c0 : tk i = 0
        · rw [t2 c0]
        · simp [vlT, c0]
    · obtain ⟨s1, s2⟩ := sg_hi (tk i) (by omega) (by omega)
      refine ⟨fun _ => ⟨fun q => ?_, fun q => ?_⟩, fun q => absurd s1 q⟩
      · have c14 : ¬ tk i = 14 := fun z => q (s2.mpr z)
        have hh := v4 (by omega) (by omega)
        refine ⟨fun z => absurd z (nI_nlt (a := hg tk i) (b := 2) hh (by omega)), fun _ => ?_⟩
        rw [nI_sub2 hh, nI_sub1 (by omega), nI_dec (by omega)]
        refine ⟨vp_in_nI (by omega) (by decide), vp_in_nI (by omega) (by decide), ?_⟩
        rw [nI_clamp (by omega), nI_clamp (by omega)]
        refine s_joined (by omega) (by omega) ⟨vp_in_nI (by omega) (by decide), ?_⟩
        refine ih _ _ ?_ ?_
        · simp only [hg, if_neg c3, if_neg c14]
        · simp only [hg, plT, if_neg c3, if_neg c14]
          refine ag_set e2 ?_ _ (by omega)
          rw [e2 _ (by omega), e2 _ (by omega)]
      · have c14 : tk i = 14 := s2.mp q
        have hh := v3 c14
        refine ⟨fun z => absurd z (nI_nlt (a := hg tk i) (b := 1) hh (by omega)), fun _ => ?_⟩
        rw [nI_sub1 hh]
        refine ⟨vp_in_nI (by omega) (by decide), ?_⟩
        rw [nI_clamp (by omega)]
        have go : ∀ z : Int32, z = b2i (p (hg tk i - 1) = 0) → lb_X3_gives_6 a b c (nI tn) signs numbers Q k (nI (hg tk i)) (nI (i + 1)) (upd p (hg tk i - 1) z) := fun z ez => by
          refine ih _ _ ?_ ?_
          · simp only [hg, if_neg c3, if_pos c14]
          · simp only [hg, plT, if_neg c3, if_pos c14]
            refine ag_set e2 ?_ _ (Nat.le_refl _)
            rw [ez, e2 _ (by omega)]
        exact ⟨fun z => ⟨vp_in_nI (by omega) (by decide), go 0 (b2i_f z).symm⟩, fun z => ⟨vp_in_nI (by omega) (by decide), go 1 (b2i_t z).symm⟩⟩
theorem m_worked {tn B : Nat} {tk : Nat → Nat} {nv : Nat → Int32} {now pile named : Nat → Int32} {a b c : Int32} {Q : Int32 → (Nat → Int32) → Prop} (T : TRm tn tk nv B now) (hB : B + 51 ≤ 228) (w : wfT tn tk nv) (h0 : 0 < tn) (n0 : named 0 = a) (n1 : named 1 = b) (n2 : named 2 = c) (h : ∀ p, Q (plT tk nv a b c tn 0) p) : wp_X8_worked (nI (B + 1)) now pile named Q := by
  obtain ⟨T0, T⟩ := T
  obtain ⟨w1, w2, w3⟩ := w
  unfold wp_X8_worked
  have bm : nI (B + 1) - 1 = nI B := nI_pred B
  have vB : vp_in (nI B) 228 := vp_in_nI (by omega) (by decide)
  have cB : (nI B).toNatClampNeg = B := nI_clamp (by omega)
  refine pk_loop (fun k i (s : Int32 × (Nat → Int32)) => lb_X8_worked_4 (nI (B + 1)) now named Q k s.1 (nI (B + 1 + i)) s.2) (fun i s => s.1 = nI (hg tk i) ∧ agP (hg tk i) s.2 (plT tk nv a b c i)) tn 0 (0, pile) (Nat.zero_le tn) ⟨rfl, fun j hj => absurd hj (Nat.not_lt_zero j)⟩ ?_ ?_
  · rintro k ⟨y, p⟩ ⟨e1, e2⟩
    simp only at e1 e2
    subst e1
    show lb_X8_worked_4 (nI (B + 1)) now named Q (k + 1) (nI (hg tk tn)) (nI (B + 1 + tn)) p
    rw [w2 h0] at e2 ⊢
    unfold lb_X8_worked_4
    rw [bm, cB, T0, nI_add]
    refine ⟨vB, fun _ => ?_, fun q => absurd (Int32.le_refl _) q⟩
    rw [e2 0 (by decide)]
    exact h p
  · rintro k i ⟨y, p⟩ hi ⟨e1, e2⟩ ih
    simp only at e1 e2
    subst e1
    show lb_X8_worked_4 (nI (B + 1)) now named Q (k + 1) (nI (hg tk i)) (nI (B + 1 + i)) p
    have ih : ∀ y' p', y' = nI (hg tk (i + 1)) → agP (hg tk (i + 1)) p' (plT tk nv a b c (i + 1)) → lb_X8_worked_4 (nI (B + 1)) now named Q k y' (nI (B + 1 + i + 1)) p' := fun y' p' a1 a2 => ih (y', p') ⟨a1, a2⟩
    have hle := hg_le tk i
    have t1 := T i hi
    obtain ⟨v1, v2, v3, v4⟩ := w3 i hi
    have iB : vp_in (nI (B + 1 + i)) 228 := vp_in_nI (by omega) (by decide)
    have ciB : (nI (B + 1 + i)).toNatClampNeg = B + 1 + i := nI_clamp (by omega)
    unfold lb_X8_worked_4
    rw [bm, cB, T0, nI_add]
    refine ⟨vB, fun q => absurd q (nI_ge (by omega) (by omega)), fun _ => ⟨iB, fun v ev => ?_⟩⟩
    rw [ciB, t1] at ev
    subst ev
    rw [nI_1]
    by_cases c0 : tk i = 0
    · obtain ⟨x, hx, ex⟩ := v2 c0
      have e0 : cdV (tk i) (nv i) = nI x := by simp [cdV, c0, ex]
      rw [e0]
      refine ⟨fun q => absurd q (nI_ge (a := x) (b := 20000) (by omega) (by decide)), fun _ => ⟨fun q => absurd q (nI_ge (a := x) (b := 10000) (by omega) (by decide)), fun _ => ⟨vp_in_nI (by omega) (by decide), ?_⟩⟩⟩
      rw [nI_clamp (by omega), nI_1]
      refine ih _ _ ?_ ?_
      · simp only [hg, c0]; rfl
      · simp only [hg, plT, c0]
        exact ag_push e2 (by simp [vlT, ex])
    · have e0 : cdV (tk i) (nv i) = cdT (tk i) := by simp [cdV, c0]
      rw [e0]
      by_cases c3 : tk i ≤ 3
      · obtain ⟨s1, s2, s3⟩ := cd_nm (tk i) (by omega) (by omega)
        refine ⟨fun q => absurd q s1, fun _ => ⟨fun _ => ?_, fun q => absurd s2 q⟩⟩
        rw [s3]
        refine ⟨vp_in_nI (by omega) (by decide), fun v8 e8 => ⟨vp_in_nI (by omega) (by decide), ?_⟩⟩
        rw [nI_clamp (by omega)] at e8
        rw [nI_clamp (by omega), nI_1]
        refine ih _ _ ?_ ?_
        · simp only [hg, if_pos c3]
        · simp only [hg, plT, if_pos c3]
          refine ag_push e2 ?_
          rw [e8]
          rcases (show tk i = 1 ∨ tk i = 2 ∨ tk i = 3 by omega) with q | q | q <;> rw [q] <;> simp [vlT, n0, n1, n2]
      · obtain ⟨s1, s2⟩ := cd_hi (tk i) (by omega) (by omega)
        refine ⟨fun _ => ⟨fun q => ?_, fun q => ?_⟩, fun q => absurd s1 q⟩
        · have c14 : ¬ tk i = 14 := fun z => q (s2.mpr z)
          have hh := v4 (by omega) (by omega)
          rw [nI_dec (by omega), nI_sub1 (by omega), show hg tk i - 1 - 1 = hg tk i - 2 by omega]
          refine ⟨vp_in_nI (by omega) (by decide), vp_in_nI (by omega) (by decide), ?_⟩
          rw [nI_clamp (by omega), nI_clamp (by omega)]
          refine m_doneop (by omega) (by omega) ⟨vp_in_nI (by omega) (by decide), ?_⟩
          refine ih _ _ ?_ ?_
          · simp only [hg, if_neg c3, if_neg c14]
          · simp only [hg, plT, if_neg c3, if_neg c14]
            refine ag_set e2 ?_ _ (by omega)
            rw [e2 _ (by omega), e2 _ (by omega)]
        · have c14 : tk i = 14 := s2.mp q
          have hh := v3 c14
          rw [nI_sub1 hh]
          refine ⟨vp_in_nI (by omega) (by decide), ?_⟩
          rw [nI_clamp (by omega)]
          have go : ∀ z : Int32, z = b2i (p (hg tk i - 1) = 0) → lb_X8_worked_4 (nI (B + 1)) now named Q k (nI (hg tk i)) (nI (B + 1 + i + 1)) (upd p (hg tk i - 1) z) := fun z ez => by
            refine ih _ _ ?_ ?_
            · simp only [hg, if_neg c3, if_pos c14]
            · simp only [hg, plT, if_neg c3, if_pos c14]
              refine ag_set e2 ?_ _ (Nat.le_refl _)
              rw [ez, e2 _ (by omega)]
          exact ⟨fun z => ⟨vp_in_nI (by omega) (by decide), go 0 (b2i_f z).symm⟩, fun z => ⟨vp_in_nI (by omega) (by decide), go 1 (b2i_t z).symm⟩⟩
/-! what the two uses give -/
def meV (tn : Nat) (tk : Nat → Nat) (nv : Nat → Int32) (a b c : Int32) : Int32 := if tn = 0 then 1 else jmax 0 (jmin 1 (plT tk nv a b c tn 0))
def deV (tn : Nat) (tk : Nat → Nat) (nv : Nat → Int32) (a b c : Int32) : Int32 := if tn = 0 then b2i (¬ a ≤ 5) else jmax 0 (jmin 9 (plT tk nv a b c tn 0))
theorem s_meets {tn : Nat} {tk : Nat → Nat} {nv : Nat → Int32} {size : Int32} {signs numbers pile : Nat → Int32} {a b c : Int32} {Q : Int32 → (Nat → Int32) → Prop} (T : TRc tn tk nv size signs numbers) (w : wfT tn tk nv) (h : ∀ p, Q (meV tn tk nv a b c) p) : wp_X0_meets a b c size signs numbers pile Q := by
  unfold wp_X0_meets wp_X3_isEmpty
  have es := T.1
  by_cases h0 : tn = 0
  · have e0 : size = 0 := by rw [es, h0]; rfl
    refine ⟨fun q => absurd e0 q, fun _ => ⟨fun q => absurd q (by decide), fun _ => ?_⟩⟩
    have := h pile
    rwa [meV, if_pos h0] at this
  · have e0 : ¬ size = 0 := by rw [es]; exact nI_ne0 (by omega) (by have := w.1; omega)
    refine ⟨fun _ => ⟨fun _ => ?_, fun q => absurd rfl q⟩, fun q => absurd q e0⟩
    refine s_gives T w (by omega) (fun p => ?_)
    have := h p
    rwa [meV, if_neg h0] at this
theorem s_deedsBy {tn : Nat} {tk : Nat → Nat} {nv : Nat → Int32} {size : Int32} {signs numbers pile : Nat → Int32} {a b c : Int32} {Q : Int32 → (Nat → Int32) → Prop} (T : TRc tn tk nv size signs numbers) (w : wfT tn tk nv) (h : ∀ p, Q (deV tn tk nv a b c) p) : wp_X0_deedsBy a b c size signs numbers pile Q := by
  unfold wp_X0_deedsBy wp_X3_isEmpty
  have es := T.1
  by_cases h0 : tn = 0
  · have e0 : size = 0 := by rw [es, h0]; rfl
    refine ⟨fun q => absurd e0 q, fun _ => ⟨fun q => absurd q (by decide), fun _ => ?_⟩⟩
    have := h pile
    rw [deV, if_pos h0] at this
    exact ng_f (Q := fun r => Q r pile) this
  · have e0 : ¬ size = 0 := by rw [es]; exact nI_ne0 (by omega) (by have := w.1; omega)
    refine ⟨fun _ => ⟨fun _ => ?_, fun q => absurd rfl q⟩, fun q => absurd q e0⟩
    refine s_gives T w (by omega) (fun p => ?_)
    have := h p
    rwa [deV, if_neg h0] at this
theorem m_given0 {tn : Nat} {tk : Nat → Nat} {nv : Nat → Int32} {now pile named : Nat → Int32} {a b c : Int32} {Q : Int32 → (Nat → Int32) → (Nat → Int32) → Prop} (T : TRm tn tk nv 124 now) (w : wfT tn tk nv) (h : ∀ nm p, Q (meV tn tk nv a b c) nm p) : wp_X8_given 0 a b c named now pile Q := by
  unfold wp_X8_given lb_X8_given_31 lb_X8_given_36 lb_X8_given_64 wp_X8_hasText
  have e1 : (124 : Int32) + 52 * 0 = nI 124 := by decide
  have es := T.1
  refine ⟨fun _ => ?_, fun q => absurd rfl q⟩
  rw [e1, nI_clamp (by decide), es]
  refine ⟨vp_in_nI (by decide) (by decide), fun q => ?_, fun q => ?_⟩
  · have h0 : tn = 0 := by
      rcases Nat.eq_zero_or_pos tn with z | z
      · exact z
      · exact absurd q (nI_nle z (by have := w.1; omega))
    refine ⟨fun _ => ⟨fun z => absurd rfl z, fun _ => ?_⟩, fun z => absurd z (by decide)⟩
    have := h (upd (upd (upd named 0 a) 1 b) 2 c) pile
    rw [meV, if_pos h0] at this
    exact this
  · have h0 : 0 < tn := by
      rcases Nat.eq_zero_or_pos tn with z | z
      · subst z; exact absurd (by decide) q
      · exact z
    refine ⟨fun z => absurd z (by decide), fun _ => ?_⟩
    refine m_worked (B := 124) T (by decide) w h0 (a := a) (b := b) (c := c) ?_ ?_ ?_ (fun p => ⟨fun z => absurd rfl z, fun _ => ?_⟩)
    · rw [up_n (by decide), up_n (by decide), up_s]
    · rw [up_n (by decide), up_s]
    · rw [up_s]
    · have := h (upd (upd (upd named 0 a) 1 b) 2 c) p
      rw [meV, if_neg (by omega)] at this
      exact this
theorem m_given1 {tn : Nat} {tk : Nat → Nat} {nv : Nat → Int32} {now pile named : Nat → Int32} {a b c : Int32} {Q : Int32 → (Nat → Int32) → (Nat → Int32) → Prop} (T : TRm tn tk nv 176 now) (w : wfT tn tk nv) (h : ∀ nm p, Q (deV tn tk nv a b c) nm p) : wp_X8_given 1 a b c named now pile Q := by
  have key : ∀ z0 : Int32, z0 = b2i (¬ a ≤ 5) → lb_X8_given_36 1 a b c now Q z0 (upd (upd (upd named 0 a) 1 b) 2 c) pile := by
    intro z0 ez
    unfold lb_X8_given_36 lb_X8_given_64 wp_X8_hasText
    have e1 : (124 : Int32) + 52 * 1 = nI 176 := by decide
    have es := T.1
    rw [e1, nI_clamp (by decide), es]
    refine ⟨vp_in_nI (by decide) (by decide), fun q => ?_, fun q => ?_⟩
    · have h0 : tn = 0 := by
        rcases Nat.eq_zero_or_pos tn with z | z
        · exact z
        · exact absurd q (nI_nle z (by have := w.1; omega))
      refine ⟨fun _ => ⟨fun _ => ?_, fun z => absurd z (by decide)⟩, fun z => absurd z (by decide)⟩
      have := h (upd (upd (upd named 0 a) 1 b) 2 c) pile
      rw [deV, if_pos h0, ← ez] at this
      rw [e_held8]
      have e9 : jmax 0 (jmin 9 z0) = z0 := by rw [ez]; unfold b2i; split <;> decide
      rw [e9]
      exact this
    · have h0 : 0 < tn := by
        rcases Nat.eq_zero_or_pos tn with z | z
        · subst z; exact absurd (by decide) q
        · exact z
      refine ⟨fun z => absurd z (by decide), fun _ => ?_⟩
      refine m_worked (B := 176) T (by decide) w h0 (a := a) (b := b) (c := c) ?_ ?_ ?_ (fun p => ⟨fun _ => ?_, fun z => absurd z (by decide)⟩)
      · rw [up_n (by decide), up_n (by decide), up_s]
      · rw [up_n (by decide), up_s]
      · rw [up_s]
      · have := h (upd (upd (upd named 0 a) 1 b) 2 c) p
        rw [deV, if_neg (by omega)] at this
        exact this
  unfold wp_X8_given lb_X8_given_31
  refine ⟨fun q => absurd q (by decide), fun _ => ⟨fun q => key 0 (b2i_f (fun z => z q)).symm, fun q => key 1 (b2i_t q).symm⟩⟩
