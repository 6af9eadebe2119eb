/-- c numbers lie at a in a row of len -/
def hlP (a c : Int32) (len : Nat) : Prop := 0 ≤ a.toInt ∧ 0 ≤ c.toInt ∧ a.toInt + c.toInt ≤ (len : Int)
theorem hl_nn {a c : Int32} {len : Nat} (hl : len ≤ 40) (h : hlP a c len) : ∃ i k : Nat, a = nI i ∧ c = nI k ∧ i + k ≤ len := by
  obtain ⟨h1, h2, h3⟩ := h
  refine ⟨a.toInt.toNat, c.toInt.toNat, ?_, ?_, by omega⟩
  · rw [← Int32.toInt_inj, nI_toInt (by omega)]; omega
  · rw [← Int32.toInt_inj, nI_toInt (by omega)]; omega
theorem s_holds {a c : Int32} {len : Nat} (hl : len ≤ 40) {Q : Int32 → Prop} (h1 : hlP a c len → Q 1) (h2 : ¬ hlP a c len → Q 0) : wp_X2_holds a c (nI len) Q := by
  unfold wp_X2_holds
  have t := nI_toInt (n := len) (by omega)
  refine ⟨fun q => h2 (fun z => ?_), fun n1 => ⟨fun q => h2 (fun z => ?_), fun n2 => ⟨fun q => h2 (fun z => ?_), fun n3 => ?_⟩⟩⟩
  · rw [fa_lt] at q; have := z.2.1; have e : (0 : Int32).toInt = 0 := rfl; omega
  · rw [fa_lt] at q; have := z.1; have e : (0 : Int32).toInt = 0 := rfl; omega
  · rw [fa_lt, t] at q; have := z.1; have := z.2.2; omega
  · rw [fa_lt] at n1 n2 n3
    have e : (0 : Int32).toInt = 0 := rfl
    rw [t] at n3
    rw [e] at n1 n2
    have ec : c = nI c.toInt.toNat := by rw [← Int32.toInt_inj, nI_toInt (by omega)]; omega
    have es : nI len - c = nI (len - c.toInt.toNat) := by
      conv => lhs; rw [ec, show len = (len - c.toInt.toNat) + c.toInt.toNat by omega, ← nI_add]
      exact Int32.add_sub_cancel _ _
    rw [es, fa_lt, nI_toInt (by omega)]
    refine ⟨fun q => h2 (fun z => ?_), fun q => h1 ⟨by omega, by omega, by omega⟩⟩
    have := z.2.2
    omega
theorem lg_c {a c : Int32} {len : Nat} (hl : len ≤ 40) (ha : ¬ a < 0) (hc : ¬ c < 0) : (0 < lg_cmp (a.toInt64 + c.toInt64) (nI len).toInt64 ↔ ¬ hlP a c len) ∧ (lg_cmp (a.toInt64 + c.toInt64) (nI len).toInt64 ≤ 0 ↔ hlP a c len) := by
  rw [fa_lt] at ha hc
  have e : (0 : Int32).toInt = 0 := rfl
  rw [e] at ha hc
  have b1 := a.toInt_lt
  have b2 := c.toInt_lt
  have s : (a.toInt64 + c.toInt64).toInt = a.toInt + c.toInt := by
    rw [Int64.toInt_add, Int32.toInt_toInt64, Int32.toInt_toInt64, Int.bmod_def]
    split <;> omega
  have k : a.toInt64 + c.toInt64 > (nI len).toInt64 ↔ ¬ hlP a c len := by
    show (nI len).toInt64 < a.toInt64 + c.toInt64 ↔ _
    rw [fa_lt64, s, Int32.toInt_toInt64, nI_toInt (by omega)]
    unfold hlP
    omega
  unfold lg_cmp
  by_cases h : a.toInt64 + c.toInt64 > (nI len).toInt64
  · rw [if_pos h]
    exact ⟨⟨fun _ => k.mp h, fun _ => by decide⟩, ⟨fun q => absurd q (by decide), fun q => absurd q (k.mp h)⟩⟩
  · rw [if_neg h]
    have hh : hlP a c len := Classical.byContradiction (fun q => h (k.mpr q))
    by_cases e : a.toInt64 + c.toInt64 = (nI len).toInt64
    · rw [if_pos e]
      exact ⟨⟨fun q => absurd q (by decide), fun q => absurd hh q⟩, ⟨fun _ => hh, fun _ => by decide⟩⟩
    · rw [if_neg e]
      exact ⟨⟨fun q => absurd q (by decide), fun q => absurd hh q⟩, ⟨fun _ => hh, fun _ => by decide⟩⟩
theorem hl_mk {a c : Int32} {len i k : Nat} (hl : len ≤ 40) (ei : a = nI i) (ek : c = nI k) (h : i + k ≤ len) : hlP a c len := by
  subst ei ek
  unfold hlP
  rw [nI_toInt (by omega), nI_toInt (by omega)]
  omega
theorem hl_ok {a b c : Int32} {lA lB : Nat} (hA : lA ≤ 40) (hB : lB ≤ 40) (gA : hlP a c lA) (gB : hlP b c lB) : (¬ a < 0) ∧ (¬ b < 0) ∧ (¬ c < 0) ∧ (a.toNatClampNeg + c.toNatClampNeg ≤ 40) ∧ (b.toNatClampNeg + c.toNatClampNeg ≤ 40) := by
  obtain ⟨i, k, ei, ek, hk⟩ := hl_nn hA gA
  obtain ⟨o, k2, eo, ek2, hk2⟩ := hl_nn hB gB
  have kk : k = k2 := by rw [ek, eq_nn (by omega) (by omega)] at ek2; exact ek2
  subst kk
  subst ei eo ek
  rw [nI_clamp (by omega), nI_clamp (by omega), nI_clamp (by omega), fa_lit 0, lt_nn (by omega) (by decide), lt_nn (by omega) (by decide), lt_nn (by omega) (by decide)]
  omega
theorem s_pair {bA bB sA sB x2 x4 x5 : Int32} {lA lB : Nat} (hA : lA ≤ 40) (hB : lB ≤ 40) (eA : sA = nI lA) (eB : sB = nI lB) {P46 P5 P94 PG : Prop} (h46 : (bA = 0 ∨ bB = 0) → P46) (h5 : ¬ bA = 0 → ¬ bB = 0 → ¬ bA = bB → P5) (h94 : ¬ bA = 0 → ¬ bB = 0 → bA = bB → ¬ (hlP x2 x5 lA ∧ hlP x4 x5 lB) → P94) (hG : ¬ bA = 0 → ¬ bB = 0 → bA = bB → hlP x2 x5 lA → hlP x4 x5 lB → PG) :
    wp_X2_isMissing bA (fun r3 => (¬ r3 = 0 → P46) ∧ (r3 = 0 → wp_X2_isMissing bB (fun r7 => (r7 = 0 → ((bA = bB → wp_X2_holds x2 x5 sA (fun r10 => (r10 = 0 → P94) ∧ (¬ r10 = 0 → wp_X2_holds x4 x5 sB (fun r14 => (¬ r14 = 0 → PG) ∧ (r14 = 0 → P94))))) ∧ (¬ bA = bB → P5))) ∧ (¬ r7 = 0 → P46)))) := by
  subst eA eB
  rw [e_miss]
  by_cases a : bA = 0
  · rw [b2i_t a]; exact ⟨fun _ => h46 (Or.inl a), fun q => absurd q (by decide)⟩
  · rw [b2i_f a]
    refine ⟨fun q => absurd rfl q, fun _ => ?_⟩
    rw [e_miss]
    by_cases b : bB = 0
    · rw [b2i_t b]; exact ⟨fun q => absurd q (by decide), fun _ => h46 (Or.inr b)⟩
    · rw [b2i_f b]
      refine ⟨fun _ => ⟨fun e => ?_, fun e => h5 a b e⟩, fun q => absurd rfl q⟩
      refine s_holds hA (fun g => ⟨fun q => absurd q (by decide), fun _ => s_holds hB (fun g2 => ⟨fun _ => hG a b e g g2, fun q => absurd q (by decide)⟩) (fun g2 => ⟨fun q => absurd rfl q, fun _ => h94 a b e (fun z => g2 z.2)⟩)⟩) (fun g => ⟨fun _ => h94 a b e (fun z => g z.1), fun q => absurd rfl q⟩)
theorem s_pair1 {bA sA x2 x4 x5 : Int32} {lA : Nat} (hA : lA ≤ 40) (eA : sA = nI lA) {P46 P94 PG : Prop} (h46 : bA = 0 → P46) (h94 : ¬ bA = 0 → ¬ (hlP x2 x5 lA ∧ hlP x4 x5 lA) → P94) (hG : ¬ bA = 0 → hlP x2 x5 lA → hlP x4 x5 lA → PG) :
    wp_X2_isMissing bA (fun r3 => (¬ r3 = 0 → P46) ∧ (r3 = 0 → wp_X2_isMissing bA (fun r7 => (r7 = 0 → wp_X2_holds x2 x5 sA (fun r10 => (r10 = 0 → P94) ∧ (¬ r10 = 0 → wp_X2_holds x4 x5 sA (fun r14 => (¬ r14 = 0 → PG) ∧ (r14 = 0 → P94))))) ∧ (¬ r7 = 0 → P46)))) := by
  subst eA
  rw [e_miss]
  by_cases a : bA = 0
  · rw [b2i_t a]; exact ⟨fun _ => h46 a, fun q => absurd q (by decide)⟩
  · rw [b2i_f a]
    refine ⟨fun q => absurd rfl q, fun _ => ?_⟩
    rw [e_miss, b2i_f a]
    refine ⟨fun _ => ?_, fun q => absurd rfl q⟩
    exact s_holds hA (fun g => ⟨fun q => absurd q (by decide), fun _ => s_holds hA (fun g2 => ⟨fun _ => hG a g g2, fun q => absurd q (by decide)⟩) (fun g2 => ⟨fun q => absurd rfl q, fun _ => h94 a (fun z => g2 z.2)⟩)⟩) (fun g => ⟨fun _ => h94 a (fun z => g z.1), fun q => absurd rfl q⟩)
theorem m_mv {a b i o k : Nat} (ha : a < 4) (hb : b < 4) (h1 : i + k ≤ 40) (h2 : o + k ≤ 40) {er wd sz mn cr : Nat → Int32} {Q : Int32 → (Nat → Int32) → (Nat → Int32) → (Nat → Int32) → Prop} (h : ∀ m2 c2, (∀ j, j < k → m2 (40 * b + o + j) = mn (40 * a + i + j)) → (∀ j, (j < 40 * b + o ∨ 40 * b + o + k ≤ j) → m2 j = mn j) → Q (nI k) er m2 c2) : ∃ n, lb_X8_move_127 (nI a) (nI i) (nI b) (nI o) (nI k) wd sz Q n 0 er mn cr := by
  have ix : ∀ a i j : Nat, (40 : Int32) * nI a + nI i + nI j = nI (40 * a + i + j) := fun a i j => by rw [fa_lit 40, pk_mul, nI_add, nI_add]
  refine pk_loop (fun n t s => lb_X8_move_127 (nI a) (nI i) (nI b) (nI o) (nI k) wd sz Q n (nI t) er mn s) (fun t s => ∀ j, j < t → s j = mn (40 * a + i + j)) k 0 cr (Nat.zero_le _) (fun j hj => absurd hj (by omega)) ?_ ?_
  · intro n c2 hc
    refine ⟨fun _ => ?_, fun c => absurd (Int32.le_refl _) c⟩
    refine pk_loop (fun n t s => lb_X8_move_164 (nI a) (nI i) (nI b) (nI o) (nI k) wd sz Q n (nI t) er s c2) (fun t s => (∀ j, j < t → s (40 * b + o + j) = mn (40 * a + i + j)) ∧ ∀ j, (j < 40 * b + o ∨ 40 * b + o + t ≤ j) → s j = mn j) k 0 mn (Nat.zero_le _) ⟨fun j hj => absurd hj (by omega), fun _ _ => rfl⟩ ?_ ?_
    · rintro n m2 ⟨a1, a2⟩
      exact ⟨fun _ => h m2 c2 a1 a2, fun c => absurd (Int32.le_refl _) c⟩
    · rintro n t m2 ht ⟨a1, a2⟩ ih
      refine ⟨fun c => absurd c (nI_ge ht (by omega)), fun _ => ⟨vp_in_nI (by omega) (by decide), ?_⟩⟩
      rintro v rfl
      rw [ix, nI_clamp (by omega), nI_clamp (by omega), nI_1, hc t ht]
      refine ⟨vp_in_nI (by omega) (by decide), ih _ ⟨fun j hj => ?_, fun j hj => by rw [up_n (by omega)]; exact a2 j (by omega)⟩⟩
      by_cases z : j = t
      · subst z; rw [up_s]
      · rw [up_n (by omega)]; exact a1 j (by omega)
  · intro n t c2 ht hc ih
    refine ⟨fun c => absurd c (nI_ge ht (by omega)), fun _ => ?_⟩
    rw [ix]
    refine ⟨vp_in_nI (by omega) (by decide), ?_⟩
    rintro v rfl
    refine ⟨vp_in_nI (by omega) (by decide), ?_⟩
    rw [nI_clamp (by omega), nI_clamp (by omega), nI_1]
    refine ih _ (fun j hj => ?_)
    by_cases z : j = t
    · subst z; rw [up_s]
    · rw [up_n z]; exact hc j (by omega)
theorem rs_mv {a b i o k : Nat} {bA bB sA sB : Int32} {nA nB wd sz mn m2 : Nat → Int32} {lA lB : Nat} (rA : RSh a bA sA nA wd sz mn) (rB : RSh b bB sB nB wd sz mn) (e : bA = bB) (eA : sA = nI lA) (eB : sB = nI lB) (hA : lA ≤ 40) (hB : lB ≤ 40) (h1 : i + k ≤ lA) (h2 : o + k ≤ lB) (g1 : ∀ j, j < k → m2 (40 * b + o + j) = mn (40 * a + i + j)) (g2 : ∀ j, (j < 40 * b + o ∨ 40 * b + o + k ≤ j) → m2 j = mn j) : RSh b bB sB (va_cpy nA nB (nI i).toNatClampNeg (nI o).toNatClampNeg (nI k).toNatClampNeg) wd sz m2 := by
  obtain ⟨w1, w2, len, hl, w3, w4, w5⟩ := rB
  obtain ⟨v1, v2, len2, hl2, v3, v4, v5⟩ := rA
  have x1 : len = lB := by rw [eB, eq_nn (by omega) (by omega)] at w3; exact w3.symm
  have x2 : len2 = lA := by rw [eA, eq_nn (by omega) (by omega)] at v3; exact v3.symm
  subst x1 x2
  rw [nI_clamp (by omega), nI_clamp (by omega), nI_clamp (by omega)]
  refine ⟨w1, w2, len, hl, w3, w4, fun j hj => ?_⟩
  unfold va_cpy
  by_cases c : o ≤ j ∧ j < o + k
  · rw [if_pos c]
    have q := g1 (j - o) (by omega)
    rw [show 40 * b + o + (j - o) = 40 * b + j by omega, show 40 * a + i + (j - o) = 40 * a + (i + (j - o)) by omega] at q
    rw [q, ← e]
    exact v5 _ (by omega)
  · rw [if_neg c, g2 _ (by omega)]
    exact w5 j hj
set_option maxHeartbeats 4000000 in
set_option maxRecDepth 100000 in
theorem op_move {ca : Nat → Nat → Int32} {ci : Nat → Int32} {ma : Nat → Nat → Int32} {mi : Nat → Int32} (h : Inv ca ci ma mi) (s1 : Int32) (s2 : Int32) (s3 : Int32) (s4 : Int32) (s5 : Int32) : wp_X7_move s1 s2 s3 s4 s5 (ci 34) (ci 35) (ca 49) (ca 48) (ci 32) (ci 33) (ca 47) (ci 30) (ci 31) (ca 46) (ci 28) (ci 29) (ca 45) (fun r1 c0 c1 c2 c3 c4 => wp_X8_move s1 s2 s3 s4 s5 (ma 3) (ma 12) (ma 13) (ma 14) (ma 15) (fun r2 m0 m1 m2 => r1 = r2 ∧ Inv (va_up (va_up (va_up (va_up (va_up ca 49 c0) 48 c1) 47 c2) 46 c3) 45 c4) ci (va_up (va_up (va_up ma 3 m0) 14 m1) 15 m2) mi)) := by
  obtain ⟨tl, hkp, him, re, rv, r0, r1, r2, r3⟩ := h
  obtain ⟨n, sn, ln, F, tn, tk, nv, un, uk, uv, pn, wn, ⟨hn, hsn, hln, ok, wT, wU, hpn, hwn⟩, ⟨tc1, tc2, tc3, cf, cT, cU, tc7, tc8⟩, tm, mc, dc⟩ := id tl
  obtain ⟨tm1, tm2, tm3, tm4, tmT, tmU, tm7, tm8, tm9, tm10⟩ := id tm
  by_cases c : (0 : Int32) ≤ s1 ∧ s1 ≤ 3
  · by_cases d : (0 : Int32) ≤ s3 ∧ s3 ≤ 3
    · have one : ∀ a b : Nat, a < 4 → b < 4 → ∀ (bA sA bB sB : Int32) (nA nB : Nat → Int32) (lA lB : Nat), lA ≤ 40 → lB ≤ 40 → sA = nI lA → sB = nI lB → RSh a bA sA nA (ma 12) (ma 13) (ma 14) → RSh b bB sB nB (ma 12) (ma 13) (ma 14) → ∀ (R : Int32 → (Nat → Int32) → (Nat → Int32) → (Nat → Int32) → Prop), ((bA = 0 ∨ bB = 0) → R (-1000000002) (upd (ma 3) 2 (ma 3 2 + 1)) (ma 14) (ma 15)) → (¬ bA = 0 → ¬ bB = 0 → ¬ bA = bB → R (-1000000005) (upd (ma 3) 5 (ma 3 5 + 1)) (ma 14) (ma 15)) → (¬ bA = 0 → ¬ bB = 0 → bA = bB → ¬ (hlP s2 s5 lA ∧ hlP s4 s5 lB) → R (-1000000001) (upd (ma 3) 1 (ma 3 1 + 1)) (ma 14) (ma 15)) → (¬ bA = 0 → ¬ bB = 0 → bA = bB → ∀ i o k, s2 = nI i → s4 = nI o → s5 = nI k → i + k ≤ lA → o + k ≤ lB → ∀ m2 c2, (∀ j, j < k → m2 (40 * b + o + j) = ma 14 (40 * a + i + j)) → (∀ j, (j < 40 * b + o ∨ 40 * b + o + k ≤ j) → m2 j = ma 14 j) → R s5 (ma 3) m2 c2) → wp_X8_move (nI a) s2 (nI b) s4 s5 (ma 3) (ma 12) (ma 13) (ma 14) (ma 15) R := by
        intro a b ha hb bA sA bB sB nA nB lA lB hA hB eA eB ⟨v1, v2, len2, hl2, v3, v4, v5⟩ ⟨w1, w2, len, hl, w3, w4, w5⟩ R h2 h5 h1 h3
        have x1 : len = lB := by rw [eB, eq_nn (by omega) (by omega)] at w3; exact w3.symm
        have x2 : len2 = lA := by rw [eA, eq_nn (by omega) (by omega)] at v3; exact v3.symm
        subst x1 x2
        have ca2 : (0 : Int32) ≤ nI a ∧ nI a ≤ 3 := by
          rw [fa_lit 0, fa_lit 3, li_nn (by decide) (by omega), li_nn (by omega) (by decide)]; omega
        have cb2 : (0 : Int32) ≤ nI b ∧ nI b ≤ 3 := by
          rw [fa_lit 0, fa_lit 3, li_nn (by decide) (by omega), li_nn (by omega) (by decide)]; omega
        have ia : vp_in (nI a) 4 := vp_in_nI ha (by decide)
        have ib : vp_in (nI b) 4 := vp_in_nI hb (by decide)
        unfold wp_X8_move lb_X8_move_14 lb_X8_move_39 lb_X8_move_117
        simp only [e_isSheet8, b2i_t ca2, b2i_t cb2, z10, e_fin1, e_fin2, e_fin5, nI_clamp (show a < 2 ^ 31 by omega), nI_clamp (show b < 2 ^ 31 by omega), ← v1, ← w1, v4, w4, false_implies, true_implies, not_true_eq_false, not_false_eq_true, true_and, and_true, forall_eq]
        refine ⟨ia, fun z => h2 (Or.inl z), fun na => ⟨ib, fun nb => ⟨ia, ib, fun e => ?_, fun e => h5 na nb e⟩, fun z => h2 (Or.inr z)⟩⟩
        refine ⟨fun q => h1 na nb e (fun z => ?_), fun q5 => ⟨fun q => h1 na nb e (fun z => ?_), fun q2 => ⟨fun q => h1 na nb e (fun z => ?_), fun q4 => ⟨ia, fun q => h1 na nb e (fun z => ?_), fun q => ⟨ib, fun g => ?_, fun g => h1 na nb e (fun z => ?_)⟩⟩⟩⟩⟩
        · rw [fa_lt] at q; have := z.1.2.1; have e : (0 : Int32).toInt = 0 := rfl; omega
        · rw [fa_lt] at q; have := z.1.1; have e : (0 : Int32).toInt = 0 := rfl; omega
        · rw [fa_lt] at q; have := z.2.1; have e : (0 : Int32).toInt = 0 := rfl; omega
        · exact (lg_c hA q2 q5).1.mp q z.1
        · have gA : hlP s2 s5 len2 := Classical.byContradiction (fun y => q ((lg_c hA q2 q5).1.mpr y))
          have gB := (lg_c hB q4 q5).2.mp g
          obtain ⟨i, k, ei, ek, hk⟩ := hl_nn hA gA
          obtain ⟨o, k2, eo, ek2, hk2⟩ := hl_nn hB gB
          have kk : k = k2 := by rw [ek, eq_nn (by omega) (by omega)] at ek2; exact ek2
          subst kk
          have h3' := h3 na nb e i o k ei eo ek hk hk2
          subst ei eo ek
          exact m_mv ha hb (by omega) (by omega) h3'
        · exact g ((lg_c hB q4 q5).2.mpr z.2)
      obtain ⟨l0, hl0, el0⟩ : ∃ l, l ≤ 40 ∧ ci 29 = nI l := by obtain ⟨_, _, l, hl, w, _⟩ := id r0; exact ⟨l, hl, w⟩
      obtain ⟨l1, hl1, el1⟩ : ∃ l, l ≤ 40 ∧ ci 31 = nI l := by obtain ⟨_, _, l, hl, w, _⟩ := id r1; exact ⟨l, hl, w⟩
      obtain ⟨l2, hl2, el2⟩ : ∃ l, l ≤ 40 ∧ ci 33 = nI l := by obtain ⟨_, _, l, hl, w, _⟩ := id r2; exact ⟨l, hl, w⟩
      obtain ⟨l3, hl3, el3⟩ : ∃ l, l ≤ 40 ∧ ci 35 = nI l := by obtain ⟨_, _, l, hl, w, _⟩ := id r3; exact ⟨l, hl, w⟩
      obtain ⟨qa, hqa, rfl⟩ := sm_of (n := 3) (by decide) c
      obtain ⟨qb, hqb, rfl⟩ := sm_of (n := 3) (by decide) d
      unfold wp_X7_move wp_X7_rowOf lb_X7_move_24 lb_X7_move_46 lb_X7_move_94
      simp only [e_within, b2i_t c, b2i_t d, z10, false_implies, true_implies, not_true_eq_false, not_false_eq_true, true_and, and_true, forall_eq]
      refine ⟨vp_in_nI (by omega) (by decide), fun e => ?_, fun e => ?_, fun e => ?_, fun e => ?_⟩
      · have ea : qa = 0 := by rw [fa_lit 0, eq_nn (by omega) (by decide)] at e; exact e
        subst ea
        refine ⟨vp_in_nI (by omega) (by decide), fun e => ?_, fun e => ?_, fun e => ?_, fun e => ?_⟩
        · have eb : qb = 0 := by rw [fa_lit 0, eq_nn (by omega) (by decide)] at e; exact e
          subst eb
          refine s_pair1 hl0 el0 (fun z => ?_) (fun na nh => ?_) (fun na gA gB => ?_)
          · rw [e_ref2]
            exact one 0 0 (by decide) (by decide) _ _ _ _ _ _ l0 l0 hl0 hl0 el0 el0 r0 r0 _ (fun _ => (by first | exact ⟨tl, hkp, him, re_upd re (k := 2) (by decide), rv, r0, r1, r2, r3⟩ | exact ⟨rfl, tl, hkp, him, re_upd re (k := 2) (by decide), rv, r0, r1, r2, r3⟩)) (fun na => absurd z na) (fun na => absurd z na) (fun na => absurd z na)
          · rw [e_ref1]
            exact one 0 0 (by decide) (by decide) _ _ _ _ _ _ l0 l0 hl0 hl0 el0 el0 r0 r0 _ (fun z => absurd z (fun y => by rcases y with y | y <;> contradiction)) (fun _ _ y => absurd rfl y) (fun _ _ _ _ => (by first | exact ⟨tl, hkp, him, re_upd re (k := 1) (by decide), rv, r0, r1, r2, r3⟩ | exact ⟨rfl, tl, hkp, him, re_upd re (k := 1) (by decide), rv, r0, r1, r2, r3⟩)) (fun _ _ _ i o k ei eo ek hk hk2 => absurd ⟨hl_mk hl0 ei ek hk, hl_mk hl0 eo ek hk2⟩ nh)
          · refine ⟨hl_ok hl0 hl0 gA gB, ?_⟩
            refine one 0 0 (by decide) (by decide) _ _ _ _ _ _ l0 l0 hl0 hl0 el0 el0 r0 r0 _ (fun z => absurd z (fun y => by rcases y with y | y <;> contradiction)) (fun _ _ y => absurd rfl y) (fun _ _ _ y => absurd ⟨gA, gB⟩ y) (fun _ _ ee i o k ei eo ek hh1 hh2 m2 c2 g1 g2 => ?_)
            subst ei eo ek
            exact ⟨rfl, tl, hkp, him, re, rv, rs_mv r0 r0 ee el0 el0 hl0 hl0 hh1 hh2 g1 g2, rs_other r1 rfl rfl (fun j hj => g2 _ (by omega)), rs_other r2 rfl rfl (fun j hj => g2 _ (by omega)), rs_other r3 rfl rfl (fun j hj => g2 _ (by omega))⟩
        · have eb : qb = 1 := by rw [fa_lit 1, eq_nn (by omega) (by decide)] at e; exact e
          subst eb
          refine s_pair hl0 hl1 el0 el1 (fun z => ?_) (fun na nb ne => ?_) (fun na nb ee nh => ?_) (fun na nb ee gA gB => ?_)
          · rw [e_ref2]
            refine one 0 1 (by decide) (by decide) _ _ _ _ _ _ l0 l1 hl0 hl1 el0 el1 r0 r1 _ (fun _ => (by first | exact ⟨tl, hkp, him, re_upd re (k := 2) (by decide), rv, r0, r1, r2, r3⟩ | exact ⟨rfl, tl, hkp, him, re_upd re (k := 2) (by decide), rv, r0, r1, r2, r3⟩)) (fun na nb => ?_) (fun na nb => ?_) (fun na nb => ?_) <;> exact absurd z (fun y => by rcases y with y | y <;> contradiction)
          · rw [e_ref5]
            exact one 0 1 (by decide) (by decide) _ _ _ _ _ _ l0 l1 hl0 hl1 el0 el1 r0 r1 _ (fun z => absurd z (fun y => by rcases y with y | y <;> contradiction)) (fun _ _ _ => (by first | exact ⟨tl, hkp, him, re_upd re (k := 5) (by decide), rv, r0, r1, r2, r3⟩ | exact ⟨rfl, tl, hkp, him, re_upd re (k := 5) (by decide), rv, r0, r1, r2, r3⟩)) (fun _ _ y => absurd y ne) (fun _ _ y => absurd y ne)
          · rw [e_ref1]
            exact one 0 1 (by decide) (by decide) _ _ _ _ _ _ l0 l1 hl0 hl1 el0 el1 r0 r1 _ (fun z => absurd z (fun y => by rcases y with y | y <;> contradiction)) (fun _ _ y => absurd ee y) (fun _ _ _ _ => (by first | exact ⟨tl, hkp, him, re_upd re (k := 1) (by decide), rv, r0, r1, r2, r3⟩ | exact ⟨rfl, tl, hkp, him, re_upd re (k := 1) (by decide), rv, r0, r1, r2, r3⟩)) (fun _ _ _ i o k ei eo ek hk hk2 => absurd ⟨hl_mk hl0 ei ek hk, hl_mk hl1 eo ek hk2⟩ nh)
          · refine ⟨hl_ok hl0 hl1 gA gB, ?_⟩
            refine one 0 1 (by decide) (by decide) _ _ _ _ _ _ l0 l1 hl0 hl1 el0 el1 r0 r1 _ (fun z => absurd z (fun y => by rcases y with y | y <;> contradiction)) (fun _ _ y => absurd ee y) (fun _ _ _ y => absurd ⟨gA, gB⟩ y) (fun _ _ _ i o k ei eo ek hh1 hh2 m2 c2 g1 g2 => ?_)
            subst ei eo ek
            exact ⟨rfl, tl, hkp, him, re, rv, rs_other r0 rfl rfl (fun j hj => g2 _ (by omega)), rs_mv r0 r1 ee el0 el1 hl0 hl1 hh1 hh2 g1 g2, rs_other r2 rfl rfl (fun j hj => g2 _ (by omega)), rs_other r3 rfl rfl (fun j hj => g2 _ (by omega))⟩
        · have eb : qb = 2 := by rw [fa_lit 2, eq_nn (by omega) (by decide)] at e; exact e
          subst eb
          refine s_pair hl0 hl2 el0 el2 (fun z => ?_) (fun na nb ne => ?_) (fun na nb ee nh => ?_) (fun na nb ee gA gB => ?_)
          · rw [e_ref2]
            refine one 0 2 (by decide) (by decide) _ _ _ _ _ _ l0 l2 hl0 hl2 el0 el2 r0 r2 _ (fun _ => (by first | exact ⟨tl, hkp, him, re_upd re (k := 2) (by decide), rv, r0, r1, r2, r3⟩ | exact ⟨rfl, tl, hkp, him, re_upd re (k := 2) (by decide), rv, r0, r1, r2, r3⟩)) (fun na nb => ?_) (fun na nb => ?_) (fun na nb => ?_) <;> exact absurd z (fun y => by rcases y with y | y <;> contradiction)
          · rw [e_ref5]
            exact one 0 2 (by decide) (by decide) _ _ _ _ _ _ l0 l2 hl0 hl2 el0 el2 r0 r2 _ (fun z => absurd z (fun y => by rcases y with y | y <;> contradiction)) (fun _ _ _ => (by first | exact ⟨tl, hkp, him, re_upd re (k := 5) (by decide), rv, r0, r1, r2, r3⟩ | exact ⟨rfl, tl, hkp, him, re_upd re (k := 5) (by decide), rv, r0, r1, r2, r3⟩)) (fun _ _ y => absurd y ne) (fun _ _ y => absurd y ne)
          · rw [e_ref1]
            exact one 0 2 (by decide) (by decide) _ _ _ _ _ _ l0 l2 hl0 hl2 el0 el2 r0 r2 _ (fun z => absurd z (fun y => by rcases y with y | y <;> contradiction)) (fun _ _ y => absurd ee y) (fun _ _ _ _ => (by first | exact ⟨tl, hkp, him, re_upd re (k := 1) (by decide), rv, r0, r1, r2, r3⟩ | exact ⟨rfl, tl, hkp, him, re_upd re (k := 1) (by decide), rv, r0, r1, r2, r3⟩)) (fun _ _ _ i o k ei eo ek hk hk2 => absurd ⟨hl_mk hl0 ei ek hk, hl_mk hl2 eo ek hk2⟩ nh)
          · refine ⟨hl_ok hl0 hl2 gA gB, ?_⟩
            refine one 0 2 (by decide) (by decide) _ _ _ _ _ _ l0 l2 hl0 hl2 el0 el2 r0 r2 _ (fun z => absurd z (fun y => by rcases y with y | y <;> contradiction)) (fun _ _ y => absurd ee y) (fun _ _ _ y => absurd ⟨gA, gB⟩ y) (fun _ _ _ i o k ei eo ek hh1 hh2 m2 c2 g1 g2 => ?_)
            subst ei eo ek
            exact ⟨rfl, tl, hkp, him, re, rv, rs_other r0 rfl rfl (fun j hj => g2 _ (by omega)), rs_other r1 rfl rfl (fun j hj => g2 _ (by omega)), rs_mv r0 r2 ee el0 el2 hl0 hl2 hh1 hh2 g1 g2, rs_other r3 rfl rfl (fun j hj => g2 _ (by omega))⟩
        · have eb : qb = 3 := by rw [fa_lit 3, eq_nn (by omega) (by decide)] at e; exact e
          subst eb
          refine s_pair hl0 hl3 el0 el3 (fun z => ?_) (fun na nb ne => ?_) (fun na nb ee nh => ?_) (fun na nb ee gA gB => ?_)
          · rw [e_ref2]
            refine one 0 3 (by decide) (by decide) _ _ _ _ _ _ l0 l3 hl0 hl3 el0 el3 r0 r3 _ (fun _ => (by first | exact ⟨tl, hkp, him, re_upd re (k := 2) (by decide), rv, r0, r1, r2, r3⟩ | exact ⟨rfl, tl, hkp, him, re_upd re (k := 2) (by decide), rv, r0, r1, r2, r3⟩)) (fun na nb => ?_) (fun na nb => ?_) (fun na nb => ?_) <;> exact absurd z (fun y => by rcases y with y | y <;> contradiction)
          · rw [e_ref5]
            exact one 0 3 (by decide) (by decide) _ _ _ _ _ _ l0 l3 hl0 hl3 el0 el3 r0 r3 _ (fun z => absurd z (fun y => by rcases y with y | y <;> contradiction)) (fun _ _ _ => (by first | exact ⟨tl, hkp, him, re_upd re (k := 5) (by decide), rv, r0, r1, r2, r3⟩ | exact ⟨rfl, tl, hkp, him, re_upd re (k := 5) (by decide), rv, r0, r1, r2, r3⟩)) (fun _ _ y => absurd y ne) (fun _ _ y => absurd y ne)
          · rw [e_ref1]
            exact one 0 3 (by decide) (by decide) _ _ _ _ _ _ l0 l3 hl0 hl3 el0 el3 r0 r3 _ (fun z => absurd z (fun y => by rcases y with y | y <;> contradiction)) (fun _ _ y => absurd ee y) (fun _ _ _ _ => (by first | exact ⟨tl, hkp, him, re_upd re (k := 1) (by decide), rv, r0, r1, r2, r3⟩ | exact ⟨rfl, tl, hkp, him, re_upd re (k := 1) (by decide), rv, r0, r1, r2, r3⟩)) (fun _ _ _ i o k ei eo ek hk hk2 => absurd ⟨hl_mk hl0 ei ek hk, hl_mk hl3 eo ek hk2⟩ nh)
          · refine ⟨hl_ok hl0 hl3 gA gB, ?_⟩
            refine one 0 3 (by decide) (by decide) _ _ _ _ _ _ l0 l3 hl0 hl3 el0 el3 r0 r3 _ (fun z => absurd z (fun y => by rcases y with y | y <;> contradiction)) (fun _ _ y => absurd ee y) (fun _ _ _ y => absurd ⟨gA, gB⟩ y) (fun _ _ _ i o k ei eo ek hh1 hh2 m2 c2 g1 g2 => ?_)
            subst ei eo ek
            exact ⟨rfl, tl, hkp, him, re, rv, rs_other r0 rfl rfl (fun j hj => g2 _ (by omega)), rs_other r1 rfl rfl (fun j hj => g2 _ (by omega)), rs_other r2 rfl rfl (fun j hj => g2 _ (by omega)), rs_mv r0 r3 ee el0 el3 hl0 hl3 hh1 hh2 g1 g2⟩
      · have ea : qa = 1 := by rw [fa_lit 1, eq_nn (by omega) (by decide)] at e; exact e
        subst ea
        refine ⟨vp_in_nI (by omega) (by decide), fun e => ?_, fun e => ?_, fun e => ?_, fun e => ?_⟩
        · have eb : qb = 0 := by rw [fa_lit 0, eq_nn (by omega) (by decide)] at e; exact e
          subst eb
          refine s_pair hl1 hl0 el1 el0 (fun z => ?_) (fun na nb ne => ?_) (fun na nb ee nh => ?_) (fun na nb ee gA gB => ?_)
          · rw [e_ref2]
            refine one 1 0 (by decide) (by decide) _ _ _ _ _ _ l1 l0 hl1 hl0 el1 el0 r1 r0 _ (fun _ => (by first | exact ⟨tl, hkp, him, re_upd re (k := 2) (by decide), rv, r0, r1, r2, r3⟩ | exact ⟨rfl, tl, hkp, him, re_upd re (k := 2) (by decide), rv, r0, r1, r2, r3⟩)) (fun na nb => ?_) (fun na nb => ?_) (fun na nb => ?_) <;> exact absurd z (fun y => by rcases y with y | y <;> contradiction)
          · rw [e_ref5]
            exact one 1 0 (by decide) (by decide) _ _ _ _ _ _ l1 l0 hl1 hl0 el1 el0 r1 r0 _ (fun z => absurd z (fun y => by rcases y with y | y <;> contradiction)) (fun _ _ _ => (by first | exact ⟨tl, hkp, him, re_upd re (k := 5) (by decide), rv, r0, r1, r2, r3⟩ | exact ⟨rfl, tl, hkp, him, re_upd re (k := 5) (by decide), rv, r0, r1, r2, r3⟩)) (fun _ _ y => absurd y ne) (fun _ _ y => absurd y ne)
          · rw [e_ref1]
            exact one 1 0 (by decide) (by decide) _ _ _ _ _ _ l1 l0 hl1 hl0 el1 el0 r1 r0 _ (fun z => absurd z (fun y => by rcases y with y | y <;> contradiction)) (fun _ _ y => absurd ee y) (fun _ _ _ _ => (by first | exact ⟨tl, hkp, him, re_upd re (k := 1) (by decide), rv, r0, r1, r2, r3⟩ | exact ⟨rfl, tl, hkp, him, re_upd re (k := 1) (by decide), rv, r0, r1, r2, r3⟩)) (fun _ _ _ i o k ei eo ek hk hk2 => absurd ⟨hl_mk hl1 ei ek hk, hl_mk hl0 eo ek hk2⟩ nh)
          · refine ⟨hl_ok hl1 hl0 gA gB, ?_⟩
            refine one 1 0 (by decide) (by decide) _ _ _ _ _ _ l1 l0 hl1 hl0 el1 el0 r1 r0 _ (fun z => absurd z (fun y => by rcases y with y | y <;> contradiction)) (fun _ _ y => absurd ee y) (fun _ _ _ y => absurd ⟨gA, gB⟩ y) (fun _ _ _ i o k ei eo ek hh1 hh2 m2 c2 g1 g2 => ?_)
            subst ei eo ek
            exact ⟨rfl, tl, hkp, him, re, rv, rs_mv r1 r0 ee el1 el0 hl1 hl0 hh1 hh2 g1 g2, rs_other r1 rfl rfl (fun j hj => g2 _ (by omega)), rs_other r2 rfl rfl (fun j hj => g2 _ (by omega)), rs_other r3 rfl rfl (fun j hj => g2 _ (by omega))⟩
        · have eb : qb = 1 := by rw [fa_lit 1, eq_nn (by omega) (by decide)] at e; exact e
          subst eb
          refine s_pair1 hl1 el1 (fun z => ?_) (fun na nh => ?_) (fun na gA gB => ?_)
          · rw [e_ref2]
            exact one 1 1 (by decide) (by decide) _ _ _ _ _ _ l1 l1 hl1 hl1 el1 el1 r1 r1 _ (fun _ => (by first | exact ⟨tl, hkp, him, re_upd re (k := 2) (by decide), rv, r0, r1, r2, r3⟩ | exact ⟨rfl, tl, hkp, him, re_upd re (k := 2) (by decide), rv, r0, r1, r2, r3⟩)) (fun na => absurd z na) (fun na => absurd z na) (fun na => absurd z na)
          · rw [e_ref1]
            exact one 1 1 (by decide) (by decide) _ _ _ _ _ _ l1 l1 hl1 hl1 el1 el1 r1 r1 _ (fun z => absurd z (fun y => by rcases y with y | y <;> contradiction)) (fun _ _ y => absurd rfl y) (fun _ _ _ _ => (by first | exact ⟨tl, hkp, him, re_upd re (k := 1) (by decide), rv, r0, r1, r2, r3⟩ | exact ⟨rfl, tl, hkp, him, re_upd re (k := 1) (by decide), rv, r0, r1, r2, r3⟩)) (fun _ _ _ i o k ei eo ek hk hk2 => absurd ⟨hl_mk hl1 ei ek hk, hl_mk hl1 eo ek hk2⟩ nh)
          · refine ⟨hl_ok hl1 hl1 gA gB, ?_⟩
            refine one 1 1 (by decide) (by decide) _ _ _ _ _ _ l1 l1 hl1 hl1 el1 el1 r1 r1 _ (fun z => absurd z (fun y => by rcases y with y | y <;> contradiction)) (fun _ _ y => absurd rfl y) (fun _ _ _ y => absurd ⟨gA, gB⟩ y) (fun _ _ ee i o k ei eo ek hh1 hh2 m2 c2 g1 g2 => ?_)
            subst ei eo ek
            exact ⟨rfl, tl, hkp, him, re, rv, rs_other r0 rfl rfl (fun j hj => g2 _ (by omega)), rs_mv r1 r1 ee el1 el1 hl1 hl1 hh1 hh2 g1 g2, rs_other r2 rfl rfl (fun j hj => g2 _ (by omega)), rs_other r3 rfl rfl (fun j hj => g2 _ (by omega))⟩
        · have eb : qb = 2 := by rw [fa_lit 2, eq_nn (by omega) (by decide)] at e; exact e
          subst eb
          refine s_pair hl1 hl2 el1 el2 (fun z => ?_) (fun na nb ne => ?_) (fun na nb ee nh => ?_) (fun na nb ee gA gB => ?_)
          · rw [e_ref2]
            refine one 1 2 (by decide) (by decide) _ _ _ _ _ _ l1 l2 hl1 hl2 el1 el2 r1 r2 _ (fun _ => (by first | exact ⟨tl, hkp, him, re_upd re (k := 2) (by decide), rv, r0, r1, r2, r3⟩ | exact ⟨rfl, tl, hkp, him, re_upd re (k := 2) (by decide), rv, r0, r1, r2, r3⟩)) (fun na nb => ?_) (fun na nb => ?_) (fun na nb => ?_) <;> exact absurd z (fun y => by rcases y with y | y <;> contradiction)
          · rw [e_ref5]
            exact one 1 2 (by decide) (by decide) _ _ _ _ _ _ l1 l2 hl1 hl2 el1 el2 r1 r2 _ (fun z => absurd z (fun y => by rcases y with y | y <;> contradiction)) (fun _ _ _ => (by first | exact ⟨tl, hkp, him, re_upd re (k := 5) (by decide), rv, r0, r1, r2, r3⟩ | exact ⟨rfl, tl, hkp, him, re_upd re (k := 5) (by decide), rv, r0, r1, r2, r3⟩)) (fun _ _ y => absurd y ne) (fun _ _ y => absurd y ne)
          · rw [e_ref1]
            exact one 1 2 (by decide) (by decide) _ _ _ _ _ _ l1 l2 hl1 hl2 el1 el2 r1 r2 _ (fun z => absurd z (fun y => by rcases y with y | y <;> contradiction)) (fun _ _ y => absurd ee y) (fun _ _ _ _ => (by first | exact ⟨tl, hkp, him, re_upd re (k := 1) (by decide), rv, r0, r1, r2, r3⟩ | exact ⟨rfl, tl, hkp, him, re_upd re (k := 1) (by decide), rv, r0, r1, r2, r3⟩)) (fun _ _ _ i o k ei eo ek hk hk2 => absurd ⟨hl_mk hl1 ei ek hk, hl_mk hl2 eo ek hk2⟩ nh)
          · refine ⟨hl_ok hl1 hl2 gA gB, ?_⟩
            refine one 1 2 (by decide) (by decide) _ _ _ _ _ _ l1 l2 hl1 hl2 el1 el2 r1 r2 _ (fun z => absurd z (fun y => by rcases y with y | y <;> contradiction)) (fun _ _ y => absurd ee y) (fun _ _ _ y => absurd ⟨gA, gB⟩ y) (fun _ _ _ i o k ei eo ek hh1 hh2 m2 c2 g1 g2 => ?_)
            subst ei eo ek
            exact ⟨rfl, tl, hkp, him, re, rv, rs_other r0 rfl rfl (fun j hj => g2 _ (by omega)), rs_other r1 rfl rfl (fun j hj => g2 _ (by omega)), rs_mv r1 r2 ee el1 el2 hl1 hl2 hh1 hh2 g1 g2, rs_other r3 rfl rfl (fun j hj => g2 _ (by omega))⟩
        · have eb : qb = 3 := by rw [fa_lit 3, eq_nn (by omega) (by decide)] at e; exact e
          subst eb
          refine s_pair hl1 hl3 el1 el3 (fun z => ?_) (fun na nb ne => ?_) (fun na nb ee nh => ?_) (fun na nb ee gA gB => ?_)
          · rw [e_ref2]
            refine one 1 3 (by decide) (by decide) _ _ _ _ _ _ l1 l3 hl1 hl3 el1 el3 r1 r3 _ (fun _ => (by first | exact ⟨tl, hkp, him, re_upd re (k := 2) (by decide), rv, r0, r1, r2, r3⟩ | exact ⟨rfl, tl, hkp, him, re_upd re (k := 2) (by decide), rv, r0, r1, r2, r3⟩)) (fun na nb => ?_) (fun na nb => ?_) (fun na nb => ?_) <;> exact absurd z (fun y => by rcases y with y | y <;> contradiction)
          · rw [e_ref5]
            exact one 1 3 (by decide) (by decide) _ _ _ _ _ _ l1 l3 hl1 hl3 el1 el3 r1 r3 _ (fun z => absurd z (fun y => by rcases y with y | y <;> contradiction)) (fun _ _ _ => (by first | exact ⟨tl, hkp, him, re_upd re (k := 5) (by decide), rv, r0, r1, r2, r3⟩ | exact ⟨rfl, tl, hkp, him, re_upd re (k := 5) (by decide), rv, r0, r1, r2, r3⟩)) (fun _ _ y => absurd y ne) (fun _ _ y => absurd y ne)
          · rw [e_ref1]
            exact one 1 3 (by decide) (by decide) _ _ _ _ _ _ l1 l3 hl1 hl3 el1 el3 r1 r3 _ (fun z => absurd z (fun y => by rcases y with y | y <;> contradiction)) (fun _ _ y => absurd ee y) (fun _ _ _ _ => (by first | exact ⟨tl, hkp, him, re_upd re (k := 1) (by decide), rv, r0, r1, r2, r3⟩ | exact ⟨rfl, tl, hkp, him, re_upd re (k := 1) (by decide), rv, r0, r1, r2, r3⟩)) (fun _ _ _ i o k ei eo ek hk hk2 => absurd ⟨hl_mk hl1 ei ek hk, hl_mk hl3 eo ek hk2⟩ nh)
          · refine ⟨hl_ok hl1 hl3 gA gB, ?_⟩
            refine one 1 3 (by decide) (by decide) _ _ _ _ _ _ l1 l3 hl1 hl3 el1 el3 r1 r3 _ (fun z => absurd z (fun y => by rcases y with y | y <;> contradiction)) (fun _ _ y => absurd ee y) (fun _ _ _ y => absurd ⟨gA, gB⟩ y) (fun _ _ _ i o k ei eo ek hh1 hh2 m2 c2 g1 g2 => ?_)
            subst ei eo ek
            exact ⟨rfl, tl, hkp, him, re, rv, rs_other r0 rfl rfl (fun j hj => g2 _ (by omega)), rs_other r1 rfl rfl (fun j hj => g2 _ (by omega)), rs_other r2 rfl rfl (fun j hj => g2 _ (by omega)), rs_mv r1 r3 ee el1 el3 hl1 hl3 hh1 hh2 g1 g2⟩
      · have ea : qa = 2 := by rw [fa_lit 2, eq_nn (by omega) (by decide)] at e; exact e
        subst ea
        refine ⟨vp_in_nI (by omega) (by decide), fun e => ?_, fun e => ?_, fun e => ?_, fun e => ?_⟩
        · have eb : qb = 0 := by rw [fa_lit 0, eq_nn (by omega) (by decide)] at e; exact e
          subst eb
          refine s_pair hl2 hl0 el2 el0 (fun z => ?_) (fun na nb ne => ?_) (fun na nb ee nh => ?_) (fun na nb ee gA gB => ?_)
          · rw [e_ref2]
            refine one 2 0 (by decide) (by decide) _ _ _ _ _ _ l2 l0 hl2 hl0 el2 el0 r2 r0 _ (fun _ => (by first | exact ⟨tl, hkp, him, re_upd re (k := 2) (by decide), rv, r0, r1, r2, r3⟩ | exact ⟨rfl, tl, hkp, him, re_upd re (k := 2) (by decide), rv, r0, r1, r2, r3⟩)) (fun na nb => ?_) (fun na nb => ?_) (fun na nb => ?_) <;> exact absurd z (fun y => by rcases y with y | y <;> contradiction)
          · rw [e_ref5]
            exact one 2 0 (by decide) (by decide) _ _ _ _ _ _ l2 l0 hl2 hl0 el2 el0 r2 r0 _ (fun z => absurd z (fun y => by rcases y with y | y <;> contradiction)) (fun _ _ _ => (by first | exact ⟨tl, hkp, him, re_upd re (k := 5) (by decide), rv, r0, r1, r2, r3⟩ | exact ⟨rfl, tl, hkp, him, re_upd re (k := 5) (by decide), rv, r0, r1, r2, r3⟩)) (fun _ _ y => absurd y ne) (fun _ _ y => absurd y ne)
          · rw [e_ref1]
            exact one 2 0 (by decide) (by decide) _ _ _ _ _ _ l2 l0 hl2 hl0 el2 el0 r2 r0 _ (fun z => absurd z (fun y => by rcases y with y | y <;> contradiction)) (fun _ _ y => absurd ee y) (fun _ _ _ _ => (by first | exact ⟨tl, hkp, him, re_upd re (k := 1) (by decide), rv, r0, r1, r2, r3⟩ | exact ⟨rfl, tl, hkp, him, re_upd re (k := 1) (by decide), rv, r0, r1, r2, r3⟩)) (fun _ _ _ i o k ei eo ek hk hk2 => absurd ⟨hl_mk hl2 ei ek hk, hl_mk hl0 eo ek hk2⟩ nh)
          · refine ⟨hl_ok hl2 hl0 gA gB, ?_⟩
            refine one 2 0 (by decide) (by decide) _ _ _ _ _ _ l2 l0 hl2 hl0 el2 el0 r2 r0 _ (fun z => absurd z (fun y => by rcases y with y | y <;> contradiction)) (fun _ _ y => absurd ee y) (fun _ _ _ y => absurd ⟨gA, gB⟩ y) (fun _ _ _ i o k ei eo ek hh1 hh2 m2 c2 g1 g2 => ?_)
            subst ei eo ek
            exact ⟨rfl, tl, hkp, him, re, rv, rs_mv r2 r0 ee el2 el0 hl2 hl0 hh1 hh2 g1 g2, rs_other r1 rfl rfl (fun j hj => g2 _ (by omega)), rs_other r2 rfl rfl (fun j hj => g2 _ (by omega)), rs_other r3 rfl rfl (fun j hj => g2 _ (by omega))⟩
        · have eb : qb = 1 := by rw [fa_lit 1, eq_nn (by omega) (by decide)] at e; exact e
          subst eb
          refine s_pair hl2 hl1 el2 el1 (fun z => ?_) (fun na nb ne => ?_) (fun na nb ee nh => ?_) (fun na nb ee gA gB => ?_)
          · rw [e_ref2]
            refine one 2 1 (by decide) (by decide) _ _ _ _ _ _ l2 l1 hl2 hl1 el2 el1 r2 r1 _ (fun _ => (by first | exact ⟨tl, hkp, him, re_upd re (k := 2) (by decide), rv, r0, r1, r2, r3⟩ | exact ⟨rfl, tl, hkp, him, re_upd re (k := 2) (by decide), rv, r0, r1, r2, r3⟩)) (fun na nb => ?_) (fun na nb => ?_) (fun na nb => ?_) <;> exact absurd z (fun y => by rcases y with y | y <;> contradiction)
          · rw [e_ref5]
            exact one 2 1 (by decide) (by decide) _ _ _ _ _ _ l2 l1 hl2 hl1 el2 el1 r2 r1 _ (fun z => absurd z (fun y => by rcases y with y | y <;> contradiction)) (fun _ _ _ => (by first | exact ⟨tl, hkp, him, re_upd re (k := 5) (by decide), rv, r0, r1, r2, r3⟩ | exact ⟨rfl, tl, hkp, him, re_upd re (k := 5) (by decide), rv, r0, r1, r2, r3⟩)) (fun _ _ y => absurd y ne) (fun _ _ y => absurd y ne)
          · rw [e_ref1]
            exact one 2 1 (by decide) (by decide) _ _ _ _ _ _ l2 l1 hl2 hl1 el2 el1 r2 r1 _ (fun z => absurd z (fun y => by rcases y with y | y <;> contradiction)) (fun _ _ y => absurd ee y) (fun _ _ _ _ => (by first | exact ⟨tl, hkp, him, re_upd re (k := 1) (by decide), rv, r0, r1, r2, r3⟩ | exact ⟨rfl, tl, hkp, him, re_upd re (k := 1) (by decide), rv, r0, r1, r2, r3⟩)) (fun _ _ _ i o k ei eo ek hk hk2 => absurd ⟨hl_mk hl2 ei ek hk, hl_mk hl1 eo ek hk2⟩ nh)
          · refine ⟨hl_ok hl2 hl1 gA gB, ?_⟩
            refine one 2 1 (by decide) (by decide) _ _ _ _ _ _ l2 l1 hl2 hl1 el2 el1 r2 r1 _ (fun z => absurd z (fun y => by rcases y with y | y <;> contradiction)) (fun _ _ y => absurd ee y) (fun _ _ _ y => absurd ⟨gA, gB⟩ y) (fun _ _ _ i o k ei eo ek hh1 hh2 m2 c2 g1 g2 => ?_)
            subst ei eo ek
            exact ⟨rfl, tl, hkp, him, re, rv, rs_other r0 rfl rfl (fun j hj => g2 _ (by omega)), rs_mv r2 r1 ee el2 el1 hl2 hl1 hh1 hh2 g1 g2, rs_other r2 rfl rfl (fun j hj => g2 _ (by omega)), rs_other r3 rfl rfl (fun j hj => g2 _ (by omega))⟩
        · have eb : qb = 2 := by rw [fa_lit 2, eq_nn (by omega) (by decide)] at e; exact e
          subst eb
          refine s_pair1 hl2 el2 (fun z => ?_) (fun na nh => ?_) (fun na gA gB => ?_)
          · rw [e_ref2]
            exact one 2 2 (by decide) (by decide) _ _ _ _ _ _ l2 l2 hl2 hl2 el2 el2 r2 r2 _ (fun _ => (by first | exact ⟨tl, hkp, him, re_upd re (k := 2) (by decide), rv, r0, r1, r2, r3⟩ | exact ⟨rfl, tl, hkp, him, re_upd re (k := 2) (by decide), rv, r0, r1, r2, r3⟩)) (fun na => absurd z na) (fun na => absurd z na) (fun na => absurd z na)
          · rw [e_ref1]
            exact one 2 2 (by decide) (by decide) _ _ _ _ _ _ l2 l2 hl2 hl2 el2 el2 r2 r2 _ (fun z => absurd z (fun y => by rcases y with y | y <;> contradiction)) (fun _ _ y => absurd rfl y) (fun _ _ _ _ => (by first | exact ⟨tl, hkp, him, re_upd re (k := 1) (by decide), rv, r0, r1, r2, r3⟩ | exact ⟨rfl, tl, hkp, him, re_upd re (k := 1) (by decide), rv, r0, r1, r2, r3⟩)) (fun _ _ _ i o k ei eo ek hk hk2 => absurd ⟨hl_mk hl2 ei ek hk, hl_mk hl2 eo ek hk2⟩ nh)
          · refine ⟨hl_ok hl2 hl2 gA gB, ?_⟩
            refine one 2 2 (by decide) (by decide) _ _ _ _ _ _ l2 l2 hl2 hl2 el2 el2 r2 r2 _ (fun z => absurd z (fun y => by rcases y with y | y <;> contradiction)) (fun _ _ y => absurd rfl y) (fun _ _ _ y => absurd ⟨gA, gB⟩ y) (fun _ _ ee i o k ei eo ek hh1 hh2 m2 c2 g1 g2 => ?_)
            subst ei eo ek
            exact ⟨rfl, tl, hkp, him, re, rv, rs_other r0 rfl rfl (fun j hj => g2 _ (by omega)), rs_other r1 rfl rfl (fun j hj => g2 _ (by omega)), rs_mv r2 r2 ee el2 el2 hl2 hl2 hh1 hh2 g1 g2, rs_other r3 rfl rfl (fun j hj => g2 _ (by omega))⟩
        · have eb : qb = 3 := by rw [fa_lit 3, eq_nn (by omega) (by decide)] at e; exact e
          subst eb
          refine s_pair hl2 hl3 el2 el3 (fun z => ?_) (fun na nb ne => ?_) (fun na nb ee nh => ?_) (fun na nb ee gA gB => ?_)
          · rw [e_ref2]
            refine one 2 3 (by decide) (by decide) _ _ _ _ _ _ l2 l3 hl2 hl3 el2 el3 r2 r3 _ (fun _ => (by first | exact ⟨tl, hkp, him, re_upd re (k := 2) (by decide), rv, r0, r1, r2, r3⟩ | exact ⟨rfl, tl, hkp, him, re_upd re (k := 2) (by decide), rv, r0, r1, r2, r3⟩)) (fun na nb => ?_) (fun na nb => ?_) (fun na nb => ?_) <;> exact absurd z (fun y => by rcases y with y | y <;> contradiction)
          · rw [e_ref5]
            exact one 2 3 (by decide) (by decide) _ _ _ _ _ _ l2 l3 hl2 hl3 el2 el3 r2 r3 _ (fun z => absurd z (fun y => by rcases y with y | y <;> contradiction)) (fun _ _ _ => (by first | exact ⟨tl, hkp, him, re_upd re (k := 5) (by decide), rv, r0, r1, r2, r3⟩ | exact ⟨rfl, tl, hkp, him, re_upd re (k := 5) (by decide), rv, r0, r1, r2, r3⟩)) (fun _ _ y => absurd y ne) (fun _ _ y => absurd y ne)
          · rw [e_ref1]
            exact one 2 3 (by decide) (by decide) _ _ _ _ _ _ l2 l3 hl2 hl3 el2 el3 r2 r3 _ (fun z => absurd z (fun y => by rcases y with y | y <;> contradiction)) (fun _ _ y => absurd ee y) (fun _ _ _ _ => (by first | exact ⟨tl, hkp, him, re_upd re (k := 1) (by decide), rv, r0, r1, r2, r3⟩ | exact ⟨rfl, tl, hkp, him, re_upd re (k := 1) (by decide), rv, r0, r1, r2, r3⟩)) (fun _ _ _ i o k ei eo ek hk hk2 => absurd ⟨hl_mk hl2 ei ek hk, hl_mk hl3 eo ek hk2⟩ nh)
          · refine ⟨hl_ok hl2 hl3 gA gB, ?_⟩
            refine one 2 3 (by decide) (by decide) _ _ _ _ _ _ l2 l3 hl2 hl3 el2 el3 r2 r3 _ (fun z => absurd z (fun y => by rcases y with y | y <;> contradiction)) (fun _ _ y => absurd ee y) (fun _ _ _ y => absurd ⟨gA, gB⟩ y) (fun _ _ _ i o k ei eo ek hh1 hh2 m2 c2 g1 g2 => ?_)
            subst ei eo ek
            exact ⟨rfl, tl, hkp, him, re, rv, rs_other r0 rfl rfl (fun j hj => g2 _ (by omega)), rs_other r1 rfl rfl (fun j hj => g2 _ (by omega)), rs_other r2 rfl rfl (fun j hj => g2 _ (by omega)), rs_mv r2 r3 ee el2 el3 hl2 hl3 hh1 hh2 g1 g2⟩
      · have ea : qa = 3 := by rw [fa_lit 3, eq_nn (by omega) (by decide)] at e; exact e
        subst ea
        refine ⟨vp_in_nI (by omega) (by decide), fun e => ?_, fun e => ?_, fun e => ?_, fun e => ?_⟩
        · have eb : qb = 0 := by rw [fa_lit 0, eq_nn (by omega) (by decide)] at e; exact e
          subst eb
          refine s_pair hl3 hl0 el3 el0 (fun z => ?_) (fun na nb ne => ?_) (fun na nb ee nh => ?_) (fun na nb ee gA gB => ?_)
          · rw [e_ref2]
            refine one 3 0 (by decide) (by decide) _ _ _ _ _ _ l3 l0 hl3 hl0 el3 el0 r3 r0 _ (fun _ => (by first | exact ⟨tl, hkp, him, re_upd re (k := 2) (by decide), rv, r0, r1, r2, r3⟩ | exact ⟨rfl, tl, hkp, him, re_upd re (k := 2) (by decide), rv, r0, r1, r2, r3⟩)) (fun na nb => ?_) (fun na nb => ?_) (fun na nb => ?_) <;> exact absurd z (fun y => by rcases y with y | y <;> contradiction)
          · rw [e_ref5]
            exact one 3 0 (by decide) (by decide) _ _ _ _ _ _ l3 l0 hl3 hl0 el3 el0 r3 r0 _ (fun z => absurd z (fun y => by rcases y with y | y <;> contradiction)) (fun _ _ _ => (by first | exact ⟨tl, hkp, him, re_upd re (k := 5) (by decide), rv, r0, r1, r2, r3⟩ | exact ⟨rfl, tl, hkp, him, re_upd re (k := 5) (by decide), rv, r0, r1, r2, r3⟩)) (fun _ _ y => absurd y ne) (fun _ _ y => absurd y ne)
          · rw [e_ref1]
            exact one 3 0 (by decide) (by decide) _ _ _ _ _ _ l3 l0 hl3 hl0 el3 el0 r3 r0 _ (fun z => absurd z (fun y => by rcases y with y | y <;> contradiction)) (fun _ _ y => absurd ee y) (fun _ _ _ _ => (by first | exact ⟨tl, hkp, him, re_upd re (k := 1) (by decide), rv, r0, r1, r2, r3⟩ | exact ⟨rfl, tl, hkp, him, re_upd re (k := 1) (by decide), rv, r0, r1, r2, r3⟩)) (fun _ _ _ i o k ei eo ek hk hk2 => absurd ⟨hl_mk hl3 ei ek hk, hl_mk hl0 eo ek hk2⟩ nh)
          · refine ⟨hl_ok hl3 hl0 gA gB, ?_⟩
            refine one 3 0 (by decide) (by decide) _ _ _ _ _ _ l3 l0 hl3 hl0 el3 el0 r3 r0 _ (fun z => absurd z (fun y => by rcases y with y | y <;> contradiction)) (fun _ _ y => absurd ee y) (fun _ _ _ y => absurd ⟨gA, gB⟩ y) (fun _ _ _ i o k ei eo ek hh1 hh2 m2 c2 g1 g2 => ?_)
            subst ei eo ek
            exact ⟨rfl, tl, hkp, him, re, rv, rs_mv r3 r0 ee el3 el0 hl3 hl0 hh1 hh2 g1 g2, rs_other r1 rfl rfl (fun j hj => g2 _ (by omega)), rs_other r2 rfl rfl (fun j hj => g2 _ (by omega)), rs_other r3 rfl rfl (fun j hj => g2 _ (by omega))⟩
        · have eb : qb = 1 := by rw [fa_lit 1, eq_nn (by omega) (by decide)] at e; exact e
          subst eb
          refine s_pair hl3 hl1 el3 el1 (fun z => ?_) (fun na nb ne => ?_) (fun na nb ee nh => ?_) (fun na nb ee gA gB => ?_)
          · rw [e_ref2]
            refine one 3 1 (by decide) (by decide) _ _ _ _ _ _ l3 l1 hl3 hl1 el3 el1 r3 r1 _ (fun _ => (by first | exact ⟨tl, hkp, him, re_upd re (k := 2) (by decide), rv, r0, r1, r2, r3⟩ | exact ⟨rfl, tl, hkp, him, re_upd re (k := 2) (by decide), rv, r0, r1, r2, r3⟩)) (fun na nb => ?_) (fun na nb => ?_) (fun na nb => ?_) <;> exact absurd z (fun y => by rcases y with y | y <;> contradiction)
          · rw [e_ref5]
            exact one 3 1 (by decide) (by decide) _ _ _ _ _ _ l3 l1 hl3 hl1 el3 el1 r3 r1 _ (fun z => absurd z (fun y => by rcases y with y | y <;> contradiction)) (fun _ _ _ => (by first | exact ⟨tl, hkp, him, re_upd re (k := 5) (by decide), rv, r0, r1, r2, r3⟩ | exact ⟨rfl, tl, hkp, him, re_upd re (k := 5) (by decide), rv, r0, r1, r2, r3⟩)) (fun _ _ y => absurd y ne) (fun _ _ y => absurd y ne)
          · rw [e_ref1]
            exact one 3 1 (by decide) (by decide) _ _ _ _ _ _ l3 l1 hl3 hl1 el3 el1 r3 r1 _ (fun z => absurd z (fun y => by rcases y with y | y <;> contradiction)) (fun _ _ y => absurd ee y) (fun _ _ _ _ => (by first | exact ⟨tl, hkp, him, re_upd re (k := 1) (by decide), rv, r0, r1, r2, r3⟩ | exact ⟨rfl, tl, hkp, him, re_upd re (k := 1) (by decide), rv, r0, r1, r2, r3⟩)) (fun _ _ _ i o k ei eo ek hk hk2 => absurd ⟨hl_mk hl3 ei ek hk, hl_mk hl1 eo ek hk2⟩ nh)
          · refine ⟨hl_ok hl3 hl1 gA gB, ?_⟩
            refine one 3 1 (by decide) (by decide) _ _ _ _ _ _ l3 l1 hl3 hl1 el3 el1 r3 r1 _ (fun z => absurd z (fun y => by rcases y with y | y <;> contradiction)) (fun _ _ y => absurd ee y) (fun _ _ _ y => absurd ⟨gA, gB⟩ y) (fun _ _ _ i o k ei eo ek hh1 hh2 m2 c2 g1 g2 => ?_)
            subst ei eo ek
            exact ⟨rfl, tl, hkp, him, re, rv, rs_other r0 rfl rfl (fun j hj => g2 _ (by omega)), rs_mv r3 r1 ee el3 el1 hl3 hl1 hh1 hh2 g1 g2, rs_other r2 rfl rfl (fun j hj => g2 _ (by omega)), rs_other r3 rfl rfl (fun j hj => g2 _ (by omega))⟩
        · have eb : qb = 2 := by rw [fa_lit 2, eq_nn (by omega) (by decide)] at e; exact e
          subst eb
          refine s_pair hl3 hl2 el3 el2 (fun z => ?_) (fun na nb ne => ?_) (fun na nb ee nh => ?_) (fun na nb ee gA gB => ?_)
          · rw [e_ref2]
            refine one 3 2 (by decide) (by decide) _ _ _ _ _ _ l3 l2 hl3 hl2 el3 el2 r3 r2 _ (fun _ => (by first | exact ⟨tl, hkp, him, re_upd re (k := 2) (by decide), rv, r0, r1, r2, r3⟩ | exact ⟨rfl, tl, hkp, him, re_upd re (k := 2) (by decide), rv, r0, r1, r2, r3⟩)) (fun na nb => ?_) (fun na nb => ?_) (fun na nb => ?_) <;> exact absurd z (fun y => by rcases y with y | y <;> contradiction)
          · rw [e_ref5]
            exact one 3 2 (by decide) (by decide) _ _ _ _ _ _ l3 l2 hl3 hl2 el3 el2 r3 r2 _ (fun z => absurd z (fun y => by rcases y with y | y <;> contradiction)) (fun _ _ _ => (by first | exact ⟨tl, hkp, him, re_upd re (k := 5) (by decide), rv, r0, r1, r2, r3⟩ | exact ⟨rfl, tl, hkp, him, re_upd re (k := 5) (by decide), rv, r0, r1, r2, r3⟩)) (fun _ _ y => absurd y ne) (fun _ _ y => absurd y ne)
          · rw [e_ref1]
            exact one 3 2 (by decide) (by decide) _ _ _ _ _ _ l3 l2 hl3 hl2 el3 el2 r3 r2 _ (fun z => absurd z (fun y => by rcases y with y | y <;> contradiction)) (fun _ _ y => absurd ee y) (fun _ _ _ _ => (by first | exact ⟨tl, hkp, him, re_upd re (k := 1) (by decide), rv, r0, r1, r2, r3⟩ | exact ⟨rfl, tl, hkp, him, re_upd re (k := 1) (by decide), rv, r0, r1, r2, r3⟩)) (fun _ _ _ i o k ei eo ek hk hk2 => absurd ⟨hl_mk hl3 ei ek hk, hl_mk hl2 eo ek hk2⟩ nh)
          · refine ⟨hl_ok hl3 hl2 gA gB, ?_⟩
            refine one 3 2 (by decide) (by decide) _ _ _ _ _ _ l3 l2 hl3 hl2 el3 el2 r3 r2 _ (fun z => absurd z (fun y => by rcases y with y | y <;> contradiction)) (fun _ _ y => absurd ee y) (fun _ _ _ y => absurd ⟨gA, gB⟩ y) (fun _ _ _ i o k ei eo ek hh1 hh2 m2 c2 g1 g2 => ?_)
            subst ei eo ek
            exact ⟨rfl, tl, hkp, him, re, rv, rs_other r0 rfl rfl (fun j hj => g2 _ (by omega)), rs_other r1 rfl rfl (fun j hj => g2 _ (by omega)), rs_mv r3 r2 ee el3 el2 hl3 hl2 hh1 hh2 g1 g2, rs_other r3 rfl rfl (fun j hj => g2 _ (by omega))⟩
        · have eb : qb = 3 := by rw [fa_lit 3, eq_nn (by omega) (by decide)] at e; exact e
          subst eb
          refine s_pair1 hl3 el3 (fun z => ?_) (fun na nh => ?_) (fun na gA gB => ?_)
          · rw [e_ref2]
            exact one 3 3 (by decide) (by decide) _ _ _ _ _ _ l3 l3 hl3 hl3 el3 el3 r3 r3 _ (fun _ => (by first | exact ⟨tl, hkp, him, re_upd re (k := 2) (by decide), rv, r0, r1, r2, r3⟩ | exact ⟨rfl, tl, hkp, him, re_upd re (k := 2) (by decide), rv, r0, r1, r2, r3⟩)) (fun na => absurd z na) (fun na => absurd z na) (fun na => absurd z na)
          · rw [e_ref1]
            exact one 3 3 (by decide) (by decide) _ _ _ _ _ _ l3 l3 hl3 hl3 el3 el3 r3 r3 _ (fun z => absurd z (fun y => by rcases y with y | y <;> contradiction)) (fun _ _ y => absurd rfl y) (fun _ _ _ _ => (by first | exact ⟨tl, hkp, him, re_upd re (k := 1) (by decide), rv, r0, r1, r2, r3⟩ | exact ⟨rfl, tl, hkp, him, re_upd re (k := 1) (by decide), rv, r0, r1, r2, r3⟩)) (fun _ _ _ i o k ei eo ek hk hk2 => absurd ⟨hl_mk hl3 ei ek hk, hl_mk hl3 eo ek hk2⟩ nh)
          · refine ⟨hl_ok hl3 hl3 gA gB, ?_⟩
            refine one 3 3 (by decide) (by decide) _ _ _ _ _ _ l3 l3 hl3 hl3 el3 el3 r3 r3 _ (fun z => absurd z (fun y => by rcases y with y | y <;> contradiction)) (fun _ _ y => absurd rfl y) (fun _ _ _ y => absurd ⟨gA, gB⟩ y) (fun _ _ ee i o k ei eo ek hh1 hh2 m2 c2 g1 g2 => ?_)
            subst ei eo ek
            exact ⟨rfl, tl, hkp, him, re, rv, rs_other r0 rfl rfl (fun j hj => g2 _ (by omega)), rs_other r1 rfl rfl (fun j hj => g2 _ (by omega)), rs_other r2 rfl rfl (fun j hj => g2 _ (by omega)), rs_mv r3 r3 ee el3 el3 hl3 hl3 hh1 hh2 g1 g2⟩
    · unfold wp_X7_move wp_X8_move wp_X7_rowOf lb_X7_move_24 lb_X8_move_14
      simp only [e_within, e_isSheet8, b2i_t c, b2i_f d, z10, z00, e_ref1, e_fin1, false_implies, true_implies, not_true_eq_false, not_false_eq_true, true_and, and_true, forall_eq]
      obtain ⟨qa, hqa, rfl⟩ := sm_of (n := 3) (by decide) c
      refine ⟨vp_in_nI (by omega) (by decide), fun _ => ?_, fun _ => ?_, fun _ => ?_, fun _ => ?_⟩ <;> exact (by first | exact ⟨tl, hkp, him, re_upd re (k := 1) (by decide), rv, r0, r1, r2, r3⟩ | exact ⟨rfl, tl, hkp, him, re_upd re (k := 1) (by decide), rv, r0, r1, r2, r3⟩)
  · unfold wp_X7_move wp_X8_move wp_X7_rowOf lb_X7_move_24 lb_X8_move_14
    simp only [e_within, e_isSheet8, b2i_f c, z00, e_ref1, e_fin1, false_implies, true_implies, not_true_eq_false, not_false_eq_true, true_and, and_true, forall_eq]
    by_cases d : (0 : Int32) ≤ s3 ∧ s3 ≤ 3
    · simp only [b2i_t d, z10, false_implies, true_implies, not_true_eq_false, not_false_eq_true, true_and, and_true, forall_eq]
      obtain ⟨qb, hqb, rfl⟩ := sm_of (n := 3) (by decide) d
      refine ⟨vp_in_nI (by omega) (by decide), fun _ => ?_, fun _ => ?_, fun _ => ?_, fun _ => ?_⟩ <;> exact (by first | exact ⟨tl, hkp, him, re_upd re (k := 1) (by decide), rv, r0, r1, r2, r3⟩ | exact ⟨rfl, tl, hkp, him, re_upd re (k := 1) (by decide), rv, r0, r1, r2, r3⟩)
    · simp only [b2i_f d, z00, false_implies, true_implies, not_true_eq_false, not_false_eq_true, true_and, and_true, forall_eq]
      exact (by first | exact ⟨tl, hkp, him, re_upd re (k := 1) (by decide), rv, r0, r1, r2, r3⟩ | exact ⟨rfl, tl, hkp, him, re_upd re (k := 1) (by decide), rv, r0, r1, r2, r3⟩)
