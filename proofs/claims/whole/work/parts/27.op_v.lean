theorem bv_lo (v : BitVec 32) : (v &&& 255#32).signExtend 8 = v.signExtend 8 := by
  apply BitVec.eq_of_getLsbD_eq
  intro j hj
  have t : Nat.testBit 255 j = decide (j < 8) := by
    rw [show 255 = 2 ^ 8 - 1 from rfl, Nat.testBit_two_pow_sub_one]
  have h1 : j < 32 := by omega
  rw [BitVec.getLsbD_signExtend, BitVec.getLsbD_signExtend, BitVec.getLsbD_and, BitVec.getLsbD_ofNat, t]
  simp [hj, h1]
theorem bv_lo16 (v : BitVec 32) : (v &&& 65535#32).signExtend 16 = v.signExtend 16 := by
  apply BitVec.eq_of_getLsbD_eq
  intro j hj
  have t : Nat.testBit 65535 j = decide (j < 16) := by
    rw [show 65535 = 2 ^ 16 - 1 from rfl, Nat.testBit_two_pow_sub_one]
  have h1 : j < 32 := by omega
  rw [BitVec.getLsbD_signExtend, BitVec.getLsbD_signExtend, BitVec.getLsbD_and, BitVec.getLsbD_ofNat, t]
  simp [hj, h1]
theorem b8_lo (x : Int32) : ji2b x = ji2b (x &&& 255) := by
  unfold ji2b
  congr 1
  apply Int8.toBitVec_inj.1
  exact (bv_lo x.toBitVec).symm
theorem b16_lo (x : Int32) : ji2s x = ji2s (x &&& 65535) := by
  unfold ji2s
  congr 1
  apply Int16.toBitVec_inj.1
  exact (bv_lo16 x.toBitVec).symm
theorem and_2 (x m : Int32) : x &&& m &&& m = x &&& m := by
  rw [Int32.and_assoc, Int32.and_self]
def lwI (w x : Int32) : Int32 := if w = 8 then x &&& 255 else if w = 16 then x &&& 65535 else x
def lwM (w x : Int32) : Int32 := if w = 8 then ji2b x else if w = 16 then ji2s x else x
theorem nr_put (w x : Int32) : nrel w (lwI w x) (lwM w x) := by
  unfold nrel lwI lwM
  by_cases c : w = 8
  · rw [if_pos c, if_pos c, if_pos c]
    exact ⟨and_2 _ _, b8_lo x⟩
  · rw [if_neg c, if_neg c, if_neg c]
    by_cases d : w = 16
    · rw [if_pos d, if_pos d, if_pos d]
      exact ⟨and_2 _ _, b16_lo x⟩
    · rw [if_neg d, if_neg d, if_neg d]
theorem nr_0 (w : Int32) : nrel w 0 0 := by
  unfold nrel
  by_cases c : w = 8
  · rw [if_pos c]; decide
  · rw [if_neg c]
    by_cases d : w = 16
    · rw [if_pos d]; decide
    · rw [if_neg d]
theorem e_low {x w : Int32} {Q : Int32 → Prop} : wp_X2_lowestBits x w Q = Q (lwI w x) := by
  unfold wp_X2_lowestBits lwI
  by_cases c : w = 8
  · subst c; simp
  · by_cases d : w = 16
    · subst d; simp +decide
    · simp [c, d]
theorem rs_other {j : Nat} {b s : Int32} {nums wd sz mn wd2 sz2 mn2 : Nat → Int32} (h : RSh j b s nums wd sz mn) (h1 : wd2 j = wd j) (h2 : sz2 j = sz j) (h3 : ∀ i, i < 40 → mn2 (40 * j + i) = mn (40 * j + i)) : RSh j b s nums wd2 sz2 mn2 := by
  obtain ⟨w1, w2, len, hl, w3, w4, w5⟩ := h
  exact ⟨w1.trans h1.symm, w2, len, hl, w3, h2.trans w4, fun i hi => by rw [h3 i (by omega)]; exact w5 i hi⟩
theorem rs_put {q i : Nat} {b s x : Int32} {nums wd sz mn : Nat → Int32} (h : RSh q b s nums wd sz mn) : RSh q b s (upd nums i (lwI b x)) wd sz (upd mn (40 * q + i) (lwM b x)) := by
  obtain ⟨w1, w2, len, hl, w3, w4, w5⟩ := h
  refine ⟨w1, w2, len, hl, w3, w4, fun j hj => ?_⟩
  by_cases e : j = i
  · subst e; rw [up_s, up_s]; exact nr_put b x
  · rw [up_n e, up_n (by omega)]; exact w5 j hj
theorem rs_puo {q j i : Nat} (hj : j ≠ q) (hi : i < 40) {b s v : Int32} {nums wd sz mn : Nat → Int32} (h : RSh j b s nums wd sz mn) : RSh j b s nums wd sz (upd mn (40 * q + i) v) := rs_other h rfl rfl (fun k hk => by rw [up_n (by omega)])
set_option maxHeartbeats 4000000 in
set_option maxRecDepth 100000 in
theorem op_put {ca : Nat → Nat → Int32} {ci : Nat → Int32} {ma : Nat → Nat → Int32} {mi : Nat → Int32} (h : Inv ca ci ma mi) (s1 : Int32) (s2 : Int32) (s3 : Int32) : wp_X7_put s1 s2 s3 (ci 34) (ci 35) (ca 49) (ca 48) (ci 32) (ci 33) (ca 47) (ci 30) (ci 31) (ca 46) (ci 28) (ci 29) (ca 45) (fun r1 c0 c1 c2 c3 c4 => wp_X8_put s1 s2 s3 (ma 3) (ma 12) (ma 13) (ma 14) (fun r2 m0 m1 => r1 = r2 ∧ Inv (va_up (va_up (va_up (va_up (va_up ca 49 c0) 48 c1) 47 c2) 46 c3) 45 c4) ci (va_up (va_up ma 3 m0) 14 m1) mi)) := by
  obtain ⟨tl, hkp, him, re, rv, r0, r1, r2, r3⟩ := h
  obtain ⟨n, sn, ln, F, tn, tk, nv, un, uk, uv, pn, wn, ⟨hn, hsn, hln, ok, wT, wU, hpn, hwn⟩, ⟨tc1, tc2, tc3, cf, cT, cU, tc7, tc8⟩, tm, mc, dc⟩ := id tl
  obtain ⟨tm1, tm2, tm3, tm4, tmT, tmU, tm7, tm8, tm9, tm10⟩ := id tm
  by_cases c : (0 : Int32) ≤ s1 ∧ s1 ≤ 3
  · have one : ∀ qq : Nat, qq < 4 → ∀ (bits size : Int32) (nums : Nat → Int32), RSh qq bits size nums (ma 12) (ma 13) (ma 14) → ∀ (R : Int32 → (Nat → Int32) → (Nat → Int32) → Prop), (bits = 0 → R (-1000000002) (upd (ma 3) 2 (ma 3 2 + 1)) (ma 14)) → (¬ bits = 0 → ¬ (0 ≤ s2 ∧ s2 ≤ size - 1) → R (-1000000001) (upd (ma 3) 1 (ma 3 1 + 1)) (ma 14)) → (∀ i, ¬ bits = 0 → (0 ≤ s2 ∧ s2 ≤ size - 1) → s2 = nI i → i < 40 → R 1 (ma 3) (upd (ma 14) (40 * qq + i) (lwM bits s3))) → wp_X8_put (nI qq) s2 s3 (ma 3) (ma 12) (ma 13) (ma 14) R := by
      intro qq hq bits size nums ⟨w1, w2, len, hl, w3, w4, w5⟩ R h1 h2 h3
      have c2 : (0 : Int32) ≤ nI qq ∧ nI qq ≤ 3 := by
        rw [fa_lit 0, fa_lit 3, li_nn (by decide) (by omega), li_nn (by omega) (by decide)]; omega
      unfold wp_X8_put
      simp only [e_isSheet8, e_within8, b2i_t c2, z10, false_implies, true_implies, not_true_eq_false, not_false_eq_true, true_and, and_true, forall_eq]
      rw [nI_clamp (by omega), ← w1, w4, ← w3, e_fin2, e_fin1]
      refine ⟨vp_in_nI hq (by decide), fun nz => ⟨vp_in_nI hq (by decide), ?_⟩, fun z => h1 z⟩
      by_cases d : (0 : Int32) ≤ s2 ∧ s2 ≤ size - 1
      · rw [b2i_t d]
        refine ⟨fun _ => ⟨vp_in_nI hq (by decide), ?_⟩, fun z => absurd z (by decide)⟩
        obtain ⟨i, hi, ei⟩ := soul_of40 (n := len) (by omega) (by rw [← w3]; exact d)
        have hR := h3 i nz d ei (by omega)
        subst ei
        rw [show (40 : Int32) * nI qq + nI i = nI (40 * qq + i) by rw [fa_lit 40, pk_mul, nI_add], nI_clamp (by omega)]
        unfold lwM at hR
        refine ⟨fun n8 => ⟨vp_in_nI hq (by decide), fun n16 => ⟨vp_in_nI (by omega) (by decide), ?_⟩, fun y16 => ?_⟩, fun y8 => ?_⟩
        · rw [if_neg n8, if_neg n16] at hR; exact hR
        · rw [if_neg n8, if_pos y16] at hR
          exact ⟨vp_in_nI (by omega) (by decide), hR⟩
        · rw [if_pos y8] at hR
          exact ⟨vp_in_nI (by omega) (by decide), hR⟩
      · rw [b2i_f d]
        exact ⟨fun z => absurd rfl z, fun _ => h2 nz d⟩
    unfold wp_X7_put wp_X7_rowOf
    simp only [e_within, e_miss, e_low, b2i_t c, z10, false_implies, true_implies, not_true_eq_false, not_false_eq_true, true_and, and_true, forall_eq]
    obtain ⟨qq, hq, rfl⟩ := sm_of (n := 3) (by decide) c
    refine ⟨vp_in_nI (by omega) (by decide), fun e => ?_, fun e => ?_, fun e => ?_, fun e => ?_⟩
    · have eq0 : qq = 0 := by rw [fa_lit 0, eq_nn (by omega) (by decide)] at e; exact e
      subst eq0
      by_cases z : ci 28 = 0
      · simp only [b2i_t z, z10, e_ref2, false_implies, true_implies, not_true_eq_false, not_false_eq_true, true_and, and_true, forall_eq]
        exact one 0 (by decide) _ _ _ r0 _ (fun _ => (by first | exact ⟨tl, hkp, him, re_upd re (k := 2) (by decide), rv, r0, r1, r2, r3⟩ | exact ⟨rfl, tl, hkp, him, re_upd re (k := 2) (by decide), rv, r0, r1, r2, r3⟩)) (fun y => absurd z y) (fun _ y => absurd z y)
      · by_cases d : (0 : Int32) ≤ s2 ∧ s2 ≤ ci 29 - 1
        · simp only [b2i_f z, b2i_t d, z00, z10, false_implies, true_implies, not_true_eq_false, not_false_eq_true, true_and, and_true, forall_eq]
          obtain ⟨_, _, len, hl, w3, _, _⟩ := id r0
          obtain ⟨i, hi, ei⟩ := soul_of40 (n := len) (by omega) (by rw [← w3]; exact d)
          have i40 : i < 40 := by omega
          subst ei
          refine ⟨vp_in_nI i40 (by decide), ?_⟩
          rw [nI_clamp (by omega)]
          refine one 0 (by decide) _ _ _ r0 _ (fun y => absurd y z) (fun _ y => absurd d y) (fun i2 _ _ e2 h2 => ?_)
          have ei : i = i2 := by rw [eq_nn (by omega) (by omega)] at e2; exact e2
          subst ei
          exact ⟨rfl, tl, hkp, him, re, rv, rs_put r0, rs_puo (q := 0) (by decide) i40 r1, rs_puo (q := 0) (by decide) i40 r2, rs_puo (q := 0) (by decide) i40 r3⟩
        · simp only [b2i_f z, b2i_f d, z00, e_ref1, false_implies, true_implies, not_true_eq_false, not_false_eq_true, true_and, and_true, forall_eq]
          exact one 0 (by decide) _ _ _ r0 _ (fun y => absurd y z) (fun _ _ => (by first | exact ⟨tl, hkp, him, re_upd re (k := 1) (by decide), rv, r0, r1, r2, r3⟩ | exact ⟨rfl, tl, hkp, him, re_upd re (k := 1) (by decide), rv, r0, r1, r2, r3⟩)) (fun _ _ y => absurd y d)
    · have eq0 : qq = 1 := by rw [fa_lit 1, eq_nn (by omega) (by decide)] at e; exact e
      subst eq0
      by_cases z : ci 30 = 0
      · simp only [b2i_t z, z10, e_ref2, false_implies, true_implies, not_true_eq_false, not_false_eq_true, true_and, and_true, forall_eq]
        exact one 1 (by decide) _ _ _ r1 _ (fun _ => (by first | exact ⟨tl, hkp, him, re_upd re (k := 2) (by decide), rv, r0, r1, r2, r3⟩ | exact ⟨rfl, tl, hkp, him, re_upd re (k := 2) (by decide), rv, r0, r1, r2, r3⟩)) (fun y => absurd z y) (fun _ y => absurd z y)
      · by_cases d : (0 : Int32) ≤ s2 ∧ s2 ≤ ci 31 - 1
        · simp only [b2i_f z, b2i_t d, z00, z10, false_implies, true_implies, not_true_eq_false, not_false_eq_true, true_and, and_true, forall_eq]
          obtain ⟨_, _, len, hl, w3, _, _⟩ := id r1
          obtain ⟨i, hi, ei⟩ := soul_of40 (n := len) (by omega) (by rw [← w3]; exact d)
          have i40 : i < 40 := by omega
          subst ei
          refine ⟨vp_in_nI i40 (by decide), ?_⟩
          rw [nI_clamp (by omega)]
          refine one 1 (by decide) _ _ _ r1 _ (fun y => absurd y z) (fun _ y => absurd d y) (fun i2 _ _ e2 h2 => ?_)
          have ei : i = i2 := by rw [eq_nn (by omega) (by omega)] at e2; exact e2
          subst ei
          exact ⟨rfl, tl, hkp, him, re, rv, rs_puo (q := 1) (by decide) i40 r0, rs_put r1, rs_puo (q := 1) (by decide) i40 r2, rs_puo (q := 1) (by decide) i40 r3⟩
        · simp only [b2i_f z, b2i_f d, z00, e_ref1, false_implies, true_implies, not_true_eq_false, not_false_eq_true, true_and, and_true, forall_eq]
          exact one 1 (by decide) _ _ _ r1 _ (fun y => absurd y z) (fun _ _ => (by first | exact ⟨tl, hkp, him, re_upd re (k := 1) (by decide), rv, r0, r1, r2, r3⟩ | exact ⟨rfl, tl, hkp, him, re_upd re (k := 1) (by decide), rv, r0, r1, r2, r3⟩)) (fun _ _ y => absurd y d)
    · have eq0 : qq = 2 := by rw [fa_lit 2, eq_nn (by omega) (by decide)] at e; exact e
      subst eq0
      by_cases z : ci 32 = 0
      · simp only [b2i_t z, z10, e_ref2, false_implies, true_implies, not_true_eq_false, not_false_eq_true, true_and, and_true, forall_eq]
        exact one 2 (by decide) _ _ _ r2 _ (fun _ => (by first | exact ⟨tl, hkp, him, re_upd re (k := 2) (by decide), rv, r0, r1, r2, r3⟩ | exact ⟨rfl, tl, hkp, him, re_upd re (k := 2) (by decide), rv, r0, r1, r2, r3⟩)) (fun y => absurd z y) (fun _ y => absurd z y)
      · by_cases d : (0 : Int32) ≤ s2 ∧ s2 ≤ ci 33 - 1
        · simp only [b2i_f z, b2i_t d, z00, z10, false_implies, true_implies, not_true_eq_false, not_false_eq_true, true_and, and_true, forall_eq]
          obtain ⟨_, _, len, hl, w3, _, _⟩ := id r2
          obtain ⟨i, hi, ei⟩ := soul_of40 (n := len) (by omega) (by rw [← w3]; exact d)
          have i40 : i < 40 := by omega
          subst ei
          refine ⟨vp_in_nI i40 (by decide), ?_⟩
          rw [nI_clamp (by omega)]
          refine one 2 (by decide) _ _ _ r2 _ (fun y => absurd y z) (fun _ y => absurd d y) (fun i2 _ _ e2 h2 => ?_)
          have ei : i = i2 := by rw [eq_nn (by omega) (by omega)] at e2; exact e2
          subst ei
          exact ⟨rfl, tl, hkp, him, re, rv, rs_puo (q := 2) (by decide) i40 r0, rs_puo (q := 2) (by decide) i40 r1, rs_put r2, rs_puo (q := 2) (by decide) i40 r3⟩
        · simp only [b2i_f z, b2i_f d, z00, e_ref1, false_implies, true_implies, not_true_eq_false, not_false_eq_true, true_and, and_true, forall_eq]
          exact one 2 (by decide) _ _ _ r2 _ (fun y => absurd y z) (fun _ _ => (by first | exact ⟨tl, hkp, him, re_upd re (k := 1) (by decide), rv, r0, r1, r2, r3⟩ | exact ⟨rfl, tl, hkp, him, re_upd re (k := 1) (by decide), rv, r0, r1, r2, r3⟩)) (fun _ _ y => absurd y d)
    · have eq0 : qq = 3 := by rw [fa_lit 3, eq_nn (by omega) (by decide)] at e; exact e
      subst eq0
      by_cases z : ci 34 = 0
      · simp only [b2i_t z, z10, e_ref2, false_implies, true_implies, not_true_eq_false, not_false_eq_true, true_and, and_true, forall_eq]
        exact one 3 (by decide) _ _ _ r3 _ (fun _ => (by first | exact ⟨tl, hkp, him, re_upd re (k := 2) (by decide), rv, r0, r1, r2, r3⟩ | exact ⟨rfl, tl, hkp, him, re_upd re (k := 2) (by decide), rv, r0, r1, r2, r3⟩)) (fun y => absurd z y) (fun _ y => absurd z y)
      · by_cases d : (0 : Int32) ≤ s2 ∧ s2 ≤ ci 35 - 1
        · simp only [b2i_f z, b2i_t d, z00, z10, false_implies, true_implies, not_true_eq_false, not_false_eq_true, true_and, and_true, forall_eq]
          obtain ⟨_, _, len, hl, w3, _, _⟩ := id r3
          obtain ⟨i, hi, ei⟩ := soul_of40 (n := len) (by omega) (by rw [← w3]; exact d)
          have i40 : i < 40 := by omega
          subst ei
          refine ⟨vp_in_nI i40 (by decide), ?_⟩
          rw [nI_clamp (by omega)]
          refine one 3 (by decide) _ _ _ r3 _ (fun y => absurd y z) (fun _ y => absurd d y) (fun i2 _ _ e2 h2 => ?_)
          have ei : i = i2 := by rw [eq_nn (by omega) (by omega)] at e2; exact e2
          subst ei
          exact ⟨rfl, tl, hkp, him, re, rv, rs_puo (q := 3) (by decide) i40 r0, rs_puo (q := 3) (by decide) i40 r1, rs_puo (q := 3) (by decide) i40 r2, rs_put r3⟩
        · simp only [b2i_f z, b2i_f d, z00, e_ref1, false_implies, true_implies, not_true_eq_false, not_false_eq_true, true_and, and_true, forall_eq]
          exact one 3 (by decide) _ _ _ r3 _ (fun y => absurd y z) (fun _ _ => (by first | exact ⟨tl, hkp, him, re_upd re (k := 1) (by decide), rv, r0, r1, r2, r3⟩ | exact ⟨rfl, tl, hkp, him, re_upd re (k := 1) (by decide), rv, r0, r1, r2, r3⟩)) (fun _ _ y => absurd y d)
  · unfold wp_X7_put wp_X8_put wp_X7_rowOf
    simp only [e_within, e_isSheet8, b2i_f c, z00, e_ref1, e_fin1, false_implies, true_implies, not_true_eq_false, not_false_eq_true, true_and, and_true, forall_eq]
    exact (by first | exact ⟨tl, hkp, him, re_upd re (k := 1) (by decide), rv, r0, r1, r2, r3⟩ | exact ⟨rfl, tl, hkp, him, re_upd re (k := 1) (by decide), rv, r0, r1, r2, r3⟩)
