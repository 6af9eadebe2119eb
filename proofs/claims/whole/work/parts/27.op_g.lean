theorem bvf (v : BitVec 64) (s : Nat) (hs : s ≤ 56) : (v >>> s).signExtend 32 &&& 255#32 = ((v.sshiftRight s) &&& 255#64).signExtend 32 := by
  apply BitVec.eq_of_getLsbD_eq
  intro j hj
  have e : ∀ w, (BitVec.ofNat w 255).getLsbD j = (decide (j < w) && Nat.testBit 255 j) := fun w => BitVec.getLsbD_ofNat _ _ _
  have t : Nat.testBit 255 j = decide (j < 8) := by
    rw [show 255 = 2 ^ 8 - 1 from rfl, Nat.testBit_two_pow_sub_one]
  rw [BitVec.getLsbD_and, BitVec.getLsbD_signExtend, BitVec.getLsbD_signExtend, BitVec.getLsbD_and, BitVec.getLsbD_ushiftRight, BitVec.getLsbD_sshiftRight, e, e, t]
  by_cases h8 : j < 8
  · have h1 : j < 64 := by omega
    have h2 : ¬ 64 ≤ j := by omega
    have h3 : s + j < 64 := by omega
    simp [h8, hj, h1, h2, h3]
  · have h1 : j < 64 := by omega
    have h2 : ¬ 64 ≤ j := by omega
    simp [h8, hj, h1, h2]
theorem fd_bv {x : Int64} {i : Nat} (hi : i < 8) : ((jlushr x (8 * nI i)).toInt32) &&& 255 = ((x >>> ((8 * nI i).toInt64 &&& 63)) &&& 255).toInt32 := by
  apply Int32.toBitVec_inj.1
  match i, hi with
  | 0, _ => exact bvf x.toBitVec 0 (by decide)
  | 1, _ => exact bvf x.toBitVec 8 (by decide)
  | 2, _ => exact bvf x.toBitVec 16 (by decide)
  | 3, _ => exact bvf x.toBitVec 24 (by decide)
  | 4, _ => exact bvf x.toBitVec 32 (by decide)
  | 5, _ => exact bvf x.toBitVec 40 (by decide)
  | 6, _ => exact bvf x.toBitVec 48 (by decide)
  | 7, _ => exact bvf x.toBitVec 56 (by decide)
theorem sm_and {y : Int32} : sm (y &&& 255) 255 := by
  refine ⟨(y &&& 255).toUInt32.toNat, ?_, ?_⟩
  · show (y.toBitVec &&& 255#32).toNat ≤ 255
    rw [BitVec.toNat_and]
    exact Nat.and_le_right
  · show (y &&& 255) = (UInt32.ofNat (y &&& 255).toUInt32.toNat).toInt32
    rw [UInt32.ofNat_toNat]
    rfl
/-- a byte of the long -/
def byt (x : Int64) (i : Nat) : Int32 := ((jlushr x (8 * nI i)).toInt32) &&& 255
theorem s_add {LEN : Nat} {v : Int32} {k : Nat} (hk : k < LEN) (hL : LEN < 2 ^ 31) {it : Nat → Int32} {Q : Int32 → (Nat → Int32) → Prop} (h : Q (nI (k + 1)) (upd it k v)) : wp_X4_add v LEN (nI k) it Q := by
  unfold wp_X4_add
  refine ⟨fun c => absurd c (nI_ge hk hL), fun _ => ⟨vp_in_nI hk hL, ?_⟩⟩
  rintro v2 rfl
  rw [nI_1, nI_clamp (by omega)]
  exact h
theorem s_feed {x : Int64} {pn k : Nat} (hk : k ≤ 8) (hp : pn + k ≤ 50) {rf it : Nat → Int32} {Q : Int32 → (Nat → Int32) → Int32 → (Nat → Int32) → Prop} (h : ∀ w, (∀ j, j < pn → w j = it j) → (∀ j, j < k → w (pn + j) = byt x j) → Q (nI (pn + k)) rf (nI (pn + k)) w) : ∃ n, lb_X7_feed_42 x (nI k) Q n 0 rf (nI pn) it := by
  refine pk_loop (fun n i (s : Int32 × (Nat → Int32)) => lb_X7_feed_42 x (nI k) Q n (nI i) rf s.1 s.2) (fun i s => s.1 = nI (pn + i) ∧ (∀ j, j < pn → s.2 j = it j) ∧ ∀ j, j < i → s.2 (pn + j) = byt x j) k 0 (nI pn, it) (Nat.zero_le _) ⟨rfl, fun _ _ => rfl, fun j hj => absurd hj (by omega)⟩ ?_ ?_
  · rintro n ⟨y, w⟩ ⟨a1, a2, a3⟩
    simp only at a1 a2 a3
    subst a1
    exact ⟨fun _ => h w a2 a3, fun c => absurd (Int32.le_refl _) c⟩
  · rintro n i ⟨y, w⟩ hi ⟨a1, a2, a3⟩ ih
    simp only at a1 a2 a3
    subst a1
    refine ⟨fun c => absurd c (nI_ge hi (by omega)), fun _ => ?_⟩
    refine s_add (by omega) (by decide) ?_
    rw [nI_1]
    refine ih (nI (pn + i + 1), upd w (pn + i) (byt x i)) ⟨rfl, fun j hj => ?_, fun j hj => ?_⟩
    · show upd w (pn + i) (byt x i) j = it j
      rw [up_n (by omega)]; exact a2 j hj
    · show upd w (pn + i) (byt x i) (pn + j) = byt x j
      by_cases e : j = i
      · subst e; rw [up_s]
      · rw [up_n (by omega)]; exact a3 j (by omega)
theorem m_feed {x : Int64} {pn k : Nat} (hk : k ≤ 8) (hp : pn + k ≤ 50) {er now : Nat → Int32} (h4 : now 4 = nI pn) {Q : Int32 → (Nat → Int32) → (Nat → Int32) → Prop} (h : ∀ w, w 4 = nI (pn + k) → (∀ j, j ≠ 4 → (j < 54 + pn ∨ 54 + pn + k ≤ j) → w j = now j) → (∀ j, j < k → w (54 + pn + j) = byt x j) → Q (nI (pn + k)) er w) : ∃ n, lb_X8_feed_40 x (nI k) Q n 0 er now := by
  refine pk_loop (fun n i s => lb_X8_feed_40 x (nI k) Q n (nI i) er s) (fun i s => s 4 = nI (pn + i) ∧ (∀ j, j ≠ 4 → (j < 54 + pn ∨ 54 + pn + i ≤ j) → s j = now j) ∧ ∀ j, j < i → s (54 + pn + j) = byt x j) k 0 now (Nat.zero_le _) ⟨h4, fun _ _ _ => rfl, fun j hj => absurd hj (by omega)⟩ ?_ ?_
  · rintro n w ⟨a1, a2, a3⟩
    refine ⟨fun _ => ?_, fun c => absurd (Int32.le_refl _) c⟩
    rw [a1]
    exact h w a1 a2 a3
  · rintro n i w hi ⟨a1, a2, a3⟩ ih
    refine ⟨fun c => absurd c (nI_ge hi (by omega)), fun _ => ?_⟩
    rintro v rfl
    rw [← fd_bv (show i < 8 by omega), a1, fa_lit 54, nI_add]
    refine ⟨vp_in_nI (by omega) (by decide), ?_⟩
    rintro v2 rfl
    rw [nI_clamp (by omega), up_n (by omega), a1, nI_1, nI_1]
    refine ih _ ⟨up_s, fun j h1 h2 => ?_, fun j hj => ?_⟩
    · rw [up_n h1, up_n (by omega)]; exact a2 j h1 (by omega)
    · rw [up_n (by omega)]
      by_cases e : j = i
      · subst e
        rw [show 54 + pn + j = 54 + (pn + j) by omega, up_s]
        rfl
      · rw [up_n (by omega)]; exact a3 j (by omega)
set_option maxHeartbeats 4000000 in
set_option maxRecDepth 100000 in
theorem op_feed {ca : Nat → Nat → Int32} {ci : Nat → Int32} {ma : Nat → Nat → Int32} {mi : Nat → Int32} (h : Inv ca ci ma mi) (s1 : Int64) (s2 : Int32) : wp_X7_feed s1 s2 (ca 49) (ci 7) (ca 14) (fun r1 c0 c1 c2 => wp_X8_feed s1 s2 (ma 3) (ma 0) (fun r2 m0 m1 => r1 = r2 ∧ Inv (va_up (va_up ca 49 c0) 14 c2) (va_up ci 7 c1) (va_up (va_up ma 3 m0) 0 m1) mi)) := by
  obtain ⟨tl, hkp, him, re, rv, r0, r1, r2, r3⟩ := h
  obtain ⟨n, sn, ln, F, tn, tk, nv, un, uk, uv, pn, wn, ⟨hn, hsn, hln, ok, wT, wU, hpn, hwn⟩, ⟨tc1, tc2, tc3, cf, cT, cU, tc7, tc8⟩, tm, mc, dc⟩ := id tl
  obtain ⟨tm1, tm2, tm3, tm4, tmT, tmU, tm7, tm8, tm9, tm10⟩ := id tm
  unfold wp_X7_feed wp_X8_feed
  rw [tc7, tm7]
  by_cases c : (1 : Int32) ≤ s2 ∧ s2 ≤ 8
  · simp only [e_within, e_within8, b2i_t c, z10, false_implies, true_implies, not_true_eq_false, not_false_eq_true, true_and, and_true, forall_eq]
    obtain ⟨k, hk, rfl⟩ := sm_of (n := 8) (by decide) ⟨Int32.le_trans (by decide) c.1, c.2⟩
    rw [nI_add]
    refine ⟨fun le => ?_, fun le => ?_⟩
    · simp only [le, false_implies, true_implies, not_true_eq_false, not_false_eq_true, true_and, and_true, forall_eq]
      rw [fa_lit 50, li_nn (by omega) (by decide)] at le
      refine s_feed hk le (fun w a1 a2 => m_feed hk le tm7 (fun w2 b1 b2 b3 => ⟨rfl, ?_⟩))
      have tm' : TM n sn ln F tn tk nv un uk uv (pn + k) wn (ci 1) w (ca 15) w2 := by
        refine ⟨⟨by rw [b2 _ (by omega) (by omega)]; exact tm1.1, fun i hi f hf => by rw [b2 _ (by omega) (by omega)]; exact tm1.2 i hi f hf⟩, by rw [b2 _ (by omega) (by omega)]; exact tm2, by rw [b2 _ (by omega) (by omega)]; exact tm3, by rw [b2 _ (by omega) (by omega)]; exact tm4, ⟨by rw [b2 _ (by omega) (by omega)]; exact tmT.1, fun i hi => by rw [b2 _ (by omega) (by omega)]; exact tmT.2 i hi⟩, ⟨by rw [b2 _ (by omega) (by omega)]; exact tmU.1, fun i hi => by rw [b2 _ (by omega) (by omega)]; exact tmU.2 i hi⟩, b1, fun i hi => ?_, by rw [b2 _ (by omega) (by omega)]; exact tm9, fun i hi => by rw [b2 _ (by omega) (by omega)]; exact tm10 i hi⟩
        by_cases e : i < pn
        · rw [a1 i e, b2 _ (by omega) (by omega)]; exact tm8 i e
        · obtain ⟨j, rfl⟩ : ∃ j, i = pn + j := ⟨i - pn, by omega⟩
          rw [a2 j (by omega), ← Nat.add_assoc, b3 j (by omega)]
          exact ⟨rfl, sm_and⟩
      exact ⟨⟨n, sn, ln, F, tn, tk, nv, un, uk, uv, pn + k, wn, ⟨hn, hsn, hln, ok, wT, wU, le, hwn⟩, ⟨tc1, tc2, tc3, cf, cT, cU, rfl, tc8⟩, tm', mc, dc⟩, hkp, him, re, rv, r0, r1, r2, r3⟩
    · simp only [le, e_ref4, e_fin4, false_implies, true_implies, not_true_eq_false, not_false_eq_true, true_and, and_true, forall_eq]
      exact ⟨⟨n, sn, ln, F, tn, tk, nv, un, uk, uv, pn, wn, ⟨hn, hsn, hln, ok, wT, wU, hpn, hwn⟩, ⟨tc1, tc2, tc3, cf, cT, cU, rfl, tc8⟩, tm, mc, dc⟩, hkp, him, re_upd re (k := 4) (by decide), rv, r0, r1, r2, r3⟩
  · simp only [e_within, e_within8, b2i_f c, z00, e_ref1, e_fin1, false_implies, true_implies, not_true_eq_false, not_false_eq_true, true_and, and_true, forall_eq]
    exact ⟨⟨n, sn, ln, F, tn, tk, nv, un, uk, uv, pn, wn, ⟨hn, hsn, hln, ok, wT, wU, hpn, hwn⟩, ⟨tc1, tc2, tc3, cf, cT, cU, rfl, tc8⟩, tm, mc, dc⟩, hkp, him, re_upd re (k := 1) (by decide), rv, r0, r1, r2, r3⟩
