theorem cpyN {f g : Nat → Int32} {x : Int32} {n j : Nat} (hx : x.toNatClampNeg = n) (h : j < n) : va_cpy f g (0 : Int32).toNatClampNeg (0 : Int32).toNatClampNeg x.toNatClampNeg j = f j := by
  rw [hx]
  show (if 0 ≤ j ∧ j < 0 + n then f (0 + (j - 0)) else g j) = f j
  rw [if_pos (by omega), Nat.zero_add, Nat.sub_zero]
theorem tr_cp {tn : Nat} {tk : Nat → Nat} {nv : Nat → Int32} {sz : Int32} {sg nu sg0 nu0 : Nat → Int32} (w : wfT tn tk nv) (T : TRc tn tk nv sz sg nu) : TRc tn tk nv sz (va_cpy sg sg0 (0 : Int32).toNatClampNeg (0 : Int32).toNatClampNeg (50 : Int32).toNatClampNeg) (va_cpy nu nu0 (0 : Int32).toNatClampNeg (0 : Int32).toNatClampNeg (50 : Int32).toNatClampNeg) := by
  have wl := w.1
  refine ⟨T.1, fun i hi => ?_⟩
  rw [cpyN (n := 50) rfl (by omega), cpyN (n := 50) rfl (by omega)]
  exact T.2 i hi
theorem s_cpS {L k : Nat} (hL : L < 2 ^ 31) (hk : k ≤ L) {x : Int32} {it0 it : Nat → Int32} {Q : Int32 → (Nat → Int32) → Prop} (h : ∀ w, (∀ i, i < k → w i = it i) → Q (nI k) w) : wp_X4_copy L x it0 (nI k) it Q := by
  unfold wp_X4_copy
  have e : jmin (Int32.ofNat L) (nI k) = nI k := by
    show jmin (nI L) (nI k) = nI k
    unfold jmin
    by_cases c : nI k < nI L
    · rw [if_pos c]
    · rw [if_neg c]
      rw [lt_nn (by omega) hL] at c
      rw [show k = L by omega]
  rw [e]
  rintro v rfl
  refine ⟨⟨by decide, by decide, ?_, ?_, ?_⟩, h _ (fun i hi => cpyN (nI_clamp (by omega)) hi)⟩
  · rw [fa_lit 0, lt_nn (by omega) (by decide)]; omega
  · rw [nI_clamp (by omega)]; show 0 + k ≤ L; omega
  · rw [nI_clamp (by omega)]; show 0 + k ≤ L; omega
theorem s_copyP {n sn ln : Nat} {F : Nat → Nat → Int32} {tn : Nat} {tk : Nat → Nat} {nv : Nat → Int32} {un : Nat} {uk : Nat → Nat} {uv : Nat → Int32} {pn wn : Nat} {size step loss msz dsz tsz wsz : Int32} {kind m at_ free gl de msg mnu dsg dnu : Nat → Int32}
    (ta : TA n sn ln F tn tk nv un uk uv pn wn) (tc : TC n sn ln F tn tk nv un uk uv pn wn size step loss kind m at_ free gl de msz msg mnu dsz dsg dnu tsz wsz)
    {pz oz x1 x2 x3 x4 x5 x6 x7 : Int32} {ti wi v1 v2 v3 v4 v5 v6 v7 v8 v9 v10 v11 v12 : Nat → Int32} {Q : Int32 → Int32 → (Nat → Int32) → (Nat → Int32) → Int32 → (Nat → Int32) → (Nat → Int32) → Int32 → Int32 → Int32 → (Nat → Int32) → (Nat → Int32) → (Nat → Int32) → (Nat → Int32) → (Nat → Int32) → (Nat → Int32) → Int32 → (Nat → Int32) → Int32 → (Nat → Int32) → Prop}
    (h : ∀ sg nu dg du k1 m1 a1 f1 g1 d1 t1 w1, TC n sn ln F tn tk nv un uk uv pn wn size step loss k1 m1 a1 f1 g1 d1 msz sg nu dsz dg du tsz wsz → (∀ i, i < pn → t1 i = ti i) → (∀ i, i < wn → w1 i = wi i) → Q oz msz sg nu dsz dg du size step loss k1 m1 a1 f1 g1 d1 tsz t1 wsz w1) :
    wp_X5_copy pz oz msz x1 msg v1 mnu v2 dsz x2 dsg v3 dnu v4 size step loss x3 x4 x5 kind v5 m v6 at_ v7 free v8 gl v9 de v10 x6 v11 tsz ti x7 v12 wsz wi Q := by
  obtain ⟨hn, hsn, hln, ok, wT, wU, hpn, hwn⟩ := ta
  obtain ⟨tc1, tc2, tc3, cf, cT, cU, tc7, tc8⟩ := tc
  unfold wp_X5_copy wp_X3_copy wp_X0_copy
  rw [tc7, tc8]
  refine s_cpS (by decide) hpn (fun t1 ht => s_cpS (by decide) hwn (fun w1 hw => ?_))
  rw [tc7, tc8] at h
  refine h _ _ _ _ _ _ _ _ _ _ _ _ ⟨tc1, tc2, tc3, fun i hi => ?_, tr_cp wT cT, tr_cp wU cU, rfl, rfl⟩ ht hw
  have l8 : i < 8 := by omega
  rw [cpy8 l8, cpy8 l8, cpy8 l8, cpy8 l8, cpy8 l8, cpy8 l8]
  exact cf i hi
theorem tm_ti {n sn ln : Nat} {F : Nat → Nat → Int32} {tn : Nat} {tk : Nat → Nat} {nv : Nat → Int32} {un : Nat} {uk : Nat → Nat} {uv : Nat → Int32} {pn wn : Nat} {z : Int32} {ti wi t1 w1 now : Nat → Int32} (h : TM n sn ln F tn tk nv un uk uv pn wn z ti wi now) (ht : ∀ i, i < pn → t1 i = ti i) (hw : ∀ i, i < wn → w1 i = wi i) : TM n sn ln F tn tk nv un uk uv pn wn z t1 w1 now := by
  obtain ⟨a1, a2, a3, a4, a5, a6, a7, a8, a9, a10⟩ := h
  exact ⟨a1, a2, a3, a4, a5, a6, a7, fun i hi => by rw [ht i hi]; exact a8 i hi, a9, fun i hi => by rw [hw i hi]; exact a10 i hi⟩
set_option maxHeartbeats 4000000 in
set_option maxRecDepth 100000 in
theorem op_image {ca : Nat → Nat → Int32} {ci : Nat → Int32} {ma : Nat → Nat → Int32} {mi : Nat → Int32} (h : Inv ca ci ma mi) : wp_X7_image (ci 0) (ci 9) (ci 1) (ci 2) (ci 10) (ca 0) (ca 16) (ca 1) (ca 17) (ci 3) (ci 11) (ca 3) (ca 19) (ca 4) (ca 20) (ci 4) (ci 5) (ci 6) (ci 12) (ci 13) (ci 14) (ca 6) (ca 22) (ca 7) (ca 23) (ca 8) (ca 24) (ca 9) (ca 25) (ca 10) (ca 26) (ca 11) (ca 27) (ci 15) (ca 30) (ci 7) (ca 14) (ci 16) (ca 31) (ci 8) (ca 15) (fun r1 c0 c1 c2 c3 c4 c5 c6 c7 c8 c9 c10 c11 c12 c13 c14 c15 c16 c17 c18 c19 c20 => wp_X8_image (mi 0) (ma 0) (ma 1) (fun r2 m0 m1 => r1 = r2 ∧ Inv (va_up (va_up (va_up (va_up (va_up (va_up (va_up (va_up (va_up (va_up (va_up (va_up ca 16 c3) 17 c4) 19 c6) 20 c7) 22 c11) 23 c12) 24 c13) 25 c14) 26 c15) 27 c16) 30 c18) 31 c20) (va_up (va_up (va_up (va_up (va_up (va_up (va_up (va_up (va_up ci 0 c0) 9 c1) 10 c2) 11 c5) 12 c8) 13 c9) 14 c10) 15 c17) 16 c19) (va_up ma 1 m1) (va_up mi 0 m0))) := by
  obtain ⟨tl, hkp, him, re, rv, r0, r1, r2, r3⟩ := h
  obtain ⟨n, sn, ln, F, tn, tk, nv, un, uk, uv, pn, wn, ta, tc, tm, mc, dc⟩ := id tl
  unfold wp_X7_image wp_X8_image
  refine s_copyP ta tc (fun sg nu dg du k1 m1 a1 f1 g1 d1 t1 w1 tc' ht hw => ?_)
  rintro v rfl
  refine m_copy (fun w2 hw2 => ?_)
  rintro v rfl
  rw [him]
  have tk' : TK (ci 1) (ci 4) (ci 5) (ci 6) k1 m1 a1 f1 g1 d1 (ci 2) sg nu (ci 3) dg du (ci 7) t1 (ci 8) w1 w2 := ⟨n, sn, ln, F, tn, tk, nv, un, uk, uv, pn, wn, ta, tc', tm_ti (tm_eq ta.1 ta.2.2.2.2.1 ta.2.2.2.2.2.1 ta.2.2.2.2.2.2.1 ta.2.2.2.2.2.2.2 tm hw2) ht hw⟩
  exact ⟨rfl, tl, fun _ => tk', rfl, re, rv, r0, r1, r2, r3⟩
theorem m_forget {mf df : Nat → Int32} {Q : (Nat → Int32) → (Nat → Int32) → Prop} (h : ∀ m d, (∀ j, j < 1728 → m j = 0) → (∀ j, j < 8000 → d j = 0) → Q m d) : wp_X8_forget mf df Q := by
  unfold wp_X8_forget
  refine pk_loop (fun k i s => lb_X8_forget_2 Q k (nI i) s df) (fun i s => ∀ j, j < i → s j = 0) 1728 0 mf (Nat.zero_le _) (fun j hj => absurd hj (by omega)) ?_ ?_
  · intro k m hm
    refine ⟨fun _ => ?_, fun c => absurd (Int32.le_refl _) c⟩
    refine pk_loop (fun k i s => lb_X8_forget_26 Q k (nI i) m s) (fun i s => ∀ j, j < i → s j = 0) 8000 0 df (Nat.zero_le _) (fun j hj => absurd hj (by omega)) ?_ ?_
    · intro k d hd
      exact ⟨fun _ => h m d hm hd, fun c => absurd (Int32.le_refl _) c⟩
    · intro k i d hi hd ih
      refine ⟨fun c => absurd c (nI_ge hi (by decide)), fun _ => ⟨vp_in_nI hi (by decide), ?_⟩⟩
      rw [nI_1, nI_clamp (by omega)]
      refine ih _ (fun j hj => ?_)
      by_cases e : j = i
      · subst e; rw [up_s]
      · rw [up_n e]; exact hd j (by omega)
  · intro k i m hi hm ih
    refine ⟨fun c => absurd c (nI_ge hi (by decide)), fun _ => ⟨vp_in_nI hi (by decide), ?_⟩⟩
    rw [nI_1, nI_clamp (by omega)]
    refine ih _ (fun j hj => ?_)
    by_cases e : j = i
    · subst e; rw [up_s]
    · rw [up_n e]; exact hm j (by omega)
theorem mc_0 {ME : Int32 → Int32 → Int32 → Int32} {m : Nat → Int32} (h : ∀ j, j < 1728 → m j = 0) : MC ME m := fun s hh c h1 h2 h3 => Or.inl (h _ (by omega))
theorem dc_0 {DE : Int32 → Int32 → Int32 → Int32} {d : Nat → Int32} (h : ∀ j, j < 8000 → d j = 0) : DC DE d := fun s f m h1 h2 h3 => Or.inl (h _ (by omega))
set_option maxHeartbeats 4000000 in
set_option maxRecDepth 100000 in
theorem op_restore {ca : Nat → Nat → Int32} {ci : Nat → Int32} {ma : Nat → Nat → Int32} {mi : Nat → Int32} (h : Inv ca ci ma mi) : wp_X7_restore (ci 0) (ca 49) (ci 1) (ci 9) (ci 10) (ci 2) (ca 16) (ca 0) (ca 17) (ca 1) (ci 11) (ci 3) (ca 19) (ca 3) (ca 20) (ca 4) (ci 12) (ci 13) (ci 14) (ci 4) (ci 5) (ci 6) (ca 22) (ca 6) (ca 23) (ca 7) (ca 24) (ca 8) (ca 25) (ca 9) (ca 26) (ca 10) (ca 27) (ca 11) (ci 7) (ca 14) (ci 15) (ca 30) (ci 8) (ca 15) (ci 16) (ca 31) (fun r1 c0 c1 c2 c3 c4 c5 c6 c7 c8 c9 c10 c11 c12 c13 c14 c15 c16 c17 c18 c19 c20 => wp_X8_restore (mi 0) (ma 3) (ma 1) (ma 0) (ma 4) (ma 5) (fun r2 m0 m1 m2 m3 => r1 = r2 ∧ Inv (va_up (va_up (va_up (va_up (va_up (va_up (va_up (va_up (va_up (va_up (va_up (va_up (va_up ca 49 c0) 0 c3) 1 c4) 3 c6) 4 c7) 6 c11) 7 c12) 8 c13) 9 c14) 10 c15) 11 c16) 14 c18) 15 c20) (va_up (va_up (va_up (va_up (va_up (va_up (va_up (va_up ci 1 c1) 2 c2) 3 c5) 4 c8) 5 c9) 6 c10) 7 c17) 8 c19) (va_up (va_up (va_up (va_up ma 3 m0) 0 m1) 4 m2) 5 m3) mi)) := by
  obtain ⟨tl, hkp, him, re, rv, r0, r1, r2, r3⟩ := h
  unfold wp_X7_restore wp_X8_restore
  refine ⟨fun nz => ?_, fun z => ?_⟩
  · obtain ⟨n, sn, ln, F, tn, tk, nv, un, uk, uv, pn, wn, ta, tc, tm⟩ := hkp nz
    refine s_copyP ta tc (fun sg nu dg du k1 m1 a1 f1 g1 d1 t1 w1 tc' ht hw => ?_)
    refine ⟨fun _ => m_copy (fun w2 hw2 => m_forget (fun mf df hm hd => ?_)), fun q => absurd q (by rw [← him]; exact nz)⟩
    have tm' := tm_ti (tm_eq ta.1 ta.2.2.2.2.1 ta.2.2.2.2.2.1 ta.2.2.2.2.2.2.1 ta.2.2.2.2.2.2.2 tm hw2) ht hw
    refine ⟨by rw [tc'.2.1, tm'.2.1], ?_⟩
    have tl' : TL (ci 9) (ci 12) (ci 13) (ci 14) k1 m1 a1 f1 g1 d1 (ci 10) sg nu (ci 11) dg du (ci 15) t1 (ci 16) w1 w2 mf df := ⟨n, sn, ln, F, tn, tk, nv, un, uk, uv, pn, wn, ta, tc', tm', mc_0 hm, dc_0 hd⟩
    exact ⟨tl', hkp, him, re, rv, r0, r1, r2, r3⟩
  · rw [e_ref2]
    refine ⟨fun q => absurd (by rw [← him]; exact z) q, fun _ => ?_⟩
    rw [e_fin2]
    exact ⟨rfl, tl, hkp, him, re_upd re (k := 2) (by decide), rv, r0, r1, r2, r3⟩
