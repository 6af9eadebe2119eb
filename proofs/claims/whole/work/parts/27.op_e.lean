set_option maxHeartbeats 4000000 in
set_option maxRecDepth 100000 in
theorem op_steps {ca : Nat → Nat → Int32} {ci : Nat → Int32} {ma : Nat → Nat → Int32} {mi : Nat → Int32} (h : Inv ca ci ma mi) (s1 : Int32) : wp_X7_steps s1 (ca 49) (ci 4) (ci 5) (ci 6) (ca 9) (ca 6) (ca 7) (ca 13) (ca 8) (ca 12) (ci 2) (ca 0) (ca 1) (ca 2) (ca 10) (ci 3) (ca 3) (ca 4) (ca 5) (ca 11) (fun r1 c0 c1 c2 c3 c4 c5 c6 c7 c8 => wp_X8_steps s1 (ma 3) (ma 0) (ma 6) (ma 4) (ma 8) (ma 9) (ma 5) (fun r2 m0 m1 m2 m3 m4 m5 m6 => r1 = r2 ∧ Inv (va_up (va_up (va_up (va_up (va_up (va_up (va_up (va_up ca 49 c0) 9 c2) 13 c3) 8 c4) 12 c5) 2 c6) 5 c7) 11 c8) (va_up ci 5 c1) (va_up (va_up (va_up (va_up (va_up (va_up (va_up ma 3 m0) 0 m1) 6 m2) 4 m3) 8 m4) 9 m5) 5 m6) mi)) := by
  obtain ⟨tl, hkp, him, re, rv, r0, r1, r2, r3⟩ := h
  obtain ⟨n, sn, ln, F, tn, tk, nv, un, uk, uv, pn, wn, ⟨hn, hsn, hln, ok, wT, wU, hpn, hwn⟩, ⟨tc1, tc2, tc3, cf, cT, cU, tc7, tc8⟩, tm, mc, dc⟩ := id tl
  obtain ⟨tm1, tm2, tm3, tm4, tmT, tmU, tm7, tm8, tm9, tm10⟩ := id tm
  unfold wp_X7_steps wp_X8_steps
  rw [tc1, tc2, tm2]
  by_cases c : (1 : Int32) ≤ s1 ∧ s1 ≤ 60
  · simp only [e_within, e_within8, b2i_t c, z10, false_implies, true_implies, not_true_eq_false, not_false_eq_true, true_and, and_true, forall_eq]
    obtain ⟨k, hk, rfl⟩ := sm_of (n := 60) (by decide) ⟨Int32.le_trans (by decide) c.1, c.2⟩
    rw [nI_add]
    refine ⟨fun le => ?_, fun le => ?_⟩
    · simp only [le, false_implies, true_implies, not_true_eq_false, not_false_eq_true, true_and, and_true, forall_eq]
      rw [fa_lit 9999, li_nn (by omega) (by decide)] at le
      refine s_pass hn (by omega) cT wT cU wU ok cf (fun f cr a hh p q d cf' => s_freeTog hn ?_)
      refine m_steps hn hk tmT wT tmU wU tm1 ok tm2 (by omega) tm3 mc dc (fun nw ah mf nm p2 df b1 b2 b3 b4 b5 => ?_)
      rw [tc3] at cf'
      refine m_sum3 hn b2.1 ⟨smI_cong (fun i hi => by rw [(cf' i hi).2.2.2.1, b2.2 i hi 3 (by decide)]), ?_⟩
      have ok' : okP n (itF (meV tn tk nv) (deV un uk uv) n (nI sn) (nI ln) F k) := ok_it (fun _ _ _ => sm_deV _ _ _ _ _ _) ok k
      have tm' := tm_gen (sn2 := sn + k) tm hpn hwn (rst_2 b3) b1 b2
      rw [nI_add]
      exact ⟨⟨n, sn + k, ln, _, tn, tk, nv, un, uk, uv, pn, wn, ⟨hn, le, hln, ok', wT, wU, hpn, hwn⟩, ⟨tc1, rfl, tc3, cf', cT, cU, tc7, tc8⟩, tm', b4, b5⟩, hkp, him, re, rv, r0, r1, r2, r3⟩
    · simp only [le, e_ref3, e_fin3, false_implies, true_implies, not_true_eq_false, not_false_eq_true, true_and, and_true, forall_eq]
      exact ⟨⟨n, sn, ln, F, tn, tk, nv, un, uk, uv, pn, wn, ⟨hn, hsn, hln, ok, wT, wU, hpn, hwn⟩, ⟨tc1, rfl, tc3, cf, cT, cU, tc7, tc8⟩, tm, mc, dc⟩, hkp, him, re_upd re (k := 3) (by decide), rv, r0, r1, r2, r3⟩
  · simp only [e_within, e_within8, b2i_f c, z00, e_ref1, e_fin1, false_implies, true_implies, not_true_eq_false, not_false_eq_true, true_and, and_true, forall_eq]
    exact ⟨⟨n, sn, ln, F, tn, tk, nv, un, uk, uv, pn, wn, ⟨hn, hsn, hln, ok, wT, wU, hpn, hwn⟩, ⟨tc1, rfl, tc3, cf, cT, cU, tc7, tc8⟩, tm, mc, dc⟩, hkp, him, re_upd re (k := 1) (by decide), rv, r0, r1, r2, r3⟩
/-- one more -/
def jnF (F : Nat → Nat → Int32) (n : Nat) (a b c : Int32) : Nat → Nat → Int32 := fun f j => if j = n then (if f = 0 then a else if f = 1 then b else if f = 2 then c else 0) else F f j
theorem jnF_n {F : Nat → Nat → Int32} {n f j : Nat} {a b c : Int32} (h : j ≠ n) : jnF F n a b c f j = F f j := by unfold jnF; rw [if_neg h]
theorem e_sAg {i f : Nat} {Q : Int32 → Prop} : wp_X8_soulAt (nI i) (nI f) Q = Q (nI (6 + 6 * i + f)) := by
  unfold wp_X8_soulAt
  rw [fa_lit 6, pk_mul, nI_add, nI_add]
theorem m_comes {n : Nat} (hn : n < 8) {x y : Int32} {now : Nat → Int32} (h1 : now 1 = nI n) {Q : Int32 → (Nat → Int32) → Prop} (h : ∀ w, w 1 = nI (n + 1) → (∀ j, j ≠ 1 → (j < 6 + 6 * n ∨ 6 + 6 * n + 6 ≤ j) → w j = now j) → w (6 + 6 * n + 0) = x / 10 → w (6 + 6 * n + 1) = jrem x 10 → w (6 + 6 * n + 2) = y → w (6 + 6 * n + 3) = 0 → w (6 + 6 * n + 4) = 0 → w (6 + 6 * n + 5) = 0 → Q (nI n) w) : wp_X8_soulComes x y now Q := by
  unfold wp_X8_soulComes
  rw [h1]
  rintro v rfl
  refine pk_loop (fun k i s => lb_X8_soulComes_10 x y Q k (nI n) (nI i) s) (fun i w => (∀ j, (j < 6 + 6 * n ∨ 6 + 6 * n + i ≤ j) → w j = now j) ∧ ∀ f, f < i → w (6 + 6 * n + f) = 0) 6 0 now (Nat.zero_le _) ⟨fun _ _ => rfl, fun f hf => absurd hf (by omega)⟩ ?_ ?_
  · rintro k w ⟨a1, a2⟩
    refine ⟨fun _ => ?_, fun c => absurd (Int32.le_refl _) c⟩
    rw [e_sA0]
    rintro v1 rfl
    refine ⟨vp_in_nI (by omega) (by decide), ?_⟩
    rw [e_sA1]
    rintro v2 rfl
    refine ⟨vp_in_nI (by omega) (by decide), ?_⟩
    rw [e_sA2]
    refine ⟨vp_in_nI (by omega) (by decide), ?_⟩
    simp only [nI_clamp (show 6 + 6 * n + 0 < 2 ^ 31 by omega), nI_clamp (show 6 + 6 * n + 1 < 2 ^ 31 by omega), nI_clamp (show 6 + 6 * n + 2 < 2 ^ 31 by omega)]
    rintro v3 rfl
    rw [up_n (by omega), up_n (by omega), up_n (by omega), a1 1 (by omega), h1, nI_1]
    refine h _ up_s (fun j h1 h2 => ?_) ?_ ?_ ?_ ?_ ?_ ?_
    · rw [up_n h1, up_n (by omega), up_n (by omega), up_n (by omega)]; exact a1 j h2
    · rw [up_n (by omega), up_n (by omega), up_n (by omega), up_s]
    · rw [up_n (by omega), up_n (by omega), up_s]
    · rw [up_n (by omega), up_s]
    · rw [up_n (by omega), up_n (by omega), up_n (by omega), up_n (by omega)]; exact a2 3 (by decide)
    · rw [up_n (by omega), up_n (by omega), up_n (by omega), up_n (by omega)]; exact a2 4 (by decide)
    · rw [up_n (by omega), up_n (by omega), up_n (by omega), up_n (by omega)]; exact a2 5 (by decide)
  · rintro k i w hi ⟨a1, a2⟩ ih
    refine ⟨fun c => absurd c (nI_ge hi (by decide)), fun _ => ?_⟩
    rw [e_sAg]
    refine ⟨vp_in_nI (by omega) (by decide), ?_⟩
    rw [nI_1, nI_clamp (by omega)]
    refine ih _ ⟨fun j hj => by rw [up_n (by omega)]; exact a1 j (by omega), fun f hf => ?_⟩
    by_cases e : f = i
    · subst e; rw [up_s]
    · rw [up_n (by omega)]; exact a2 f (by omega)
set_option maxHeartbeats 4000000 in
set_option maxRecDepth 100000 in
theorem op_soul {ca : Nat → Nat → Int32} {ci : Nat → Int32} {ma : Nat → Nat → Int32} {mi : Nat → Int32} (h : Inv ca ci ma mi) (s1 : Int32) (s2 : Int32) : wp_X7_soul s1 s2 (ca 49) (ci 4) (ca 6) (ca 7) (ca 8) (ca 9) (ca 10) (ca 11) (fun r1 c0 c1 c2 c3 c4 c5 c6 c7 => wp_X8_soul s1 s2 (ma 3) (ma 0) (fun r2 m0 m1 => r1 = r2 ∧ Inv (va_up (va_up (va_up (va_up (va_up (va_up (va_up ca 49 c0) 6 c2) 7 c3) 8 c4) 9 c5) 10 c6) 11 c7) (va_up ci 4 c1) (va_up (va_up ma 3 m0) 0 m1) mi)) := by
  obtain ⟨tl, hkp, him, re, rv, r0, r1, r2, r3⟩ := h
  obtain ⟨n, sn, ln, F, tn, tk, nv, un, uk, uv, pn, wn, ⟨hn, hsn, hln, ok, wT, wU, hpn, hwn⟩, ⟨tc1, tc2, tc3, cf, cT, cU, tc7, tc8⟩, tm, mc, dc⟩ := id tl
  obtain ⟨tm1, tm2, tm3, tm4, tmT, tmU, tm7, tm8, tm9, tm10⟩ := id tm
  unfold wp_X7_soul wp_X8_soul lb_X7_soul_14 lb_X8_soul_14
  rw [tc1, tm1.1]
  by_cases c : (0 : Int32) ≤ s1 ∧ s1 ≤ 69
  · by_cases d : (0 : Int32) ≤ s2 ∧ s2 ≤ 7
    · simp only [e_isKM, e_isKM8, e_isStreet, e_isStreet8, b2i_t c, b2i_t d, z10, false_implies, true_implies, not_true_eq_false, not_false_eq_true, true_and, and_true, forall_eq]
      obtain ⟨k1, k2⟩ := km_ok c
      have k3 : sm s2 7 := sm_of (by decide) d
      by_cases l : n < 8
      · have lt : nI n < (8 : Int32) := by rw [fa_lit 8, lt_nn (by omega) (by decide)]; exact l
        have ne : ¬ nI n = (8 : Int32) := by rw [fa_lit 8, eq_nn (by omega) (by decide)]; omega
        simp only [lt, ne, false_implies, true_implies, not_true_eq_false, not_false_eq_true, true_and, and_true, forall_eq]
        unfold wp_X0_join
        rintro v rfl
        refine s_turnInto (n := n + 1) (by omega) (by omega) ?_
        have i8n : vp_in (nI n) 8 := vp_in_nI (by omega) (by decide)
        refine ⟨i8n, i8n, i8n, i8n, ?_⟩
        rw [nI_clamp (by omega), nI_1]
        refine m_comes l tm1.1 (fun w w1 wr g0 g1 g2 g3 g4 g5 => ⟨rfl, ?_⟩)
        obtain ⟨b0, b1, b2, b3, b4, b5⟩ := cf_iff.mp cf
        have up : ∀ (a : Nat → Int32) (f : Nat) (v : Int32), (∀ j, j < n → a j = F f j) → jnF F n (s1 / 10) (jrem s1 10) s2 f n = v → ∀ j, j < n + 1 → upd a n v j = jnF F n (s1 / 10) (jrem s1 10) s2 f j := fun a f v h1 h2 j hj => by
          by_cases e : j = n
          · subst e; rw [up_s, h2]
          · rw [up_n e, jnF_n e]; exact h1 j (by omega)
        have cf' : CF (n + 1) (jnF F n (s1 / 10) (jrem s1 10) s2) (upd (ca 6) n (s1 / 10)) (upd (ca 7) n (jrem s1 10)) (upd (ca 8) n s2) (upd (ca 9) n 0) (upd (ca 10) n 0) (upd (ca 11) n 0) := cf_iff.mpr ⟨up _ _ _ b0 (by simp [jnF]), up _ _ _ b1 (by simp [jnF]), up _ _ _ b2 (by simp [jnF]), up _ _ _ b3 (by simp [jnF]), up _ _ _ b4 (by simp [jnF]), up _ _ _ b5 (by simp [jnF])⟩
        have ok' : okP (n + 1) (jnF F n (s1 / 10) (jrem s1 10) s2) := by
          intro j hj
          by_cases e : j = n
          · subst e
            have z : ∀ b, sm (0 : Int32) b := fun b => ⟨0, Nat.zero_le _, rfl⟩
            exact ⟨by simpa [jnF] using k1, by simpa [jnF] using k2, by simpa [jnF] using k3, by simpa [jnF] using z 99, by simpa [jnF] using z 1, by simpa [jnF] using z 9999⟩
          · simp only [jnF_n e]
            exact ok j (by omega)
        have tm' := tm_gen (n2 := n + 1) (F2 := jnF F n (s1 / 10) (jrem s1 10) s2) (sn2 := sn) (now2 := w) tm hpn hwn (fun j hj => wr j (by omega) (by omega)) ((wr 0 (by omega) (by omega)).trans tm2) ⟨w1, fun i hi f hf => by
          by_cases e : i = n
          · subst e
            match f, hf with
            | 0, _ => rw [g0]; simp [jnF]
            | 1, _ => rw [g1]; simp [jnF]
            | 2, _ => rw [g2]; simp [jnF]
            | 3, _ => rw [g3]; simp [jnF]
            | 4, _ => rw [g4]; simp [jnF]
            | 5, _ => rw [g5]; simp [jnF]
          · rw [jnF_n e, wr _ (by omega) (by omega)]; exact tm1.2 i (by omega) f hf⟩
        exact ⟨⟨n + 1, sn, ln, _, tn, tk, nv, un, uk, uv, pn, wn, ⟨by omega, hsn, hln, ok', wT, wU, hpn, hwn⟩, ⟨rfl, tc2, tc3, cf', cT, cU, tc7, tc8⟩, tm', mc, dc⟩, hkp, him, re, rv, r0, r1, r2, r3⟩
      · have en : n = 8 := by omega
        subst en
        simp +decide only [e_ref4, e_fin4, false_implies, true_implies, not_true_eq_false, not_false_eq_true, true_and, and_true, forall_eq]
        exact ⟨⟨8, sn, ln, F, tn, tk, nv, un, uk, uv, pn, wn, ⟨hn, hsn, hln, ok, wT, wU, hpn, hwn⟩, ⟨rfl, tc2, tc3, cf, cT, cU, tc7, tc8⟩, tm, mc, dc⟩, hkp, him, re_upd re (k := 4) (by decide), rv, r0, r1, r2, r3⟩
    · simp only [e_isKM, e_isKM8, e_isStreet, e_isStreet8, b2i_t c, b2i_f d, z10, z00, e_ref1, e_fin1, false_implies, true_implies, not_true_eq_false, not_false_eq_true, true_and, and_true, forall_eq]
      exact ⟨⟨n, sn, ln, F, tn, tk, nv, un, uk, uv, pn, wn, ⟨hn, hsn, hln, ok, wT, wU, hpn, hwn⟩, ⟨rfl, tc2, tc3, cf, cT, cU, tc7, tc8⟩, tm, mc, dc⟩, hkp, him, re_upd re (k := 1) (by decide), rv, r0, r1, r2, r3⟩
  · simp only [e_isKM, e_isKM8, b2i_f c, z00, e_ref1, e_fin1, false_implies, true_implies, not_true_eq_false, not_false_eq_true, true_and, and_true, forall_eq]
    exact ⟨⟨n, sn, ln, F, tn, tk, nv, un, uk, uv, pn, wn, ⟨hn, hsn, hln, ok, wT, wU, hpn, hwn⟩, ⟨rfl, tc2, tc3, cf, cT, cU, tc7, tc8⟩, tm, mc, dc⟩, hkp, him, re_upd re (k := 1) (by decide), rv, r0, r1, r2, r3⟩
