def cnP (bs : Nat → Int32) (pn p : Nat) (y : Int32) (q : Nat) : Prop := (nxt bs pn p = 42 ∧ y = 20007 ∧ q = p + 1) ∨ (¬ nxt bs pn p = 42 ∧ nxt bs pn p = 47 ∧ y = 20008 ∧ q = p + 1) ∨ (¬ nxt bs pn p = 42 ∧ ¬ nxt bs pn p = 47 ∧ nxt bs pn p = 37 ∧ y = 20009 ∧ q = p + 1) ∨ (¬ nxt bs pn p = 42 ∧ ¬ nxt bs pn p = 47 ∧ ¬ nxt bs pn p = 37 ∧ y = 0 ∧ q = p)
theorem ch_cnP {pn : Nat} (hpn : pn ≤ 50) {bs now : Nat → Int32} (e4 : now 4 = nI pn) (eb : ∀ i, i < pn → bs i = now (54 + i)) {p : Nat} (hp : p ≤ pn) {L : Int32 → Int32 → Prop} (h : ∀ y q, cnP bs pn p y q → L y (nI q)) : wp_X8_takes 42 (nI p) 0 now (fun r0 o0 => (r0 = 0 → wp_X8_takes 47 o0 0 now (fun r1 o1 => (r1 = 0 → wp_X8_takes 37 o1 0 now (fun r2 o2 => (r2 = 0 → L 0 o2) ∧ (¬ r2 = 0 → L 20009 o2))) ∧ (¬ r1 = 0 → L 20008 o1))) ∧ (¬ r0 = 0 → L 20007 o0)) := by
  exact m_takes hpn hp e4 eb (fun c => ⟨fun z => absurd z (by decide), fun _ => h _ _ (Or.inl ⟨c, rfl, rfl⟩)⟩) (fun n0 => ⟨fun _ => m_takes hpn hp e4 eb (fun c => ⟨fun z => absurd z (by decide), fun _ => h _ _ (Or.inr (Or.inl ⟨n0, c, rfl, rfl⟩))⟩) (fun n1 => ⟨fun _ => m_takes hpn hp e4 eb (fun c => ⟨fun z => absurd z (by decide), fun _ => h _ _ (Or.inr (Or.inr (Or.inl ⟨n0, n1, c, rfl, rfl⟩)))⟩) (fun n2 => ⟨fun _ => h _ _ (Or.inr (Or.inr (Or.inr (⟨n0, n1, n2, rfl, rfl⟩)))), fun z => absurd rfl z⟩), fun z => absurd rfl z⟩), fun z => absurd rfl z⟩)
theorem cw_cnP {now : Nat → Int32} {a : Int32} {L : Int32 → Int32 → Prop} (h : L 0 a) : wp_X8_takes 42 a 1 now (fun r0 o0 => (r0 = 0 → wp_X8_takes 47 o0 1 now (fun r1 o1 => (r1 = 0 → wp_X8_takes 37 o1 1 now (fun r2 o2 => (r2 = 0 → L 0 o2) ∧ (¬ r2 = 0 → L 20009 o2))) ∧ (¬ r1 = 0 → L 20008 o1))) ∧ (¬ r0 = 0 → L 20007 o0)) := m_takesW (by decide) ⟨fun _ => m_takesW (by decide) ⟨fun _ => m_takesW (by decide) ⟨fun _ => h, fun z => absurd rfl z⟩, fun z => absurd rfl z⟩, fun z => absurd rfl z⟩
theorem lp_readProduct {R0 R1 : CTy} {S0 S1 : MTy} {pn : Nat} (hpn : pn ≤ 50) {bs now : Nat → Int32} {fn us op : Int32} (e4 : now 4 = nI pn) (eb : ∀ i, i < pn → bs i = now (54 + i)) (ls : LSo (wp_X1_readSingle R0 R1) (wp_X8_one S0 S1) pn bs now fn us op) {p0 tn0 : Nat} {tk0 : Nat → Nat} {nv0 : Nat → Int32} :
    ∀ r p tn tk nv, pn ≤ p + r → p ≤ pn → tn ≤ p → okR p0 tn0 tk0 nv0 p tn tk nv → ∃ (fine : Bool) (p2 tn2 : Nat) (tk2 : Nat → Nat) (nv2 : Nat → Int32), p ≤ p2 ∧ p2 ≤ pn ∧ (fine = true → okR p0 tn0 tk0 nv0 p2 tn2 tk2 nv2) ∧
      (∀ i, i ≤ p → ∀ (sg nu : Nat → Int32) (Q : Int32 → Int32 → Int32 → (Nat → Int32) → (Nat → Int32) → Prop), tokC tn tk nv sg nu → (fine = true → ∀ sg2 nu2, tokC tn2 tk2 nv2 sg2 nu2 → Q 1 (nI p2) (nI tn2) sg2 nu2) → (fine = false → ∀ t sg2 nu2, t ≤ 50 → Q 0 (nI p2) (nI t) sg2 nu2) → lb_X1_readProduct_8 R0 R1 op fn (nI pn) bs Q (50 - i + 1) 1 (nI i) (nI p) (nI tn) sg nu) ∧
      (∀ (code : Nat → Int32) (Q : Int32 → Int32 → Int32 → Int32 → (Nat → Int32) → Prop), tokM tn tk nv code → (fine = true → ∀ code2, tokM tn2 tk2 nv2 code2 → Q (nI p2) op 0 (nI tn2) code2) → (fine = false → ∀ o2 c2 code2, Q (nI p2) o2 1 c2 code2) → ∀ y q, cnP bs pn p y q → lb_X8_product_51 S0 S1 us now Q (r + 1 + 1) y (nI q) op 0 (nI tn) code) := by
  intro r
  induction r with
  | zero =>
    intro p tn tk nv hr hp ht ok
    have en : nxt bs pn p = -1 := if_neg (by omega)
    have c0 : ¬ nxt bs pn p = 42 := fun c => absurd (en.symm.trans c) (by decide)
    have c1 : ¬ nxt bs pn p = 47 := fun c => absurd (en.symm.trans c) (by decide)
    have c2 : ¬ nxt bs pn p = 37 := fun c => absurd (en.symm.trans c) (by decide)
    refine ⟨true, p, tn, tk, nv, Nat.le_refl _, hp, fun _ => ok, fun i hi sg nu Q hs h1 _ => ?_, fun code Q hc h1 _ y q hy => ?_⟩
    · exact ⟨fun _ => ⟨by decide, h1 rfl _ _ hs⟩, fun _ => ⟨fun c => absurd c (by decide), fun _ => s_next hpn hp ⟨fun z => absurd z c0, fun _ => s_next hpn hp ⟨fun z => absurd z c1, fun _ => s_next hpn hp ⟨fun _ => ⟨by decide, h1 rfl _ _ hs⟩, fun z => absurd z c2⟩⟩⟩⟩⟩
    · rcases hy with ⟨hc0, _, _⟩ | ⟨_, hc1, _, _⟩ | ⟨_, _, hc2, _, _⟩ | ⟨_, _, _, rfl, rfl⟩
      · exact absurd hc0 c0
      · exact absurd hc1 c1
      · exact absurd hc2 c2
      · exact ⟨fun _ => h1 rfl _ hc, fun z => absurd (show (0 : Int32) ≤ 0 by decide) z⟩
  | succ r ih =>
    intro p tn tk nv hr hp ht ok
    by_cases c0 : nxt bs pn p = 42
    · have lt : p < pn := by
        by_cases q : p < pn
        · exact q
        · unfold nxt at c0
          rw [if_neg q] at c0
          exact absurd c0 (by decide)
      obtain ⟨fine1, p1, tn1, tk1, nv1, a1, a2, a3, a4, a5⟩ := ls (p + 1) tn tk nv (by omega) (by omega)
      have only : ∀ y q, cnP bs pn p y q → y = 20007 ∧ q = p + 1 := by
        intro y q hy
        rcases hy with ⟨hc, ey, eq⟩ | ⟨g0, hc, ey, eq⟩ | ⟨g0, g1, hc, ey, eq⟩ | ⟨g0, g1, g2, ey, eq⟩
        · exact ⟨ey, eq⟩
        · exact absurd c0 g0
        · exact absurd c0 g0
        · exact absurd c0 g0
      cases fine1 with
      | false =>
        refine ⟨false, p1, tn1, tk1, nv1, by omega, a2, fun q => absurd q (by decide), fun i hi sg nu Q hs _ h2 => ?_, fun code Q hc _ h2 y q hy => ?_⟩
        · refine ⟨fun z => absurd z (nI_ge (show i < 50 by omega) (by decide)), fun _ => ⟨fun z => absurd z (by decide), fun _ => s_next hpn hp ⟨fun _ => ?_, fun z => absurd c0 z⟩⟩⟩
          refine s_next hpn hp ?_
          rw [c0]
          rintro v rfl
          rw [nI_1, nI_1]
          refine a4 sg nu _ hs (fun q => absurd q (by decide)) (fun _ t sg2 nu2 t50 => s_raddW t50 (fun t3 sg3 nu3 t350 => ?_))
          obtain ⟨kk, ek⟩ : ∃ kk, 50 - i = kk + 1 := ⟨50 - i - 1, by omega⟩
          rw [ek]
          exact ⟨fun _ => ⟨by decide, h2 rfl _ _ _ t350⟩, fun _ => ⟨fun _ => ⟨by decide, h2 rfl _ _ _ t350⟩, fun z => absurd rfl z⟩⟩
        · obtain ⟨rfl, rfl⟩ := only y q hy
          refine ⟨fun z => absurd z (by decide), fun _ => ?_⟩
          refine a5 code _ hc (fun q => absurd q (by decide)) (fun _ o2 c2 code2 => m_codesW (cw_cnP (L := fun y a => lb_X8_product_51 S0 S1 us now Q (r + 2) y a o2 1 c2 code2) ?_))
          exact ⟨fun _ => h2 rfl _ _ _, fun z => absurd (show (0 : Int32) ≤ 0 by decide) z⟩
      | true =>
        have o1 := a3 rfl
        have o2 := ok_bin (c := 11) (by decide) (by decide) ok o1
        have lt1 := o1.1
        have lt2 := o1.2.2.1
        obtain ⟨fine, p2, tn2, tk2, nv2, b1, b2, b3, b4, b5⟩ := ih p1 (tn1 + 1) _ _ (by omega) a2 (by omega) o2
        refine ⟨fine, p2, tn2, tk2, nv2, by omega, b2, b3, fun i hi sg nu Q hs h1 h2 => ?_, fun code Q hc h1 h2 y q hy => ?_⟩
        · refine ⟨fun z => absurd z (nI_ge (show i < 50 by omega) (by decide)), fun _ => ⟨fun z => absurd z (by decide), fun _ => s_next hpn hp ⟨fun _ => ?_, fun z => absurd c0 z⟩⟩⟩
          refine s_next hpn hp ?_
          rw [c0]
          rintro v rfl
          rw [nI_1, nI_1]
          refine a4 sg nu _ hs (fun _ sg2 nu2 hs2 => s_radd (by omega) ?_) (fun q => absurd q (by decide))
          have q := b4 (i + 1) (by omega) _ _ Q (tokC_pu (c := 11) (v := 0) (x := 0) hs2 (show (42 : Int32) = sgT 11 from rfl) (fun z => absurd z (by decide))) h1 h2
          rw [show 50 - (i + 1) + 1 = 50 - i by omega] at q
          exact q
        · obtain ⟨rfl, rfl⟩ := only y q hy
          refine ⟨fun z => absurd z (by decide), fun _ => ?_⟩
          refine a5 code _ hc (fun _ code2 hc2 => m_codes (by omega) (ch_cnP (L := fun y a => lb_X8_product_51 S0 S1 us now Q (r + 2) y a op 0 (nI (tn1 + 1)) (upd code2 tn1 20007)) hpn e4 eb a2 ?_)) (fun q => absurd q (by decide))
          exact b5 _ Q (tokM_pu (c := 11) (v := 0) hc2 (show (20007 : Int32) = cdV 11 0 from rfl)) h1 h2
    · skip
      by_cases c1 : nxt bs pn p = 47
      · have lt : p < pn := by
          by_cases q : p < pn
          · exact q
          · unfold nxt at c1
            rw [if_neg q] at c1
            exact absurd c1 (by decide)
        obtain ⟨fine1, p1, tn1, tk1, nv1, a1, a2, a3, a4, a5⟩ := ls (p + 1) tn tk nv (by omega) (by omega)
        have only : ∀ y q, cnP bs pn p y q → y = 20008 ∧ q = p + 1 := by
          intro y q hy
          rcases hy with ⟨hc, ey, eq⟩ | ⟨g0, hc, ey, eq⟩ | ⟨g0, g1, hc, ey, eq⟩ | ⟨g0, g1, g2, ey, eq⟩
          · exact absurd (c1.symm.trans hc) (by decide)
          · exact ⟨ey, eq⟩
          · exact absurd c1 g1
          · exact absurd c1 g1
        cases fine1 with
        | false =>
          refine ⟨false, p1, tn1, tk1, nv1, by omega, a2, fun q => absurd q (by decide), fun i hi sg nu Q hs _ h2 => ?_, fun code Q hc _ h2 y q hy => ?_⟩
          · refine ⟨fun z => absurd z (nI_ge (show i < 50 by omega) (by decide)), fun _ => ⟨fun z => absurd z (by decide), fun _ => s_next hpn hp ⟨fun z => absurd (c1.symm.trans z) (by decide), fun _ => s_next hpn hp ⟨fun _ => ?_, fun z => absurd c1 z⟩⟩⟩⟩
            refine s_next hpn hp ?_
            rw [c1]
            rintro v rfl
            rw [nI_1, nI_1]
            refine a4 sg nu _ hs (fun q => absurd q (by decide)) (fun _ t sg2 nu2 t50 => s_raddW t50 (fun t3 sg3 nu3 t350 => ?_))
            obtain ⟨kk, ek⟩ : ∃ kk, 50 - i = kk + 1 := ⟨50 - i - 1, by omega⟩
            rw [ek]
            exact ⟨fun _ => ⟨by decide, h2 rfl _ _ _ t350⟩, fun _ => ⟨fun _ => ⟨by decide, h2 rfl _ _ _ t350⟩, fun z => absurd rfl z⟩⟩
          · obtain ⟨rfl, rfl⟩ := only y q hy
            refine ⟨fun z => absurd z (by decide), fun _ => ?_⟩
            refine a5 code _ hc (fun q => absurd q (by decide)) (fun _ o2 c2 code2 => m_codesW (cw_cnP (L := fun y a => lb_X8_product_51 S0 S1 us now Q (r + 2) y a o2 1 c2 code2) ?_))
            exact ⟨fun _ => h2 rfl _ _ _, fun z => absurd (show (0 : Int32) ≤ 0 by decide) z⟩
        | true =>
          have o1 := a3 rfl
          have o2 := ok_bin (c := 12) (by decide) (by decide) ok o1
          have lt1 := o1.1
          have lt2 := o1.2.2.1
          obtain ⟨fine, p2, tn2, tk2, nv2, b1, b2, b3, b4, b5⟩ := ih p1 (tn1 + 1) _ _ (by omega) a2 (by omega) o2
          refine ⟨fine, p2, tn2, tk2, nv2, by omega, b2, b3, fun i hi sg nu Q hs h1 h2 => ?_, fun code Q hc h1 h2 y q hy => ?_⟩
          · refine ⟨fun z => absurd z (nI_ge (show i < 50 by omega) (by decide)), fun _ => ⟨fun z => absurd z (by decide), fun _ => s_next hpn hp ⟨fun z => absurd (c1.symm.trans z) (by decide), fun _ => s_next hpn hp ⟨fun _ => ?_, fun z => absurd c1 z⟩⟩⟩⟩
            refine s_next hpn hp ?_
            rw [c1]
            rintro v rfl
            rw [nI_1, nI_1]
            refine a4 sg nu _ hs (fun _ sg2 nu2 hs2 => s_radd (by omega) ?_) (fun q => absurd q (by decide))
            have q := b4 (i + 1) (by omega) _ _ Q (tokC_pu (c := 12) (v := 0) (x := 0) hs2 (show (47 : Int32) = sgT 12 from rfl) (fun z => absurd z (by decide))) h1 h2
            rw [show 50 - (i + 1) + 1 = 50 - i by omega] at q
            exact q
          · obtain ⟨rfl, rfl⟩ := only y q hy
            refine ⟨fun z => absurd z (by decide), fun _ => ?_⟩
            refine a5 code _ hc (fun _ code2 hc2 => m_codes (by omega) (ch_cnP (L := fun y a => lb_X8_product_51 S0 S1 us now Q (r + 2) y a op 0 (nI (tn1 + 1)) (upd code2 tn1 20008)) hpn e4 eb a2 ?_)) (fun q => absurd q (by decide))
            exact b5 _ Q (tokM_pu (c := 12) (v := 0) hc2 (show (20008 : Int32) = cdV 12 0 from rfl)) h1 h2
      · skip
        by_cases c2 : nxt bs pn p = 37
        · have lt : p < pn := by
            by_cases q : p < pn
            · exact q
            · unfold nxt at c2
              rw [if_neg q] at c2
              exact absurd c2 (by decide)
          obtain ⟨fine1, p1, tn1, tk1, nv1, a1, a2, a3, a4, a5⟩ := ls (p + 1) tn tk nv (by omega) (by omega)
          have only : ∀ y q, cnP bs pn p y q → y = 20009 ∧ q = p + 1 := by
            intro y q hy
            rcases hy with ⟨hc, ey, eq⟩ | ⟨g0, hc, ey, eq⟩ | ⟨g0, g1, hc, ey, eq⟩ | ⟨g0, g1, g2, ey, eq⟩
            · exact absurd (c2.symm.trans hc) (by decide)
            · exact absurd (c2.symm.trans hc) (by decide)
            · exact ⟨ey, eq⟩
            · exact absurd c2 g2
          cases fine1 with
          | false =>
            refine ⟨false, p1, tn1, tk1, nv1, by omega, a2, fun q => absurd q (by decide), fun i hi sg nu Q hs _ h2 => ?_, fun code Q hc _ h2 y q hy => ?_⟩
            · refine ⟨fun z => absurd z (nI_ge (show i < 50 by omega) (by decide)), fun _ => ⟨fun z => absurd z (by decide), fun _ => s_next hpn hp ⟨fun z => absurd (c2.symm.trans z) (by decide), fun _ => s_next hpn hp ⟨fun z => absurd (c2.symm.trans z) (by decide), fun _ => s_next hpn hp ⟨fun z => absurd c2 z, fun _ => ?_⟩⟩⟩⟩⟩
              refine s_next hpn hp ?_
              rw [c2]
              rintro v rfl
              rw [nI_1, nI_1]
              refine a4 sg nu _ hs (fun q => absurd q (by decide)) (fun _ t sg2 nu2 t50 => s_raddW t50 (fun t3 sg3 nu3 t350 => ?_))
              obtain ⟨kk, ek⟩ : ∃ kk, 50 - i = kk + 1 := ⟨50 - i - 1, by omega⟩
              rw [ek]
              exact ⟨fun _ => ⟨by decide, h2 rfl _ _ _ t350⟩, fun _ => ⟨fun _ => ⟨by decide, h2 rfl _ _ _ t350⟩, fun z => absurd rfl z⟩⟩
            · obtain ⟨rfl, rfl⟩ := only y q hy
              refine ⟨fun z => absurd z (by decide), fun _ => ?_⟩
              refine a5 code _ hc (fun q => absurd q (by decide)) (fun _ o2 c2 code2 => m_codesW (cw_cnP (L := fun y a => lb_X8_product_51 S0 S1 us now Q (r + 2) y a o2 1 c2 code2) ?_))
              exact ⟨fun _ => h2 rfl _ _ _, fun z => absurd (show (0 : Int32) ≤ 0 by decide) z⟩
          | true =>
            have o1 := a3 rfl
            have o2 := ok_bin (c := 13) (by decide) (by decide) ok o1
            have lt1 := o1.1
            have lt2 := o1.2.2.1
            obtain ⟨fine, p2, tn2, tk2, nv2, b1, b2, b3, b4, b5⟩ := ih p1 (tn1 + 1) _ _ (by omega) a2 (by omega) o2
            refine ⟨fine, p2, tn2, tk2, nv2, by omega, b2, b3, fun i hi sg nu Q hs h1 h2 => ?_, fun code Q hc h1 h2 y q hy => ?_⟩
            · refine ⟨fun z => absurd z (nI_ge (show i < 50 by omega) (by decide)), fun _ => ⟨fun z => absurd z (by decide), fun _ => s_next hpn hp ⟨fun z => absurd (c2.symm.trans z) (by decide), fun _ => s_next hpn hp ⟨fun z => absurd (c2.symm.trans z) (by decide), fun _ => s_next hpn hp ⟨fun z => absurd c2 z, fun _ => ?_⟩⟩⟩⟩⟩
              refine s_next hpn hp ?_
              rw [c2]
              rintro v rfl
              rw [nI_1, nI_1]
              refine a4 sg nu _ hs (fun _ sg2 nu2 hs2 => s_radd (by omega) ?_) (fun q => absurd q (by decide))
              have q := b4 (i + 1) (by omega) _ _ Q (tokC_pu (c := 13) (v := 0) (x := 0) hs2 (show (37 : Int32) = sgT 13 from rfl) (fun z => absurd z (by decide))) h1 h2
              rw [show 50 - (i + 1) + 1 = 50 - i by omega] at q
              exact q
            · obtain ⟨rfl, rfl⟩ := only y q hy
              refine ⟨fun z => absurd z (by decide), fun _ => ?_⟩
              refine a5 code _ hc (fun _ code2 hc2 => m_codes (by omega) (ch_cnP (L := fun y a => lb_X8_product_51 S0 S1 us now Q (r + 2) y a op 0 (nI (tn1 + 1)) (upd code2 tn1 20009)) hpn e4 eb a2 ?_)) (fun q => absurd q (by decide))
              exact b5 _ Q (tokM_pu (c := 13) (v := 0) hc2 (show (20009 : Int32) = cdV 13 0 from rfl)) h1 h2
        · refine ⟨true, p, tn, tk, nv, Nat.le_refl _, hp, fun _ => ok, fun i hi sg nu Q hs h1 _ => ?_, fun code Q hc h1 _ y q hy => ?_⟩
          · exact ⟨fun _ => ⟨by decide, h1 rfl _ _ hs⟩, fun _ => ⟨fun z => absurd z (by decide), fun _ => s_next hpn hp ⟨fun z => absurd z c0, fun _ => s_next hpn hp ⟨fun z => absurd z c1, fun _ => s_next hpn hp ⟨fun _ => ⟨by decide, h1 rfl _ _ hs⟩, fun z => absurd z c2⟩⟩⟩⟩⟩
          · rcases hy with ⟨hc0, _, _⟩ | ⟨_, hc1, _, _⟩ | ⟨_, _, hc2, _, _⟩ | ⟨_, _, _, rfl, rfl⟩
            · exact absurd hc0 c0
            · exact absurd hc1 c1
            · exact absurd hc2 c2
            · exact ⟨fun _ => h1 rfl _ hc, fun z => absurd (show (0 : Int32) ≤ 0 by decide) z⟩
theorem ls_readProduct {R0 R1 : CTy} {S0 S1 : MTy} {pn : Nat} (hpn : pn ≤ 50) {bs now : Nat → Int32} {fn us op : Int32} (e4 : now 4 = nI pn) (eb : ∀ i, i < pn → bs i = now (54 + i)) (ls : LSo (wp_X1_readSingle R0 R1) (wp_X8_one S0 S1) pn bs now fn us op) : LSo (wp_X1_readProduct R0 R1) (wp_X8_product S0 S1) pn bs now fn us op := by
  intro p tn tk nv hp ht
  obtain ⟨fine1, p1, tn1, tk1, nv1, a1, a2, a3, a4, a5⟩ := ls p tn tk nv hp ht
  cases fine1 with
  | false =>
    refine ⟨false, p1, tn1, tk1, nv1, a1, a2, fun q => absurd q (by decide), fun sg nu Q hs _ h2 => ?_, fun code Q hc _ h2 => ?_⟩
    · exact a4 sg nu _ hs (fun q => absurd q (by decide)) (fun _ t sg2 nu2 t50 => ⟨1, fun _ => ⟨by decide, h2 rfl _ _ _ t50⟩, fun _ => ⟨fun _ => ⟨by decide, h2 rfl _ _ _ t50⟩, fun z => absurd rfl z⟩⟩)
    · exact a5 code _ hc (fun q => absurd q (by decide)) (fun _ o2 c2 code2 => cw_cnP (L := fun y a => ∃ n, lb_X8_product_51 S0 S1 us now Q n y a o2 1 c2 code2) ⟨1, fun _ => h2 rfl _ _ _, fun z => absurd (show (0 : Int32) ≤ 0 by decide) z⟩)
  | true =>
    have o1 := a3 rfl
    have lt2 := o1.2.2.1
    obtain ⟨fine, p2, tn2, tk2, nv2, b1, b2, b3, b4, b5⟩ := lp_readProduct hpn e4 eb ls (pn - p1) p1 tn1 tk1 nv1 (by omega) a2 (by omega) o1
    refine ⟨fine, p2, tn2, tk2, nv2, by omega, b2, b3, fun sg nu Q hs h1 h2 => ?_, fun code Q hc h1 h2 => ?_⟩
    · exact a4 sg nu _ hs (fun _ sg2 nu2 hs2 => ⟨50 - 0 + 1, b4 0 (Nat.zero_le _) sg2 nu2 Q hs2 h1 h2⟩) (fun q => absurd q (by decide))
    · exact a5 code _ hc (fun _ code2 hc2 => ch_cnP (L := fun y a => ∃ n, lb_X8_product_51 S0 S1 us now Q n y a op 0 (nI tn1) code2) hpn e4 eb a2 (fun y q hy => ⟨_, b5 code2 Q hc2 h1 h2 y q hy⟩)) (fun q => absurd q (by decide))
def cnS (bs : Nat → Int32) (pn p : Nat) (y : Int32) (q : Nat) : Prop := (nxt bs pn p = 43 ∧ y = 20005 ∧ q = p + 1) ∨ (¬ nxt bs pn p = 43 ∧ nxt bs pn p = 45 ∧ y = 20006 ∧ q = p + 1) ∨ (¬ nxt bs pn p = 43 ∧ ¬ nxt bs pn p = 45 ∧ y = 0 ∧ q = p)
theorem ch_cnS {pn : Nat} (hpn : pn ≤ 50) {bs now : Nat → Int32} (e4 : now 4 = nI pn) (eb : ∀ i, i < pn → bs i = now (54 + i)) {p : Nat} (hp : p ≤ pn) {L : Int32 → Int32 → Prop} (h : ∀ y q, cnS bs pn p y q → L y (nI q)) : wp_X8_takes 43 (nI p) 0 now (fun r0 o0 => (r0 = 0 → wp_X8_takes 45 o0 0 now (fun r1 o1 => (r1 = 0 → L 0 o1) ∧ (¬ r1 = 0 → L 20006 o1))) ∧ (¬ r0 = 0 → L 20005 o0)) := by
  exact m_takes hpn hp e4 eb (fun c => ⟨fun z => absurd z (by decide), fun _ => h _ _ (Or.inl ⟨c, rfl, rfl⟩)⟩) (fun n0 => ⟨fun _ => m_takes hpn hp e4 eb (fun c => ⟨fun z => absurd z (by decide), fun _ => h _ _ (Or.inr (Or.inl ⟨n0, c, rfl, rfl⟩))⟩) (fun n1 => ⟨fun _ => h _ _ (Or.inr (Or.inr (⟨n0, n1, rfl, rfl⟩))), fun z => absurd rfl z⟩), fun z => absurd rfl z⟩)
theorem cw_cnS {now : Nat → Int32} {a : Int32} {L : Int32 → Int32 → Prop} (h : L 0 a) : wp_X8_takes 43 a 1 now (fun r0 o0 => (r0 = 0 → wp_X8_takes 45 o0 1 now (fun r1 o1 => (r1 = 0 → L 0 o1) ∧ (¬ r1 = 0 → L 20006 o1))) ∧ (¬ r0 = 0 → L 20005 o0)) := m_takesW (by decide) ⟨fun _ => m_takesW (by decide) ⟨fun _ => h, fun z => absurd rfl z⟩, fun z => absurd rfl z⟩
theorem lp_readSum {R0 R1 : CTy} {S0 S1 : MTy} {pn : Nat} (hpn : pn ≤ 50) {bs now : Nat → Int32} {fn us op : Int32} (e4 : now 4 = nI pn) (eb : ∀ i, i < pn → bs i = now (54 + i)) (ls : LSo (wp_X1_readProduct R0 R1) (wp_X8_product S0 S1) pn bs now fn us op) {p0 tn0 : Nat} {tk0 : Nat → Nat} {nv0 : Nat → Int32} :
    ∀ r p tn tk nv, pn ≤ p + r → p ≤ pn → tn ≤ p → okR p0 tn0 tk0 nv0 p tn tk nv → ∃ (fine : Bool) (p2 tn2 : Nat) (tk2 : Nat → Nat) (nv2 : Nat → Int32), p ≤ p2 ∧ p2 ≤ pn ∧ (fine = true → okR p0 tn0 tk0 nv0 p2 tn2 tk2 nv2) ∧
      (∀ i, i ≤ p → ∀ (sg nu : Nat → Int32) (Q : Int32 → Int32 → Int32 → (Nat → Int32) → (Nat → Int32) → Prop), tokC tn tk nv sg nu → (fine = true → ∀ sg2 nu2, tokC tn2 tk2 nv2 sg2 nu2 → Q 1 (nI p2) (nI tn2) sg2 nu2) → (fine = false → ∀ t sg2 nu2, t ≤ 50 → Q 0 (nI p2) (nI t) sg2 nu2) → lb_X1_readSum_8 R0 R1 op fn (nI pn) bs Q (50 - i + 1) 1 (nI i) (nI p) (nI tn) sg nu) ∧
      (∀ (code : Nat → Int32) (Q : Int32 → Int32 → Int32 → Int32 → (Nat → Int32) → Prop), tokM tn tk nv code → (fine = true → ∀ code2, tokM tn2 tk2 nv2 code2 → Q (nI p2) op 0 (nI tn2) code2) → (fine = false → ∀ o2 c2 code2, Q (nI p2) o2 1 c2 code2) → ∀ y q, cnS bs pn p y q → lb_X8_sum_36 S0 S1 us now Q (r + 1 + 1) y (nI q) op 0 (nI tn) code) := by
  intro r
  induction r with
  | zero =>
    intro p tn tk nv hr hp ht ok
    have en : nxt bs pn p = -1 := if_neg (by omega)
    have c0 : ¬ nxt bs pn p = 43 := fun c => absurd (en.symm.trans c) (by decide)
    have c1 : ¬ nxt bs pn p = 45 := fun c => absurd (en.symm.trans c) (by decide)
    refine ⟨true, p, tn, tk, nv, Nat.le_refl _, hp, fun _ => ok, fun i hi sg nu Q hs h1 _ => ?_, fun code Q hc h1 _ y q hy => ?_⟩
    · exact ⟨fun _ => ⟨by decide, h1 rfl _ _ hs⟩, fun _ => ⟨fun c => absurd c (by decide), fun _ => s_next hpn hp ⟨fun z => absurd z c0, fun _ => s_next hpn hp ⟨fun _ => ⟨by decide, h1 rfl _ _ hs⟩, fun z => absurd z c1⟩⟩⟩⟩
    · rcases hy with ⟨hc0, _, _⟩ | ⟨_, hc1, _, _⟩ | ⟨_, _, rfl, rfl⟩
      · exact absurd hc0 c0
      · exact absurd hc1 c1
      · exact ⟨fun _ => h1 rfl _ hc, fun z => absurd (show (0 : Int32) ≤ 0 by decide) z⟩
  | succ r ih =>
    intro p tn tk nv hr hp ht ok
    by_cases c0 : nxt bs pn p = 43
    · have lt : p < pn := by
        by_cases q : p < pn
        · exact q
        · unfold nxt at c0
          rw [if_neg q] at c0
          exact absurd c0 (by decide)
      obtain ⟨fine1, p1, tn1, tk1, nv1, a1, a2, a3, a4, a5⟩ := ls (p + 1) tn tk nv (by omega) (by omega)
      have only : ∀ y q, cnS bs pn p y q → y = 20005 ∧ q = p + 1 := by
        intro y q hy
        rcases hy with ⟨hc, ey, eq⟩ | ⟨g0, hc, ey, eq⟩ | ⟨g0, g1, ey, eq⟩
        · exact ⟨ey, eq⟩
        · exact absurd c0 g0
        · exact absurd c0 g0
      cases fine1 with
      | false =>
        refine ⟨false, p1, tn1, tk1, nv1, by omega, a2, fun q => absurd q (by decide), fun i hi sg nu Q hs _ h2 => ?_, fun code Q hc _ h2 y q hy => ?_⟩
        · refine ⟨fun z => absurd z (nI_ge (show i < 50 by omega) (by decide)), fun _ => ⟨fun z => absurd z (by decide), fun _ => s_next hpn hp ⟨fun _ => ?_, fun z => absurd c0 z⟩⟩⟩
          refine s_next hpn hp ?_
          rw [c0]
          rintro v rfl
          rw [nI_1, nI_1]
          refine a4 sg nu _ hs (fun q => absurd q (by decide)) (fun _ t sg2 nu2 t50 => s_raddW t50 (fun t3 sg3 nu3 t350 => ?_))
          obtain ⟨kk, ek⟩ : ∃ kk, 50 - i = kk + 1 := ⟨50 - i - 1, by omega⟩
          rw [ek]
          exact ⟨fun _ => ⟨by decide, h2 rfl _ _ _ t350⟩, fun _ => ⟨fun _ => ⟨by decide, h2 rfl _ _ _ t350⟩, fun z => absurd rfl z⟩⟩
        · obtain ⟨rfl, rfl⟩ := only y q hy
          refine ⟨fun z => absurd z (by decide), fun _ => ?_⟩
          refine a5 code _ hc (fun q => absurd q (by decide)) (fun _ o2 c2 code2 => m_codesW (cw_cnS (L := fun y a => lb_X8_sum_36 S0 S1 us now Q (r + 2) y a o2 1 c2 code2) ?_))
          exact ⟨fun _ => h2 rfl _ _ _, fun z => absurd (show (0 : Int32) ≤ 0 by decide) z⟩
      | true =>
        have o1 := a3 rfl
        have o2 := ok_bin (c := 9) (by decide) (by decide) ok o1
        have lt1 := o1.1
        have lt2 := o1.2.2.1
        obtain ⟨fine, p2, tn2, tk2, nv2, b1, b2, b3, b4, b5⟩ := ih p1 (tn1 + 1) _ _ (by omega) a2 (by omega) o2
        refine ⟨fine, p2, tn2, tk2, nv2, by omega, b2, b3, fun i hi sg nu Q hs h1 h2 => ?_, fun code Q hc h1 h2 y q hy => ?_⟩
        · refine ⟨fun z => absurd z (nI_ge (show i < 50 by omega) (by decide)), fun _ => ⟨fun z => absurd z (by decide), fun _ => s_next hpn hp ⟨fun _ => ?_, fun z => absurd c0 z⟩⟩⟩
          refine s_next hpn hp ?_
          rw [c0]
          rintro v rfl
          rw [nI_1, nI_1]
          refine a4 sg nu _ hs (fun _ sg2 nu2 hs2 => s_radd (by omega) ?_) (fun q => absurd q (by decide))
          have q := b4 (i + 1) (by omega) _ _ Q (tokC_pu (c := 9) (v := 0) (x := 0) hs2 (show (43 : Int32) = sgT 9 from rfl) (fun z => absurd z (by decide))) h1 h2
          rw [show 50 - (i + 1) + 1 = 50 - i by omega] at q
          exact q
        · obtain ⟨rfl, rfl⟩ := only y q hy
          refine ⟨fun z => absurd z (by decide), fun _ => ?_⟩
          refine a5 code _ hc (fun _ code2 hc2 => m_codes (by omega) (ch_cnS (L := fun y a => lb_X8_sum_36 S0 S1 us now Q (r + 2) y a op 0 (nI (tn1 + 1)) (upd code2 tn1 20005)) hpn e4 eb a2 ?_)) (fun q => absurd q (by decide))
          exact b5 _ Q (tokM_pu (c := 9) (v := 0) hc2 (show (20005 : Int32) = cdV 9 0 from rfl)) h1 h2
    · skip
      by_cases c1 : nxt bs pn p = 45
      · have lt : p < pn := by
          by_cases q : p < pn
          · exact q
          · unfold nxt at c1
            rw [if_neg q] at c1
            exact absurd c1 (by decide)
        obtain ⟨fine1, p1, tn1, tk1, nv1, a1, a2, a3, a4, a5⟩ := ls (p + 1) tn tk nv (by omega) (by omega)
        have only : ∀ y q, cnS bs pn p y q → y = 20006 ∧ q = p + 1 := by
          intro y q hy
          rcases hy with ⟨hc, ey, eq⟩ | ⟨g0, hc, ey, eq⟩ | ⟨g0, g1, ey, eq⟩
          · exact absurd (c1.symm.trans hc) (by decide)
          · exact ⟨ey, eq⟩
          · exact absurd c1 g1
        cases fine1 with
        | false =>
          refine ⟨false, p1, tn1, tk1, nv1, by omega, a2, fun q => absurd q (by decide), fun i hi sg nu Q hs _ h2 => ?_, fun code Q hc _ h2 y q hy => ?_⟩
          · refine ⟨fun z => absurd z (nI_ge (show i < 50 by omega) (by decide)), fun _ => ⟨fun z => absurd z (by decide), fun _ => s_next hpn hp ⟨fun z => absurd (c1.symm.trans z) (by decide), fun _ => s_next hpn hp ⟨fun z => absurd c1 z, fun _ => ?_⟩⟩⟩⟩
            refine s_next hpn hp ?_
            rw [c1]
            rintro v rfl
            rw [nI_1, nI_1]
            refine a4 sg nu _ hs (fun q => absurd q (by decide)) (fun _ t sg2 nu2 t50 => s_raddW t50 (fun t3 sg3 nu3 t350 => ?_))
            obtain ⟨kk, ek⟩ : ∃ kk, 50 - i = kk + 1 := ⟨50 - i - 1, by omega⟩
            rw [ek]
            exact ⟨fun _ => ⟨by decide, h2 rfl _ _ _ t350⟩, fun _ => ⟨fun _ => ⟨by decide, h2 rfl _ _ _ t350⟩, fun z => absurd rfl z⟩⟩
          · obtain ⟨rfl, rfl⟩ := only y q hy
            refine ⟨fun z => absurd z (by decide), fun _ => ?_⟩
            refine a5 code _ hc (fun q => absurd q (by decide)) (fun _ o2 c2 code2 => m_codesW (cw_cnS (L := fun y a => lb_X8_sum_36 S0 S1 us now Q (r + 2) y a o2 1 c2 code2) ?_))
            exact ⟨fun _ => h2 rfl _ _ _, fun z => absurd (show (0 : Int32) ≤ 0 by decide) z⟩
        | true =>
          have o1 := a3 rfl
          have o2 := ok_bin (c := 10) (by decide) (by decide) ok o1
          have lt1 := o1.1
          have lt2 := o1.2.2.1
          obtain ⟨fine, p2, tn2, tk2, nv2, b1, b2, b3, b4, b5⟩ := ih p1 (tn1 + 1) _ _ (by omega) a2 (by omega) o2
          refine ⟨fine, p2, tn2, tk2, nv2, by omega, b2, b3, fun i hi sg nu Q hs h1 h2 => ?_, fun code Q hc h1 h2 y q hy => ?_⟩
          · refine ⟨fun z => absurd z (nI_ge (show i < 50 by omega) (by decide)), fun _ => ⟨fun z => absurd z (by decide), fun _ => s_next hpn hp ⟨fun z => absurd (c1.symm.trans z) (by decide), fun _ => s_next hpn hp ⟨fun z => absurd c1 z, fun _ => ?_⟩⟩⟩⟩
            refine s_next hpn hp ?_
            rw [c1]
            rintro v rfl
            rw [nI_1, nI_1]
            refine a4 sg nu _ hs (fun _ sg2 nu2 hs2 => s_radd (by omega) ?_) (fun q => absurd q (by decide))
            have q := b4 (i + 1) (by omega) _ _ Q (tokC_pu (c := 10) (v := 0) (x := 0) hs2 (show (45 : Int32) = sgT 10 from rfl) (fun z => absurd z (by decide))) h1 h2
            rw [show 50 - (i + 1) + 1 = 50 - i by omega] at q
            exact q
          · obtain ⟨rfl, rfl⟩ := only y q hy
            refine ⟨fun z => absurd z (by decide), fun _ => ?_⟩
            refine a5 code _ hc (fun _ code2 hc2 => m_codes (by omega) (ch_cnS (L := fun y a => lb_X8_sum_36 S0 S1 us now Q (r + 2) y a op 0 (nI (tn1 + 1)) (upd code2 tn1 20006)) hpn e4 eb a2 ?_)) (fun q => absurd q (by decide))
            exact b5 _ Q (tokM_pu (c := 10) (v := 0) hc2 (show (20006 : Int32) = cdV 10 0 from rfl)) h1 h2
      · refine ⟨true, p, tn, tk, nv, Nat.le_refl _, hp, fun _ => ok, fun i hi sg nu Q hs h1 _ => ?_, fun code Q hc h1 _ y q hy => ?_⟩
        · exact ⟨fun _ => ⟨by decide, h1 rfl _ _ hs⟩, fun _ => ⟨fun z => absurd z (by decide), fun _ => s_next hpn hp ⟨fun z => absurd z c0, fun _ => s_next hpn hp ⟨fun _ => ⟨by decide, h1 rfl _ _ hs⟩, fun z => absurd z c1⟩⟩⟩⟩
        · rcases hy with ⟨hc0, _, _⟩ | ⟨_, hc1, _, _⟩ | ⟨_, _, rfl, rfl⟩
          · exact absurd hc0 c0
          · exact absurd hc1 c1
          · exact ⟨fun _ => h1 rfl _ hc, fun z => absurd (show (0 : Int32) ≤ 0 by decide) z⟩
theorem ls_readSum {R0 R1 : CTy} {S0 S1 : MTy} {pn : Nat} (hpn : pn ≤ 50) {bs now : Nat → Int32} {fn us op : Int32} (e4 : now 4 = nI pn) (eb : ∀ i, i < pn → bs i = now (54 + i)) (ls : LSo (wp_X1_readProduct R0 R1) (wp_X8_product S0 S1) pn bs now fn us op) : LSo (wp_X1_readSum R0 R1) (wp_X8_sum S0 S1) pn bs now fn us op := by
  intro p tn tk nv hp ht
  obtain ⟨fine1, p1, tn1, tk1, nv1, a1, a2, a3, a4, a5⟩ := ls p tn tk nv hp ht
  cases fine1 with
  | false =>
    refine ⟨false, p1, tn1, tk1, nv1, a1, a2, fun q => absurd q (by decide), fun sg nu Q hs _ h2 => ?_, fun code Q hc _ h2 => ?_⟩
    · exact a4 sg nu _ hs (fun q => absurd q (by decide)) (fun _ t sg2 nu2 t50 => ⟨1, fun _ => ⟨by decide, h2 rfl _ _ _ t50⟩, fun _ => ⟨fun _ => ⟨by decide, h2 rfl _ _ _ t50⟩, fun z => absurd rfl z⟩⟩)
    · exact a5 code _ hc (fun q => absurd q (by decide)) (fun _ o2 c2 code2 => cw_cnS (L := fun y a => ∃ n, lb_X8_sum_36 S0 S1 us now Q n y a o2 1 c2 code2) ⟨1, fun _ => h2 rfl _ _ _, fun z => absurd (show (0 : Int32) ≤ 0 by decide) z⟩)
  | true =>
    have o1 := a3 rfl
    have lt2 := o1.2.2.1
    obtain ⟨fine, p2, tn2, tk2, nv2, b1, b2, b3, b4, b5⟩ := lp_readSum hpn e4 eb ls (pn - p1) p1 tn1 tk1 nv1 (by omega) a2 (by omega) o1
    refine ⟨fine, p2, tn2, tk2, nv2, by omega, b2, b3, fun sg nu Q hs h1 h2 => ?_, fun code Q hc h1 h2 => ?_⟩
    · exact a4 sg nu _ hs (fun _ sg2 nu2 hs2 => ⟨50 - 0 + 1, b4 0 (Nat.zero_le _) sg2 nu2 Q hs2 h1 h2⟩) (fun q => absurd q (by decide))
    · exact a5 code _ hc (fun _ code2 hc2 => ch_cnS (L := fun y a => ∃ n, lb_X8_sum_36 S0 S1 us now Q n y a op 0 (nI tn1) code2) hpn e4 eb a2 (fun y q hy => ⟨_, b5 code2 Q hc2 h1 h2 y q hy⟩)) (fun q => absurd q (by decide))
