theorem lp_readAll {R0 R1 : CTy} {S0 S1 : MTy} {pn : Nat} (hpn : pn ≤ 50) {bs now : Nat → Int32} {fn us op : Int32} (e4 : now 4 = nI pn) (eb : ∀ i, i < pn → bs i = now (54 + i)) (ls : LSo (wp_X1_readComparison R0 R1) (wp_X8_compared S0 S1) pn bs now fn us op) {p0 tn0 : Nat} {tk0 : Nat → Nat} {nv0 : Nat → Int32} :
    ∀ r p tn tk nv, pn ≤ p + r → p ≤ pn → tn ≤ p → okR p0 tn0 tk0 nv0 p tn tk nv → ∃ (fine : Bool) (p2 tn2 : Nat) (tk2 : Nat → Nat) (nv2 : Nat → Int32), p ≤ p2 ∧ p2 ≤ pn ∧ (fine = true → okR p0 tn0 tk0 nv0 p2 tn2 tk2 nv2) ∧
      (∀ i, i ≤ p → ∀ (sg nu : Nat → Int32) (Q : Int32 → Int32 → Int32 → (Nat → Int32) → (Nat → Int32) → Prop), tokC tn tk nv sg nu → (fine = true → ∀ sg2 nu2, tokC tn2 tk2 nv2 sg2 nu2 → Q 1 (nI p2) (nI tn2) sg2 nu2) → (fine = false → ∀ t sg2 nu2, t ≤ 50 → Q 0 (nI p2) (nI t) sg2 nu2) → lb_X1_readAll_8 R0 R1 op fn (nI pn) bs Q (50 - i + 1) 1 (nI i) (nI p) (nI tn) sg nu) ∧
      (∀ (code : Nat → Int32) (Q : Int32 → Int32 → Int32 → Int32 → (Nat → Int32) → Prop), tokM tn tk nv code → (fine = true → ∀ code2, tokM tn2 tk2 nv2 code2 → Q (nI p2) op 0 (nI tn2) code2) → (fine = false → ∀ o2 c2 code2, Q (nI p2) o2 1 c2 code2) → lb_X8_both_4 S0 S1 us now Q (r + 1 + 1) (nI p) op 0 (nI tn) code) := by
  intro r
  induction r with
  | zero =>
    intro p tn tk nv hr hp ht ok
    have ep : p = pn := by omega
    have en : nxt bs pn p = -1 := if_neg (by omega)
    refine ⟨true, p, tn, tk, nv, Nat.le_refl _, hp, fun _ => ok, fun i hi sg nu Q hs h1 _ => ?_, fun code Q hc h1 _ => ?_⟩
    · refine ⟨fun _ => ⟨by decide, h1 rfl _ _ hs⟩, fun _ => ⟨fun c => absurd c (by decide), fun _ => s_next hpn hp ?_⟩⟩
      rw [en]
      exact ⟨fun _ => ⟨by decide, h1 rfl _ _ hs⟩, fun c => absurd c (by decide)⟩
    · refine m_takes hpn hp e4 eb (fun c => absurd (en.symm.trans c) (by decide)) (fun _ => ⟨fun _ => h1 rfl _ hc, fun c => absurd rfl c⟩)
  | succ r ih =>
    intro p tn tk nv hr hp ht ok
    by_cases c : nxt bs pn p = 38
    · have lt : p < pn := by
        by_cases q : p < pn
        · exact q
        · unfold nxt at c
          rw [if_neg q] at c
          exact absurd c (by decide)
      obtain ⟨fine1, p1, tn1, tk1, nv1, a1, a2, a3, a4, a5⟩ := ls (p + 1) tn tk nv (by omega) (by omega)
      cases fine1 with
      | false =>
        refine ⟨false, p1, tn1, tk1, nv1, by omega, a2, fun q => absurd q (by decide), fun i hi sg nu Q hs _ h2 => ?_, fun code Q hc _ h2 => ?_⟩
        · refine ⟨fun z => absurd z (nI_ge (show i < 50 by omega) (by decide)), fun _ => ⟨fun z => absurd z (by decide), fun _ => s_next hpn hp ⟨fun z => absurd c z, fun _ => ?_⟩⟩⟩
          rintro v rfl
          rw [nI_1, nI_1]
          refine a4 sg nu _ hs (fun q => absurd q (by decide)) (fun _ t sg2 nu2 t50 => s_raddW t50 (fun t3 sg3 nu3 t350 => ?_))
          obtain ⟨kk, ek⟩ : ∃ kk, 50 - i = kk + 1 := ⟨50 - i - 1, by omega⟩
          rw [ek]
          exact ⟨fun _ => ⟨by decide, h2 rfl _ _ _ t350⟩, fun _ => ⟨fun _ => ⟨by decide, h2 rfl _ _ _ t350⟩, fun z => absurd rfl z⟩⟩
        · refine m_takes hpn hp e4 eb (fun _ => ⟨fun z => absurd z (by decide), fun _ => ?_⟩) (fun z => absurd c z)
          refine a5 code _ hc (fun q => absurd q (by decide)) (fun _ o2 c2 code2 => m_codesW ?_)
          exact m_takesW (by decide) ⟨fun _ => h2 rfl _ _ _, fun z => absurd rfl z⟩
      | true =>
        have o1 := a3 rfl
        have o2 := ok_bin (c := 5) (by decide) (by decide) ok o1
        have lt1 := o1.1
        have lt2 := o1.2.2.1
        obtain ⟨fine, p2, tn2, tk2, nv2, b1, b2, b3, b4, b5⟩ := ih p1 (tn1 + 1) _ _ (by omega) a2 (by omega) o2
        refine ⟨fine, p2, tn2, tk2, nv2, by omega, b2, b3, fun i hi sg nu Q hs h1 h2 => ?_, fun code Q hc h1 h2 => ?_⟩
        · refine ⟨fun z => absurd z (nI_ge (show i < 50 by omega) (by decide)), fun _ => ⟨fun z => absurd z (by decide), fun _ => s_next hpn hp ⟨fun z => absurd c z, fun _ => ?_⟩⟩⟩
          rintro v rfl
          rw [nI_1, nI_1]
          refine a4 sg nu _ hs (fun _ sg2 nu2 hs2 => s_radd (by omega) ?_) (fun q => absurd q (by decide))
          have q := b4 (i + 1) (by omega) _ _ Q (tokC_pu (c := 5) (v := 0) (x := 0) hs2 (show (38 : Int32) = sgT 5 from rfl) (fun z => absurd z (by decide))) h1 h2
          rw [show 50 - (i + 1) + 1 = 50 - i by omega] at q
          exact q
        · refine m_takes hpn hp e4 eb (fun _ => ⟨fun z => absurd z (by decide), fun _ => ?_⟩) (fun z => absurd c z)
          refine a5 code _ hc (fun _ code2 hc2 => m_codes (by omega) ?_) (fun q => absurd q (by decide))
          exact b5 _ Q (tokM_pu (c := 5) (v := 0) hc2 (show (20001 : Int32) = cdV 5 0 from rfl)) h1 h2
    · refine ⟨true, p, tn, tk, nv, Nat.le_refl _, hp, fun _ => ok, fun i hi sg nu Q hs h1 _ => ?_, fun code Q hc h1 _ => ?_⟩
      · refine ⟨fun _ => ⟨by decide, h1 rfl _ _ hs⟩, fun _ => ⟨fun z => absurd z (by decide), fun _ => s_next hpn hp ⟨fun _ => ⟨by decide, h1 rfl _ _ hs⟩, fun z => absurd z c⟩⟩⟩
      · exact m_takes hpn hp e4 eb (fun z => absurd z c) (fun _ => ⟨fun _ => h1 rfl _ hc, fun z => absurd rfl z⟩)
theorem ls_readAll {R0 R1 : CTy} {S0 S1 : MTy} {pn : Nat} (hpn : pn ≤ 50) {bs now : Nat → Int32} {fn us op : Int32} (e4 : now 4 = nI pn) (eb : ∀ i, i < pn → bs i = now (54 + i)) (ls : LSo (wp_X1_readComparison R0 R1) (wp_X8_compared S0 S1) pn bs now fn us op) : LSo (wp_X1_readAll R0 R1) (wp_X8_both S0 S1) pn bs now fn us op := by
  intro p tn tk nv hp ht
  obtain ⟨fine1, p1, tn1, tk1, nv1, a1, a2, a3, a4, a5⟩ := ls p tn tk nv hp ht
  cases fine1 with
  | false =>
    refine ⟨false, p1, tn1, tk1, nv1, a1, a2, fun q => absurd q (by decide), fun sg nu Q hs _ h2 => ?_, fun code Q hc _ h2 => ?_⟩
    · exact a4 sg nu _ hs (fun q => absurd q (by decide)) (fun _ t sg2 nu2 t50 => ⟨1, fun _ => ⟨by decide, h2 rfl _ _ _ t50⟩, fun _ => ⟨fun _ => ⟨by decide, h2 rfl _ _ _ t50⟩, fun z => absurd rfl z⟩⟩)
    · exact a5 code _ hc (fun q => absurd q (by decide)) (fun _ o2 c2 code2 => ⟨1, m_takesW (by decide) ⟨fun _ => h2 rfl _ _ _, fun z => absurd rfl z⟩⟩)
  | true =>
    have o1 := a3 rfl
    have lt2 := o1.2.2.1
    obtain ⟨fine, p2, tn2, tk2, nv2, b1, b2, b3, b4, b5⟩ := lp_readAll hpn e4 eb ls (pn - p1) p1 tn1 tk1 nv1 (by omega) a2 (by omega) o1
    refine ⟨fine, p2, tn2, tk2, nv2, by omega, b2, b3, fun sg nu Q hs h1 h2 => ?_, fun code Q hc h1 h2 => ?_⟩
    · exact a4 sg nu _ hs (fun _ sg2 nu2 hs2 => ⟨50 - 0 + 1, b4 0 (Nat.zero_le _) sg2 nu2 Q hs2 h1 h2⟩) (fun q => absurd q (by decide))
    · exact a5 code _ hc (fun _ code2 hc2 => ⟨_, b5 code2 Q hc2 h1 h2⟩) (fun q => absurd q (by decide))
theorem lp_readAny {R0 R1 : CTy} {S0 S1 : MTy} {pn : Nat} (hpn : pn ≤ 50) {bs now : Nat → Int32} {fn us op : Int32} (e4 : now 4 = nI pn) (eb : ∀ i, i < pn → bs i = now (54 + i)) (ls : LSo (wp_X1_readAll R0 R1) (wp_X8_both S0 S1) pn bs now fn us op) {p0 tn0 : Nat} {tk0 : Nat → Nat} {nv0 : Nat → Int32} :
    ∀ r p tn tk nv, pn ≤ p + r → p ≤ pn → tn ≤ p → okR p0 tn0 tk0 nv0 p tn tk nv → ∃ (fine : Bool) (p2 tn2 : Nat) (tk2 : Nat → Nat) (nv2 : Nat → Int32), p ≤ p2 ∧ p2 ≤ pn ∧ (fine = true → okR p0 tn0 tk0 nv0 p2 tn2 tk2 nv2) ∧
      (∀ i, i ≤ p → ∀ (sg nu : Nat → Int32) (Q : Int32 → Int32 → Int32 → (Nat → Int32) → (Nat → Int32) → Prop), tokC tn tk nv sg nu → (fine = true → ∀ sg2 nu2, tokC tn2 tk2 nv2 sg2 nu2 → Q 1 (nI p2) (nI tn2) sg2 nu2) → (fine = false → ∀ t sg2 nu2, t ≤ 50 → Q 0 (nI p2) (nI t) sg2 nu2) → lb_X1_readAny_8 R0 R1 op fn (nI pn) bs Q (50 - i + 1) 1 (nI i) (nI p) (nI tn) sg nu) ∧
      (∀ (code : Nat → Int32) (Q : Int32 → Int32 → Int32 → Int32 → (Nat → Int32) → Prop), tokM tn tk nv code → (fine = true → ∀ code2, tokM tn2 tk2 nv2 code2 → Q (nI p2) op 0 (nI tn2) code2) → (fine = false → ∀ o2 c2 code2, Q (nI p2) o2 1 c2 code2) → lb_X8_either_4 S0 S1 us now Q (r + 1 + 1) (nI p) op 0 (nI tn) code) := by
  intro r
  induction r with
  | zero =>
    intro p tn tk nv hr hp ht ok
    have ep : p = pn := by omega
    have en : nxt bs pn p = -1 := if_neg (by omega)
    refine ⟨true, p, tn, tk, nv, Nat.le_refl _, hp, fun _ => ok, fun i hi sg nu Q hs h1 _ => ?_, fun code Q hc h1 _ => ?_⟩
    · refine ⟨fun _ => ⟨by decide, h1 rfl _ _ hs⟩, fun _ => ⟨fun c => absurd c (by decide), fun _ => s_next hpn hp ?_⟩⟩
      rw [en]
      exact ⟨fun _ => ⟨by decide, h1 rfl _ _ hs⟩, fun c => absurd c (by decide)⟩
    · refine m_takes hpn hp e4 eb (fun c => absurd (en.symm.trans c) (by decide)) (fun _ => ⟨fun _ => h1 rfl _ hc, fun c => absurd rfl c⟩)
  | succ r ih =>
    intro p tn tk nv hr hp ht ok
    by_cases c : nxt bs pn p = 124
    · have lt : p < pn := by
        by_cases q : p < pn
        · exact q
        · unfold nxt at c
          rw [if_neg q] at c
          exact absurd c (by decide)
      obtain ⟨fine1, p1, tn1, tk1, nv1, a1, a2, a3, a4, a5⟩ := ls (p + 1) tn tk nv (by omega) (by omega)
      cases fine1 with
      | false =>
        refine ⟨false, p1, tn1, tk1, nv1, by omega, a2, fun q => absurd q (by decide), fun i hi sg nu Q hs _ h2 => ?_, fun code Q hc _ h2 => ?_⟩
        · refine ⟨fun z => absurd z (nI_ge (show i < 50 by omega) (by decide)), fun _ => ⟨fun z => absurd z (by decide), fun _ => s_next hpn hp ⟨fun z => absurd c z, fun _ => ?_⟩⟩⟩
          rintro v rfl
          rw [nI_1, nI_1]
          refine a4 sg nu _ hs (fun q => absurd q (by decide)) (fun _ t sg2 nu2 t50 => s_raddW t50 (fun t3 sg3 nu3 t350 => ?_))
          obtain ⟨kk, ek⟩ : ∃ kk, 50 - i = kk + 1 := ⟨50 - i - 1, by omega⟩
          rw [ek]
          exact ⟨fun _ => ⟨by decide, h2 rfl _ _ _ t350⟩, fun _ => ⟨fun _ => ⟨by decide, h2 rfl _ _ _ t350⟩, fun z => absurd rfl z⟩⟩
        · refine m_takes hpn hp e4 eb (fun _ => ⟨fun z => absurd z (by decide), fun _ => ?_⟩) (fun z => absurd c z)
          refine a5 code _ hc (fun q => absurd q (by decide)) (fun _ o2 c2 code2 => m_codesW ?_)
          exact m_takesW (by decide) ⟨fun _ => h2 rfl _ _ _, fun z => absurd rfl z⟩
      | true =>
        have o1 := a3 rfl
        have o2 := ok_bin (c := 4) (by decide) (by decide) ok o1
        have lt1 := o1.1
        have lt2 := o1.2.2.1
        obtain ⟨fine, p2, tn2, tk2, nv2, b1, b2, b3, b4, b5⟩ := ih p1 (tn1 + 1) _ _ (by omega) a2 (by omega) o2
        refine ⟨fine, p2, tn2, tk2, nv2, by omega, b2, b3, fun i hi sg nu Q hs h1 h2 => ?_, fun code Q hc h1 h2 => ?_⟩
        · refine ⟨fun z => absurd z (nI_ge (show i < 50 by omega) (by decide)), fun _ => ⟨fun z => absurd z (by decide), fun _ => s_next hpn hp ⟨fun z => absurd c z, fun _ => ?_⟩⟩⟩
          rintro v rfl
          rw [nI_1, nI_1]
          refine a4 sg nu _ hs (fun _ sg2 nu2 hs2 => s_radd (by omega) ?_) (fun q => absurd q (by decide))
          have q := b4 (i + 1) (by omega) _ _ Q (tokC_pu (c := 4) (v := 0) (x := 0) hs2 (show (124 : Int32) = sgT 4 from rfl) (fun z => absurd z (by decide))) h1 h2
          rw [show 50 - (i + 1) + 1 = 50 - i by omega] at q
          exact q
        · refine m_takes hpn hp e4 eb (fun _ => ⟨fun z => absurd z (by decide), fun _ => ?_⟩) (fun z => absurd c z)
          refine a5 code _ hc (fun _ code2 hc2 => m_codes (by omega) ?_) (fun q => absurd q (by decide))
          exact b5 _ Q (tokM_pu (c := 4) (v := 0) hc2 (show (20000 : Int32) = cdV 4 0 from rfl)) h1 h2
    · refine ⟨true, p, tn, tk, nv, Nat.le_refl _, hp, fun _ => ok, fun i hi sg nu Q hs h1 _ => ?_, fun code Q hc h1 _ => ?_⟩
      · refine ⟨fun _ => ⟨by decide, h1 rfl _ _ hs⟩, fun _ => ⟨fun z => absurd z (by decide), fun _ => s_next hpn hp ⟨fun _ => ⟨by decide, h1 rfl _ _ hs⟩, fun z => absurd z c⟩⟩⟩
      · exact m_takes hpn hp e4 eb (fun z => absurd z c) (fun _ => ⟨fun _ => h1 rfl _ hc, fun z => absurd rfl z⟩)
theorem ls_readAny {R0 R1 : CTy} {S0 S1 : MTy} {pn : Nat} (hpn : pn ≤ 50) {bs now : Nat → Int32} {fn us op : Int32} (e4 : now 4 = nI pn) (eb : ∀ i, i < pn → bs i = now (54 + i)) (ls : LSo (wp_X1_readAll R0 R1) (wp_X8_both S0 S1) pn bs now fn us op) : LSo (wp_X1_readAny R0 R1) (wp_X8_either S0 S1) pn bs now fn us op := by
  intro p tn tk nv hp ht
  obtain ⟨fine1, p1, tn1, tk1, nv1, a1, a2, a3, a4, a5⟩ := ls p tn tk nv hp ht
  cases fine1 with
  | false =>
    refine ⟨false, p1, tn1, tk1, nv1, a1, a2, fun q => absurd q (by decide), fun sg nu Q hs _ h2 => ?_, fun code Q hc _ h2 => ?_⟩
    · exact a4 sg nu _ hs (fun q => absurd q (by decide)) (fun _ t sg2 nu2 t50 => ⟨1, fun _ => ⟨by decide, h2 rfl _ _ _ t50⟩, fun _ => ⟨fun _ => ⟨by decide, h2 rfl _ _ _ t50⟩, fun z => absurd rfl z⟩⟩)
    · exact a5 code _ hc (fun q => absurd q (by decide)) (fun _ o2 c2 code2 => ⟨1, m_takesW (by decide) ⟨fun _ => h2 rfl _ _ _, fun z => absurd rfl z⟩⟩)
  | true =>
    have o1 := a3 rfl
    have lt2 := o1.2.2.1
    obtain ⟨fine, p2, tn2, tk2, nv2, b1, b2, b3, b4, b5⟩ := lp_readAny hpn e4 eb ls (pn - p1) p1 tn1 tk1 nv1 (by omega) a2 (by omega) o1
    refine ⟨fine, p2, tn2, tk2, nv2, by omega, b2, b3, fun sg nu Q hs h1 h2 => ?_, fun code Q hc h1 h2 => ?_⟩
    · exact a4 sg nu _ hs (fun _ sg2 nu2 hs2 => ⟨50 - 0 + 1, b4 0 (Nat.zero_le _) sg2 nu2 Q hs2 h1 h2⟩) (fun q => absurd q (by decide))
    · exact a5 code _ hc (fun _ code2 hc2 => ⟨_, b5 code2 Q hc2 h1 h2⟩) (fun q => absurd q (by decide))
