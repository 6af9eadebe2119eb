def cnC (bs : Nat → Int32) (pn p : Nat) (y : Int32) (q : Nat) : Prop := (nxt bs pn p = 60 ∧ y = 20002 ∧ q = p + 1) ∨ (¬ nxt bs pn p = 60 ∧ nxt bs pn p = 61 ∧ y = 20003 ∧ q = p + 1) ∨ (¬ nxt bs pn p = 60 ∧ ¬ nxt bs pn p = 61 ∧ nxt bs pn p = 62 ∧ y = 20004 ∧ q = p + 1) ∨ (¬ nxt bs pn p = 60 ∧ ¬ nxt bs pn p = 61 ∧ ¬ nxt bs pn p = 62 ∧ y = 0 ∧ q = p)
theorem ch_cnC {pn : Nat} (hpn : pn ≤ 50) {bs now : Nat → Int32} (e4 : now 4 = nI pn) (eb : ∀ i, i < pn → bs i = now (54 + i)) {p : Nat} (hp : p ≤ pn) {L : Int32 → Int32 → Prop} (h : ∀ y q, cnC bs pn p y q → L y (nI q)) : wp_X8_takes 60 (nI p) 0 now (fun r0 o0 => (r0 = 0 → wp_X8_takes 61 o0 0 now (fun r1 o1 => (r1 = 0 → wp_X8_takes 62 o1 0 now (fun r2 o2 => (r2 = 0 → L 0 o2) ∧ (¬ r2 = 0 → L 20004 o2))) ∧ (¬ r1 = 0 → L 20003 o1))) ∧ (¬ r0 = 0 → L 20002 o0)) := by
  exact m_takes hpn hp e4 eb (fun c => ⟨fun z => absurd z (by decide), fun _ => h _ _ (Or.inl ⟨c, rfl, rfl⟩)⟩) (fun n0 => ⟨fun _ => m_takes hpn hp e4 eb (fun c => ⟨fun z => absurd z (by decide), fun _ => h _ _ (Or.inr (Or.inl ⟨n0, c, rfl, rfl⟩))⟩) (fun n1 => ⟨fun _ => m_takes hpn hp e4 eb (fun c => ⟨fun z => absurd z (by decide), fun _ => h _ _ (Or.inr (Or.inr (Or.inl ⟨n0, n1, c, rfl, rfl⟩)))⟩) (fun n2 => ⟨fun _ => h _ _ (Or.inr (Or.inr (Or.inr (⟨n0, n1, n2, rfl, rfl⟩)))), fun z => absurd rfl z⟩), fun z => absurd rfl z⟩), fun z => absurd rfl z⟩)
theorem cw_cnC {now : Nat → Int32} {a : Int32} {L : Int32 → Int32 → Prop} (h : L 0 a) : wp_X8_takes 60 a 1 now (fun r0 o0 => (r0 = 0 → wp_X8_takes 61 o0 1 now (fun r1 o1 => (r1 = 0 → wp_X8_takes 62 o1 1 now (fun r2 o2 => (r2 = 0 → L 0 o2) ∧ (¬ r2 = 0 → L 20004 o2))) ∧ (¬ r1 = 0 → L 20003 o1))) ∧ (¬ r0 = 0 → L 20002 o0)) := m_takesW (by decide) ⟨fun _ => m_takesW (by decide) ⟨fun _ => m_takesW (by decide) ⟨fun _ => h, fun z => absurd rfl z⟩, fun z => absurd rfl z⟩, fun z => absurd rfl z⟩
theorem ls_readComparison {R0 R1 : CTy} {S0 S1 : MTy} {pn : Nat} (hpn : pn ≤ 50) {bs now : Nat → Int32} {fn us op : Int32} (e4 : now 4 = nI pn) (eb : ∀ i, i < pn → bs i = now (54 + i)) (ls : LSo (wp_X1_readSum R0 R1) (wp_X8_sum S0 S1) pn bs now fn us op) : LSo (wp_X1_readComparison R0 R1) (wp_X8_compared S0 S1) pn bs now fn us op := by
  intro p tn tk nv hp ht
  obtain ⟨fine1, p1, tn1, tk1, nv1, a1, a2, a3, a4, a5⟩ := ls p tn tk nv hp ht
  cases fine1 with
  | false =>
    refine ⟨false, p1, tn1, tk1, nv1, a1, a2, fun q => absurd q (by decide), fun sg nu Q hs _ h2 => ?_, fun code Q hc _ h2 => ?_⟩
    · exact a4 sg nu _ hs (fun q => absurd q (by decide)) (fun _ t sg2 nu2 t50 => s_next hpn a2 ⟨fun _ => ⟨by decide, h2 rfl _ _ _ t50⟩, fun z => absurd rfl z⟩)
    · exact a5 code _ hc (fun q => absurd q (by decide)) (fun _ o2 c2 code2 => cw_cnC (L := fun y a => lb_X8_compared_50 S0 S1 us now Q y a o2 1 c2 code2) ⟨fun _ => h2 rfl _ _ _, fun z => absurd (show (0 : Int32) ≤ 0 by decide) z⟩)
  | true =>
    have o1 := a3 rfl
    have lt2 := o1.2.2.1
    by_cases c0 : nxt bs pn p1 = 60
    · have lt : p1 < pn := by
        by_cases q : p1 < pn
        · exact q
        · unfold nxt at c0
          rw [if_neg q] at c0
          exact absurd c0 (by decide)
      obtain ⟨fine2, p2, tn2, tk2, nv2, b1, b2, b3, b4, b5⟩ := ls (p1 + 1) tn1 tk1 nv1 (by omega) (by omega)
      have only : ∀ y q, cnC bs pn p1 y q → y = 20002 ∧ q = p1 + 1 := by
        intro y q hy
        rcases hy with ⟨hc, ey, eq⟩ | ⟨g0, hc, ey, eq⟩ | ⟨g0, g1, hc, ey, eq⟩ | ⟨g0, g1, g2, ey, eq⟩
        · exact ⟨ey, eq⟩
        · exact absurd c0 g0
        · exact absurd c0 g0
        · exact absurd c0 g0
      cases fine2 with
      | false =>
        refine ⟨false, p2, tn2, tk2, nv2, by omega, b2, fun q => absurd q (by decide), fun sg nu Q hs _ h2 => ?_, fun code Q hc _ h2 => ?_⟩
        · refine a4 sg nu _ hs (fun _ sg2 nu2 hs2 => s_next hpn a2 ⟨fun z => absurd z (by decide), fun _ => ⟨fun _ => ?_, fun z => absurd c0 z⟩⟩) (fun q => absurd q (by decide))
          rw [c0]
          rintro v rfl
          rw [nI_1]
          exact b4 sg2 nu2 _ hs2 (fun q => absurd q (by decide)) (fun _ t sg3 nu3 t50 => s_raddW t50 (fun t3 sg4 nu4 t350 => ⟨by decide, h2 rfl _ _ _ t350⟩))
        · refine a5 code _ hc (fun _ code2 hc2 => ch_cnC (L := fun y a => lb_X8_compared_50 S0 S1 us now Q y a op 0 (nI tn1) code2) hpn e4 eb a2 (fun y q hy => ?_)) (fun q => absurd q (by decide))
          obtain ⟨rfl, rfl⟩ := only y q hy
          refine ⟨fun z => absurd z (by decide), fun _ => ?_⟩
          exact b5 code2 _ hc2 (fun q => absurd q (by decide)) (fun _ o2 c2 code3 => m_codesW (h2 rfl _ _ _))
      | true =>
        have o2 := b3 rfl
        have lt3 := o2.2.2.1
        refine ⟨true, p2, tn2 + 1, pu tk2 tn2 6, pu nv2 tn2 0, by omega, b2, fun _ => ok_bin (c := 6) (by decide) (by decide) o1 o2, fun sg nu Q hs h1 _ => ?_, fun code Q hc h1 _ => ?_⟩
        · refine a4 sg nu _ hs (fun _ sg2 nu2 hs2 => s_next hpn a2 ⟨fun z => absurd z (by decide), fun _ => ⟨fun _ => ?_, fun z => absurd c0 z⟩⟩) (fun q => absurd q (by decide))
          rw [c0]
          rintro v rfl
          rw [nI_1]
          exact b4 sg2 nu2 _ hs2 (fun _ sg3 nu3 hs3 => s_radd (by omega) ⟨by decide, h1 rfl _ _ (tokC_pu (c := 6) (v := 0) (x := 0) hs3 (show (60 : Int32) = sgT 6 from rfl) (fun z => absurd z (by decide)))⟩) (fun q => absurd q (by decide))
        · refine a5 code _ hc (fun _ code2 hc2 => ch_cnC (L := fun y a => lb_X8_compared_50 S0 S1 us now Q y a op 0 (nI tn1) code2) hpn e4 eb a2 (fun y q hy => ?_)) (fun q => absurd q (by decide))
          obtain ⟨rfl, rfl⟩ := only y q hy
          refine ⟨fun z => absurd z (by decide), fun _ => ?_⟩
          exact b5 code2 _ hc2 (fun _ code3 hc3 => m_codes (by omega) (h1 rfl _ (tokM_pu (c := 6) (v := 0) hc3 (show (20002 : Int32) = cdV 6 0 from rfl)))) (fun q => absurd q (by decide))
    · skip
      by_cases c1 : nxt bs pn p1 = 61
      · have lt : p1 < pn := by
          by_cases q : p1 < pn
          · exact q
          · unfold nxt at c1
            rw [if_neg q] at c1
            exact absurd c1 (by decide)
        obtain ⟨fine2, p2, tn2, tk2, nv2, b1, b2, b3, b4, b5⟩ := ls (p1 + 1) tn1 tk1 nv1 (by omega) (by omega)
        have only : ∀ y q, cnC bs pn p1 y q → y = 20003 ∧ q = p1 + 1 := by
          intro y q hy
          rcases hy with ⟨hc, ey, eq⟩ | ⟨g0, hc, ey, eq⟩ | ⟨g0, g1, hc, ey, eq⟩ | ⟨g0, g1, g2, ey, eq⟩
          · exact absurd (c1.symm.trans hc) (by decide)
          · exact ⟨ey, eq⟩
          · exact absurd c1 g1
          · exact absurd c1 g1
        cases fine2 with
        | false =>
          refine ⟨false, p2, tn2, tk2, nv2, by omega, b2, fun q => absurd q (by decide), fun sg nu Q hs _ h2 => ?_, fun code Q hc _ h2 => ?_⟩
          · refine a4 sg nu _ hs (fun _ sg2 nu2 hs2 => s_next hpn a2 ⟨fun z => absurd z (by decide), fun _ => ⟨fun z => absurd (c1.symm.trans z) (by decide), fun _ => ⟨fun _ => ?_, fun z => absurd c1 z⟩⟩⟩) (fun q => absurd q (by decide))
            rw [c1]
            rintro v rfl
            rw [nI_1]
            exact b4 sg2 nu2 _ hs2 (fun q => absurd q (by decide)) (fun _ t sg3 nu3 t50 => s_raddW t50 (fun t3 sg4 nu4 t350 => ⟨by decide, h2 rfl _ _ _ t350⟩))
          · refine a5 code _ hc (fun _ code2 hc2 => ch_cnC (L := fun y a => lb_X8_compared_50 S0 S1 us now Q y a op 0 (nI tn1) code2) hpn e4 eb a2 (fun y q hy => ?_)) (fun q => absurd q (by decide))
            obtain ⟨rfl, rfl⟩ := only y q hy
            refine ⟨fun z => absurd z (by decide), fun _ => ?_⟩
            exact b5 code2 _ hc2 (fun q => absurd q (by decide)) (fun _ o2 c2 code3 => m_codesW (h2 rfl _ _ _))
        | true =>
          have o2 := b3 rfl
          have lt3 := o2.2.2.1
          refine ⟨true, p2, tn2 + 1, pu tk2 tn2 7, pu nv2 tn2 0, by omega, b2, fun _ => ok_bin (c := 7) (by decide) (by decide) o1 o2, fun sg nu Q hs h1 _ => ?_, fun code Q hc h1 _ => ?_⟩
          · refine a4 sg nu _ hs (fun _ sg2 nu2 hs2 => s_next hpn a2 ⟨fun z => absurd z (by decide), fun _ => ⟨fun z => absurd (c1.symm.trans z) (by decide), fun _ => ⟨fun _ => ?_, fun z => absurd c1 z⟩⟩⟩) (fun q => absurd q (by decide))
            rw [c1]
            rintro v rfl
            rw [nI_1]
            exact b4 sg2 nu2 _ hs2 (fun _ sg3 nu3 hs3 => s_radd (by omega) ⟨by decide, h1 rfl _ _ (tokC_pu (c := 7) (v := 0) (x := 0) hs3 (show (61 : Int32) = sgT 7 from rfl) (fun z => absurd z (by decide)))⟩) (fun q => absurd q (by decide))
          · refine a5 code _ hc (fun _ code2 hc2 => ch_cnC (L := fun y a => lb_X8_compared_50 S0 S1 us now Q y a op 0 (nI tn1) code2) hpn e4 eb a2 (fun y q hy => ?_)) (fun q => absurd q (by decide))
            obtain ⟨rfl, rfl⟩ := only y q hy
            refine ⟨fun z => absurd z (by decide), fun _ => ?_⟩
            exact b5 code2 _ hc2 (fun _ code3 hc3 => m_codes (by omega) (h1 rfl _ (tokM_pu (c := 7) (v := 0) hc3 (show (20003 : Int32) = cdV 7 0 from rfl)))) (fun q => absurd q (by decide))
      · skip
        by_cases c2 : nxt bs pn p1 = 62
        · have lt : p1 < pn := by
            by_cases q : p1 < pn
            · exact q
            · unfold nxt at c2
              rw [if_neg q] at c2
              exact absurd c2 (by decide)
          obtain ⟨fine2, p2, tn2, tk2, nv2, b1, b2, b3, b4, b5⟩ := ls (p1 + 1) tn1 tk1 nv1 (by omega) (by omega)
          have only : ∀ y q, cnC bs pn p1 y q → y = 20004 ∧ q = p1 + 1 := by
            intro y q hy
            rcases hy with ⟨hc, ey, eq⟩ | ⟨g0, hc, ey, eq⟩ | ⟨g0, g1, hc, ey, eq⟩ | ⟨g0, g1, g2, ey, eq⟩
            · exact absurd (c2.symm.trans hc) (by decide)
            · exact absurd (c2.symm.trans hc) (by decide)
            · exact ⟨ey, eq⟩
            · exact absurd c2 g2
          cases fine2 with
          | false =>
            refine ⟨false, p2, tn2, tk2, nv2, by omega, b2, fun q => absurd q (by decide), fun sg nu Q hs _ h2 => ?_, fun code Q hc _ h2 => ?_⟩
            · refine a4 sg nu _ hs (fun _ sg2 nu2 hs2 => s_next hpn a2 ⟨fun z => absurd z (by decide), fun _ => ⟨fun z => absurd (c2.symm.trans z) (by decide), fun _ => ⟨fun z => absurd (c2.symm.trans z) (by decide), fun _ => ⟨fun z => absurd c2 z, fun _ => ?_⟩⟩⟩⟩) (fun q => absurd q (by decide))
              rw [c2]
              rintro v rfl
              rw [nI_1]
              exact b4 sg2 nu2 _ hs2 (fun q => absurd q (by decide)) (fun _ t sg3 nu3 t50 => s_raddW t50 (fun t3 sg4 nu4 t350 => ⟨by decide, h2 rfl _ _ _ t350⟩))
            · refine a5 code _ hc (fun _ code2 hc2 => ch_cnC (L := fun y a => lb_X8_compared_50 S0 S1 us now Q y a op 0 (nI tn1) code2) hpn e4 eb a2 (fun y q hy => ?_)) (fun q => absurd q (by decide))
              obtain ⟨rfl, rfl⟩ := only y q hy
              refine ⟨fun z => absurd z (by decide), fun _ => ?_⟩
              exact b5 code2 _ hc2 (fun q => absurd q (by decide)) (fun _ o2 c2 code3 => m_codesW (h2 rfl _ _ _))
          | true =>
            have o2 := b3 rfl
            have lt3 := o2.2.2.1
            refine ⟨true, p2, tn2 + 1, pu tk2 tn2 8, pu nv2 tn2 0, by omega, b2, fun _ => ok_bin (c := 8) (by decide) (by decide) o1 o2, fun sg nu Q hs h1 _ => ?_, fun code Q hc h1 _ => ?_⟩
            · refine a4 sg nu _ hs (fun _ sg2 nu2 hs2 => s_next hpn a2 ⟨fun z => absurd z (by decide), fun _ => ⟨fun z => absurd (c2.symm.trans z) (by decide), fun _ => ⟨fun z => absurd (c2.symm.trans z) (by decide), fun _ => ⟨fun z => absurd c2 z, fun _ => ?_⟩⟩⟩⟩) (fun q => absurd q (by decide))
              rw [c2]
              rintro v rfl
              rw [nI_1]
              exact b4 sg2 nu2 _ hs2 (fun _ sg3 nu3 hs3 => s_radd (by omega) ⟨by decide, h1 rfl _ _ (tokC_pu (c := 8) (v := 0) (x := 0) hs3 (show (62 : Int32) = sgT 8 from rfl) (fun z => absurd z (by decide)))⟩) (fun q => absurd q (by decide))
            · refine a5 code _ hc (fun _ code2 hc2 => ch_cnC (L := fun y a => lb_X8_compared_50 S0 S1 us now Q y a op 0 (nI tn1) code2) hpn e4 eb a2 (fun y q hy => ?_)) (fun q => absurd q (by decide))
              obtain ⟨rfl, rfl⟩ := only y q hy
              refine ⟨fun z => absurd z (by decide), fun _ => ?_⟩
              exact b5 code2 _ hc2 (fun _ code3 hc3 => m_codes (by omega) (h1 rfl _ (tokM_pu (c := 8) (v := 0) hc3 (show (20004 : Int32) = cdV 8 0 from rfl)))) (fun q => absurd q (by decide))
        · refine ⟨true, p1, tn1, tk1, nv1, a1, a2, fun _ => o1, fun sg nu Q hs h1 _ => ?_, fun code Q hc h1 _ => ?_⟩
          · exact a4 sg nu _ hs (fun _ sg2 nu2 hs2 => s_next hpn a2 ⟨fun z => absurd z (by decide), fun _ => ⟨fun z => absurd z c0, fun _ => ⟨fun z => absurd z c1, fun _ => ⟨fun _ => ⟨by decide, h1 rfl _ _ hs2⟩, fun z => absurd z c2⟩⟩⟩⟩) (fun q => absurd q (by decide))
          · refine a5 code _ hc (fun _ code2 hc2 => ch_cnC (L := fun y a => lb_X8_compared_50 S0 S1 us now Q y a op 0 (nI tn1) code2) hpn e4 eb a2 (fun y q hy => ?_)) (fun q => absurd q (by decide))
            rcases hy with ⟨hc0, _, _⟩ | ⟨_, hc1, _, _⟩ | ⟨_, _, hc2, _, _⟩ | ⟨_, _, _, rfl, rfl⟩
            · exact absurd hc0 c0
            · exact absurd hc1 c1
            · exact absurd hc2 c2
            · exact ⟨fun _ => h1 rfl _ hc2, fun z => absurd (show (0 : Int32) ≤ 0 by decide) z⟩
theorem nI_dig (a d : Nat) : nI a * 10 + nI (48 + d) - 48 = nI (a * 10 + d) := by
  have e : nI a * (10 : Int32) = nI (a * 10) := (Int32.ofNat_mul a 10).symm
  rw [e, ← nI_add 48 d, Int32.add_comm (nI 48), ← Int32.add_assoc, ← nI_add]
  exact Int32.add_sub_cancel _ _
theorem nI_dig2 (a d : Nat) : 10 * nI a + nI (48 + d) - 48 = nI (a * 10 + d) := by rw [Int32.mul_comm]; exact nI_dig a d
def dgt (x : Int32) : Prop := ¬ x < 48 ∧ ¬ 57 < x
theorem dgt_nat {x : Int32} (h : dgt x) : ∃ d, d ≤ 9 ∧ x = nI (48 + d) := by
  obtain ⟨j, j1, rfl⟩ := nI_of (x := x) (fun q => h.1 (fa_trans q (by decide)))
  have h1 := h.1
  have h2 := h.2
  rw [fa_lit 48, lt_nn j1 (by decide)] at h1
  rw [fa_lit 57, lt_nn (by decide) j1] at h2
  exact ⟨j - 48, by omega, by rw [show 48 + (j - 48) = j by omega]⟩
theorem s_dig {x : Int32} {Q : Int32 → Prop} (h1 : dgt x → Q 1) (h0 : ¬ dgt x → Q 0) : wp_X1_isDigit x Q := ⟨fun c => h0 (fun z => z.1 c), fun c => ⟨fun c2 => h0 (fun z => z.2 c2), fun c2 => h1 ⟨c, c2⟩⟩⟩
theorem m_dig {x : Int32} {Q : Int32 → Prop} (h1 : dgt x → Q 1) (h0 : ¬ dgt x → Q 0) : wp_X8_within x 48 57 Q := ⟨fun c => h0 (fun z => z.1 c), fun c => ⟨fun c2 => h0 (fun z => z.2 c2), fun c2 => h1 ⟨c, c2⟩⟩⟩
theorem lp_num {S0 S1 : MTy} {pn : Nat} (hpn : pn ≤ 50) {bs now : Nat → Int32} {us op : Int32} (e4 : now 4 = nI pn) (eb : ∀ i, i < pn → bs i = now (54 + i)) :
    ∀ r y p v, y + r = 4 → p ≤ pn → v < 10 ^ y → ∃ p2 v2, p ≤ p2 ∧ p2 ≤ pn ∧ v2 ≤ 9999 ∧ (0 < r → dgt (nxt bs pn p) → p < p2) ∧
      (∀ (sz : Int32) (sg nu : Nat → Int32) (Q : Int32 → Int32 → Int32 → (Nat → Int32) → (Nat → Int32) → Prop), lb_X1_readNumber_48 (nI pn) bs Q (nI v2) (nI p2) sz sg nu → lb_X1_readNumber_4 (nI pn) bs Q (r + 1) (nI v) (nI y) (nI p) sz sg nu) ∧
      (∀ (cd : Int32) (code : Nat → Int32) (Q : Int32 → Int32 → Int32 → Int32 → (Nat → Int32) → Prop), lb_X8_one_179 S0 S1 us now Q (nI v2) (nI p2) op 0 cd code → lb_X8_one_131 S0 S1 us now Q (r + 1) (nI v) (nI y) (nI p) op 0 cd code) := by
  intro r
  induction r with
  | zero =>
    intro y p v hy hp hv
    have ey : y = 4 := by omega
    subst ey
    exact ⟨p, v, Nat.le_refl _, hp, by omega, fun q => absurd q (by decide), fun sz sg nu Q h => ⟨fun _ => h, fun c => absurd (show (4 : Int32) ≤ nI 4 by decide) c⟩, fun cd code Q h => ⟨fun _ => h, fun c => absurd (show (4 : Int32) ≤ nI 4 by decide) c⟩⟩
  | succ r ih =>
    intro y p v hy hp hv
    have y4 : ¬ (4 : Int32) ≤ nI y := nI_ge (show y < 4 by omega) (by decide)
    by_cases c : dgt (nxt bs pn p)
    · have lt : p < pn := by
        by_cases q : p < pn
        · exact q
        · unfold nxt at c
          rw [if_neg q] at c
          exact absurd (show (-1 : Int32) < 48 by decide) c.1
      obtain ⟨d, d1, d2⟩ := dgt_nat c
      have pw : 10 ^ (y + 1) = 10 ^ y * 10 := Nat.pow_succ _ _
      obtain ⟨p2, v2, a1, a2, a3, _, a5, a6⟩ := ih (y + 1) (p + 1) (v * 10 + d) (by omega) (by omega) (by omega)
      refine ⟨p2, v2, by omega, a2, a3, fun _ _ => by omega, fun sz sg nu Q h => ?_, fun cd code Q h => ?_⟩
      · refine ⟨fun z => absurd z y4, fun _ => s_next hpn hp (s_dig (fun _ => ⟨fun z => absurd z (by decide), fun _ => s_next hpn hp ?_⟩) (fun z => absurd c z))⟩
        rw [d2]
        rintro v9 rfl v10 rfl
        rw [nI_dig, nI_1, nI_1]
        exact a5 sz sg nu Q h
      · refine ⟨fun z => absurd z y4, fun _ => m_here hpn hp e4 eb (m_dig (fun _ => ⟨fun z => absurd z (by decide), fun _ => m_here hpn hp e4 eb ?_⟩) (fun z => absurd c z))⟩
        rw [d2]
        rintro v9 rfl v10 rfl
        rw [nI_dig2, nI_1, nI_1]
        exact a6 cd code Q h
    · have lim : v ≤ 9999 := by
        have e : 10 ^ y ≤ 10 ^ 4 := Nat.pow_le_pow_right (by decide) (by omega)
        omega
      refine ⟨p, v, Nat.le_refl _, hp, lim, fun _ q => absurd q c, fun sz sg nu Q h => ?_, fun cd code Q h => ?_⟩
      · exact ⟨fun z => absurd z y4, fun _ => s_next hpn hp (s_dig (fun z => absurd z c) (fun _ => ⟨fun _ => h, fun z => absurd rfl z⟩))⟩
      · exact ⟨fun z => absurd z y4, fun _ => m_here hpn hp e4 eb (m_dig (fun z => absurd z c) (fun _ => ⟨fun _ => h, fun z => absurd rfl z⟩))⟩
theorem lt_of_nx {bs : Nat → Int32} {pn p : Nat} {c : Int32} (h : nxt bs pn p = c) (hc : ¬ c = -1) : p < pn := by
  by_cases q : p < pn
  · exact q
  · unfold nxt at h
    rw [if_neg q] at h
    exact absurd h.symm hc
theorem nm_0 {R0 R1 : CTy} {S0 S1 : MTy} {pn : Nat} (hpn : pn ≤ 50) {bs now : Nat → Int32} {op : Int32} (e4 : now 4 = nI pn) (eb : ∀ i, i < pn → bs i = now (54 + i)) {p tn : Nat} {tk : Nat → Nat} {nv : Nat → Int32} (hp : p ≤ pn) (ht : tn ≤ p) (c33 : ¬ nxt bs pn p = 33) (c40 : ¬ nxt bs pn p = 40) (cd : ¬ dgt (nxt bs pn p)) : ∃ (fine : Bool) (p2 tn2 : Nat) (tk2 : Nat → Nat) (nv2 : Nat → Int32), p ≤ p2 ∧ p2 ≤ pn ∧ (fine = true → okR p tn tk nv p2 tn2 tk2 nv2) ∧ CPo (wp_X1_readSingle R0 R1) pn bs 0 op p tn tk nv fine p2 tn2 tk2 nv2 ∧ MPo (wp_X8_one S0 S1) now 0 op p tn tk nv fine p2 tn2 tk2 nv2 := by
  have k0 : kN ((0 : Int32) + 0).toNatClampNeg = 115 := by decide
  have v0 : vp_in ((0 : Int32) + 0) 6 := by unfold vp_in; decide
  have k1 : kN ((0 : Int32) + (0 + 1)).toNatClampNeg = 104 := by decide
  have v1 : vp_in ((0 : Int32) + (0 + 1)) 6 := by unfold vp_in; decide
  have k2 : kN ((0 : Int32) + (0 + 1 + 1)).toNatClampNeg = 110 := by decide
  have v2 : vp_in ((0 : Int32) + (0 + 1 + 1)) 6 := by unfold vp_in; decide
  by_cases n0 : nxt bs pn p = 115
  · have lt := lt_of_nx n0 (by decide)
    refine ⟨true, p + 1, tn + 1, pu tk tn 1, pu nv tn 0, by omega, by omega, fun _ => ok_leaf (by omega) (by decide) (fun q => absurd q (by decide)), fun sg nu Q hs h1 _ => ?_, fun code Q hc h1 _ => ?_⟩
    · refine s_next hpn hp ?_
      rw [n0]
      refine ⟨fun z => absurd z (by decide), fun _ => ⟨fun _ => s_dig (fun z => absurd (n0 ▸ z) cd) (fun _ => ⟨fun _ => ⟨4, ⟨fun z => absurd z (by decide), fun _ => ⟨v0, fun z => absurd (k0.symm) z, fun _ => ?_⟩⟩⟩, fun z => absurd rfl z⟩), fun z => absurd z (by decide)⟩⟩
      rintro v rfl
      rw [nI_1]
      exact s_radd (by omega) ⟨by decide, h1 rfl _ _ (tokC_pu (c := 1) (v := 0) (x := 0) hs (by decide) (fun z => absurd z (by decide)))⟩
    · refine m_here hpn hp e4 eb ?_
      rw [n0]
      refine ⟨fun z => absurd z (by decide), fun _ => ⟨fun _ => m_dig (fun z => absurd (n0 ▸ z) cd) (fun _ => ⟨fun _ => ⟨fun _ => ⟨by decide, fun z => absurd rfl z, fun _ => ⟨fun _ => ⟨Or.inl rfl, fun z => absurd rfl z, fun _ => ?_⟩, fun z => absurd (show (0 : Int32) ≤ nam3 0 115 by decide) z⟩⟩, fun z => absurd (show (0 : Int32) ≤ 115 by decide) z⟩, fun z => absurd rfl z⟩), fun z => absurd z (by decide)⟩⟩
      refine m_codes (by omega) ?_
      rintro v rfl
      rw [nI_1]
      exact h1 rfl _ (tokM_pu (c := 1) (v := 0) hc (by decide))
  by_cases n1 : nxt bs pn p = 104
  · have lt := lt_of_nx n1 (by decide)
    refine ⟨true, p + 1, tn + 1, pu tk tn 2, pu nv tn 0, by omega, by omega, fun _ => ok_leaf (by omega) (by decide) (fun q => absurd q (by decide)), fun sg nu Q hs h1 _ => ?_, fun code Q hc h1 _ => ?_⟩
    · refine s_next hpn hp ?_
      rw [n1]
      refine ⟨fun z => absurd z (by decide), fun _ => ⟨fun _ => s_dig (fun z => absurd (n1 ▸ z) cd) (fun _ => ⟨fun _ => ⟨4, ⟨fun z => absurd z (by decide), fun _ => ⟨v0, fun _ => ⟨fun z => absurd z (by decide), fun _ => ⟨v1, fun z => absurd (k1.symm) z, fun _ => ?_⟩⟩, fun z => absurd (z.trans k0) (by decide)⟩⟩⟩, fun z => absurd rfl z⟩), fun z => absurd z (by decide)⟩⟩
      rintro v rfl
      rw [nI_1]
      exact s_radd (by omega) ⟨by decide, h1 rfl _ _ (tokC_pu (c := 2) (v := 0) (x := 0) hs (by decide) (fun z => absurd z (by decide)))⟩
    · refine m_here hpn hp e4 eb ?_
      rw [n1]
      refine ⟨fun z => absurd z (by decide), fun _ => ⟨fun _ => m_dig (fun z => absurd (n1 ▸ z) cd) (fun _ => ⟨fun _ => ⟨fun _ => ⟨by decide, fun z => absurd rfl z, fun _ => ⟨fun _ => ⟨Or.inl rfl, fun z => absurd rfl z, fun _ => ?_⟩, fun z => absurd (show (0 : Int32) ≤ nam3 0 104 by decide) z⟩⟩, fun z => absurd (show (0 : Int32) ≤ 104 by decide) z⟩, fun z => absurd rfl z⟩), fun z => absurd z (by decide)⟩⟩
      refine m_codes (by omega) ?_
      rintro v rfl
      rw [nI_1]
      exact h1 rfl _ (tokM_pu (c := 2) (v := 0) hc (by decide))
  by_cases n2 : nxt bs pn p = 110
  · have lt := lt_of_nx n2 (by decide)
    refine ⟨true, p + 1, tn + 1, pu tk tn 3, pu nv tn 0, by omega, by omega, fun _ => ok_leaf (by omega) (by decide) (fun q => absurd q (by decide)), fun sg nu Q hs h1 _ => ?_, fun code Q hc h1 _ => ?_⟩
    · refine s_next hpn hp ?_
      rw [n2]
      refine ⟨fun z => absurd z (by decide), fun _ => ⟨fun _ => s_dig (fun z => absurd (n2 ▸ z) cd) (fun _ => ⟨fun _ => ⟨4, ⟨fun z => absurd z (by decide), fun _ => ⟨v0, fun _ => ⟨fun z => absurd z (by decide), fun _ => ⟨v1, fun _ => ⟨fun z => absurd z (by decide), fun _ => ⟨v2, fun z => absurd (k2.symm) z, fun _ => ?_⟩⟩, fun z => absurd (z.trans k1) (by decide)⟩⟩, fun z => absurd (z.trans k0) (by decide)⟩⟩⟩, fun z => absurd rfl z⟩), fun z => absurd z (by decide)⟩⟩
      rintro v rfl
      rw [nI_1]
      exact s_radd (by omega) ⟨by decide, h1 rfl _ _ (tokC_pu (c := 3) (v := 0) (x := 0) hs (by decide) (fun z => absurd z (by decide)))⟩
    · refine m_here hpn hp e4 eb ?_
      rw [n2]
      refine ⟨fun z => absurd z (by decide), fun _ => ⟨fun _ => m_dig (fun z => absurd (n2 ▸ z) cd) (fun _ => ⟨fun _ => ⟨fun _ => ⟨by decide, fun z => absurd rfl z, fun _ => ⟨fun _ => ⟨Or.inl rfl, fun z => absurd rfl z, fun _ => ?_⟩, fun z => absurd (show (0 : Int32) ≤ nam3 0 110 by decide) z⟩⟩, fun z => absurd (show (0 : Int32) ≤ 110 by decide) z⟩, fun z => absurd rfl z⟩), fun z => absurd z (by decide)⟩⟩
      refine m_codes (by omega) ?_
      rintro v rfl
      rw [nI_1]
      exact h1 rfl _ (tokM_pu (c := 3) (v := 0) hc (by decide))
  have en : nam3 0 (nxt bs pn p) = -1 := by
    unfold nam3
    rw [if_pos rfl, if_neg n2, if_neg n1, if_neg n0]
  refine ⟨false, p, tn, tk, nv, Nat.le_refl _, hp, fun q => absurd q (by decide), fun sg nu Q hs _ h2 => ?_, fun code Q hc _ h2 => ?_⟩
  · exact s_next hpn hp ⟨fun z => absurd z c33, fun _ => ⟨fun _ => s_dig (fun z => absurd z cd) (fun _ => ⟨fun _ => ⟨4, ⟨fun z => absurd z (by decide), fun _ => ⟨v0, fun _ => ⟨fun z => absurd z (by decide), fun _ => ⟨v1, fun _ => ⟨fun z => absurd z (by decide), fun _ => ⟨v2, fun _ => ⟨fun _ => ⟨by decide, h2 rfl _ _ _ (by omega)⟩, fun z => absurd (show (3 : Int32) ≤ 0 + 1 + 1 + 1 by decide) z⟩, fun z => absurd (z.trans k2) n2⟩⟩, fun z => absurd (z.trans k1) n1⟩⟩, fun z => absurd (z.trans k0) n0⟩⟩⟩, fun z => absurd rfl z⟩), fun z => absurd z c40⟩⟩
  · refine m_here hpn hp e4 eb ⟨fun z => absurd z c33, fun _ => ⟨fun _ => m_dig (fun z => absurd z cd) (fun _ => ⟨fun _ => ⟨fun _ => ⟨by decide, ?_⟩, fun _ => ⟨fun z => absurd rfl z, fun _ => ⟨fun z => absurd z (by decide), fun _ => ⟨Or.inr rfl, fun _ => h2 rfl _ _ _, fun z => absurd z (by decide)⟩⟩⟩⟩, fun z => absurd rfl z⟩), fun z => absurd z c40⟩⟩
    rw [en]
    exact ⟨fun z => absurd rfl z, fun _ => ⟨fun z => absurd z (by decide), fun _ => ⟨Or.inr rfl, fun _ => h2 rfl _ _ _, fun z => absurd z (by decide)⟩⟩⟩
theorem nm_1 {R0 R1 : CTy} {S0 S1 : MTy} {pn : Nat} (hpn : pn ≤ 50) {bs now : Nat → Int32} {op : Int32} (e4 : now 4 = nI pn) (eb : ∀ i, i < pn → bs i = now (54 + i)) {p tn : Nat} {tk : Nat → Nat} {nv : Nat → Int32} (hp : p ≤ pn) (ht : tn ≤ p) (c33 : ¬ nxt bs pn p = 33) (c40 : ¬ nxt bs pn p = 40) (cd : ¬ dgt (nxt bs pn p)) : ∃ (fine : Bool) (p2 tn2 : Nat) (tk2 : Nat → Nat) (nv2 : Nat → Int32), p ≤ p2 ∧ p2 ≤ pn ∧ (fine = true → okR p tn tk nv p2 tn2 tk2 nv2) ∧ CPo (wp_X1_readSingle R0 R1) pn bs 3 op p tn tk nv fine p2 tn2 tk2 nv2 ∧ MPo (wp_X8_one S0 S1) now 1 op p tn tk nv fine p2 tn2 tk2 nv2 := by
  have k0 : kN ((3 : Int32) + 0).toNatClampNeg = 102 := by decide
  have v0 : vp_in ((3 : Int32) + 0) 6 := by unfold vp_in; decide
  have k1 : kN ((3 : Int32) + (0 + 1)).toNatClampNeg = 109 := by decide
  have v1 : vp_in ((3 : Int32) + (0 + 1)) 6 := by unfold vp_in; decide
  have k2 : kN ((3 : Int32) + (0 + 1 + 1)).toNatClampNeg = 115 := by decide
  have v2 : vp_in ((3 : Int32) + (0 + 1 + 1)) 6 := by unfold vp_in; decide
  by_cases n0 : nxt bs pn p = 102
  · have lt := lt_of_nx n0 (by decide)
    refine ⟨true, p + 1, tn + 1, pu tk tn 1, pu nv tn 0, by omega, by omega, fun _ => ok_leaf (by omega) (by decide) (fun q => absurd q (by decide)), fun sg nu Q hs h1 _ => ?_, fun code Q hc h1 _ => ?_⟩
    · refine s_next hpn hp ?_
      rw [n0]
      refine ⟨fun z => absurd z (by decide), fun _ => ⟨fun _ => s_dig (fun z => absurd (n0 ▸ z) cd) (fun _ => ⟨fun _ => ⟨4, ⟨fun z => absurd z (by decide), fun _ => ⟨v0, fun z => absurd (k0.symm) z, fun _ => ?_⟩⟩⟩, fun z => absurd rfl z⟩), fun z => absurd z (by decide)⟩⟩
      rintro v rfl
      rw [nI_1]
      exact s_radd (by omega) ⟨by decide, h1 rfl _ _ (tokC_pu (c := 1) (v := 0) (x := 0) hs (by decide) (fun z => absurd z (by decide)))⟩
    · refine m_here hpn hp e4 eb ?_
      rw [n0]
      refine ⟨fun z => absurd z (by decide), fun _ => ⟨fun _ => m_dig (fun z => absurd (n0 ▸ z) cd) (fun _ => ⟨fun _ => ⟨fun _ => ⟨by decide, fun z => absurd rfl z, fun _ => ⟨fun _ => ⟨Or.inl rfl, fun z => absurd rfl z, fun _ => ?_⟩, fun z => absurd (show (0 : Int32) ≤ nam3 1 102 by decide) z⟩⟩, fun z => absurd (show (0 : Int32) ≤ 102 by decide) z⟩, fun z => absurd rfl z⟩), fun z => absurd z (by decide)⟩⟩
      refine m_codes (by omega) ?_
      rintro v rfl
      rw [nI_1]
      exact h1 rfl _ (tokM_pu (c := 1) (v := 0) hc (by decide))
  by_cases n1 : nxt bs pn p = 109
  · have lt := lt_of_nx n1 (by decide)
    refine ⟨true, p + 1, tn + 1, pu tk tn 2, pu nv tn 0, by omega, by omega, fun _ => ok_leaf (by omega) (by decide) (fun q => absurd q (by decide)), fun sg nu Q hs h1 _ => ?_, fun code Q hc h1 _ => ?_⟩
    · refine s_next hpn hp ?_
      rw [n1]
      refine ⟨fun z => absurd z (by decide), fun _ => ⟨fun _ => s_dig (fun z => absurd (n1 ▸ z) cd) (fun _ => ⟨fun _ => ⟨4, ⟨fun z => absurd z (by decide), fun _ => ⟨v0, fun _ => ⟨fun z => absurd z (by decide), fun _ => ⟨v1, fun z => absurd (k1.symm) z, fun _ => ?_⟩⟩, fun z => absurd (z.trans k0) (by decide)⟩⟩⟩, fun z => absurd rfl z⟩), fun z => absurd z (by decide)⟩⟩
      rintro v rfl
      rw [nI_1]
      exact s_radd (by omega) ⟨by decide, h1 rfl _ _ (tokC_pu (c := 2) (v := 0) (x := 0) hs (by decide) (fun z => absurd z (by decide)))⟩
    · refine m_here hpn hp e4 eb ?_
      rw [n1]
      refine ⟨fun z => absurd z (by decide), fun _ => ⟨fun _ => m_dig (fun z => absurd (n1 ▸ z) cd) (fun _ => ⟨fun _ => ⟨fun _ => ⟨by decide, fun z => absurd rfl z, fun _ => ⟨fun _ => ⟨Or.inl rfl, fun z => absurd rfl z, fun _ => ?_⟩, fun z => absurd (show (0 : Int32) ≤ nam3 1 109 by decide) z⟩⟩, fun z => absurd (show (0 : Int32) ≤ 109 by decide) z⟩, fun z => absurd rfl z⟩), fun z => absurd z (by decide)⟩⟩
      refine m_codes (by omega) ?_
      rintro v rfl
      rw [nI_1]
      exact h1 rfl _ (tokM_pu (c := 2) (v := 0) hc (by decide))
  by_cases n2 : nxt bs pn p = 115
  · have lt := lt_of_nx n2 (by decide)
    refine ⟨true, p + 1, tn + 1, pu tk tn 3, pu nv tn 0, by omega, by omega, fun _ => ok_leaf (by omega) (by decide) (fun q => absurd q (by decide)), fun sg nu Q hs h1 _ => ?_, fun code Q hc h1 _ => ?_⟩
    · refine s_next hpn hp ?_
      rw [n2]
      refine ⟨fun z => absurd z (by decide), fun _ => ⟨fun _ => s_dig (fun z => absurd (n2 ▸ z) cd) (fun _ => ⟨fun _ => ⟨4, ⟨fun z => absurd z (by decide), fun _ => ⟨v0, fun _ => ⟨fun z => absurd z (by decide), fun _ => ⟨v1, fun _ => ⟨fun z => absurd z (by decide), fun _ => ⟨v2, fun z => absurd (k2.symm) z, fun _ => ?_⟩⟩, fun z => absurd (z.trans k1) (by decide)⟩⟩, fun z => absurd (z.trans k0) (by decide)⟩⟩⟩, fun z => absurd rfl z⟩), fun z => absurd z (by decide)⟩⟩
      rintro v rfl
      rw [nI_1]
      exact s_radd (by omega) ⟨by decide, h1 rfl _ _ (tokC_pu (c := 3) (v := 0) (x := 0) hs (by decide) (fun z => absurd z (by decide)))⟩
    · refine m_here hpn hp e4 eb ?_
      rw [n2]
      refine ⟨fun z => absurd z (by decide), fun _ => ⟨fun _ => m_dig (fun z => absurd (n2 ▸ z) cd) (fun _ => ⟨fun _ => ⟨fun _ => ⟨by decide, fun z => absurd rfl z, fun _ => ⟨fun _ => ⟨Or.inl rfl, fun z => absurd rfl z, fun _ => ?_⟩, fun z => absurd (show (0 : Int32) ≤ nam3 1 115 by decide) z⟩⟩, fun z => absurd (show (0 : Int32) ≤ 115 by decide) z⟩, fun z => absurd rfl z⟩), fun z => absurd z (by decide)⟩⟩
      refine m_codes (by omega) ?_
      rintro v rfl
      rw [nI_1]
      exact h1 rfl _ (tokM_pu (c := 3) (v := 0) hc (by decide))
  have en : nam3 1 (nxt bs pn p) = -1 := by
    unfold nam3
    rw [if_neg (by decide), if_neg n2, if_neg n1, if_neg n0]
  refine ⟨false, p, tn, tk, nv, Nat.le_refl _, hp, fun q => absurd q (by decide), fun sg nu Q hs _ h2 => ?_, fun code Q hc _ h2 => ?_⟩
  · exact s_next hpn hp ⟨fun z => absurd z c33, fun _ => ⟨fun _ => s_dig (fun z => absurd z cd) (fun _ => ⟨fun _ => ⟨4, ⟨fun z => absurd z (by decide), fun _ => ⟨v0, fun _ => ⟨fun z => absurd z (by decide), fun _ => ⟨v1, fun _ => ⟨fun z => absurd z (by decide), fun _ => ⟨v2, fun _ => ⟨fun _ => ⟨by decide, h2 rfl _ _ _ (by omega)⟩, fun z => absurd (show (3 : Int32) ≤ 0 + 1 + 1 + 1 by decide) z⟩, fun z => absurd (z.trans k2) n2⟩⟩, fun z => absurd (z.trans k1) n1⟩⟩, fun z => absurd (z.trans k0) n0⟩⟩⟩, fun z => absurd rfl z⟩), fun z => absurd z c40⟩⟩
  · refine m_here hpn hp e4 eb ⟨fun z => absurd z c33, fun _ => ⟨fun _ => m_dig (fun z => absurd z cd) (fun _ => ⟨fun _ => ⟨fun _ => ⟨by decide, ?_⟩, fun _ => ⟨fun z => absurd rfl z, fun _ => ⟨fun z => absurd z (by decide), fun _ => ⟨Or.inr rfl, fun _ => h2 rfl _ _ _, fun z => absurd z (by decide)⟩⟩⟩⟩, fun z => absurd rfl z⟩), fun z => absurd z c40⟩⟩
    rw [en]
    exact ⟨fun z => absurd rfl z, fun _ => ⟨fun z => absurd z (by decide), fun _ => ⟨Or.inr rfl, fun _ => h2 rfl _ _ _, fun z => absurd z (by decide)⟩⟩⟩
theorem ls_readSingle {R0 R1 : CTy} {S0 S1 : MTy} {pn : Nat} (hpn : pn ≤ 50) {bs now : Nat → Int32} {fn us : Int32} {k : Nat} (hk : k ≤ 5) (hu : (us = 0 ∧ fn = 0) ∨ (us = 1 ∧ fn = 3)) (e4 : now 4 = nI pn) (eb : ∀ i, i < pn → bs i = now (54 + i)) (l1 : k < 5 → LSo R0 S1 pn bs now fn us (nI (k + 1))) (l2 : k < 5 → LSo R1 S0 pn bs now fn us (nI (k + 1))) : LSo (wp_X1_readSingle R0 R1) (wp_X8_one S0 S1) pn bs now fn us (nI k) := by
  intro p tn tk nv hp ht
  have k5 : k < 5 → ¬ nI k = 5 := fun q z => absurd ((nI_eq (by omega) (by decide)).mp (z.trans (fa_lit 5))) (by omega)
  have k6 : k < 5 → ¬ (5 : Int32) ≤ nI k := fun q => nI_ge q (by decide)
  by_cases c33 : nxt bs pn p = 33
  · have lt := lt_of_nx c33 (by decide)
    by_cases q5 : k < 5
    · obtain ⟨fine1, p1, tn1, tk1, nv1, a1, a2, a3, a4, a5⟩ := l1 q5 (p + 1) tn tk nv (by omega) (by omega)
      cases fine1 with
      | false =>
        refine ⟨false, p1, tn1, tk1, nv1, by omega, a2, fun q => absurd q (by decide), fun sg nu Q hs _ h2 => ?_, fun code Q hc _ h2 => ?_⟩
        · refine s_next hpn hp ⟨fun _ => ⟨fun z => absurd z (k6 q5), fun _ => ?_⟩, fun z => absurd c33 z⟩
          rw [c33]
          rintro v rfl
          refine ⟨fun z => absurd rfl z, fun _ => ?_⟩
          rw [nI_1, nI_1]
          exact a4 sg nu _ hs (fun q => absurd q (by decide)) (fun _ t sg2 nu2 t50 => s_raddW t50 (fun t3 sg4 nu4 t350 => ⟨by decide, fun _ => h2 rfl _ _ _ t350, fun z => absurd rfl z⟩))
        · refine m_here hpn hp e4 eb ⟨fun _ => ⟨fun _ => ⟨Or.inl rfl, fun z => absurd rfl z, fun _ => ?_⟩, fun z => absurd z (k5 q5)⟩, fun z => absurd c33 z⟩
          rw [c33]
          rintro v rfl w rfl
          refine ⟨fun z => absurd rfl z, fun _ => ?_⟩
          rw [nI_1, nI_1]
          exact a5 code _ hc (fun q => absurd q (by decide)) (fun _ o2 c2 code2 => m_codesW (fun v _ => h2 rfl _ _ _))
      | true =>
        have o1 := a3 rfl
        have lt2 := o1.2.2.1
        refine ⟨true, p1, tn1 + 1, pu tk1 tn1 14, pu nv1 tn1 0, by omega, a2, fun _ => ok_not o1, fun sg nu Q hs h1 _ => ?_, fun code Q hc h1 _ => ?_⟩
        · refine s_next hpn hp ⟨fun _ => ⟨fun z => absurd z (k6 q5), fun _ => ?_⟩, fun z => absurd c33 z⟩
          rw [c33]
          rintro v rfl
          refine ⟨fun z => absurd rfl z, fun _ => ?_⟩
          rw [nI_1, nI_1]
          exact a4 sg nu _ hs (fun _ sg2 nu2 hs2 => s_radd (by omega) ⟨by decide, fun z => absurd z (by decide), fun _ => h1 rfl _ _ (tokC_pu (c := 14) (v := 0) (x := 0) hs2 (show (33 : Int32) = sgT 14 from rfl) (fun z => absurd z (by decide)))⟩) (fun q => absurd q (by decide))
        · refine m_here hpn hp e4 eb ⟨fun _ => ⟨fun _ => ⟨Or.inl rfl, fun z => absurd rfl z, fun _ => ?_⟩, fun z => absurd z (k5 q5)⟩, fun z => absurd c33 z⟩
          rw [c33]
          rintro v rfl w rfl
          refine ⟨fun z => absurd rfl z, fun _ => ?_⟩
          rw [nI_1, nI_1]
          refine a5 code _ hc (fun _ code2 hc2 => m_codes (by omega) ?_) (fun q => absurd q (by decide))
          rintro v rfl
          rw [nI_sub1 (by omega)]
          exact h1 rfl _ (tokM_pu (c := 14) (v := 0) hc2 (show (20010 : Int32) = cdV 14 0 from rfl))
    · have ek : k = 5 := by omega
      subst ek
      refine ⟨false, p, tn, tk, nv, Nat.le_refl _, hp, fun q => absurd q (by decide), fun sg nu Q hs _ h2 => ?_, fun code Q hc _ h2 => ?_⟩
      · exact s_next hpn hp ⟨fun _ => ⟨fun _ => h2 rfl _ _ _ (by omega), fun z => absurd (show (5 : Int32) ≤ nI 5 by decide) z⟩, fun z => absurd c33 z⟩
      · exact m_here hpn hp e4 eb ⟨fun _ => ⟨fun z => absurd rfl z, fun _ => ⟨Or.inr rfl, fun _ => h2 rfl _ _ _, fun z => absurd z (by decide)⟩⟩, fun z => absurd c33 z⟩
  · by_cases c40 : nxt bs pn p = 40
    · have lt := lt_of_nx c40 (by decide)
      by_cases q5 : k < 5
      · obtain ⟨fine1, p1, tn1, tk1, nv1, a1, a2, a3, a4, a5⟩ := l2 q5 (p + 1) tn tk nv (by omega) (by omega)
        cases fine1 with
        | false =>
          refine ⟨false, p1, tn1, tk1, nv1, by omega, a2, fun q => absurd q (by decide), fun sg nu Q hs _ h2 => ?_, fun code Q hc _ h2 => ?_⟩
          · refine s_next hpn hp ⟨fun z => absurd z c33, fun _ => ⟨fun z => absurd c40 z, fun _ => ⟨fun z => absurd z (k6 q5), fun _ => ?_⟩⟩⟩
            rw [c40]
            rintro v rfl
            refine ⟨fun _ => ?_, fun z => absurd z (by decide)⟩
            rw [nI_1, nI_1]
            exact a4 sg nu _ hs (fun q => absurd q (by decide)) (fun _ t sg2 nu2 t50 => ⟨fun _ => ⟨fun _ => h2 rfl _ _ _ t50, fun z => absurd rfl z⟩, fun z => absurd rfl z⟩)
          · refine m_here hpn hp e4 eb ⟨fun z => absurd z c33, fun _ => ⟨fun z => absurd c40 z, fun _ => ⟨fun _ => ⟨Or.inl rfl, fun z => absurd rfl z, fun _ => ?_⟩, fun z => absurd z (k5 q5)⟩⟩⟩
            rw [c40]
            rintro v rfl w rfl
            refine ⟨fun _ => ?_, fun z => absurd z (by decide)⟩
            rw [nI_1, nI_1]
            exact a5 code _ hc (fun q => absurd q (by decide)) (fun _ o2 c2 code2 => m_takesW (by decide) ⟨fun z => absurd rfl z, fun _ v _ => h2 rfl _ _ _⟩)
        | true =>
          have o1 := a3 rfl
          by_cases c41 : nxt bs pn p1 = 41
          · have lt1 := lt_of_nx c41 (by decide)
            refine ⟨true, p1 + 1, tn1, tk1, nv1, by omega, by omega, fun _ => ok_par o1, fun sg nu Q hs h1 _ => ?_, fun code Q hc h1 _ => ?_⟩
            · refine s_next hpn hp ⟨fun z => absurd z c33, fun _ => ⟨fun z => absurd c40 z, fun _ => ⟨fun z => absurd z (k6 q5), fun _ => ?_⟩⟩⟩
              rw [c40]
              rintro v rfl
              refine ⟨fun _ => ?_, fun z => absurd z (by decide)⟩
              rw [nI_1, nI_1]
              refine a4 sg nu _ hs (fun _ sg2 nu2 hs2 => ⟨fun z => absurd z (by decide), fun _ => s_next hpn a2 ⟨fun _ => ?_, fun z => absurd c41 z⟩⟩) (fun q => absurd q (by decide))
              rintro v rfl
              rw [nI_1]
              exact ⟨fun z => absurd z (by decide), fun _ => h1 rfl _ _ hs2⟩
            · refine m_here hpn hp e4 eb ⟨fun z => absurd z c33, fun _ => ⟨fun z => absurd c40 z, fun _ => ⟨fun _ => ⟨Or.inl rfl, fun z => absurd rfl z, fun _ => ?_⟩, fun z => absurd z (k5 q5)⟩⟩⟩
              rw [c40]
              rintro v rfl w rfl
              refine ⟨fun _ => ?_, fun z => absurd z (by decide)⟩
              rw [nI_1, nI_1]
              refine a5 code _ hc (fun _ code2 hc2 => m_takes hpn a2 e4 eb (fun _ => ⟨fun _ => ?_, fun z => absurd z (by decide)⟩) (fun z => absurd c41 z)) (fun q => absurd q (by decide))
              rintro v rfl
              rw [nI_sub1 (by omega)]
              exact h1 rfl _ hc2
          · refine ⟨false, p1, tn1, tk1, nv1, by omega, a2, fun q => absurd q (by decide), fun sg nu Q hs _ h2 => ?_, fun code Q hc _ h2 => ?_⟩
            · refine s_next hpn hp ⟨fun z => absurd z c33, fun _ => ⟨fun z => absurd c40 z, fun _ => ⟨fun z => absurd z (k6 q5), fun _ => ?_⟩⟩⟩
              rw [c40]
              rintro v rfl
              refine ⟨fun _ => ?_, fun z => absurd z (by decide)⟩
              rw [nI_1, nI_1]
              have lt2 := o1.2.2.1
              exact a4 sg nu _ hs (fun _ sg2 nu2 hs2 => ⟨fun z => absurd z (by decide), fun _ => s_next hpn a2 ⟨fun z => absurd z c41, fun _ => ⟨fun _ => h2 rfl _ _ _ (by omega), fun z => absurd rfl z⟩⟩⟩) (fun q => absurd q (by decide))
            · refine m_here hpn hp e4 eb ⟨fun z => absurd z c33, fun _ => ⟨fun z => absurd c40 z, fun _ => ⟨fun _ => ⟨Or.inl rfl, fun z => absurd rfl z, fun _ => ?_⟩, fun z => absurd z (k5 q5)⟩⟩⟩
              rw [c40]
              rintro v rfl w rfl
              refine ⟨fun _ => ?_, fun z => absurd z (by decide)⟩
              rw [nI_1, nI_1]
              exact a5 code _ hc (fun _ code2 hc2 => m_takes hpn a2 e4 eb (fun z => absurd z c41) (fun _ => ⟨fun z => absurd rfl z, fun _ v _ => h2 rfl _ _ _⟩)) (fun q => absurd q (by decide))
      · have ek : k = 5 := by omega
        subst ek
        refine ⟨false, p, tn, tk, nv, Nat.le_refl _, hp, fun q => absurd q (by decide), fun sg nu Q hs _ h2 => ?_, fun code Q hc _ h2 => ?_⟩
        · exact s_next hpn hp ⟨fun z => absurd z c33, fun _ => ⟨fun z => absurd c40 z, fun _ => ⟨fun _ => h2 rfl _ _ _ (by omega), fun z => absurd (show (5 : Int32) ≤ nI 5 by decide) z⟩⟩⟩
        · exact m_here hpn hp e4 eb ⟨fun z => absurd z c33, fun _ => ⟨fun z => absurd c40 z, fun _ => ⟨fun z => absurd rfl z, fun _ => ⟨Or.inr rfl, fun _ => h2 rfl _ _ _, fun z => absurd z (by decide)⟩⟩⟩⟩
    · by_cases cd : dgt (nxt bs pn p)
      · obtain ⟨p2, v2, a1, a2, a3, a4, a5, a6⟩ := lp_num (S0 := S0) (S1 := S1) (us := us) (op := nI k) hpn e4 eb 4 0 p 0 (by decide) hp (by decide)
        have lt := a4 (by decide) cd
        refine ⟨true, p2, tn + 1, pu tk tn 0, pu nv tn (nI v2), by omega, a2, fun _ => ok_leaf lt (by decide) (fun _ => sm_nI a3), fun sg nu Q hs h1 _ => ?_, fun code Q hc h1 _ => ?_⟩
        · exact s_next hpn hp ⟨fun z => absurd z c33, fun _ => ⟨fun _ => s_dig (fun _ => ⟨fun z => absurd z (by decide), fun _ => ⟨5, a5 _ _ _ _ (s_radd (by omega) ⟨by decide, h1 rfl _ _ (tokC_pu (c := 0) (v := nI v2) (x := nI v2) hs rfl (fun _ => rfl))⟩)⟩⟩) (fun z => absurd cd z), fun z => absurd z c40⟩⟩
        · exact m_here hpn hp e4 eb ⟨fun z => absurd z c33, fun _ => ⟨fun _ => m_dig (fun _ => ⟨fun z => absurd z (by decide), fun _ => ⟨5, a6 _ _ _ (m_codes (by omega) (h1 rfl _ (tokM_pu (c := 0) (v := nI v2) hc rfl)))⟩⟩) (fun z => absurd cd z), fun z => absurd z c40⟩⟩
      · rcases hu with ⟨rfl, rfl⟩ | ⟨rfl, rfl⟩
        · exact nm_0 hpn e4 eb hp ht c33 c40 cd
        · exact nm_1 hpn e4 eb hp ht c33 c40 cd
theorem ls_rc {pn : Nat} (hpn : pn ≤ 50) {bs now : Nat → Int32} {fn us : Int32} (hu : (us = 0 ∧ fn = 0) ∨ (us = 1 ∧ fn = 3)) (e4 : now 4 = nI pn) (eb : ∀ i, i < pn → bs i = now (54 + i)) : ∀ m k d, k + m = 5 → m < d → LSo (rc_X1_readOpened d).1 (rc_X8_one d).2 pn bs now fn us (nI k) ∧ LSo (rc_X1_readOpened d).2 (rc_X8_one d).1 pn bs now fn us (nI k) := by
  have step : ∀ k d, k ≤ 5 → (k < 5 → LSo (rc_X1_readOpened d).1 (rc_X8_one d).2 pn bs now fn us (nI (k + 1)) ∧ LSo (rc_X1_readOpened d).2 (rc_X8_one d).1 pn bs now fn us (nI (k + 1))) → LSo (rc_X1_readOpened (d + 1)).1 (rc_X8_one (d + 1)).2 pn bs now fn us (nI k) ∧ LSo (rc_X1_readOpened (d + 1)).2 (rc_X8_one (d + 1)).1 pn bs now fn us (nI k) := by
    intro k d hk h
    have s := ls_readSingle (R0 := (rc_X1_readOpened d).1) (R1 := (rc_X1_readOpened d).2) (S0 := (rc_X8_one d).1) (S1 := (rc_X8_one d).2) hpn hk hu e4 eb (fun q => (h q).1) (fun q => (h q).2)
    exact ⟨s, ls_readAny hpn e4 eb (ls_readAll hpn e4 eb (ls_readComparison hpn e4 eb (ls_readSum hpn e4 eb (ls_readProduct hpn e4 eb s))))⟩
  intro m
  induction m with
  | zero =>
    intro k d hk hd
    obtain ⟨e, rfl⟩ : ∃ e, d = e + 1 := ⟨d - 1, by omega⟩
    exact step k e (by omega) (fun q => by omega)
  | succ m ih =>
    intro k d hk hd
    obtain ⟨e, rfl⟩ : ∃ e, d = e + 1 := ⟨d - 1, by omega⟩
    exact step k e (by omega) (fun _ => ih (k + 1) e (by omega) (by omega))
