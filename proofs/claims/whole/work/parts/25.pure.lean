/-- the Model's second round: the first i have done and run -/
def midF (ME DE : Int32 → Int32 → Int32 → Int32) (n : Nat) (st lo : Int32) (F : Nat → Nat → Int32) (i : Nat) : Nat → Nat → Int32 := fun f j => if j < i ∧ (f = 3 ∨ f = 5) then nxF ME DE n st lo F f j else F f j
def endF (ME DE : Int32 → Int32 → Int32 → Int32) (n : Nat) (st lo : Int32) (F : Nat → Nat → Int32) (i : Nat) : Nat → Nat → Int32 := fun f j => if f = 3 ∨ f = 5 ∨ (j < i ∧ f = 2) then nxF ME DE n st lo F f j else F f j
theorem m_step {n tn un sn : Nat} (hn : n ≤ 8) {tk uk : Nat → Nat} {nv uv now mf named pile ahead df : Nat → Int32} {F : Nat → Nat → Int32} {lo : Int32} (T : TRm tn tk nv 124 now) (w : wfT tn tk nv) (U : TRm un uk uv 176 now) (v : wfT un uk uv) (pn : PN n F now) (ok : okP n F) (h0 : now 0 = nI sn) (hsn : sn < 2 ^ 31) (h2 : now 2 = lo) (mc : MC (meV tn tk nv) mf) (dc : DC (deV un uk uv) df) {Q : (Nat → Int32) → (Nat → Int32) → (Nat → Int32) → (Nat → Int32) → (Nat → Int32) → (Nat → Int32) → Prop}
    (h : ∀ nw ah mf nm p df, nw 0 = now 0 + 1 → PN n (nxF (meV tn tk nv) (deV un uk uv) n (now 0) lo F) nw → rst now nw → MC (meV tn tk nv) mf → DC (deV un uk uv) df → Q nw ah mf nm p df) : wp_X8_step now ahead mf named pile df Q := by
  subst h2
  unfold wp_X8_step
  refine pk_loop (fun k i (s : Nat → Int32) => lb_X8_step_2 Q k (nI i) now s mf named pile df) (fun i s => mpI (ahF (now 0) F) ahead i s) n 0 ahead (Nat.zero_le n) mp_0 ?_ ?_
  · intro k ah hah
    refine ⟨fun _ => ?_, fun c => absurd (pn.1 ▸ Int32.le_refl _) c⟩
    refine pk_loop (fun k i (s : (Nat → Int32) × (Nat → Int32) × (Nat → Int32) × (Nat → Int32) × (Nat → Int32)) => lb_X8_step_40 Q k (nI i) s.1 ah s.2.1 s.2.2.1 s.2.2.2.1 s.2.2.2.2)
      (fun i s => PN n (midF (meV tn tk nv) (deV un uk uv) n (now 0) (now 2) F i) s.1 ∧ s.1 0 = now 0 ∧ rst now s.1 ∧ MC (meV tn tk nv) s.2.1 ∧ DC (deV un uk uv) s.2.2.2.2) n 0 (now, mf, named, pile, df) (Nat.zero_le n) ⟨pn_cong pn (fun i _ f _ => by simp [midF]), rfl, rst_rf now, mc, dc⟩ ?_ ?_
    · rintro k ⟨nw, m1, n1, p1, d1⟩ ⟨a1, a2, a3, a4, a5⟩
      simp only at a1 a2 a3 a4 a5
      refine ⟨fun _ => ?_, fun c => absurd (a1.1 ▸ Int32.le_refl _) c⟩
      refine pk_loop (fun k i (s : Nat → Int32) => lb_X8_step_144 Q k (nI i) s ah m1 n1 p1 d1)
        (fun i s => PN n (endF (meV tn tk nv) (deV un uk uv) n (now 0) (now 2) F i) s ∧ s 0 = now 0 ∧ rst now s) n 0 nw (Nat.zero_le n) ⟨pn_cong a1 (fun i hi f _ => ?_), a2, a3⟩ ?_ ?_
      · unfold midF endF
        by_cases c : f = 3 ∨ f = 5
        · rw [if_pos ⟨hi, c⟩, if_pos (by omega)]
        · rw [if_neg (fun z => c z.2), if_neg (by omega)]
      · rintro k s ⟨b1, b2, b3⟩
        refine ⟨fun _ v4 e4 => ?_, fun c => absurd (b1.1 ▸ Int32.le_refl _) c⟩
        refine h _ _ _ _ _ _ ?_ ⟨?_, fun i hi f hf => ?_⟩ (fun j hj => ?_) a4 a5
        · rw [up_s, e4, b2]
        · rw [up_n (by decide)]; exact b1.1
        · rw [up_n (by omega), b1.2 i hi f hf]
          unfold endF
          by_cases c : f = 3 ∨ f = 5 ∨ i < n ∧ f = 2
          · rw [if_pos c]
          · rw [if_neg c]
            unfold nxF
            rw [if_neg (fun z => c (Or.inr (Or.inr ⟨hi, z⟩))), if_neg (fun z => c (Or.inl z)), if_neg (fun z => c (Or.inr (Or.inl z)))]
        · rw [up_n (by omega)]; exact b3 j hj
      · rintro k i s hi ⟨b1, b2, b3⟩ ih
        have hi8 : i < 8 := by omega
        unfold lb_X8_step_144
        simp only [e_sI0 hi8, e_sI1 hi8, e_sI2 hi8, e_sI4 hi8, e_sA2]
        rw [b1.1, b1.2 i hi 0 (by decide), b1.2 i hi 1 (by decide), b1.2 i hi 2 (by decide), b1.2 i hi 4 (by decide), nI_1]
        have q0 : endF (meV tn tk nv) (deV un uk uv) n (now 0) (now 2) F i 0 i = F 0 i := by simp [endF]
        have q1 : endF (meV tn tk nv) (deV un uk uv) n (now 0) (now 2) F i 1 i = F 1 i := by simp [endF]
        have q2 : endF (meV tn tk nv) (deV un uk uv) n (now 0) (now 2) F i 2 i = F 2 i := by simp [endF]
        have q4 : endF (meV tn tk nv) (deV un uk uv) n (now 0) (now 2) F i 4 i = F 4 i := by simp [endF]
        rw [q0, q1, q2, q4]
        obtain ⟨kd, hkd, ek⟩ := (ok i hi).1
        have stay : F 2 i = goI (F 0 i) (F 1 i) (F 2 i) (F 4 i) → lb_X8_step_144 Q k (nI (i + 1)) s ah m1 n1 p1 d1 := fun e => by
          refine ih s ⟨pn_cong b1 (fun j hj f hf => ?_), b2, b3⟩
          unfold endF
          by_cases c : j = i ∧ f = 2
          · obtain ⟨rfl, rfl⟩ := c
            rw [if_neg (by omega), if_pos (by omega)]
            exact e
          · by_cases c2 : f = 3 ∨ f = 5 ∨ j < i ∧ f = 2
            · rw [if_pos c2, if_pos (by omega)]
            · rw [if_neg c2, if_neg (by omega)]
        refine ⟨fun c => absurd c (nI_ge hi (by omega)), fun _ => ?_⟩
        have eu : F 0 i = nI kd := ek
        rw [eu]
        refine m_under (a := 3) hkd (by decide) ⟨fun z => ?_, fun z => ⟨fun z2 => ?_, fun z2 => ?_⟩⟩
        · rw [b2i_0, und3 kd (by omega)] at z
          exact stay (by rw [eu, goI, if_neg (fun y => z y.1)])
        · exact stay (by rw [goI, if_neg (fun y => z2 y.2)])
        · rw [b2i_0, Classical.not_not, und3 kd (by omega)] at z
          rintro v13 e13
          refine ⟨vp_in_nI (by omega) (by decide), ?_⟩
          rw [nI_clamp (by omega)]
          refine ih _ ⟨pn_cong (pn_upd b1 hi (by decide) v13) (fun j hj f hf => ?_), by rw [up_n (by omega)]; exact b2, rst_upd b3 hn hi (by decide) v13⟩
          by_cases c : j = i ∧ f = 2
          · obtain ⟨rfl, rfl⟩ := c
            rw [if_pos ⟨rfl, rfl⟩]
            unfold endF
            rw [if_pos (by omega)]
            show v13 = goI (F 0 j) (F 1 j) (F 2 j) (F 4 j)
            rw [e13, eu, goI, if_pos ⟨z, z2⟩]
          · rw [if_neg c]
            unfold endF
            by_cases c2 : f = 3 ∨ f = 5 ∨ j < i ∧ f = 2
            · rw [if_pos c2, if_pos (by omega)]
            · rw [if_neg c2, if_neg (by omega)]
    · rintro k i ⟨nw, m1, n1, p1, d1⟩ hi ⟨a1, a2, a3, a4, a5⟩ ih
      simp only at a1 a2 a3 a4 a5
      have hi8 : i < 8 := by omega
      have ih : ∀ nw m1 n1 p1 d1, PN n (midF (meV tn tk nv) (deV un uk uv) n (now 0) (now 2) F (i + 1)) nw → nw 0 = now 0 → rst now nw → MC (meV tn tk nv) m1 → DC (deV un uk uv) d1 → lb_X8_step_40 Q k (nI (i + 1)) nw ah m1 n1 p1 d1 := fun nw m1 n1 p1 d1 x1 x2 x3 x4 x5 => ih (nw, m1, n1, p1, d1) ⟨x1, x2, x3, x4, x5⟩
      show lb_X8_step_40 Q (k + 1) (nI i) nw ah m1 n1 p1 d1
      unfold lb_X8_step_40
      rw [a1.1]
      have okm : okP n (midF (meV tn tk nv) (deV un uk uv) n (now 0) (now 2) F i) := fun j hj => by
        have o1 := ok j hj
        have o2 : okP n (nxF (meV tn tk nv) (deV un uk uv) n (now 0) (now 2) F) := ok_nx (fun _ _ _ => sm_deV _ _ _ _ _ _) ok
        have o2 := o2 j hj
        unfold midF
        by_cases c : j < i
        · simp only [c, true_and]
          exact ⟨o1.1, o1.2.1, o1.2.2.1, o2.2.2.2.1, o1.2.2.2.2.1, o2.2.2.2.2.2⟩
        · simp only [c, false_and, if_false]
          exact o1
      have nw2 : nw 2 = now 2 := a3 2 (by omega)
      have m0 : ∀ j, midF (meV tn tk nv) (deV un uk uv) n (now 0) (now 2) F i 0 j = F 0 j := fun j => by simp [midF]
      have m1' : ∀ j, midF (meV tn tk nv) (deV un uk uv) n (now 0) (now 2) F i 1 j = F 1 j := fun j => by simp [midF]
      have m2' : midF (meV tn tk nv) (deV un uk uv) n (now 0) (now 2) F i 2 = F 2 := by funext j; simp [midF]
      have m4' : midF (meV tn tk nv) (deV un uk uv) n (now 0) (now 2) F i 4 = F 4 := by funext j; simp [midF]
      have m5' : midF (meV tn tk nv) (deV un uk uv) n (now 0) (now 2) F i 5 i = F 5 i := by simp [midF]
      refine ⟨fun c => absurd c (nI_ge hi (by omega)), fun _ => ⟨i8 hn hi, ?_⟩⟩
      refine m_handedTo (hd := haF (now 0) (now 2) F) hn (rst_T a3 (by decide) T) w a1 okm hi (a2.trans h0) hsn (fun o ho => ?_) a4 (fun m3 n3 p3 hm3 => ?_)
      · rw [m0, m1', nw2, hah.1 o ho]; rfl
      · rw [m2', m4', a2, c8 hn hi, hah.1 i hi]
        intro v18 e18
        rw [g2_max (sm_ah ok hi)] at e18
        have e18 : v18 = f2F (meV tn tk nv) n (now 0) (now 2) F i := e18
        have fin : ∀ z0 m3 n3 p3 d3, MC (meV tn tk nv) m3 → DC (deV un uk uv) d3 → z0 = (if f2F (meV tn tk nv) n (now 0) (now 2) F i ≤ 0 then 0 else deV un uk uv (f2F (meV tn tk nv) n (now 0) (now 2) F i) (F 1 i) (F 2 i)) → lb_X8_step_90 Q (lb_X8_step_40 Q k) (nI i) v18 z0 nw ah m3 n3 p3 d3 := by
          intro z0 m3 n3 p3 d3 hm3 hd3 ez
          unfold lb_X8_step_90
          rw [e_sA5, e_sI5 hi8, a1.2 i hi 5 (by decide), m5']
          intro v22 e22
          have c5 : (nI (6 + 6 * i + 5)).toNatClampNeg = 6 + 6 * i + 5 := nI_clamp (by omega)
          have c3 : (nI (6 + 6 * i + 3)).toNatClampNeg = 6 + 6 * i + 3 := nI_clamp (by omega)
          refine ⟨vp_in_nI (by omega) (by decide), ?_⟩
          rw [e_sA3, c5]
          have pu := pn_upd a1 hi (show 5 < 6 by decide) v22
          refine m_runs hi8 ?_
          rw [pu.2 i hi 0 (by decide), pu.2 i hi 1 (by decide)]
          simp only [show ¬ ((0 : Nat) = 5) by decide, show ¬ ((1 : Nat) = 5) by decide, and_false, if_false, m0, m1']
          intro v25 e25
          refine ⟨vp_in_nI (by omega) (by decide), ?_⟩
          rw [nI_1, c3]
          refine ih _ _ _ _ _ (pn_cong (pn_upd pu hi (show 3 < 6 by decide) v25) (fun j hj f hf => ?_)) ?_ (rst_upd (rst_upd a3 hn hi (by decide) v22) hn hi (by decide) v25) hm3 hd3
          · by_cases cj : j = i
            · subst cj
              by_cases f3 : f = 3
              · subst f3
                rw [if_pos ⟨rfl, rfl⟩]
                unfold midF
                rw [if_pos (by omega), e25, e18]
                rfl
              · rw [if_neg (fun z => f3 z.2)]
                by_cases f5 : f = 5
                · subst f5
                  rw [if_pos ⟨rfl, rfl⟩]
                  unfold midF
                  rw [if_pos (by omega), e22, ez]
                  rfl
                · rw [if_neg (fun z => f5 z.2)]
                  unfold midF
                  rw [if_neg (by omega), if_neg (by omega)]
            · rw [if_neg (fun z => cj z.1), if_neg (fun z => cj z.1)]
              unfold midF
              by_cases c : j < i ∧ (f = 3 ∨ f = 5)
              · rw [if_pos c, if_pos (by omega)]
              · rw [if_neg c, if_neg (by omega)]
          · rw [up_n (by omega), up_n (by omega)]; exact a2
        refine ⟨fun z => fin 0 m3 n3 p3 d1 hm3 a5 (by rw [← e18, if_pos z]), fun z => ?_⟩
        rw [e_sI1 hi8, e_sI2 hi8, a1.2 i hi 1 (by decide), a1.2 i hi 2 (by decide), m1', m2']
        have eF := sm_f2 (ME := meV tn tk nv) (st := now 0) (lo := now 2) ok hi
        obtain ⟨fv, hfv, ef⟩ := eF
        obtain ⟨mv, hmv, em⟩ := (ok i hi).2.1
        obtain ⟨av, hav, ea⟩ := (ok i hi).2.2.1
        have efin : ∀ d3 n4 p4, DC (deV un uk uv) d3 → lb_X8_step_90 Q (lb_X8_step_40 Q k) (nI i) v18 (deV un uk uv (nI fv) (nI mv) (nI av)) nw ah m3 n4 p4 d3 := fun d3 n4 p4 hd3 => by
          refine fin _ m3 n4 p4 d3 hm3 hd3 ?_
          rw [← e18, if_neg z, e18, ef, em, ea]
        rw [em, ea, show v18 = nI fv from e18.trans ef]
        rw [show v18 = nI fv from e18.trans ef] at efin
        exact m_deedsFor (rst_T a3 (by decide) U) v (by omega) (by omega) (by omega) a5 (fun d3 n4 p4 hd3 => efin d3 n4 p4 hd3)
  · intro k i s hi hs ih
    have hi8 : i < 8 := by omega
    unfold lb_X8_step_2
    rw [pn.1, e_sI3 hi8, pn.2 i hi 3 (by decide)]
    refine ⟨fun c => absurd c (nI_ge hi (by omega)), fun _ => ?_⟩
    refine m_keeps hi8 (by rw [pn.2 i hi 0 (by decide)]; exact (ok i hi).1) ?_
    rw [pn.2 i hi 0 (by decide), pn.2 i hi 1 (by decide)]
    intro v34 e34
    refine ⟨i8 hn hi, ?_⟩
    rw [c8 hn hi, nI_1]
    exact ih _ (mp_s hs e34)
theorem m_steps {n tn un sn kk : Nat} (hn : n ≤ 8) (hkk : kk ≤ 60) {tk uk : Nat → Nat} {nv uv now mf named pile ahead df : Nat → Int32} {F : Nat → Nat → Int32} {lo : Int32} (T : TRm tn tk nv 124 now) (w : wfT tn tk nv) (U : TRm un uk uv 176 now) (v : wfT un uk uv) (pn : PN n F now) (ok : okP n F) (h0 : now 0 = nI sn) (hsn : sn < 2 ^ 30) (h2 : now 2 = lo) (mc : MC (meV tn tk nv) mf) (dc : DC (deV un uk uv) df) {Q : (Nat → Int32) → (Nat → Int32) → (Nat → Int32) → (Nat → Int32) → (Nat → Int32) → (Nat → Int32) → Prop}
    (h : ∀ nw ah mf nm p df, nw 0 = nI (sn + kk) → PN n (itF (meV tn tk nv) (deV un uk uv) n (nI sn) lo F kk) nw → rst now nw → MC (meV tn tk nv) mf → DC (deV un uk uv) df → Q nw ah mf nm p df) : wp_X8_stepsGo (nI kk) now ahead mf named pile df Q := by
  unfold wp_X8_stepsGo
  refine pk_loop (fun k i (s : (Nat → Int32) × (Nat → Int32) × (Nat → Int32) × (Nat → Int32) × (Nat → Int32) × (Nat → Int32)) => lb_X8_stepsGo_2 (nI kk) Q k (nI i) s.1 s.2.1 s.2.2.1 s.2.2.2.1 s.2.2.2.2.1 s.2.2.2.2.2)
    (fun i s => s.1 0 = nI (sn + i) ∧ PN n (itF (meV tn tk nv) (deV un uk uv) n (nI sn) lo F i) s.1 ∧ rst now s.1 ∧ MC (meV tn tk nv) s.2.2.1 ∧ DC (deV un uk uv) s.2.2.2.2.2) kk 0 (now, ahead, mf, named, pile, df) (Nat.zero_le kk) ⟨h0, pn, rst_rf now, mc, dc⟩ ?_ ?_
  · rintro k ⟨nw, ah, m1, n1, p1, d1⟩ ⟨a1, a2, a3, a4, a5⟩
    exact ⟨fun _ => h nw ah m1 n1 p1 d1 a1 a2 a3 a4 a5, fun c => absurd (Int32.le_refl _) c⟩
  · rintro k i ⟨nw, ah, m1, n1, p1, d1⟩ hi ⟨a1, a2, a3, a4, a5⟩ ih
    simp only at a1 a2 a3 a4 a5
    refine ⟨fun c => absurd c (nI_ge hi (by omega)), fun _ => ?_⟩
    refine m_step hn (rst_T a3 (by decide) T) w (rst_T a3 (by decide) U) v a2 (ok_it (fun _ _ _ => sm_deV _ _ _ _ _ _) ok i) a1 (by omega) ((a3 2 (by omega)).trans h2) a4 a5 (fun nw2 ah2 m2 n2 p2 d2 b1 b2 b3 b4 b5 => ?_)
    rw [nI_1]
    refine ih (nw2, ah2, m2, n2, p2, d2) ⟨?_, ?_, rst_tr a3 b3, b4, b5⟩
    · show nw2 0 = _
      rw [b1, a1, nI_1, Nat.add_assoc]
    · show PN n (nxF (meV tn tk nv) (deV un uk uv) n (nI sn + nI i) lo (itF (meV tn tk nv) (deV un uk uv) n (nI sn) lo F i)) nw2
      rw [nI_add, ← a1]
      exact b2
/-! copies -/
theorem m_copy {f g : Nat → Int32} {Q : (Nat → Int32) → Prop} (h : ∀ w, (∀ j, j < 228 → w j = f j) → Q w) : wp_X8_copy f g Q := by
  unfold wp_X8_copy
  refine pk_loop (fun k i (s : Nat → Int32) => lb_X8_copy_2 f Q k (nI i) s) (fun i s => mpI f g i s) 228 0 g (Nat.zero_le 228) mp_0 ?_ ?_
  · intro k s hs
    exact ⟨fun _ => h s hs.1, fun c => absurd (by decide) c⟩
  · intro k i s hi hs ih
    refine ⟨fun c => absurd c (nI_ge (b := 228) hi (by decide)), fun _ => ⟨vp_in_nI hi (by decide), fun v hv => ⟨vp_in_nI hi (by decide), ?_⟩⟩⟩
    rw [nI_clamp (by omega)] at hv ⊢
    rw [nI_1]
    exact ih _ (mp_s hs hv)
