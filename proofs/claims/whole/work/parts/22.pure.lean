theorem s_canTouch {i o n : Nat} (hn : n ≤ 8) (hi : i < n) (ho : o < n) {at_ gl : Nat → Int32} {Q : Int32 → Prop} (h : Q (b2i (at_ i = at_ o ∧ gl i = 0 ∧ gl o = 0))) : wp_X0_canTouch (nI i) (nI o) at_ gl Q := by
  unfold wp_X0_canTouch
  rw [c8 hn hi, c8 hn ho]
  have v1 := i8 hn hi
  have v2 := i8 hn ho
  refine ⟨v1, v2, fun c => ?_, fun c => ⟨v1, fun c2 => ?_, fun c2 => ⟨v2, fun c3 => ?_, fun c3 => ?_⟩⟩⟩
  · rwa [b2i_f (fun z => c z.1)] at h
  · rwa [b2i_f (fun z => c2 z.2.1)] at h
  · rwa [b2i_f (fun z => c3 z.2.2)] at h
  · rwa [b2i_t ⟨c, c2, c3⟩] at h
/-- all that one has by the first o others AT one's street -/
def fdF (at_ gl hd : Nat → Int32) (i : Nat) (x : Int32) : Nat → Int32
  | 0 => x
  | o + 1 => if o ≠ i ∧ at_ i = at_ o ∧ gl i = 0 ∧ gl o = 0 then jmax (fdF at_ gl hd i x o) (hd o) else fdF at_ gl hd i x o
theorem s_handOnAt {n : Nat} (hn : n ≤ 8) {x : Int32} {at_ gl free hd : Nat → Int32} {Q : (Nat → Int32) → Prop} (h : ∀ w, (∀ j, j < n → w j = if at_ j = x then fdF at_ gl hd j (free j) n else free j) → Q w) : wp_X0_handOnAt x (nI n) at_ gl free hd Q := by
  unfold wp_X0_handOnAt
  refine pk_loop (fun k i (s : Nat → Int32) => lb_X0_handOnAt_2 x (nI n) at_ gl hd Q k (nI i) s) (fun i s => mpI (fun j => if at_ j = x then fdF at_ gl hd j (free j) n else free j) free i s) n 0 free (Nat.zero_le n) mp_0 ?_ ?_
  · intro k s hs
    exact ⟨fun _ => h s hs.1, fun c => absurd (Int32.le_refl _) c⟩
  · intro k i s hi hs ih
    have v8 := i8 hn hi
    have ci := c8 hn hi
    refine ⟨fun c => absurd c (nI_ge hi (by omega)), fun _ => ?_⟩
    by_cases ca : at_ i = x
    · -- the inner loop
      refine pk_loop (fun k2 o (w : Nat → Int32) => lb_X0_handOnAt_12 x (nI n) at_ gl hd Q (lb_X0_handOnAt_2 x (nI n) at_ gl hd Q k) k2 (nI i) (nI o) w) (fun o w => w i = fdF at_ gl hd i (free i) o ∧ ∀ j, j ≠ i → w j = s j) n 0 s (Nat.zero_le n) ⟨hs.2 i (Nat.le_refl i), fun _ _ => rfl⟩ ?_ ?_
      · rintro k2 w ⟨e1, e2⟩
        unfold lb_X0_handOnAt_12
        rw [ci, nI_1]
        refine ⟨v8, fun c => absurd ca c, fun _ => ⟨fun _ => ih w ⟨fun j hj => ?_, fun j hj => ?_⟩, fun c => absurd (Int32.le_refl _) c⟩⟩
        · by_cases q : j = i
          · subst q; rw [e1]; exact (if_pos ca).symm
          · rw [e2 j q]; exact hs.1 j (by omega)
        · rw [e2 j (by omega)]; exact hs.2 j (by omega)
      · rintro k2 o w ho ⟨e1, e2⟩ ih2
        unfold lb_X0_handOnAt_12
        rw [ci, c8 hn ho, nI_1 o]
        refine ⟨v8, fun c => absurd ca c, fun _ => ⟨fun c => absurd c (nI_ge ho (by omega)), fun _ => ⟨fun c => ih2 w ⟨?_, e2⟩, fun c => ?_⟩⟩⟩
        · rw [eq_nn (by omega) (by omega)] at c
          rw [e1, fdF, if_neg (fun z => z.1 c.symm)]
        · rw [eq_nn (by omega) (by omega)] at c
          refine s_canTouch hn hi ho ⟨fun c2 => ih2 w ⟨?_, e2⟩, fun c2 => ⟨v8, i8 hn ho, fun v hv => ⟨v8, ih2 _ ⟨?_, fun j hj => ?_⟩⟩⟩⟩
          · rw [b2i_0] at c2
            rw [e1, fdF, if_neg (fun z => c2 z.2)]
          · rw [b2i_0, Classical.not_not] at c2
            rw [up_s, hv, e1, fdF, if_pos ⟨fun z => c z.symm, c2⟩]
          · rw [up_n hj]; exact e2 j hj
    · refine ⟨1, ?_⟩
      unfold lb_X0_handOnAt_12
      rw [ci, nI_1]
      exact ⟨v8, fun _ => ih s (mp_k hs (by simp [ca])), fun c => absurd c ca⟩
theorem s_crowds {n : Nat} (hn : n ≤ 8) {crowd at_ : Nat → Int32} (ha : ∀ i, i < n → sm (at_ i) 7) {Q : (Nat → Int32) → Prop} (h : ∀ w, (∀ s, s < 8 → w s = nI (fb_ct (fun i => decide (at_ i = nI s)) n)) → Q w) : wp_X0_countCrowds (nI n) crowd at_ Q := by
  unfold wp_X0_countCrowds
  refine pk_loop (fun k i (s : Nat → Int32) => lb_X0_countCrowds_2 (nI n) at_ Q k (nI i) s) (fun i s => mpI (fun _ => 0) crowd i s) 8 0 crowd (Nat.zero_le 8) mp_0 ?_ ?_
  · intro k s hs
    refine ⟨fun _ => ?_, fun c => absurd (by decide) c⟩
    refine pk_loop (fun k i (s : Nat → Int32) => lb_X0_countCrowds_23 (nI n) at_ Q k (nI i) s) (fun i w => ∀ s, s < 8 → w s = nI (fb_ct (fun j => decide (at_ j = nI s)) i)) n 0 s (Nat.zero_le n) (fun q hq => hs.1 q hq) ?_ ?_
    · intro k w hw
      exact ⟨fun _ => h w hw, fun c => absurd (Int32.le_refl _) c⟩
    · intro k i w hi hw ih
      have v8 := i8 hn hi
      obtain ⟨a, h7, ea⟩ := ha i hi
      refine ⟨fun c => absurd c (nI_ge hi (by omega)), fun _ => ⟨v8, ?_⟩⟩
      rw [c8 hn hi, nI_1, e_isStreet, ea]
      refine ⟨fun c => absurd c (by rw [b2i_0]; exact fun z => z ⟨nI_pos' (by omega), nI_le (b := 7) (by omega) (by decide)⟩), fun _ => ⟨v8, vp_in_nI (by omega) (by decide), fun v hv => ⟨vp_in_nI (by omega) (by decide), ih _ (fun q hq => ?_)⟩⟩⟩
      rw [nI_clamp (by omega)] at hv ⊢
      rw [fb_ct_succ, ea]
      by_cases e : q = a
      · subst e; rw [up_s, hv, hw q hq, nI_1]; simp
      · rw [up_n e, hw q hq]
        have : ¬ nI a = nI q := by rw [eq_nn (by omega) (by omega)]; exact fun z => e z.symm
        simp [this]
  · intro k i s hi hs ih
    refine ⟨fun c => absurd c (nI_ge (b := 8) hi (by decide)), fun _ => ⟨vp_in_nI hi (by decide), ?_⟩⟩
    rw [nI_clamp (by omega), nI_1]
    exact ih _ (mp_s hs rfl)
theorem ct2 {p : Nat → Bool} {i o n : Nat} (h : i < o) (ho : o < n) (hi : p i = true) (hp : p o = true) : 2 ≤ fb_ct p n := by
  have a1 := fb_ct_succ p i
  have a2 := fb_ct_mono p (show i + 1 ≤ o by omega)
  have a3 := fb_ct_succ p o
  have a4 := fb_ct_mono p (show o + 1 ≤ n by omega)
  rw [if_pos hi] at a1
  rw [if_pos hp] at a3
  omega
/-- who meets whom; what one has when all have handed on -/
def mtB (ME : Int32 → Int32 → Int32 → Int32) (n : Nat) (st : Int32) (at_ gl : Nat → Int32) (i o : Nat) : Prop := at_ i = at_ o ∧ gl i = 0 ∧ gl o = 0 ∧ ¬ ME (at_ i) (jrem st 24) (nI (fb_ct (fun j => decide (at_ j = at_ i)) n)) = 0
theorem mtB_dec (ME : Int32 → Int32 → Int32 → Int32) (n : Nat) (st : Int32) (at_ gl : Nat → Int32) (i o : Nat) : Nonempty (Decidable (mtB ME n st at_ gl i o)) := ⟨by unfold mtB; infer_instance⟩
def mtb (ME : Int32 → Int32 → Int32 → Int32) (n : Nat) (st : Int32) (at_ gl : Nat → Int32) (i o : Nat) : Bool := decide (at_ i = at_ o) && decide (gl i = 0) && decide (gl o = 0) && decide (¬ ME (at_ i) (jrem st 24) (nI (fb_ct (fun j => decide (at_ j = at_ i)) n)) = 0)
theorem mtb_iff {ME : Int32 → Int32 → Int32 → Int32} {n : Nat} {st : Int32} {at_ gl : Nat → Int32} {i o : Nat} : mtb ME n st at_ gl i o = true ↔ mtB ME n st at_ gl i o := by
  unfold mtb mtB
  simp [and_assoc]
def g2F (ME : Int32 → Int32 → Int32 → Int32) (n : Nat) (st : Int32) (at_ gl hd : Nat → Int32) (i : Nat) (x : Int32) : Nat → Int32
  | 0 => x
  | o + 1 => if o ≠ i ∧ mtb ME n st at_ gl i o = true then jmax (g2F ME n st at_ gl hd i x o) (hd o) else g2F ME n st at_ gl hd i x o
theorem fd_cong {at_ gl hd hd2 : Nat → Int32} {i n : Nat} {x : Int32} (h : ∀ o, o < n → hd o = hd2 o) : fdF at_ gl hd i x n = fdF at_ gl hd2 i x n := by
  induction n with
  | zero => rfl
  | succ n ih =>
    unfold fdF
    rw [ih (fun o ho => h o (by omega)), h n (by omega)]
theorem g2_fd {ME : Int32 → Int32 → Int32 → Int32} {n : Nat} {st : Int32} {at_ gl hd : Nat → Int32} {i : Nat} {x : Int32} (h : ¬ ME (at_ i) (jrem st 24) (nI (fb_ct (fun j => decide (at_ j = at_ i)) n)) = 0) (m : Nat) : g2F ME n st at_ gl hd i x m = fdF at_ gl hd i x m := by
  induction m with
  | zero => rfl
  | succ m ih =>
    unfold g2F fdF
    rw [ih]
    by_cases c : m ≠ i ∧ at_ i = at_ m ∧ gl i = 0 ∧ gl m = 0
    · rw [if_pos c, if_pos ⟨c.1, mtb_iff.mpr ⟨c.2.1, c.2.2.1, c.2.2.2, h⟩⟩]
    · rw [if_neg c, if_neg (fun z => c ⟨z.1, (mtb_iff.mp z.2).1, (mtb_iff.mp z.2).2.1, (mtb_iff.mp z.2).2.2.1⟩)]
theorem g2_no {ME : Int32 → Int32 → Int32 → Int32} {n : Nat} {st : Int32} {at_ gl hd : Nat → Int32} {i : Nat} {x : Int32} {m : Nat} (h : ∀ o, o < m → o ≠ i → ¬ mtB ME n st at_ gl i o) : g2F ME n st at_ gl hd i x m = x := by
  induction m with
  | zero => rfl
  | succ m ih =>
    unfold g2F
    rw [if_neg (fun z => h m (by omega) z.1 (mtb_iff.mp z.2))]
    exact ih (fun o ho => h o (by omega))
theorem s_handOn {n tn : Nat} (hn : n ≤ 8) {tk : Nat → Nat} {nv : Nat → Int32} {st lo size : Int32} {crowd at_ free kind m handed signs numbers pile gl : Nat → Int32} (T : TRc tn tk nv size signs numbers) (w : wfT tn tk nv) (ha : ∀ i, i < n → sm (at_ i) 7) {Q : (Nat → Int32) → (Nat → Int32) → (Nat → Int32) → (Nat → Int32) → Prop}
    (h : ∀ c f hh p, (∀ j, j < n → f j = g2F (meV tn tk nv) n st at_ gl (fun o => hdI (kind o) (m o) (free o) lo) j (free j) n) → Q c f hh p) : wp_X0_handOn (nI n) st lo crowd at_ free kind m handed size signs numbers pile gl Q := by
  unfold wp_X0_handOn
  refine s_crowds hn ha (fun cr hcr => ?_)
  refine pk_loop (fun k i (s : Nat → Int32) => lb_X0_handOn_6 (nI n) st lo at_ kind m size signs numbers gl Q k (nI i) cr free s pile) (fun i s => mpI (fun o => hdI (kind o) (m o) (free o) lo) handed i s) n 0 handed (Nat.zero_le n) mp_0 ?_ ?_
  · intro k hh hhh
    refine ⟨fun _ => ?_, fun c => absurd (Int32.le_refl _) c⟩
    refine pk_loop (fun k i (s : (Nat → Int32) × (Nat → Int32)) => lb_X0_handOn_33 (nI n) st lo at_ kind m size signs numbers gl Q k (nI i) cr s.1 hh s.2)
      (fun s f => (∀ j a, j < n → a ≤ 7 → at_ j = nI a → a < s → 1 < fb_ct (fun i => decide (at_ i = nI a)) n → ¬ meV tn tk nv (nI a) (jrem st 24) (nI (fb_ct (fun i => decide (at_ i = nI a)) n)) = 0 → f.1 j = fdF at_ gl (fun o => hdI (kind o) (m o) (free o) lo) j (free j) n) ∧
        (∀ j a, j < n → a ≤ 7 → at_ j = nI a → ¬ (a < s ∧ 1 < fb_ct (fun i => decide (at_ i = nI a)) n ∧ ¬ meV tn tk nv (nI a) (jrem st 24) (nI (fb_ct (fun i => decide (at_ i = nI a)) n)) = 0) → f.1 j = free j)) 8 0 (free, pile) (Nat.zero_le 8) ⟨fun j a _ _ _ q => absurd q (Nat.not_lt_zero a), fun _ _ _ _ _ _ => rfl⟩ ?_ ?_
    · rintro k ⟨f, p⟩ ⟨e1, e2⟩
      refine ⟨fun _ => h cr f hh p (fun j hj => ?_), fun c => absurd (by decide) c⟩
      obtain ⟨a, h7, ea⟩ := ha j hj
      by_cases c1 : 1 < fb_ct (fun i => decide (at_ i = nI a)) n
      · by_cases c2 : meV tn tk nv (nI a) (jrem st 24) (nI (fb_ct (fun i => decide (at_ i = nI a)) n)) = 0
        · have := e2 j a hj h7 ea (fun z => z.2.2 c2)
          simp only at this
          rw [this]
          refine (g2_no (fun o _ _ z => z.2.2.2 ?_)).symm
          rw [ea]; exact c2
        · have := e1 j a hj h7 ea (by omega) c1 c2
          simp only at this
          rw [this]
          refine (g2_fd ?_ n).symm
          rw [ea]; exact c2
      · have := e2 j a hj h7 ea (fun z => c1 z.2.1)
        simp only at this
        rw [this]
        refine (g2_no (fun o ho hne z => c1 ?_)).symm
        have ea2 : at_ o = nI a := by rw [← z.1, ea]
        rcases Nat.lt_or_ge o j with q | q
        · exact ct2 (i := o) (o := j) q hj (by simp [ea2]) (by simp [ea])
        · exact ct2 (i := j) (o := o) (by omega) ho (by simp [ea]) (by simp [ea2])
    · rintro k s ⟨f, p⟩ hs ⟨e1, e2⟩ ih
      simp only at e1 e2
      have cs : (nI s).toNatClampNeg = s := nI_clamp (by omega)
      have hcs := fb_ct_le (fun i => decide (at_ i = nI s)) n
      show lb_X0_handOn_33 (nI n) st lo at_ kind m size signs numbers gl Q (k + 1) (nI s) cr f hh p
      refine ⟨fun c => absurd c (nI_ge (b := 8) hs (by decide)), fun _ => ⟨vp_in_nI hs (by decide), fun v hv => ?_⟩⟩
      rw [cs, hcr s hs] at hv
      subst hv
      rw [nI_1]
      have none_ : ∀ p2, ¬ (1 < fb_ct (fun i => decide (at_ i = nI s)) n ∧ ¬ meV tn tk nv (nI s) (jrem st 24) (nI (fb_ct (fun i => decide (at_ i = nI s)) n)) = 0) → lb_X0_handOn_33 (nI n) st lo at_ kind m size signs numbers gl Q k (nI (s + 1)) cr f hh p2 := fun p2 hno => by
        refine ih (f, p2) ⟨fun j a hj h7 ea hlt c1 c2 => ?_, fun j a hj h7 ea hc => ?_⟩
        · rcases (show a < s ∨ a = s by omega) with q | q
          · exact e1 j a hj h7 ea q c1 c2
          · subst q; exact absurd ⟨c1, c2⟩ hno
        · exact e2 j a hj h7 ea (fun z => hc ⟨by omega, z.2⟩)
      refine ⟨fun c => none_ p (fun z => ?_), fun c => ?_⟩
      · rw [fa_lit 1, li_nn (by omega) (by decide)] at c
        omega
      · rw [fa_lit 1, li_nn (by omega) (by decide)] at c
        refine s_meets T w (fun p2 => ⟨fun c2 => none_ p2 (fun z => z.2 c2), fun c2 => ?_⟩)
        refine s_handOnAt hn (fun f2 hf2 => ?_)
        refine ih (f2, p2) ⟨fun j a hj h7 ea hlt d1 d2 => ?_, fun j a hj h7 ea hc => ?_⟩
        · show f2 j = _
          rw [hf2 j hj, ea]
          rcases (show a < s ∨ a = s by omega) with q | q
          · rw [if_neg (by rw [eq_nn (by omega) (by omega)]; omega)]
            exact e1 j a hj h7 ea q d1 d2
          · subst q
            rw [if_pos rfl, e2 j a hj h7 ea (fun z => Nat.lt_irrefl _ z.1)]
            exact fd_cong (fun o ho => hhh.1 o ho)
        · show f2 j = _
          rw [hf2 j hj, ea]
          by_cases q : a = s
          · subst q; exact absurd ⟨by omega, by omega, c2⟩ hc
          · rw [if_neg (by rw [eq_nn (by omega) (by omega)]; exact q)]
            exact e2 j a hj h7 ea (fun z => hc ⟨by omega, z.2⟩)
  · intro k i s hi hs ih
    refine ⟨fun c => absurd c (nI_ge hi (by omega)), fun _ => ?_⟩
    refine s_hands hn hi ⟨i8 hn hi, ?_⟩
    rw [c8 hn hi, nI_1]
    exact ih _ (mp_s hs rfl)
