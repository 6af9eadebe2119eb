theorem or_z (x : Int32) : x ||| 0 = x := by simp
theorem add_z (x : Int32) : x + 0 = x := by simp
def smI (f : Nat → Int32) : Nat → Int32
  | 0 => 0
  | n + 1 => smI f n + f n
theorem smI_cong {f g : Nat → Int32} {n : Nat} (h : ∀ i, i < n → f i = g i) : smI f n = smI g n := by
  induction n with
  | zero => rfl
  | succ n ih =>
    unfold smI
    rw [ih (fun i hi => h i (by omega)), h n (by omega)]
theorem st_t {p : Nat → Bool} {n : Nat} (hn : n < 31) (hp : p n = true) : nI (stN p n) ||| jshl 1 (nI n) = nI (stN p (n + 1)) := by
  rw [← st_step hn, if_pos hp]
theorem st_f {p : Nat → Bool} {n : Nat} (hp : ¬ p n = true) : nI (stN p n) = nI (stN p (n + 1)) := by
  simp [stN, hp]
theorem e_sA0 {i : Nat} {Q : Int32 → Prop} : wp_X8_soulAt (nI i) 0 Q = Q (nI (6 + 6 * i + 0)) := by
  unfold wp_X8_soulAt
  rw [show ((6 : Int32) + 6 * nI i) + 0 = nI (6 + 6 * i + 0) from by rw [fa_lit 6, fa_lit 0, pk_mul, nI_add, nI_add]]
theorem e_sI0 {i : Nat} (hi : i < 8) {now : Nat → Int32} {Q : Int32 → Prop} : wp_X8_soulIs (nI i) 0 now Q = Q (now (6 + 6 * i + 0)) := by
  unfold wp_X8_soulIs
  rw [e_sA0, nI_clamp (by omega)]
  exact propext ⟨fun h => h.2, fun h => ⟨vp_in_nI (by omega) (by decide), h⟩⟩
theorem e_sA1 {i : Nat} {Q : Int32 → Prop} : wp_X8_soulAt (nI i) 1 Q = Q (nI (6 + 6 * i + 1)) := by
  unfold wp_X8_soulAt
  rw [show ((6 : Int32) + 6 * nI i) + 1 = nI (6 + 6 * i + 1) from by rw [fa_lit 6, fa_lit 1, pk_mul, nI_add, nI_add]]
theorem e_sI1 {i : Nat} (hi : i < 8) {now : Nat → Int32} {Q : Int32 → Prop} : wp_X8_soulIs (nI i) 1 now Q = Q (now (6 + 6 * i + 1)) := by
  unfold wp_X8_soulIs
  rw [e_sA1, nI_clamp (by omega)]
  exact propext ⟨fun h => h.2, fun h => ⟨vp_in_nI (by omega) (by decide), h⟩⟩
theorem e_sA2 {i : Nat} {Q : Int32 → Prop} : wp_X8_soulAt (nI i) 2 Q = Q (nI (6 + 6 * i + 2)) := by
  unfold wp_X8_soulAt
  rw [show ((6 : Int32) + 6 * nI i) + 2 = nI (6 + 6 * i + 2) from by rw [fa_lit 6, fa_lit 2, pk_mul, nI_add, nI_add]]
theorem e_sI2 {i : Nat} (hi : i < 8) {now : Nat → Int32} {Q : Int32 → Prop} : wp_X8_soulIs (nI i) 2 now Q = Q (now (6 + 6 * i + 2)) := by
  unfold wp_X8_soulIs
  rw [e_sA2, nI_clamp (by omega)]
  exact propext ⟨fun h => h.2, fun h => ⟨vp_in_nI (by omega) (by decide), h⟩⟩
theorem e_sA3 {i : Nat} {Q : Int32 → Prop} : wp_X8_soulAt (nI i) 3 Q = Q (nI (6 + 6 * i + 3)) := by
  unfold wp_X8_soulAt
  rw [show ((6 : Int32) + 6 * nI i) + 3 = nI (6 + 6 * i + 3) from by rw [fa_lit 6, fa_lit 3, pk_mul, nI_add, nI_add]]
theorem e_sI3 {i : Nat} (hi : i < 8) {now : Nat → Int32} {Q : Int32 → Prop} : wp_X8_soulIs (nI i) 3 now Q = Q (now (6 + 6 * i + 3)) := by
  unfold wp_X8_soulIs
  rw [e_sA3, nI_clamp (by omega)]
  exact propext ⟨fun h => h.2, fun h => ⟨vp_in_nI (by omega) (by decide), h⟩⟩
theorem e_sA4 {i : Nat} {Q : Int32 → Prop} : wp_X8_soulAt (nI i) 4 Q = Q (nI (6 + 6 * i + 4)) := by
  unfold wp_X8_soulAt
  rw [show ((6 : Int32) + 6 * nI i) + 4 = nI (6 + 6 * i + 4) from by rw [fa_lit 6, fa_lit 4, pk_mul, nI_add, nI_add]]
theorem e_sI4 {i : Nat} (hi : i < 8) {now : Nat → Int32} {Q : Int32 → Prop} : wp_X8_soulIs (nI i) 4 now Q = Q (now (6 + 6 * i + 4)) := by
  unfold wp_X8_soulIs
  rw [e_sA4, nI_clamp (by omega)]
  exact propext ⟨fun h => h.2, fun h => ⟨vp_in_nI (by omega) (by decide), h⟩⟩
theorem e_sA5 {i : Nat} {Q : Int32 → Prop} : wp_X8_soulAt (nI i) 5 Q = Q (nI (6 + 6 * i + 5)) := by
  unfold wp_X8_soulAt
  rw [show ((6 : Int32) + 6 * nI i) + 5 = nI (6 + 6 * i + 5) from by rw [fa_lit 6, fa_lit 5, pk_mul, nI_add, nI_add]]
theorem e_sI5 {i : Nat} (hi : i < 8) {now : Nat → Int32} {Q : Int32 → Prop} : wp_X8_soulIs (nI i) 5 now Q = Q (now (6 + 6 * i + 5)) := by
  unfold wp_X8_soulIs
  rw [e_sA5, nI_clamp (by omega)]
  exact propext ⟨fun h => h.2, fun h => ⟨vp_in_nI (by omega) (by decide), h⟩⟩
theorem s_whoAt {x : Int32} {n : Nat} {at_ : Nat → Int32} {Q : Int32 → Prop} (hn : n ≤ 8) (h : Q (nI (stN (fun i => decide (at_ i = x)) n))) : wp_X0_whoAt x (nI n) at_ Q := by
  unfold wp_X0_whoAt
  refine pk_loop (fun k i (s : Int32) => lb_X0_whoAt_4 x (nI n) at_ Q k s (nI i)) (fun i s => s = nI (stN (fun i => decide (at_ i = x)) i)) n 0 0 (Nat.zero_le n) rfl ?_ ?_
  · intro k s hs
    subst hs
    exact ⟨fun _ => h, fun c => absurd (Int32.le_refl _) c⟩
  · intro k i s hi hs ih
    subst hs
    refine ⟨fun c => absurd c (nI_ge hi (by omega)), fun _ => ⟨i8 hn hi, ?_⟩⟩
    rw [c8 hn hi, nI_1]
    refine ⟨fun c v hv => ih v ?_, fun c v hv => ih v ?_⟩
    · rw [hv, or_z, st_f (by simp [c])]
    · rw [hv, st_t (by omega) (by simp [c])]
theorem s_whoFreeAt {x : Int32} {n : Nat} {at_ free : Nat → Int32} {Q : Int32 → Prop} (hn : n ≤ 8) (h : Q (nI (stN (fun i => decide (at_ i = x) && decide (¬ free i ≤ 0)) n))) : wp_X0_whoFreeAt x (nI n) at_ free Q := by
  unfold wp_X0_whoFreeAt
  refine pk_loop (fun k i (s : Int32) => lb_X0_whoFreeAt_4 x (nI n) at_ free Q k s (nI i)) (fun i s => s = nI (stN (fun i => decide (at_ i = x) && decide (¬ free i ≤ 0)) i)) n 0 0 (Nat.zero_le n) rfl ?_ ?_
  · intro k s hs
    subst hs
    exact ⟨fun _ => h, fun c => absurd (Int32.le_refl _) c⟩
  · intro k i s hi hs ih
    subst hs
    refine ⟨fun c => absurd c (nI_ge hi (by omega)), fun _ => ⟨i8 hn hi, ?_⟩⟩
    rw [c8 hn hi, nI_1]
    refine ⟨fun c v hv => ih v ?_, fun c => ⟨i8 hn hi, fun c2 v hv => ih v ?_, fun c2 v hv => ih v ?_⟩⟩
    · rw [hv, or_z, st_f (by simp [c])]
    · rw [hv, or_z, st_f (by simp [c2])]
    · rw [hv, st_t (by omega) (by simp [c, c2])]
theorem s_whoGl {n : Nat} {gl : Nat → Int32} {Q : Int32 → Prop} (hn : n ≤ 8) (h : Q (nI (stN (fun i => decide (¬ gl i = 0)) n))) : wp_X0_whoWearGloves (nI n) gl Q := by
  unfold wp_X0_whoWearGloves
  refine pk_loop (fun k i (s : Int32) => lb_X0_whoWearGloves_4 (nI n) gl Q k s (nI i)) (fun i s => s = nI (stN (fun i => decide (¬ gl i = 0)) i)) n 0 0 (Nat.zero_le n) rfl ?_ ?_
  · intro k s hs
    subst hs
    exact ⟨fun _ => h, fun c => absurd (Int32.le_refl _) c⟩
  · intro k i s hi hs ih
    subst hs
    refine ⟨fun c => absurd c (nI_ge hi (by omega)), fun _ => ⟨i8 hn hi, ?_⟩⟩
    rw [c8 hn hi, nI_1]
    refine ⟨fun c v hv => ih v ?_, fun c v hv => ih v ?_⟩
    · rw [hv, or_z, st_f (by simp [c])]
    · rw [hv, st_t (by omega) (by simp [c])]
theorem s_howFree {n : Nat} {free : Nat → Int32} {Q : Int32 → Prop} (hn : n ≤ 8) (h : Q (nI (fb_ct (fun i => decide (¬ free i ≤ 0)) n))) : wp_X0_howManyFree (nI n) free Q := by
  unfold wp_X0_howManyFree
  refine pk_loop (fun k i (s : Int32) => lb_X0_howManyFree_4 (nI n) free Q k s (nI i)) (fun i s => s = nI (fb_ct (fun i => decide (¬ free i ≤ 0)) i)) n 0 0 (Nat.zero_le n) rfl ?_ ?_
  · intro k s hs
    subst hs
    exact ⟨fun _ => h, fun c => absurd (Int32.le_refl _) c⟩
  · intro k i s hi hs ih
    subst hs
    refine ⟨fun c => absurd c (nI_ge hi (by omega)), fun _ => ⟨i8 hn hi, ?_⟩⟩
    rw [c8 hn hi, nI_1]
    refine ⟨fun c v hv => ih v ?_, fun c v hv => ih v ?_⟩
    · rw [hv, add_z, fb_ct_succ]; simp [c]
    · rw [hv, nI_1, fb_ct_succ]; simp [c]
theorem s_freeTog {n : Nat} {f : Nat → Int32} {Q : Int32 → Prop} (hn : n ≤ 8) (h : Q (smI f n)) : wp_X0_freeTogether (nI n) f Q := by
  unfold wp_X0_freeTogether
  refine pk_loop (fun k i (s : Int32) => lb_X0_freeTogether_4 (nI n) f Q k s (nI i)) (fun i s => s = smI f i) n 0 0 (Nat.zero_le n) rfl ?_ ?_
  · intro k s hs
    subst hs
    exact ⟨fun _ => h, fun c => absurd (Int32.le_refl _) c⟩
  · intro k i s hi hs ih
    subst hs
    refine ⟨fun c => absurd c (nI_ge hi (by omega)), fun _ => ⟨i8 hn hi, fun v hv => ?_⟩⟩
    rw [c8 hn hi] at hv
    rw [nI_1]
    exact ih v (by rw [hv]; rfl)
theorem s_deedsTog {n : Nat} {f : Nat → Int32} {Q : Int32 → Prop} (hn : n ≤ 8) (h : Q (smI f n)) : wp_X0_deedsTogether (nI n) f Q := by
  unfold wp_X0_deedsTogether
  refine pk_loop (fun k i (s : Int32) => lb_X0_deedsTogether_4 (nI n) f Q k s (nI i)) (fun i s => s = smI f i) n 0 0 (Nat.zero_le n) rfl ?_ ?_
  · intro k s hs
    subst hs
    exact ⟨fun _ => h, fun c => absurd (Int32.le_refl _) c⟩
  · intro k i s hi hs ih
    subst hs
    refine ⟨fun c => absurd c (nI_ge hi (by omega)), fun _ => ⟨i8 hn hi, fun v hv => ?_⟩⟩
    rw [c8 hn hi] at hv
    rw [nI_1]
    exact ih v (by rw [hv]; rfl)
theorem m_at {x : Int32} {n : Nat} {now : Nat → Int32} {Q : Int32 → Prop} (hn : n ≤ 8) (h1 : now 1 = nI n) (h : Q (nI (stN (fun i => decide (now (6 + 6 * i + 2) = x)) n))) : wp_X8_atStreet x now Q := by
  unfold wp_X8_atStreet
  refine pk_loop (fun k i (s : Int32) => lb_X8_atStreet_4 x now Q k s (nI i)) (fun i s => s = nI (stN (fun i => decide (now (6 + 6 * i + 2) = x)) i)) n 0 0 (Nat.zero_le n) rfl ?_ ?_
  · intro k s hs
    subst hs
    exact ⟨fun _ => h, fun c => absurd (h1 ▸ Int32.le_refl _) c⟩
  · intro k i s hi hs ih
    subst hs
    refine ⟨fun c => absurd (h1 ▸ c) (nI_ge hi (by omega)), fun _ => ?_⟩
    rw [e_sI2 (by omega), nI_1]
    refine ⟨fun c v hv => ih v ?_, fun c v hv => ih v ?_⟩
    · rw [hv, or_z, st_f (by simp [c])]
    · rw [hv, st_t (by omega) (by simp [c])]
theorem m_free {n : Nat} {now : Nat → Int32} {Q : Int32 → Prop} (hn : n ≤ 8) (h1 : now 1 = nI n) (h : Q (nI (stN (fun i => decide (¬ now (6 + 6 * i + 3) ≤ 0)) n))) : wp_X8_freeNow now Q := by
  unfold wp_X8_freeNow
  refine pk_loop (fun k i (s : Int32) => lb_X8_freeNow_4 now Q k s (nI i)) (fun i s => s = nI (stN (fun i => decide (¬ now (6 + 6 * i + 3) ≤ 0)) i)) n 0 0 (Nat.zero_le n) rfl ?_ ?_
  · intro k s hs
    subst hs
    exact ⟨fun _ => h, fun c => absurd (h1 ▸ Int32.le_refl _) c⟩
  · intro k i s hi hs ih
    subst hs
    refine ⟨fun c => absurd (h1 ▸ c) (nI_ge hi (by omega)), fun _ => ?_⟩
    rw [e_sI3 (by omega), nI_1]
    refine ⟨fun c v hv => ih v ?_, fun c v hv => ih v ?_⟩
    · rw [hv, or_z, st_f (by simp [c])]
    · rw [hv, st_t (by omega) (by simp [c])]
theorem m_glov {n : Nat} {now : Nat → Int32} {Q : Int32 → Prop} (hn : n ≤ 8) (h1 : now 1 = nI n) (hg : ∀ i, i < n → sm (now (6 + 6 * i + 4)) 1) (h : Q (nI (stN (fun i => decide (¬ now (6 + 6 * i + 4) = 0)) n))) : wp_X8_gloved now Q := by
  unfold wp_X8_gloved
  refine pk_loop (fun k i (s : Int32) => lb_X8_gloved_4 now Q k s (nI i)) (fun i s => s = nI (stN (fun i => decide (¬ now (6 + 6 * i + 4) = 0)) i)) n 0 0 (Nat.zero_le n) rfl ?_ ?_
  · intro k s hs
    subst hs
    exact ⟨fun _ => h, fun c => absurd (h1 ▸ Int32.le_refl _) c⟩
  · intro k i s hi hs ih
    subst hs
    refine ⟨fun c => absurd (h1 ▸ c) (nI_ge hi (by omega)), fun _ => ?_⟩
    rw [e_sI4 (by omega), nI_1]
    refine fun v hv => ih v ?_
    obtain ⟨j, hj, hv2⟩ := hg i hi
    rcases (show j = 0 ∨ j = 1 by omega) with rfl | rfl
    · have h0 : now (6 + 6 * i + 4) = 0 := hv2
      have hz : ∀ q : Nat, q < 31 → jshl 0 (nI q) = 0 := by decide
      rw [hv, h0, hz i (by omega), or_z, st_f (by simp [h0])]
    · have h0 : now (6 + 6 * i + 4) = 1 := hv2
      rw [hv, h0, st_t (by omega) (by rw [h0]; decide)]
theorem m_sum3 {n : Nat} {now : Nat → Int32} {Q : Int32 → Prop} (hn : n ≤ 8) (h1 : now 1 = nI n) (h : Q (smI (fun i => now (6 + 6 * i + 3)) n)) : wp_X8_sumOf 3 now Q := by
  unfold wp_X8_sumOf
  refine pk_loop (fun k i (s : Int32) => lb_X8_sumOf_4 3 now Q k s (nI i)) (fun i s => s = smI (fun i => now (6 + 6 * i + 3)) i) n 0 0 (Nat.zero_le n) rfl ?_ ?_
  · intro k s hs
    subst hs
    exact ⟨fun _ => h, fun c => absurd (h1 ▸ Int32.le_refl _) c⟩
  · intro k i s hi hs ih
    subst hs
    refine ⟨fun c => absurd (h1 ▸ c) (nI_ge hi (by omega)), fun _ => ?_⟩
    rw [e_sI3 (by omega), nI_1]
    exact fun v hv => ih v (by rw [hv]; rfl)
theorem m_sum5 {n : Nat} {now : Nat → Int32} {Q : Int32 → Prop} (hn : n ≤ 8) (h1 : now 1 = nI n) (h : Q (smI (fun i => now (6 + 6 * i + 5)) n)) : wp_X8_sumOf 5 now Q := by
  unfold wp_X8_sumOf
  refine pk_loop (fun k i (s : Int32) => lb_X8_sumOf_4 5 now Q k s (nI i)) (fun i s => s = smI (fun i => now (6 + 6 * i + 5)) i) n 0 0 (Nat.zero_le n) rfl ?_ ?_
  · intro k s hs
    subst hs
    exact ⟨fun _ => h, fun c => absurd (h1 ▸ Int32.le_refl _) c⟩
  · intro k i s hi hs ih
    subst hs
    refine ⟨fun c => absurd (h1 ▸ c) (nI_ge hi (by omega)), fun _ => ?_⟩
    rw [e_sI5 (by omega), nI_1]
    exact fun v hv => ih v (by rw [hv]; rfl)
/-! how many bits -/
def pop8 (v : Nat) : Nat := fb_ct (fun i => v.testBit i) 8
def bcI (x0 : Int32) : Int32 :=
  let v1 := x0 - ((jushr x0 1) &&& 1431655765)
  let v2 := (v1 &&& 858993459) + ((jushr v1 2) &&& 858993459)
  let v3 := (v2 + (jushr v2 4)) &&& 252645135
  let v4 := v3 + (jushr v3 8)
  (v4 + (jushr v4 16)) &&& 63
theorem bcI_ok : ∀ v : Nat, v < 256 → bcI (nI v) = nI (pop8 v) := by decide +kernel
theorem e_bitCount {v : Nat} (hv : v < 256) {Q : Int32 → Prop} (h : Q (nI (pop8 v))) : wp_J6_bitCount_0f7a4 (nI v) Q := by
  unfold wp_J6_bitCount_0f7a4
  rintro v1 rfl v2 rfl v3 rfl v4 rfl v5 rfl
  have e := bcI_ok v hv
  unfold bcI at e
  rw [e]
  exact h
theorem bt_ok : ∀ v : Nat, v < 256 → v ≠ 0 → (v &&& (v - 1)) < v ∧ pop8 v = pop8 (v &&& (v - 1)) + 1 := by decide +kernel
theorem m_bits {v : Nat} (hv : v < 256) {Q : Int32 → Prop} (h : Q (nI (pop8 v))) : wp_X8_bits (nI v) Q := by
  unfold wp_X8_bits
  have key : ∀ (x0 : Int32) (v : Nat), v < 256 → ∀ c : Nat, Q (nI (c + pop8 v)) → ∃ n, lb_X8_bits_4 x0 Q n (nI c) (nI v) := by
    intro x0 v
    induction v using Nat.strongRecOn with
    | ind v ih =>
      intro hv c hq
      rcases Nat.eq_zero_or_pos v with rfl | hp
      · exact ⟨1, fun _ => by simpa [pop8, fb_ct] using hq, fun c => absurd rfl c⟩
      · obtain ⟨h1, h2⟩ := bt_ok v hv (by omega)
        obtain ⟨k, hk⟩ := ih _ h1 (by omega) (c + 1) (by rw [h2] at hq; rw [show c + 1 + pop8 (v &&& (v - 1)) = c + (pop8 (v &&& (v - 1)) + 1) by omega]; exact hq)
        refine ⟨k + 1, fun c => absurd c (nI_ne0 hp (by omega)), fun _ w hw => ?_⟩
        obtain ⟨u, rfl⟩ : ∃ u, v = u + 1 := ⟨v - 1, by omega⟩
        rw [nI_pred, fa_and] at hw
        subst hw
        rw [nI_1]
        exact hk
  exact key (nI v) v hv 0 (by rw [Nat.zero_add]; exact h)
theorem pop_st (p : Nat → Bool) {n : Nat} (hn : n ≤ 8) : pop8 (stN p n) = fb_ct p n := by
  unfold pop8
  have e : ∀ m, m + n = 8 → fb_ct (fun i => (stN p n).testBit i) 8 = fb_ct p n := by
    intro m hm
    rw [← hm, Nat.add_comm, fb_ct_split]
    have h1 : fb_ct (fun i => (stN p n).testBit i) n = fb_ct p n := fb_ct_cong (fun k hk => by rw [stN_bit]; simp [hk])
    have h2 : fb_ct (fun k => (stN p n).testBit (n + k)) m = 0 := fb_ct_zero.mpr (fun k _ => by rw [stN_bit]; simp; intro h; omega)
    rw [h1, h2, Nat.add_zero]
  exact e (8 - n) (by omega)
theorem st256 (p : Nat → Bool) {n : Nat} (hn : n ≤ 8) : stN p n < 256 := Nat.lt_of_lt_of_le (stN_lt p n) (Nat.pow_le_pow_right (by decide) hn)
theorem s_howAt {x : Int32} {n : Nat} {at_ : Nat → Int32} {Q : Int32 → Prop} (hn : n ≤ 8) (h : Q (nI (fb_ct (fun i => decide (at_ i = x)) n))) : wp_X0_howManyAt x (nI n) at_ Q := by
  unfold wp_X0_howManyAt
  refine s_whoAt hn ?_
  refine e_bitCount (st256 _ hn) ?_
  rw [pop_st _ hn]
  exact h
