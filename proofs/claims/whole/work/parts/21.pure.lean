/-! bounds -/
theorem sm_nI {k b : Nat} (h : k ≤ b) : sm (nI k) b := ⟨k, h, rfl⟩
theorem sm_max {x y : Int32} {b : Nat} (hx : sm x b) (hy : sm y b) : sm (jmax x y) b := by unfold jmax; split <;> assumption
theorem sm_held (hi : Nat) (hh : hi < 2 ^ 31) (v : Int32) : sm (jmax 0 (jmin (nI hi) v)) hi := by
  unfold jmax jmin
  by_cases h1 : v < nI hi
  · rw [if_pos h1]
    by_cases h2 : 0 < v
    · rw [if_pos h2]
      obtain ⟨j, h4, h5⟩ := nI_of2 (M := nI hi) (n := hi) (nI_toInt hh) (fa_of_lt h2).2.2.1 (Int32.le_of_lt h1)
      exact ⟨j, h4, h5⟩
    · rw [if_neg h2]; exact ⟨0, Nat.zero_le _, rfl⟩
  · rw [if_neg h1]
    by_cases h2 : 0 < nI hi
    · rw [if_pos h2]; exact sm_nI (Nat.le_refl _)
    · rw [if_neg h2]; exact ⟨0, Nat.zero_le _, rfl⟩
theorem sm_hd (k m f lo : Int32) : sm (hdI k m f lo) 99 := by
  unfold hdI
  split
  · exact sm_held 99 (by decide) _
  · split
    · exact sm_held 99 (by decide) _
    · split
      · exact ⟨0, by decide, rfl⟩
      · split
        · exact sm_held 99 (by decide) _
        · exact sm_held 99 (by decide) _
theorem sm_kp {k m st : Int32} (hm : sm m 9) : sm (kpI k m st) 39 := by
  obtain ⟨q, h1, rfl⟩ := hm
  have e1 : (10 : Int32) + nI q = nI (10 + q) := by rw [fa_lit 10, nI_add]
  unfold kpI
  split
  · rw [e1]; exact sm_nI (by omega)
  · split
    · split
      · rw [e1, fa_lit 20, nI_add]; exact sm_nI (by omega)
      · rw [e1]; exact sm_nI (by omega)
    · exact ⟨0, by decide, rfl⟩
theorem jrem_nI {a d : Nat} (ha : a < 2 ^ 31) (h0 : 0 < d) (hd : d < 2 ^ 31) : jrem (nI a) (nI d) = nI (a % d) := pk_rem ha h0 hd
theorem sm_rn {k m : Int32} (hm : sm m 9) : sm (rnI k m) 3 := by
  obtain ⟨q, h1, rfl⟩ := hm
  unfold rnI
  split
  · exact ⟨2, by decide, rfl⟩
  · split
    · rw [show jrem (nI q) 2 = nI (q % 2) from jrem_nI (d := 2) (by omega) (by decide) (by decide), fa_lit 1, nI_add]
      exact sm_nI (by omega)
    · split
      · exact ⟨3, by decide, rfl⟩
      · split
        · exact ⟨0, by decide, rfl⟩
        · exact ⟨1, by decide, rfl⟩
theorem sm_less {x r : Int32} {b : Nat} (hb : b < 2 ^ 30) (hx : sm x b) (hr : sm r 3) : sm (jmax 0 (x - r)) b := by
  obtain ⟨a, ha, rfl⟩ := hx
  obtain ⟨c, hc, rfl⟩ := hr
  unfold jmax
  split
  · rename_i h
    rcases Nat.lt_or_ge a c with q | q
    · exact absurd h (fa_of_lt (pk_sneg (by omega) q)).2.2.1
    · rw [pk_sub q]; exact sm_nI (by omega)
  · exact ⟨0, Nat.zero_le _, rfl⟩
theorem sm_deed {x r : Int32} (hx : sm x 9999) (hr : sm r 9) : sm (jmin 9999 (x + r)) 9999 := by
  obtain ⟨a, ha, rfl⟩ := hx
  obtain ⟨c, hc, rfl⟩ := hr
  rw [nI_add, fa_lit 9999]
  unfold jmin
  split
  · rename_i h
    rw [lt_nn (by omega) (by omega)] at h
    exact sm_nI (by omega)
  · exact sm_nI (Nat.le_refl _)
theorem jmin_deed {x : Int32} (hx : sm x 9999) : jmin 9999 (x + 0) = x := by
  obtain ⟨a, ha, rfl⟩ := hx
  rw [add_z]
  unfold jmin
  split
  · rfl
  · rename_i h
    have h2 : ¬ nI a < nI 9999 := h
    rw [lt_nn (by omega) (by decide)] at h2
    have : a = 9999 := by omega
    subst this
    rfl
theorem sm_go {x r : Int32} (hx : sm x 7) (hr : sm r 9) : sm (jrem (x + r) 8) 7 := by
  obtain ⟨a, ha, rfl⟩ := hx
  obtain ⟨c, hc, rfl⟩ := hr
  rw [nI_add, show jrem (nI (a + c)) 8 = nI ((a + c) % 8) from jrem_nI (d := 8) (by omega) (by decide) (by decide)]
  exact sm_nI (by omega)
/-! rows that become others, place by place -/
def mpI (g f : Nat → Int32) (i : Nat) (w : Nat → Int32) : Prop := (∀ j, j < i → w j = g j) ∧ ∀ j, i ≤ j → w j = f j
theorem mp_0 {g f : Nat → Int32} : mpI g f 0 f := ⟨fun j h => absurd h (Nat.not_lt_zero j), fun _ _ => rfl⟩
theorem mp_s {g f w : Nat → Int32} {i : Nat} (h : mpI g f i w) {v : Int32} (e : v = g i) : mpI g f (i + 1) (upd w i v) := ⟨fun j hj => by
  by_cases q : j = i
  · subst q; rw [up_s, e]
  · rw [up_n q]; exact h.1 j (by omega), fun j hj => by rw [up_n (by omega)]; exact h.2 j (by omega)⟩
theorem mp_k {g f w : Nat → Int32} {i : Nat} (h : mpI g f i w) (e : f i = g i) : mpI g f (i + 1) w := ⟨fun j hj => by
  by_cases q : j = i
  · subst q; rw [h.2 j (Nat.le_refl j), e]
  · exact h.1 j (by omega), fun j hj => h.2 j (by omega)⟩
/-! the class's step, part by part -/
theorem s_haveOwn {n : Nat} (hn : n ≤ 8) {st : Int32} {free kind m : Nat → Int32} (hk : ∀ i, i < n → sm (kind i) 6) {Q : (Nat → Int32) → Prop} (h : ∀ w, (∀ j, j < n → w j = jmax (free j) (kpI (kind j) (m j) st)) → Q w) : wp_X0_haveOwn (nI n) st free kind m Q := by
  unfold wp_X0_haveOwn
  refine pk_loop (fun k i (s : Nat → Int32) => lb_X0_haveOwn_2 (nI n) st kind m Q k (nI i) s) (fun i s => mpI (fun j => jmax (free j) (kpI (kind j) (m j) st)) free i s) n 0 free (Nat.zero_le n) mp_0 ?_ ?_
  · intro k s hs
    exact ⟨fun _ => h s hs.1, fun c => absurd (Int32.le_refl _) c⟩
  · intro k i s hi hs ih
    refine ⟨fun c => absurd c (nI_ge hi (by omega)), fun _ => ⟨i8 hn hi, ?_⟩⟩
    refine s_keeps hn hi (hk i hi) (fun v hv => ⟨i8 hn hi, ?_⟩)
    rw [c8 hn hi] at hv ⊢
    rw [nI_1]
    exact ih _ (mp_s hs (by rw [hv, hs.2 i (Nat.le_refl i)]))
theorem s_runOut {n : Nat} (hn : n ≤ 8) {free kind m : Nat → Int32} {Q : (Nat → Int32) → Prop} (h : ∀ w, (∀ j, j < n → w j = jmax 0 (free j - rnI (kind j) (m j))) → Q w) : wp_X0_runOut (nI n) free kind m Q := by
  unfold wp_X0_runOut
  refine pk_loop (fun k i (s : Nat → Int32) => lb_X0_runOut_2 (nI n) kind m Q k (nI i) s) (fun i s => mpI (fun j => jmax 0 (free j - rnI (kind j) (m j))) free i s) n 0 free (Nat.zero_le n) mp_0 ?_ ?_
  · intro k s hs
    exact ⟨fun _ => h s hs.1, fun c => absurd (Int32.le_refl _) c⟩
  · intro k i s hi hs ih
    refine ⟨fun c => absurd c (nI_ge hi (by omega)), fun _ => ⟨i8 hn hi, ?_⟩⟩
    refine s_runs hn hi (fun v hv => ⟨i8 hn hi, ?_⟩)
    rw [c8 hn hi] at hv ⊢
    rw [nI_1]
    exact ih _ (mp_s hs (by rw [hv, hs.2 i (Nat.le_refl i)]))
def goI (k m a g : Int32) : Int32 := if (k = 3 ∨ k = 6) ∧ g = 0 then jrem (a + m) 8 else a
theorem und3 : ∀ k : Nat, k < 7 → ((und k 3 = true) ↔ (nI k = 3 ∨ nI k = 6)) := by decide
theorem s_steal {n : Nat} (hn : n ≤ 8) {gl kind at_ m : Nat → Int32} (hk : ∀ i, i < n → sm (kind i) 6) {Q : (Nat → Int32) → Prop} (h : ∀ w, (∀ j, j < n → w j = goI (kind j) (m j) (at_ j) (gl j)) → Q w) : wp_X0_steal (nI n) gl kind at_ m Q := by
  unfold wp_X0_steal
  refine pk_loop (fun k i (s : Nat → Int32) => lb_X0_steal_2 (nI n) gl kind m Q k (nI i) s) (fun i s => mpI (fun j => goI (kind j) (m j) (at_ j) (gl j)) at_ i s) n 0 at_ (Nat.zero_le n) mp_0 ?_ ?_
  · intro k s hs
    exact ⟨fun _ => h s hs.1, fun c => absurd (Int32.le_refl _) c⟩
  · intro k i s hi hs ih
    have v8 := i8 hn hi
    refine ⟨fun c => absurd c (nI_ge hi (by omega)), fun _ => ⟨v8, ?_⟩⟩
    rw [c8 hn hi, nI_1]
    refine ⟨fun c => ih _ (mp_k hs (by simp [goI, c])), fun c => ⟨v8, ?_⟩⟩
    obtain ⟨q, hq, eq⟩ := hk i hi
    rw [eq]
    refine s_under (a := 3) hq (by decide) ⟨fun c2 => ?_, fun c2 => ⟨v8, v8, fun v hv => ⟨v8, ?_⟩⟩⟩
    · rw [b2i_0, und3 q (by omega)] at c2
      exact ih _ (mp_k hs (by simp [goI, eq, c2]))
    · rw [b2i_0, Classical.not_not, und3 q (by omega)] at c2
      refine ih _ (mp_s hs ?_)
      show v = goI (kind i) (m i) (at_ i) (gl i)
      rw [hv, hs.2 i (Nat.le_refl i), goI, eq, if_pos ⟨c2, c⟩]
theorem s_doDeeds {n tn : Nat} (hn : n ≤ 8) {tk : Nat → Nat} {nv : Nat → Int32} {size : Int32} {signs numbers pile free m at_ deeds : Nat → Int32} (T : TRc tn tk nv size signs numbers) (w : wfT tn tk nv) {Q : (Nat → Int32) → (Nat → Int32) → Prop} (h : ∀ p w, (∀ j, j < n → w j = if free j ≤ 0 then deeds j else jmin 9999 (deeds j + deV tn tk nv (free j) (m j) (at_ j))) → Q p w) : wp_X0_doDeeds (nI n) free m at_ size signs numbers pile deeds Q := by
  unfold wp_X0_doDeeds
  refine pk_loop (fun k i (s : (Nat → Int32) × (Nat → Int32)) => lb_X0_doDeeds_2 (nI n) free m at_ size signs numbers Q k (nI i) s.1 s.2) (fun i s => mpI (fun j => if free j ≤ 0 then deeds j else jmin 9999 (deeds j + deV tn tk nv (free j) (m j) (at_ j))) deeds i s.2) n 0 (pile, deeds) (Nat.zero_le n) mp_0 ?_ ?_
  · rintro k ⟨p, s⟩ hs
    exact ⟨fun _ => h p s hs.1, fun c => absurd (Int32.le_refl _) c⟩
  · rintro k i ⟨p, s⟩ hi hs ih
    have v8 := i8 hn hi
    have ih : ∀ p s, mpI (fun j => if free j ≤ 0 then deeds j else jmin 9999 (deeds j + deV tn tk nv (free j) (m j) (at_ j))) deeds (i + 1) s → lb_X0_doDeeds_2 (nI n) free m at_ size signs numbers Q k (nI (i + 1)) p s := fun p s a => ih (p, s) a
    show lb_X0_doDeeds_2 (nI n) free m at_ size signs numbers Q (k + 1) (nI i) p s
    refine ⟨fun c => absurd c (nI_ge hi (by omega)), fun _ => ⟨v8, ?_⟩⟩
    rw [c8 hn hi, nI_1]
    refine ⟨fun c => ih _ _ (mp_k hs (by simp [c])), fun c => ⟨v8, v8, v8, ?_⟩⟩
    refine s_deedsBy T w (fun p2 => ⟨v8, fun v hv => ⟨v8, ih _ _ (mp_s hs ?_)⟩⟩)
    rw [hv, if_neg c]
    congr 1
    exact congrArg (· + _) (hs.2 i (Nat.le_refl i))
