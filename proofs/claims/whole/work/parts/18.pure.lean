/-! kinds -/
def und (k a : Nat) : Bool := k == a || (a == 0 && k != 0) || (k == 4 && a == 1) || (k == 5 && a == 2) || (k == 6 && a == 3)
theorem co7 {P : Nat → Prop} (h0 : P 0) (h1 : P 1) (h2 : P 2) (h3 : P 3) (h4 : P 4) (h5 : P 5) (h6 : P 6) {k : Nat} (hk : k ≤ 6) : P k := by
  rcases (show k = 0 ∨ k = 1 ∨ k = 2 ∨ k = 3 ∨ k = 4 ∨ k = 5 ∨ k = 6 by omega) with rfl | rfl | rfl | rfl | rfl | rfl | rfl <;> assumption
def upI (x : Int32) : Int32 := kK x.toNatClampNeg
/-- the class's way up, as a function -/
def unf (a : Int32) : Nat → Int32 → Int32
  | 0, _ => 0
  | f + 1, y => if (0 : Int32) ≤ y ∧ y ≤ 6 then (if y = a then 1 else unf a f (upI y)) else 0
theorem und_unf : ∀ k : Nat, k < 7 → ∀ a : Nat, a < 7 → unf (nI a) 3 (nI k) = b2i (und k a = true) := by decide +kernel
theorem lb_under {x0 a : Int32} {Q : Int32 → Prop} : ∀ (f : Nat) (y : Int32) (c : Nat), c + f = 3 → Q (unf a f y) → lb_X7_isUnder_4 x0 a Q (f + 1) y (nI c) := by
  intro f
  induction f with
  | zero =>
    intro y c hc h
    have : c = 3 := by omega
    subst this
    exact ⟨fun _ => h, fun q => absurd (Int32.le_refl _) q⟩
  | succ f ih =>
    intro y c hc h
    refine ⟨fun q => absurd q (nI_ge (a := c) (b := 3) (by omega) (by decide)), fun _ => ?_⟩
    rw [e_within]
    unfold unf at h
    by_cases hr : (0 : Int32) ≤ y ∧ y ≤ 6
    · rw [if_pos hr] at h
      refine ⟨fun q => absurd q (by rw [b2i_0]; exact fun z => z hr), fun _ => ⟨fun c2 => ?_, fun c2 => ?_⟩⟩
      · rw [if_neg c2] at h
        obtain ⟨j, hj, rfl⟩ := sm_of (n := 6) (by decide) hr
        refine ⟨vp_in_nI (by omega) (by decide), fun v hv => ?_⟩
        rw [nI_1]
        exact ih v (c + 1) (by omega) (by rw [hv]; exact h)
      · rw [if_pos c2] at h
        exact h
    · rw [if_neg hr] at h
      exact ⟨fun _ => h, fun q => absurd (by rw [b2i_0]; exact hr) q⟩
theorem s_under {k a : Nat} (hk : k ≤ 6) (ha : a ≤ 6) {Q : Int32 → Prop} (h : Q (b2i (und k a = true))) : wp_X7_isUnder (nI k) (nI a) Q :=
  ⟨4, lb_under 3 (nI k) 0 rfl (by rw [und_unf k (by omega) a (by omega)]; exact h)⟩
/-- the Model's way up -/
def abI (x : Int32) : Int32 := if x = 0 then -1 else if x = 4 then 1 else if x = 5 then 2 else if x = 6 then 3 else 0
theorem e_above {x : Int32} {Q : Int32 → Prop} (h : Q (abI x)) : wp_X8_above x Q := by
  unfold wp_X8_above abI at *
  refine ⟨fun c0 => ⟨fun c4 => ⟨fun c5 => ⟨fun c6 => ?_, fun c6 => ?_⟩, fun c5 => ?_⟩, fun c4 => ?_⟩, fun c0 => ?_⟩
  · simpa [c0, c4, c5, c6] using h
  · simpa [c0, c4, c5, c6] using h
  · simpa [c0, c4, c5] using h
  · simpa [c0, c4] using h
  · simpa [c0] using h
def unm (a : Int32) : Nat → Int32 → Option Int32
  | 0, _ => none
  | f + 1, y => if y < 0 then some 0 else if y = a then some 1 else unm a f (abI y)
theorem und_unm : ∀ k : Nat, k < 7 → ∀ a : Nat, a < 7 → unm (nI a) 5 (nI k) = some (b2i (und k a = true)) := by decide +kernel
theorem lb_under8 {x0 a r : Int32} {Q : Int32 → Prop} (ha : ¬ a < 0) (h : Q r) : ∀ (f : Nat) (y : Int32), unm a f y = some r → lb_X8_isUnder_2 x0 a Q f y := by
  intro f
  induction f with
  | zero => intro y e; cases e
  | succ f ih =>
    intro y e
    unfold unm at e
    by_cases h0 : y < 0
    · rw [if_pos h0] at e
      cases e
      exact ⟨fun _ => ⟨fun _ => h, fun q => absurd h0 q⟩, fun q => absurd h0 q⟩
    · rw [if_neg h0] at e
      refine ⟨fun q => absurd q h0, fun _ => ⟨fun q => ?_, fun q => ?_⟩⟩
      · rw [if_pos q] at e
        cases e
        exact ⟨fun z => absurd z h0, fun _ => h⟩
      · rw [if_neg q] at e
        exact e_above (ih _ e)
theorem m_under {k a : Nat} (hk : k ≤ 6) (ha : a ≤ 6) {Q : Int32 → Prop} (h : Q (b2i (und k a = true))) : wp_X8_isUnder (nI k) (nI a) Q :=
  ⟨5, lb_under8 (nI_pos (by omega)) h 5 (nI k) (und_unm k (by omega) a (by omega))⟩
/-! what one keeps, hands on, and what runs -/
def kpI (k m st : Int32) : Int32 := if k = 1 then 10 + m else if k = 4 then (if jrem st 7 = 0 then 10 + m + 20 else 10 + m) else 0
def hdI (k m f lo : Int32) : Int32 := if k = 2 then jmax 0 (jmin 99 ((f - lo) / 2)) else if k = 3 then jmax 0 (jmin 99 (jmin (f - lo + m) f)) else if k = 5 then 0 else if k = 6 then jmax 0 (jmin 99 (jmin (f - lo + m) f + 1)) else jmax 0 (jmin 99 (f - lo))
def rnI (k m : Int32) : Int32 := if k = 2 then 2 else if k = 3 then 1 + jrem m 2 else if k = 5 then 3 else if k = 6 then 0 else 1
theorem jmin_comm (x y : Int32) : jmin x y = jmin y x := by
  unfold jmin
  by_cases h : y < x
  · rw [if_pos h, if_neg (fa_of_lt h).2.2.1]
  · rw [if_neg h]
    by_cases h2 : x < y
    · rw [if_pos h2]
    · rw [if_neg h2]
      exact Int32.le_antisymm (fa_of_nlt h) (fa_of_nlt h2)
theorem s_keeps {i n : Nat} (hn : n ≤ 8) (hi : i < n) {st : Int32} {kind m : Nat → Int32} (hk : sm (kind i) 6) {Q : Int32 → Prop} (h : Q (kpI (kind i) (m i) st)) : wp_X0_keepsOf (nI i) st kind m Q := by
  unfold wp_X0_keepsOf lb_X0_keepsOf_26
  rw [c8 hn hi]
  refine ⟨i8 hn hi, ?_⟩
  obtain ⟨k, hk, ek⟩ := hk
  rw [ek] at h ⊢
  refine s_under (a := 1) hk (by decide) ?_
  rcases (show k = 0 ∨ k = 1 ∨ k = 2 ∨ k = 3 ∨ k = 4 ∨ k = 5 ∨ k = 6 by omega) with rfl | rfl | rfl | rfl | rfl | rfl | rfl
  · exact ⟨fun _ => ⟨i8 hn hi, fun _ => h, fun q => absurd q (by decide)⟩, fun q => absurd (by decide) q⟩
  · exact ⟨fun q => absurd q (by decide), fun _ => ⟨i8 hn hi, i8 hn hi, fun _ => h, fun q => absurd q (by decide)⟩⟩
  · exact ⟨fun _ => ⟨i8 hn hi, fun _ => h, fun q => absurd q (by decide)⟩, fun q => absurd (by decide) q⟩
  · exact ⟨fun _ => ⟨i8 hn hi, fun _ => h, fun q => absurd q (by decide)⟩, fun q => absurd (by decide) q⟩
  · refine ⟨fun q => absurd q (by decide), fun _ => ⟨i8 hn hi, i8 hn hi, fun q => absurd rfl q, fun _ => ⟨fun c => ?_, fun c => ?_⟩⟩⟩
    · have e : kpI (nI 4) (m i) st = 10 + m i := by unfold kpI; rw [if_neg (by decide), if_pos (show nI 4 = 4 from rfl), if_neg c]
      rw [e] at h; exact h
    · have e : kpI (nI 4) (m i) st = 10 + m i + 20 := by unfold kpI; rw [if_neg (by decide), if_pos (show nI 4 = 4 from rfl), if_pos c]
      rw [e] at h; exact h
  · exact ⟨fun _ => ⟨i8 hn hi, fun _ => h, fun q => absurd q (by decide)⟩, fun q => absurd (by decide) q⟩
  · exact ⟨fun _ => ⟨i8 hn hi, fun _ => h, fun q => absurd q (by decide)⟩, fun q => absurd (by decide) q⟩
theorem m_keeps {i : Nat} (hi : i < 8) {now : Nat → Int32} (hk : sm (now (6 + 6 * i + 0)) 6) {Q : Int32 → Prop} (h : Q (kpI (now (6 + 6 * i + 0)) (now (6 + 6 * i + 1)) (now 0))) : wp_X8_keepsNow (nI i) now Q := by
  unfold wp_X8_keepsNow
  rw [e_sI0 hi]
  simp only [e_sI1 hi]
  obtain ⟨k, hk, ek⟩ := hk
  rw [ek] at h ⊢
  refine m_under (a := 1) hk (by decide) ?_
  generalize now (6 + 6 * i + 1) = mm at h ⊢
  have z : ∀ x : Int32, x + 0 = x := add_z
  rcases (show k = 0 ∨ k = 1 ∨ k = 2 ∨ k = 3 ∨ k = 4 ∨ k = 5 ∨ k = 6 by omega) with rfl | rfl | rfl | rfl | rfl | rfl | rfl
  · exact ⟨fun q => absurd (by decide) q, fun _ => h⟩
  · exact ⟨fun _ => ⟨fun _ => by rw [z]; exact h, fun q => absurd q (by decide)⟩, fun q => absurd q (by decide)⟩
  · exact ⟨fun q => absurd (by decide) q, fun _ => h⟩
  · exact ⟨fun q => absurd (by decide) q, fun _ => h⟩
  · refine ⟨fun _ => ⟨fun q => absurd rfl q, fun _ => ⟨fun c => ?_, fun c => ?_⟩⟩, fun q => absurd q (by decide)⟩
    · have e : kpI (nI 4) mm (now 0) = 10 + mm := by unfold kpI; rw [if_neg (by decide), if_pos (show nI 4 = 4 from rfl), if_neg c]
      rw [e] at h; rw [z]; exact h
    · have e : kpI (nI 4) mm (now 0) = 10 + mm + 20 := by unfold kpI; rw [if_neg (by decide), if_pos (show nI 4 = 4 from rfl), if_pos c]
      rw [e] at h; exact h
  · exact ⟨fun q => absurd (by decide) q, fun _ => h⟩
  · exact ⟨fun q => absurd (by decide) q, fun _ => h⟩
theorem s_hands {i n : Nat} (hn : n ≤ 8) (hi : i < n) {lo : Int32} {free kind m : Nat → Int32} {Q : Int32 → Prop} (h : Q (hdI (kind i) (m i) (free i) lo)) : wp_X0_handsOf (nI i) lo free kind m Q := by
  unfold wp_X0_handsOf
  simp only [c8 hn hi, e_held]
  have v := i8 hn hi
  unfold hdI at h
  refine ⟨v, fun v1 e1 => ⟨v, ?_⟩⟩
  subst e1
  refine ⟨fun c => ?_, fun c => ⟨v, v, ?_⟩, fun c => ?_, fun c => ?_, fun c => ⟨v, v, ?_⟩, fun c2 c3 c4 c5 c6 => ?_⟩
  · simpa [c] using h
  · simpa [c] using h
  · simpa [c] using h
  · simpa [c] using h
  · simpa [c] using h
  · simpa [c2, c3, c4, c5, c6] using h
theorem m_hands {i : Nat} (hi : i < 8) {f : Int32} {now : Nat → Int32} {Q : Int32 → Prop} (h : Q (hdI (now (6 + 6 * i + 0)) (now (6 + 6 * i + 1)) f (now 2))) : wp_X8_handsBy (nI i) f now Q := by
  unfold wp_X8_handsBy
  simp only [e_sI0 hi, e_sI1 hi, e_held8]
  generalize now (6 + 6 * i + 0) = kk at h ⊢
  unfold hdI at h
  rintro v1 rfl v3 rfl
  rw [jmin_comm f]
  refine ⟨fun c => ?_, fun c => ?_, fun c => ?_, fun c => ?_, fun c => ?_, fun c2 c3 c4 c5 c6 => ?_⟩
  · simpa [c] using h
  · simpa [c] using h
  · simpa [c] using h
  · simpa [c] using h
  · simpa [c] using h
  · simpa [c2, c3, c4, c5, c6] using h
theorem s_runs {i n : Nat} (hn : n ≤ 8) (hi : i < n) {kind m : Nat → Int32} {Q : Int32 → Prop} (h : Q (rnI (kind i) (m i))) : wp_X0_runsOf (nI i) kind m Q := by
  unfold wp_X0_runsOf
  simp only [c8 hn hi]
  have v := i8 hn hi
  unfold rnI at h
  refine ⟨v, fun c => ?_, fun c => ⟨v, ?_⟩, fun c => ?_, fun c => ?_, fun c => ?_, fun c2 c3 c4 c5 c6 => ?_⟩
  · simpa [c] using h
  · simpa [c] using h
  · simpa [c] using h
  · simpa [c] using h
  · simpa [c] using h
  · simpa [c2, c3, c4, c5, c6] using h
theorem m_runs {i : Nat} (hi : i < 8) {now : Nat → Int32} {Q : Int32 → Prop} (h : Q (rnI (now (6 + 6 * i + 0)) (now (6 + 6 * i + 1)))) : wp_X8_runsNow (nI i) now Q := by
  unfold wp_X8_runsNow
  simp only [e_sI0 hi, e_sI1 hi]
  generalize now (6 + 6 * i + 0) = kk at h ⊢
  unfold rnI at h
  refine ⟨fun c => ?_, fun c => ?_, fun c => ?_, fun c => ?_, fun c => ?_, fun c2 c3 c4 c5 c6 => ?_⟩
  · simpa [c] using h
  · simpa [c] using h
  · simpa [c] using h
  · simpa [c] using h
  · simpa [c] using h
  · simpa [c2, c3, c4, c5, c6] using h
