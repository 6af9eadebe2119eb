/-! small numbers -/
theorem li_nn {a b : Nat} (ha : a < 2 ^ 31) (hb : b < 2 ^ 31) : (nI a ≤ nI b) = (a ≤ b) := propext (nI_leI ha hb)
theorem lt_nn {a b : Nat} (ha : a < 2 ^ 31) (hb : b < 2 ^ 31) : (nI a < nI b) = (a < b) := propext (nI_ltI ha hb)
theorem eq_nn {a b : Nat} (ha : a < 2 ^ 31) (hb : b < 2 ^ 31) : (nI a = nI b) = (a = b) := propext (nI_eq ha hb)
def b2i (c : Prop) [Decidable c] : Int32 := if c then 1 else 0
theorem b2i_t {c : Prop} [Decidable c] (h : c) : b2i c = 1 := if_pos h
theorem b2i_f {c : Prop} [Decidable c] (h : ¬ c) : b2i c = 0 := if_neg h
theorem b2i_0 {c : Prop} [Decidable c] : (b2i c = 0) = ¬ c := by unfold b2i; split <;> simp [*]
theorem b2i_and {c : Prop} [Decidable c] : b2i c &&& 1 = b2i c := by unfold b2i; split <;> decide
theorem e_within {x0 x1 x2 : Int32} {Q : Int32 → Prop} : wp_X7_within x0 x1 x2 Q = Q (b2i (x1 ≤ x0 ∧ x0 ≤ x2)) := by
  unfold wp_X7_within b2i
  apply propext
  by_cases h1 : x0 < x1
  · have : ¬ x1 ≤ x0 := by rw [Int32.not_le]; exact h1
    simp [h1, this]
  · have h1' : x1 ≤ x0 := by rw [← Int32.not_lt]; exact h1
    by_cases h2 : x2 < x0
    · have : ¬ x0 ≤ x2 := by rw [Int32.not_le]; exact h2
      simp [h1, h2, this]
    · have : x0 ≤ x2 := by rw [← Int32.not_lt]; exact h2
      simp [h1, h2, h1', this]
theorem e_within8 {x0 x1 x2 : Int32} {Q : Int32 → Prop} : wp_X8_within x0 x1 x2 Q = Q (b2i (x1 ≤ x0 ∧ x0 ≤ x2)) := by
  exact (show wp_X8_within x0 x1 x2 Q = wp_X7_within x0 x1 x2 Q from rfl).trans e_within
theorem e_held {v lo hi : Int32} {Q : Int32 → Prop} : wp_X7_held v lo hi Q = Q (jmax lo (jmin hi v)) := rfl
theorem e_held8 {v lo hi : Int32} {Q : Int32 → Prop} : wp_X8_held v lo hi Q = Q (jmax lo (jmin hi v)) := rfl
theorem e_isStreet {x : Int32} {Q : Int32 → Prop} : wp_X7_isStreet x Q = Q (b2i (0 ≤ x ∧ x ≤ 7)) := by
  unfold wp_X7_isStreet
  simp only [e_within, b2i_and, true_and]
theorem e_isStreet8 {x : Int32} {Q : Int32 → Prop} : wp_X8_isStreet x Q = Q (b2i (0 ≤ x ∧ x ≤ 7)) := by
  unfold wp_X8_isStreet
  simp only [e_within8, b2i_and, true_and]
theorem e_isKM {x : Int32} {Q : Int32 → Prop} : wp_X7_isKindAndNumber x Q = Q (b2i (0 ≤ x ∧ x ≤ 69)) := by
  unfold wp_X7_isKindAndNumber
  simp only [e_within, b2i_and, true_and]
theorem e_isKM8 {x : Int32} {Q : Int32 → Prop} : wp_X8_isKindM x Q = Q (b2i (0 ≤ x ∧ x ≤ 69)) := by
  unfold wp_X8_isKindM
  simp only [e_within8, b2i_and, true_and]
theorem e_isUse {x : Int32} {Q : Int32 → Prop} : wp_X7_isUse x Q = Q (b2i (0 ≤ x ∧ x ≤ 1)) := by
  unfold wp_X7_isUse
  simp only [e_within, b2i_and, true_and]
theorem e_isBehind8 {x : Int32} {Q : Int32 → Prop} : wp_X8_isBehind x Q = Q (b2i (0 ≤ x ∧ x ≤ 60)) := by
  unfold wp_X8_isBehind
  simp only [e_within8, b2i_and, true_and]
theorem e_isSoon8 {x : Int32} {Q : Int32 → Prop} : wp_X8_isSoon x Q = Q (b2i (0 ≤ x ∧ x ≤ 20)) := by
  unfold wp_X8_isSoon
  simp only [e_within8, b2i_and, true_and]
theorem e_isSheet8 {x : Int32} {Q : Int32 → Prop} : wp_X8_isSheet x Q = Q (b2i (0 ≤ x ∧ x ≤ 3)) := by
  unfold wp_X8_isSheet
  simp only [e_within8, b2i_and, true_and]
theorem e_isSoul {x sz : Int32} {Q : Int32 → Prop} : wp_X7_isSoul x sz Q = Q (b2i (0 ≤ x ∧ x ≤ sz - 1)) := by
  unfold wp_X7_isSoul
  simp only [e_within, b2i_and, true_and]
theorem e_isSoul8 {x : Int32} {now : Nat → Int32} {Q : Int32 → Prop} : wp_X8_isSoul x now Q = Q (b2i (0 ≤ x ∧ x ≤ now 1 - 1)) := by
  unfold wp_X8_isSoul
  simp only [e_within8, b2i_and, true_and]
theorem i01 {x : Int32} : (0 ≤ x ∧ x ≤ 1) ↔ (x = 0 ∨ x = 1) := by
  constructor
  · intro h
    obtain ⟨j, hj, rfl⟩ := nI_of2 (M := 1) (n := 1) (by decide) (fun q => by have := fa_of_lt q; exact this.2.1 h.1) h.2
    rcases (show j = 0 ∨ j = 1 by omega) with rfl | rfl
    · exact Or.inl rfl
    · exact Or.inr rfl
  · rintro (rfl | rfl) <;> decide
theorem e_isEither {x : Int32} {Q : Int32 → Prop} : wp_X7_isEither x Q = Q (b2i (0 ≤ x ∧ x ≤ 1)) := by
  unfold wp_X7_isEither
  apply propext
  by_cases h0 : x = 0
  · subst h0
    rw [b2i_t (by decide)]
    simp
  · by_cases h1 : x = 1
    · subst h1
      rw [b2i_t (by decide)]
      simp
    · rw [b2i_f (fun h => (i01.mp h).elim h0 h1)]
      simp [h0, h1]
/-! refusals: both sides count alike -/
theorem vi_in {k N : Nat} (h : k < N) (hN : N < 2 ^ 31) : vp_in (nI k) N := vp_in_nI h hN
theorem e_ref1 {e : Nat → Int32} {Q : Int32 → (Nat → Int32) → Prop} : wp_X7_refuse 1 e Q = Q (-1000000001) (upd e 1 (e 1 + 1)) := by
  unfold wp_X7_refuse
  simp only [e_within]
  rw [b2i_t (by decide)]
  have hv : vp_in (1 : Int32) 6 := vi_in (k := 1) (by decide) (by decide)
  have hc : (1 : Int32).toNatClampNeg = 1 := by decide
  have he : (-1000000000 : Int32) - 1 = -1000000001 := by decide
  have h1 : ¬ (1 : Int32) = 0 := by decide
  apply propext
  simp only [hc, hv, he, h1, true_and, forall_eq, false_implies, not_false_eq_true, true_implies]
theorem e_fin1 {e : Nat → Int32} {Q : Int32 → (Nat → Int32) → Prop} : wp_X8_finding (-1000000001) e Q = Q (-1000000001) (upd e 1 (e 1 + 1)) := by
  unfold wp_X8_finding
  have he : (-1000000000 : Int32) - (-1000000001) = 1 := by decide
  have hv : vp_in (1 : Int32) 6 := vi_in (k := 1) (by decide) (by decide)
  have hc : (1 : Int32).toNatClampNeg = 1 := by decide
  apply propext
  simp only [he, hc, hv, true_and, forall_eq]
theorem e_ref2 {e : Nat → Int32} {Q : Int32 → (Nat → Int32) → Prop} : wp_X7_refuse 2 e Q = Q (-1000000002) (upd e 2 (e 2 + 1)) := by
  unfold wp_X7_refuse
  simp only [e_within]
  rw [b2i_t (by decide)]
  have hv : vp_in (2 : Int32) 6 := vi_in (k := 2) (by decide) (by decide)
  have hc : (2 : Int32).toNatClampNeg = 2 := by decide
  have he : (-1000000000 : Int32) - 2 = -1000000002 := by decide
  have h1 : ¬ (1 : Int32) = 0 := by decide
  apply propext
  simp only [hc, hv, he, h1, true_and, forall_eq, false_implies, not_false_eq_true, true_implies]
theorem e_fin2 {e : Nat → Int32} {Q : Int32 → (Nat → Int32) → Prop} : wp_X8_finding (-1000000002) e Q = Q (-1000000002) (upd e 2 (e 2 + 1)) := by
  unfold wp_X8_finding
  have he : (-1000000000 : Int32) - (-1000000002) = 2 := by decide
  have hv : vp_in (2 : Int32) 6 := vi_in (k := 2) (by decide) (by decide)
  have hc : (2 : Int32).toNatClampNeg = 2 := by decide
  apply propext
  simp only [he, hc, hv, true_and, forall_eq]
theorem e_ref3 {e : Nat → Int32} {Q : Int32 → (Nat → Int32) → Prop} : wp_X7_refuse 3 e Q = Q (-1000000003) (upd e 3 (e 3 + 1)) := by
  unfold wp_X7_refuse
  simp only [e_within]
  rw [b2i_t (by decide)]
  have hv : vp_in (3 : Int32) 6 := vi_in (k := 3) (by decide) (by decide)
  have hc : (3 : Int32).toNatClampNeg = 3 := by decide
  have he : (-1000000000 : Int32) - 3 = -1000000003 := by decide
  have h1 : ¬ (1 : Int32) = 0 := by decide
  apply propext
  simp only [hc, hv, he, h1, true_and, forall_eq, false_implies, not_false_eq_true, true_implies]
theorem e_fin3 {e : Nat → Int32} {Q : Int32 → (Nat → Int32) → Prop} : wp_X8_finding (-1000000003) e Q = Q (-1000000003) (upd e 3 (e 3 + 1)) := by
  unfold wp_X8_finding
  have he : (-1000000000 : Int32) - (-1000000003) = 3 := by decide
  have hv : vp_in (3 : Int32) 6 := vi_in (k := 3) (by decide) (by decide)
  have hc : (3 : Int32).toNatClampNeg = 3 := by decide
  apply propext
  simp only [he, hc, hv, true_and, forall_eq]
theorem e_ref4 {e : Nat → Int32} {Q : Int32 → (Nat → Int32) → Prop} : wp_X7_refuse 4 e Q = Q (-1000000004) (upd e 4 (e 4 + 1)) := by
  unfold wp_X7_refuse
  simp only [e_within]
  rw [b2i_t (by decide)]
  have hv : vp_in (4 : Int32) 6 := vi_in (k := 4) (by decide) (by decide)
  have hc : (4 : Int32).toNatClampNeg = 4 := by decide
  have he : (-1000000000 : Int32) - 4 = -1000000004 := by decide
  have h1 : ¬ (1 : Int32) = 0 := by decide
  apply propext
  simp only [hc, hv, he, h1, true_and, forall_eq, false_implies, not_false_eq_true, true_implies]
theorem e_fin4 {e : Nat → Int32} {Q : Int32 → (Nat → Int32) → Prop} : wp_X8_finding (-1000000004) e Q = Q (-1000000004) (upd e 4 (e 4 + 1)) := by
  unfold wp_X8_finding
  have he : (-1000000000 : Int32) - (-1000000004) = 4 := by decide
  have hv : vp_in (4 : Int32) 6 := vi_in (k := 4) (by decide) (by decide)
  have hc : (4 : Int32).toNatClampNeg = 4 := by decide
  apply propext
  simp only [he, hc, hv, true_and, forall_eq]
theorem e_ref5 {e : Nat → Int32} {Q : Int32 → (Nat → Int32) → Prop} : wp_X7_refuse 5 e Q = Q (-1000000005) (upd e 5 (e 5 + 1)) := by
  unfold wp_X7_refuse
  simp only [e_within]
  rw [b2i_t (by decide)]
  have hv : vp_in (5 : Int32) 6 := vi_in (k := 5) (by decide) (by decide)
  have hc : (5 : Int32).toNatClampNeg = 5 := by decide
  have he : (-1000000000 : Int32) - 5 = -1000000005 := by decide
  have h1 : ¬ (1 : Int32) = 0 := by decide
  apply propext
  simp only [hc, hv, he, h1, true_and, forall_eq, false_implies, not_false_eq_true, true_implies]
theorem e_fin5 {e : Nat → Int32} {Q : Int32 → (Nat → Int32) → Prop} : wp_X8_finding (-1000000005) e Q = Q (-1000000005) (upd e 5 (e 5 + 1)) := by
  unfold wp_X8_finding
  have he : (-1000000000 : Int32) - (-1000000005) = 5 := by decide
  have hv : vp_in (5 : Int32) 6 := vi_in (k := 5) (by decide) (by decide)
  have hc : (5 : Int32).toNatClampNeg = 5 := by decide
  apply propext
  simp only [he, hc, hv, true_and, forall_eq]
/-- what is small -/
def sm (x : Int32) (b : Nat) : Prop := ∃ k : Nat, k ≤ b ∧ x = nI k
theorem sm_of {x M : Int32} {n : Nat} (hM : M.toInt = n) (h : 0 ≤ x ∧ x ≤ M) : sm x n := by
  obtain ⟨j, h1, h2⟩ := nI_of2 hM (fun q => (fa_of_lt q).2.1 h.1) h.2
  exact ⟨j, h1, h2⟩
theorem sm_lit (k b : Nat) (h : k ≤ b) : sm (nI k) b := ⟨k, h, rfl⟩
theorem sm_mono {x : Int32} {a b : Nat} (h : sm x a) (hab : a ≤ b) : sm x b := by
  obtain ⟨k, h1, h2⟩ := h
  exact ⟨k, Nat.le_trans h1 hab, h2⟩
/-- one of PEOPLE -/
theorem soul_of {x : Int32} {n : Nat} (hn : n ≤ 8) (h : 0 ≤ x ∧ x ≤ nI n - 1) : ∃ i, i < n ∧ x = nI i := by
  rcases Nat.eq_zero_or_pos n with rfl | hp
  · exact absurd (Int32.le_trans h.1 h.2) (by decide)
  · obtain ⟨m, rfl⟩ : ∃ m, n = m + 1 := ⟨n - 1, by omega⟩
    rw [nI_pred] at h
    obtain ⟨j, h1, h2⟩ := nI_of2 (M := nI m) (n := m) (nI_toInt (by omega)) (fun q => (fa_of_lt q).2.1 h.1) h.2
    exact ⟨j, by omega, h2⟩
theorem of_soul {i n : Nat} (hn : n ≤ 8) (h : i < n) : 0 ≤ nI i ∧ nI i ≤ nI n - 1 := by
  obtain ⟨m, rfl⟩ : ∃ m, n = m + 1 := ⟨n - 1, by omega⟩
  rw [nI_pred]
  exact ⟨nI_pos' (by omega), nI_le (by omega) (by omega)⟩
theorem i8 {i n : Nat} (hn : n ≤ 8) (h : i < n) : vp_in (nI i) 8 := vp_in_nI (by omega) (by decide)
theorem c8 {i n : Nat} (hn : n ≤ 8) (h : i < n) : (nI i).toNatClampNeg = i := nI_clamp (by omega)
/-! sets -/
def stN (p : Nat → Bool) : Nat → Nat
  | 0 => 0
  | n + 1 => if p n then stN p n ||| 2 ^ n else stN p n
theorem stN_bit (p : Nat → Bool) (n i : Nat) : (stN p n).testBit i = (decide (i < n) && p i) := by
  induction n with
  | zero => simp [stN]
  | succ n ih =>
    unfold stN
    by_cases hp : p n = true
    · rw [if_pos hp, Nat.testBit_or, ih, Nat.testBit_two_pow]
      by_cases h : i = n
      · subst h; simp [hp]
      · have : (n = i) = False := by simp; omega
        have h2 : (i < n + 1) = (i < n) := by simp; omega
        simp [this, h2]
    · rw [if_neg hp, ih]
      by_cases h : i = n
      · subst h; simp [hp]
      · have h2 : (i < n + 1) = (i < n) := by simp; omega
        simp [h2]
theorem stN_lt (p : Nat → Bool) (n : Nat) : stN p n < 2 ^ n := by
  apply Nat.lt_pow_two_of_testBit
  intro i hi
  rw [stN_bit]
  simp; omega
theorem stN_and (p q : Nat → Bool) (n : Nat) : stN p n &&& stN q n = stN (fun i => p i && q i) n := by
  apply Nat.eq_of_testBit_eq
  intro i
  rw [Nat.testBit_and, stN_bit, stN_bit, stN_bit]
  cases decide (i < n) <;> simp
theorem stN_cong {p q : Nat → Bool} {n : Nat} (h : ∀ i, i < n → p i = q i) : stN p n = stN q n := by
  induction n with
  | zero => rfl
  | succ n ih =>
    unfold stN
    rw [ih (fun i hi => h i (by omega)), h n (by omega)]
theorem shl_1 {i : Nat} (h : i < 31) : jshl 1 (nI i) = nI (2 ^ i) := by
  have : ∀ j : Nat, j < 31 → jshl 1 (nI j) = nI (2 ^ j) := by decide
  exact this i h
theorem st_step {p : Nat → Bool} {n : Nat} (hn : n < 31) : (if p n = true then nI (stN p n) ||| jshl 1 (nI n) else nI (stN p n)) = nI (stN p (n + 1)) := by
  by_cases hp : p n = true
  · rw [if_pos hp, shl_1 hn, fa_or]
    simp [stN, hp]
  · rw [if_neg hp]
    simp [stN, hp]
