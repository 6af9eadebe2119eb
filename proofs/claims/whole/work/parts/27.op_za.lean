abbrev CTy := Int32 → Int32 → Int32 → Int32 → (Nat → Int32) → Int32 → (Nat → Int32) → (Nat → Int32) → (Int32 → Int32 → Int32 → (Nat → Int32) → (Nat → Int32) → Prop) → Prop
abbrev MTy := Int32 → Int32 → Int32 → Int32 → Int32 → (Nat → Int32) → (Nat → Int32) → (Int32 → Int32 → Int32 → Int32 → (Nat → Int32) → Prop) → Prop
theorem hg_cong {tk tk2 : Nat → Nat} : ∀ {n : Nat}, (∀ i, i < n → tk2 i = tk i) → hg tk2 n = hg tk n
  | 0, _ => rfl
  | n + 1, h => by
    unfold hg
    rw [h n (by omega), hg_cong (fun i hi => h i (by omega))]
/-- a token that may stand there -/
def gdT (tk : Nat → Nat) (nv : Nat → Int32) (i : Nat) : Prop := tk i ≤ 14 ∧ (tk i = 0 → sm (nv i) 9999) ∧ (tk i = 14 → 1 ≤ hg tk i) ∧ (4 ≤ tk i → tk i ≤ 13 → 2 ≤ hg tk i)
/-- one piece read: from p, tn to p2, tn2 -/
def okR (p tn : Nat) (tk : Nat → Nat) (nv : Nat → Int32) (p2 tn2 : Nat) (tk2 : Nat → Nat) (nv2 : Nat → Int32) : Prop := p < p2 ∧ tn < tn2 ∧ tn2 + p ≤ tn + p2 ∧ (∀ i, i < tn → tk2 i = tk i ∧ nv2 i = nv i) ∧ hg tk2 tn2 = hg tk tn + 1 ∧ ∀ i, tn ≤ i → i < tn2 → gdT tk2 nv2 i
theorem gd_cong {tk tk2 : Nat → Nat} {nv nv2 : Nat → Int32} {i : Nat} (h : ∀ j, j < i + 1 → tk2 j = tk j ∧ nv2 j = nv j) (g : gdT tk nv i) : gdT tk2 nv2 i := by
  unfold gdT at g ⊢
  rw [(h i (by omega)).1, (h i (by omega)).2, hg_cong (fun j hj => (h j (by omega)).1)]
  exact g
/-- a leaf -/
theorem ok_leaf {p tn p2 c : Nat} {tk : Nat → Nat} {nv : Nat → Int32} {v : Int32} (hp : p < p2) (hc : c ≤ 3) (hv : c = 0 → sm v 9999) : okR p tn tk nv p2 (tn + 1) (pu tk tn c) (pu nv tn v) := by
  have e : ∀ i, i < tn → pu tk tn c i = tk i := fun i hi => pu_n (by omega)
  refine ⟨hp, by omega, by omega, fun i hi => ⟨e i hi, pu_n (by omega)⟩, ?_, fun i h1 h2 => ?_⟩
  · show (if pu tk tn c tn ≤ 3 then _ else _) = _
    rw [pu_s, if_pos hc, hg_cong e]
  · have : i = tn := by omega
    subst this
    unfold gdT
    rw [pu_s, pu_s]
    exact ⟨by omega, hv, fun q => by omega, fun q _ => by omega⟩
/-- a sign of one -/
theorem ok_not {p tn p2 tn2 : Nat} {tk tk2 : Nat → Nat} {nv nv2 : Nat → Int32} (h : okR (p + 1) tn tk nv p2 tn2 tk2 nv2) : okR p tn tk nv p2 (tn2 + 1) (pu tk2 tn2 14) (pu nv2 tn2 0) := by
  obtain ⟨h1, h2, h3, h4, h5, h6⟩ := h
  have e : ∀ i, i < tn2 → pu tk2 tn2 14 i = tk2 i ∧ pu nv2 tn2 0 i = nv2 i := fun i hi => ⟨pu_n (by omega), pu_n (by omega)⟩
  refine ⟨by omega, by omega, by omega, fun i hi => ⟨(e i (by omega)).1.trans (h4 i hi).1, (e i (by omega)).2.trans (h4 i hi).2⟩, ?_, fun i g1 g2 => ?_⟩
  · show (if pu tk2 tn2 14 tn2 ≤ 3 then _ else if pu tk2 tn2 14 tn2 = 14 then _ else _) = _
    rw [pu_s, if_neg (by decide), if_pos rfl, hg_cong (fun i hi => (e i hi).1)]
    exact h5
  · by_cases q : i = tn2
    · subst q
      unfold gdT
      rw [pu_s, pu_s, hg_cong (fun i hi => (e i hi).1), h5]
      exact ⟨by decide, fun q => absurd q (by decide), fun _ => by omega, fun _ q => absurd q (by decide)⟩
    · exact gd_cong (fun j hj => e j (by omega)) (h6 i g1 (by omega))
/-- in brackets -/
theorem ok_par {p tn p2 tn2 : Nat} {tk tk2 : Nat → Nat} {nv nv2 : Nat → Int32} (h : okR (p + 1) tn tk nv p2 tn2 tk2 nv2) : okR p tn tk nv (p2 + 1) tn2 tk2 nv2 := by
  obtain ⟨h1, h2, h3, h4, h5, h6⟩ := h
  exact ⟨by omega, h2, by omega, h4, h5, h6⟩
/-- a sign of two -/
theorem ok_bin {p tn p1 tn1 p2 tn2 c : Nat} {tk tk1 tk2 : Nat → Nat} {nv nv1 nv2 : Nat → Int32} (hc : 4 ≤ c) (hc2 : c ≤ 13) (h : okR p tn tk nv p1 tn1 tk1 nv1) (g : okR (p1 + 1) tn1 tk1 nv1 p2 tn2 tk2 nv2) : okR p tn tk nv p2 (tn2 + 1) (pu tk2 tn2 c) (pu nv2 tn2 0) := by
  obtain ⟨h1, h2, h3, h4, h5, h6⟩ := h
  obtain ⟨g1, g2, g3, g4, g5, g6⟩ := g
  have e : ∀ i, i < tn2 → pu tk2 tn2 c i = tk2 i ∧ pu nv2 tn2 0 i = nv2 i := fun i hi => ⟨pu_n (by omega), pu_n (by omega)⟩
  refine ⟨by omega, by omega, by omega, fun i hi => ⟨((e i (by omega)).1.trans (g4 i (by omega)).1).trans (h4 i hi).1, ((e i (by omega)).2.trans (g4 i (by omega)).2).trans (h4 i hi).2⟩, ?_, fun i q1 q2 => ?_⟩
  · show (if pu tk2 tn2 c tn2 ≤ 3 then _ else if pu tk2 tn2 c tn2 = 14 then _ else _) = _
    rw [pu_s, if_neg (by omega), if_neg (by omega), hg_cong (fun i hi => (e i hi).1), g5, h5]
    omega
  · by_cases q : i = tn2
    · subst q
      unfold gdT
      rw [pu_s, pu_s, hg_cong (fun i hi => (e i hi).1), g5, h5]
      exact ⟨by omega, fun q => by omega, fun q => by omega, fun _ _ => by omega⟩
    · by_cases q3 : i < tn1
      · exact gd_cong (fun j hj => ⟨(e j (by omega)).1.trans (g4 j (by omega)).1, (e j (by omega)).2.trans (g4 j (by omega)).2⟩) (h6 i q1 q3)
      · exact gd_cong (fun j hj => e j (by omega)) (g6 i (by omega) (by omega))
def CPo (C : CTy) (pn : Nat) (bs : Nat → Int32) (fn op : Int32) (p tn : Nat) (tk : Nat → Nat) (nv : Nat → Int32) (fine : Bool) (p2 tn2 : Nat) (tk2 : Nat → Nat) (nv2 : Nat → Int32) : Prop := ∀ (sg nu : Nat → Int32) (Q : Int32 → Int32 → Int32 → (Nat → Int32) → (Nat → Int32) → Prop), tokC tn tk nv sg nu → (fine = true → ∀ sg2 nu2, tokC tn2 tk2 nv2 sg2 nu2 → Q 1 (nI p2) (nI tn2) sg2 nu2) → (fine = false → ∀ t sg2 nu2, t ≤ 50 → Q 0 (nI p2) (nI t) sg2 nu2) → C op fn (nI p) (nI pn) bs (nI tn) sg nu Q
def MPo (M : MTy) (now : Nat → Int32) (us op : Int32) (p tn : Nat) (tk : Nat → Nat) (nv : Nat → Int32) (fine : Bool) (p2 tn2 : Nat) (tk2 : Nat → Nat) (nv2 : Nat → Int32) : Prop := ∀ (code : Nat → Int32) (Q : Int32 → Int32 → Int32 → Int32 → (Nat → Int32) → Prop), tokM tn tk nv code → (fine = true → ∀ code2, tokM tn2 tk2 nv2 code2 → Q (nI p2) op 0 (nI tn2) code2) → (fine = false → ∀ o2 c2 code2, Q (nI p2) o2 1 c2 code2) → M (nI p) op us 0 (nI tn) now code Q
def LSo (C : CTy) (M : MTy) (pn : Nat) (bs now : Nat → Int32) (fn us op : Int32) : Prop := ∀ (p tn : Nat) (tk : Nat → Nat) (nv : Nat → Int32), p ≤ pn → tn ≤ p → ∃ (fine : Bool) (p2 tn2 : Nat) (tk2 : Nat → Nat) (nv2 : Nat → Int32), p ≤ p2 ∧ p2 ≤ pn ∧ (fine = true → okR p tn tk nv p2 tn2 tk2 nv2) ∧ CPo C pn bs fn op p tn tk nv fine p2 tn2 tk2 nv2 ∧ MPo M now us op p tn tk nv fine p2 tn2 tk2 nv2
