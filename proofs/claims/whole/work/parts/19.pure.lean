/-! texts: tokens tk (0 a number, 1 2 3 a name, 4 .. 13 a sign between two, 14 the sign before one), numbers nv -/
def sgT (t : Nat) : Int32 := ([0, 1, 2, 3, 124, 38, 60, 61, 62, 43, 45, 42, 47, 37, 33] : List Int32).getD t 0
def cdT (t : Nat) : Int32 := ([0, 10000, 10001, 10002, 20000, 20001, 20002, 20003, 20004, 20005, 20006, 20007, 20008, 20009, 20010] : List Int32).getD t 0
def cdV (t : Nat) (v : Int32) : Int32 := if t = 0 then v else cdT t
def opJ (t : Nat) (x y : Int32) : Int32 :=
  if t = 4 then b2i (¬ x = 0 ∨ ¬ y = 0) else if t = 5 then b2i (¬ x = 0 ∧ ¬ y = 0) else if t = 6 then b2i (¬ y ≤ x) else if t = 7 then b2i (x = y) else if t = 8 then b2i (¬ x ≤ y)
  else if t = 9 then x + y else if t = 10 then x - y else if t = 11 then x * y else if t = 12 then (if y = 0 then 0 else x / y) else (if y = 0 then 0 else jrem x y)
def hg (tk : Nat → Nat) : Nat → Nat
  | 0 => 0
  | i + 1 => if tk i ≤ 3 then hg tk i + 1 else if tk i = 14 then hg tk i else hg tk i - 1
def vlT (t : Nat) (v a b c : Int32) : Int32 := if t = 0 then v else if t = 1 then a else if t = 2 then b else c
def plT (tk : Nat → Nat) (nv : Nat → Int32) (a b c : Int32) : Nat → Nat → Int32
  | 0 => fun _ => 0
  | i + 1 => if tk i ≤ 3 then upd (plT tk nv a b c i) (hg tk i) (vlT (tk i) (nv i) a b c)
    else if tk i = 14 then upd (plT tk nv a b c i) (hg tk i - 1) (b2i (plT tk nv a b c i (hg tk i - 1) = 0))
    else upd (plT tk nv a b c i) (hg tk i - 2) (opJ (tk i) (plT tk nv a b c i (hg tk i - 2)) (plT tk nv a b c i (hg tk i - 1)))
/-- a whole text -/
def wfT (tn : Nat) (tk : Nat → Nat) (nv : Nat → Int32) : Prop := tn ≤ 50 ∧ (0 < tn → hg tk tn = 1) ∧ ∀ i, i < tn → tk i ≤ 14 ∧ (tk i = 0 → sm (nv i) 9999) ∧ (tk i = 14 → 1 ≤ hg tk i) ∧ (4 ≤ tk i → tk i ≤ 13 → 2 ≤ hg tk i)
theorem hg_le (tk : Nat → Nat) : ∀ i, hg tk i ≤ i
  | 0 => Nat.le_refl 0
  | i + 1 => by
    have := hg_le tk i
    unfold hg
    split
    · omega
    · split <;> omega
def TRc (tn : Nat) (tk : Nat → Nat) (nv : Nat → Int32) (size : Int32) (signs numbers : Nat → Int32) : Prop := size = nI tn ∧ ∀ i, i < tn → signs i = sgT (tk i) ∧ (tk i = 0 → numbers i = nv i)
def TRm (tn : Nat) (tk : Nat → Nat) (nv : Nat → Int32) (B : Nat) (now : Nat → Int32) : Prop := now B = nI tn ∧ ∀ i, i < tn → now (B + 1 + i) = cdV (tk i) (nv i)
theorem co15 {P : Nat → Prop} (h0 : P 4) (h1 : P 5) (h2 : P 6) (h3 : P 7) (h4 : P 8) (h5 : P 9) (h6 : P 10) (h7 : P 11) (h8 : P 12) (h9 : P 13) {k : Nat} (hk : 4 ≤ k) (hk2 : k ≤ 13) : P k := by
  rcases (show k = 4 ∨ k = 5 ∨ k = 6 ∨ k = 7 ∨ k = 8 ∨ k = 9 ∨ k = 10 ∨ k = 11 ∨ k = 12 ∨ k = 13 by omega) with rfl | rfl | rfl | rfl | rfl | rfl | rfl | rfl | rfl | rfl <;> assumption
theorem or_f (x y : Int32) {Q : Int32 → Prop} (h : Q (b2i (¬ x = 0 ∨ ¬ y = 0))) : (¬ x = 0 → Q 1) ∧ (x = 0 → (y = 0 → Q 0) ∧ (¬ y = 0 → Q 1)) := by
  refine ⟨fun c => ?_, fun c => ⟨fun d => ?_, fun d => ?_⟩⟩
  · rwa [b2i_t (Or.inl c)] at h
  · rwa [b2i_f (by simp [c, d])] at h
  · rwa [b2i_t (Or.inr d)] at h
theorem and_f (x y : Int32) {Q : Int32 → Prop} (h : Q (b2i (¬ x = 0 ∧ ¬ y = 0))) : (x = 0 → Q 0) ∧ (¬ x = 0 → (y = 0 → Q 0) ∧ (¬ y = 0 → Q 1)) := by
  refine ⟨fun c => ?_, fun c => ⟨fun d => ?_, fun d => ?_⟩⟩
  · rwa [b2i_f (by simp [c])] at h
  · rwa [b2i_f (by simp [d])] at h
  · rwa [b2i_t ⟨c, d⟩] at h
theorem ng_f {c : Prop} [Decidable c] {Q : Int32 → Prop} (h : Q (b2i (¬ c))) : (c → Q 0) ∧ (¬ c → Q 1) := ⟨fun d => by rwa [b2i_f (fun q => q d)] at h, fun d => by rwa [b2i_t d] at h⟩
theorem eq_f {c : Prop} [Decidable c] {Q : Int32 → Prop} (h : Q (b2i c)) : (¬ c → Q 0) ∧ (c → Q 1) := ⟨fun d => by rwa [b2i_f d] at h, fun d => by rwa [b2i_t d] at h⟩
theorem dv_f (x y z : Int32) {Q : Int32 → Prop} (h : Q (if y = 0 then 0 else z)) : (¬ y = 0 → (¬ y = 0) ∧ Q z) ∧ (y = 0 → Q 0) := ⟨fun d => ⟨d, by rwa [if_neg d] at h⟩, fun d => by rwa [if_pos d] at h⟩
theorem s_joined {t : Nat} (h4 : 4 ≤ t) (h13 : t ≤ 13) {x y : Int32} {Q : Int32 → Prop} (h : Q (opJ t x y)) : wp_X3_joined (sgT t) x y Q := by
  revert h
  unfold wp_X3_joined
  rcases (show t = 4 ∨ t = 5 ∨ t = 6 ∨ t = 7 ∨ t = 8 ∨ t = 9 ∨ t = 10 ∨ t = 11 ∨ t = 12 ∨ t = 13 by omega) with rfl | rfl | rfl | rfl | rfl | rfl | rfl | rfl | rfl | rfl <;> intro h
  · refine ⟨fun q => absurd q (by decide), fun q => absurd q (by decide), fun q => absurd q (by decide), fun q => absurd q (by decide), fun q => absurd q (by decide), fun q => absurd q (by decide), fun q => absurd q (by decide), fun q => absurd q (by decide), fun q => absurd q (by decide), fun _ => or_f x y h, fun _ _ _ _ _ _ _ _ _ q => absurd rfl q⟩
  · refine ⟨fun q => absurd q (by decide), fun _ => and_f x y h, fun q => absurd q (by decide), fun q => absurd q (by decide), fun q => absurd q (by decide), fun q => absurd q (by decide), fun q => absurd q (by decide), fun q => absurd q (by decide), fun q => absurd q (by decide), fun q => absurd q (by decide), fun _ q => absurd rfl q⟩
  · refine ⟨fun q => absurd q (by decide), fun q => absurd q (by decide), fun q => absurd q (by decide), fun q => absurd q (by decide), fun q => absurd q (by decide), fun q => absurd q (by decide), fun _ => ng_f h, fun q => absurd q (by decide), fun q => absurd q (by decide), fun q => absurd q (by decide), fun _ _ _ _ _ _ q => absurd rfl q⟩
  · refine ⟨fun q => absurd q (by decide), fun q => absurd q (by decide), fun q => absurd q (by decide), fun q => absurd q (by decide), fun q => absurd q (by decide), fun q => absurd q (by decide), fun q => absurd q (by decide), fun _ => eq_f h, fun q => absurd q (by decide), fun q => absurd q (by decide), fun _ _ _ _ _ _ _ q => absurd rfl q⟩
  · refine ⟨fun q => absurd q (by decide), fun q => absurd q (by decide), fun q => absurd q (by decide), fun q => absurd q (by decide), fun q => absurd q (by decide), fun q => absurd q (by decide), fun q => absurd q (by decide), fun q => absurd q (by decide), fun _ => ng_f h, fun q => absurd q (by decide), fun _ _ _ _ _ _ _ _ q => absurd rfl q⟩
  · refine ⟨fun q => absurd q (by decide), fun q => absurd q (by decide), fun q => absurd q (by decide), fun _ => h, fun q => absurd q (by decide), fun q => absurd q (by decide), fun q => absurd q (by decide), fun q => absurd q (by decide), fun q => absurd q (by decide), fun q => absurd q (by decide), fun _ _ _ q => absurd rfl q⟩
  · refine ⟨fun q => absurd q (by decide), fun q => absurd q (by decide), fun q => absurd q (by decide), fun q => absurd q (by decide), fun _ => h, fun q => absurd q (by decide), fun q => absurd q (by decide), fun q => absurd q (by decide), fun q => absurd q (by decide), fun q => absurd q (by decide), fun _ _ _ _ q => absurd rfl q⟩
  · refine ⟨fun q => absurd q (by decide), fun q => absurd q (by decide), fun _ => h, fun q => absurd q (by decide), fun q => absurd q (by decide), fun q => absurd q (by decide), fun q => absurd q (by decide), fun q => absurd q (by decide), fun q => absurd q (by decide), fun q => absurd q (by decide), fun _ _ q => absurd rfl q⟩
  · refine ⟨fun q => absurd q (by decide), fun q => absurd q (by decide), fun q => absurd q (by decide), fun q => absurd q (by decide), fun q => absurd q (by decide), fun _ => dv_f x y _ h, fun q => absurd q (by decide), fun q => absurd q (by decide), fun q => absurd q (by decide), fun q => absurd q (by decide), fun _ _ _ _ _ q => absurd rfl q⟩
  · refine ⟨fun _ => dv_f x y _ h, fun q => absurd q (by decide), fun q => absurd q (by decide), fun q => absurd q (by decide), fun q => absurd q (by decide), fun q => absurd q (by decide), fun q => absurd q (by decide), fun q => absurd q (by decide), fun q => absurd q (by decide), fun q => absurd q (by decide), fun q => absurd rfl q⟩
theorem m_doneop {t : Nat} (h4 : 4 ≤ t) (h13 : t ≤ 13) {x y : Int32} {Q : Int32 → Prop} (h : Q (opJ t x y)) : wp_X8_done (cdT t) x y Q := by
  revert h
  unfold wp_X8_done
  rcases (show t = 4 ∨ t = 5 ∨ t = 6 ∨ t = 7 ∨ t = 8 ∨ t = 9 ∨ t = 10 ∨ t = 11 ∨ t = 12 ∨ t = 13 by omega) with rfl | rfl | rfl | rfl | rfl | rfl | rfl | rfl | rfl | rfl <;> intro h
  · refine ⟨fun _ => or_f x y h, fun q => absurd q (by decide), fun q => absurd q (by decide), fun q => absurd q (by decide), fun q => absurd q (by decide), fun q => absurd q (by decide), fun q => absurd q (by decide), fun q => absurd q (by decide), fun q => absurd q (by decide), fun q => absurd rfl q⟩
  · refine ⟨fun q => absurd q (by decide), fun _ => and_f x y h, fun q => absurd q (by decide), fun q => absurd q (by decide), fun q => absurd q (by decide), fun q => absurd q (by decide), fun q => absurd q (by decide), fun q => absurd q (by decide), fun q => absurd q (by decide), fun _ q => absurd rfl q⟩
  · refine ⟨fun q => absurd q (by decide), fun q => absurd q (by decide), fun _ => ng_f h, fun q => absurd q (by decide), fun q => absurd q (by decide), fun q => absurd q (by decide), fun q => absurd q (by decide), fun q => absurd q (by decide), fun q => absurd q (by decide), fun _ _ q => absurd rfl q⟩
  · refine ⟨fun q => absurd q (by decide), fun q => absurd q (by decide), fun q => absurd q (by decide), fun _ => eq_f h, fun q => absurd q (by decide), fun q => absurd q (by decide), fun q => absurd q (by decide), fun q => absurd q (by decide), fun q => absurd q (by decide), fun _ _ _ q => absurd rfl q⟩
  · refine ⟨fun q => absurd q (by decide), fun q => absurd q (by decide), fun q => absurd q (by decide), fun q => absurd q (by decide), fun _ => ng_f h, fun q => absurd q (by decide), fun q => absurd q (by decide), fun q => absurd q (by decide), fun q => absurd q (by decide), fun _ _ _ _ q => absurd rfl q⟩
  · refine ⟨fun q => absurd q (by decide), fun q => absurd q (by decide), fun q => absurd q (by decide), fun q => absurd q (by decide), fun q => absurd q (by decide), fun _ => h, fun q => absurd q (by decide), fun q => absurd q (by decide), fun q => absurd q (by decide), fun _ _ _ _ _ q => absurd rfl q⟩
  · refine ⟨fun q => absurd q (by decide), fun q => absurd q (by decide), fun q => absurd q (by decide), fun q => absurd q (by decide), fun q => absurd q (by decide), fun q => absurd q (by decide), fun _ => h, fun q => absurd q (by decide), fun q => absurd q (by decide), fun _ _ _ _ _ _ q => absurd rfl q⟩
  · refine ⟨fun q => absurd q (by decide), fun q => absurd q (by decide), fun q => absurd q (by decide), fun q => absurd q (by decide), fun q => absurd q (by decide), fun q => absurd q (by decide), fun q => absurd q (by decide), fun _ => h, fun q => absurd q (by decide), fun _ _ _ _ _ _ _ q => absurd rfl q⟩
  · refine ⟨fun q => absurd q (by decide), fun q => absurd q (by decide), fun q => absurd q (by decide), fun q => absurd q (by decide), fun q => absurd q (by decide), fun q => absurd q (by decide), fun q => absurd q (by decide), fun q => absurd q (by decide), fun _ => dv_f x y _ h, fun _ _ _ _ _ _ _ _ q => absurd rfl q⟩
  · refine ⟨fun q => absurd q (by decide), fun q => absurd q (by decide), fun q => absurd q (by decide), fun q => absurd q (by decide), fun q => absurd q (by decide), fun q => absurd q (by decide), fun q => absurd q (by decide), fun q => absurd q (by decide), fun q => absurd q (by decide), fun _ _ _ _ _ _ _ _ _ => dv_f x y _ h⟩
