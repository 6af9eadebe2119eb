def nxt (bs : Nat → Int32) (pn p : Nat) : Int32 := if p < pn then bs p else -1
theorem s_next {bs : Nat → Int32} {pn p : Nat} (hp : pn ≤ 50) (h0 : p ≤ pn) {Q : Int32 → Prop} (h : Q (nxt bs pn p)) : wp_X1_next (nI p) (nI pn) bs Q := by
  unfold wp_X1_next
  unfold nxt at h
  rw [li_nn (by omega) (by omega)]
  refine ⟨fun c => ?_, fun c => ⟨vp_in_nI (by omega) (by decide), ?_⟩⟩
  · rw [if_neg (by omega)] at h; exact h
  · rw [if_pos (by omega)] at h
    rw [nI_clamp (by omega)]; exact h
theorem m_here {bs now : Nat → Int32} {pn p : Nat} (hp : pn ≤ 50) (h0 : p ≤ pn) (e4 : now 4 = nI pn) (eb : ∀ i, i < pn → bs i = now (54 + i)) {Q : Int32 → Prop} (h : Q (nxt bs pn p)) : wp_X8_here (nI p) 0 now Q := by
  unfold wp_X8_here
  unfold nxt at h
  refine ⟨fun c => absurd rfl c, fun _ => ?_⟩
  rw [e4, li_nn (by omega) (by omega), fa_lit 54, nI_add, nI_clamp (by omega)]
  refine ⟨fun c => ?_, fun c => ⟨vp_in_nI (by omega) (by decide), ?_⟩⟩
  · rw [if_neg (by omega)] at h; exact h
  · rw [if_pos (by omega)] at h
    rw [← eb p (by omega)]; exact h
theorem m_hereW {at_ : Int32} {now : Nat → Int32} {Q : Int32 → Prop} (h : Q (-1)) : wp_X8_here at_ 1 now Q := ⟨fun _ => h, fun c => absurd c (by decide)⟩
theorem m_takes {x : Int32} {bs now : Nat → Int32} {pn p : Nat} (hp : pn ≤ 50) (h0 : p ≤ pn) (e4 : now 4 = nI pn) (eb : ∀ i, i < pn → bs i = now (54 + i)) {Q : Int32 → Int32 → Prop} (h1 : nxt bs pn p = x → Q 1 (nI (p + 1))) (h2 : ¬ nxt bs pn p = x → Q 0 (nI p)) : wp_X8_takes x (nI p) 0 now Q := by
  unfold wp_X8_takes lb_X8_takes_13
  refine m_here hp h0 e4 eb ⟨fun c => ⟨fun _ => ?_, fun z => absurd rfl z⟩, fun c => ⟨fun z => absurd z (by decide), fun _ => ?_⟩⟩
  · rintro v rfl
    rw [add_z]
    exact ⟨by decide, h2 c⟩
  · rintro v rfl
    rw [nI_1]
    exact ⟨by decide, h1 c⟩
theorem m_takesW {x at_ : Int32} (hx : ¬ (-1 : Int32) = x) {now : Nat → Int32} {Q : Int32 → Int32 → Prop} (h : Q 0 at_) : wp_X8_takes x at_ 1 now Q := by
  unfold wp_X8_takes lb_X8_takes_13
  refine m_hereW ⟨fun c => ⟨fun _ => ?_, fun z => absurd rfl z⟩, fun c => absurd c hx⟩
  rintro v rfl
  rw [add_z]
  exact ⟨by decide, h⟩
theorem m_codes {t : Nat} (ht : t < 60) {v : Int32} {code : Nat → Int32} {Q : Int32 → (Nat → Int32) → Prop} (h : Q (nI (t + 1)) (upd code t v)) : wp_X8_codes v 0 (nI t) code Q := by
  unfold wp_X8_codes
  refine ⟨fun c => absurd rfl c, fun _ => ⟨vp_in_nI ht (by decide), ?_⟩⟩
  rintro v2 rfl
  rw [nI_1, nI_clamp (by omega)]
  exact h
theorem m_codesW {v c : Int32} {code : Nat → Int32} {Q : Int32 → (Nat → Int32) → Prop} (h : Q c code) : wp_X8_codes v 1 c code Q := ⟨fun _ => h, fun z => absurd z (by decide)⟩
theorem s_radd {t : Nat} (ht : t < 50) {s v : Int32} {sg nu : Nat → Int32} {Q : Int32 → (Nat → Int32) → (Nat → Int32) → Prop} (h : Q (nI (t + 1)) (upd sg t s) (upd nu t v)) : wp_X3_add s v (nI t) sg nu Q := by
  unfold wp_X3_add
  refine ⟨fun c => absurd c (nI_ge ht (by decide)), fun _ => ⟨vp_in_nI ht (by decide), vp_in_nI ht (by decide), ?_⟩⟩
  rintro v2 rfl
  rw [nI_1, nI_clamp (by omega)]
  exact h
theorem s_raddW {t : Nat} (ht : t ≤ 50) {s v : Int32} {sg nu : Nat → Int32} {Q : Int32 → (Nat → Int32) → (Nat → Int32) → Prop} (h : ∀ t sg nu, t ≤ 50 → Q (nI t) sg nu) : wp_X3_add s v (nI t) sg nu Q := by
  by_cases c : t < 50
  · exact s_radd c (h _ _ _ (by omega))
  · have : t = 50 := by omega
    subst this
    exact ⟨fun _ => h _ _ _ (by omega), fun c => absurd (show (50 : Int32) ≤ nI 50 by decide) c⟩
def pu {A : Type} (f : Nat → A) (k : Nat) (v : A) : Nat → A := fun i => if i = k then v else f i
theorem pu_s {A : Type} {f : Nat → A} {k : Nat} {v : A} : pu f k v k = v := if_pos rfl
theorem pu_n {A : Type} {f : Nat → A} {k i : Nat} {v : A} (h : i ≠ k) : pu f k v i = f i := if_neg h
def tokC (tn : Nat) (tk : Nat → Nat) (nv sg nu : Nat → Int32) : Prop := ∀ i, i < tn → sg i = sgT (tk i) ∧ (tk i = 0 → nu i = nv i)
def tokM (tn : Nat) (tk : Nat → Nat) (nv code : Nat → Int32) : Prop := ∀ i, i < tn → code i = cdV (tk i) (nv i)
theorem tokC_pu {tn : Nat} {tk : Nat → Nat} {nv sg nu : Nat → Int32} {c : Nat} {v s x : Int32} (h : tokC tn tk nv sg nu) (hs : s = sgT c) (hx : c = 0 → x = v) : tokC (tn + 1) (pu tk tn c) (pu nv tn v) (upd sg tn s) (upd nu tn x) := fun i hi => by
  by_cases e : i = tn
  · subst e; rw [up_s, up_s, pu_s, pu_s]; exact ⟨hs, hx⟩
  · rw [up_n e, up_n e, pu_n e, pu_n e]; exact h i (by omega)
theorem tokM_pu {tn : Nat} {tk : Nat → Nat} {nv code : Nat → Int32} {c : Nat} {v x : Int32} (h : tokM tn tk nv code) (hx : x = cdV c v) : tokM (tn + 1) (pu tk tn c) (pu nv tn v) (upd code tn x) := fun i hi => by
  by_cases e : i = tn
  · subst e; rw [up_s, pu_s, pu_s]; exact hx
  · rw [up_n e, pu_n e, pu_n e]; exact h i (by omega)
