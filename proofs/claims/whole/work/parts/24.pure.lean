theorem jmax_assoc (x y z : Int32) : jmax x (jmax y z) = jmax (jmax x y) z := by
  unfold jmax
  by_cases h1 : y < z
  · rw [if_pos h1]
    by_cases h2 : x < y
    · rw [if_pos h2, if_pos h1, if_pos (by rw [fa_lt] at *; omega)]
    · rw [if_neg h2]
  · rw [if_neg h1]
    by_cases h2 : x < y
    · rw [if_pos h2, if_neg h1]
    · rw [if_neg h2, if_neg (by rw [fa_lt] at *; omega)]
theorem jmax_0 {x : Int32} {b : Nat} (hb : b < 2 ^ 31) (h : sm x b) : jmax x 0 = x := by
  obtain ⟨k, hk, rfl⟩ := h
  unfold jmax
  rw [if_neg (nI_pos (by omega))]
theorem g2_max {ME : Int32 → Int32 → Int32 → Int32} {n : Nat} {st : Int32} {at_ gl hd : Nat → Int32} {i : Nat} {x : Int32} (hx : sm x 99) (m : Nat) : jmax x (g2F ME n st at_ gl hd i 0 m) = g2F ME n st at_ gl hd i x m := by
  induction m with
  | zero => exact jmax_0 (by decide) hx
  | succ m ih =>
    unfold g2F
    split
    · rw [jmax_assoc, ih]
    · exact ih
/-! the Model's row of numbers holds PEOPLE -/
def PN (n : Nat) (F : Nat → Nat → Int32) (now : Nat → Int32) : Prop := now 1 = nI n ∧ ∀ i, i < n → ∀ f, f < 6 → now (6 + 6 * i + f) = F f i
theorem pn_upd {n : Nat} {F : Nat → Nat → Int32} {now : Nat → Int32} (h : PN n F now) {i f : Nat} (hi : i < n) (hf : f < 6) (v : Int32) : PN n (fun g j => if j = i ∧ g = f then v else F g j) (upd now (6 + 6 * i + f) v) := by
  refine ⟨by rw [up_n (by omega)]; exact h.1, fun j hj g hg => ?_⟩
  by_cases c : j = i ∧ g = f
  · obtain ⟨rfl, rfl⟩ := c
    rw [up_s]; simp
  · rw [up_n (fun e => c ⟨by omega, by omega⟩)]
    simp only [if_neg c]
    exact h.2 j hj g hg
theorem pn_cong {n : Nat} {F G : Nat → Nat → Int32} {now : Nat → Int32} (h : PN n F now) (e : eqF n F G) : PN n G now := ⟨h.1, fun i hi f hf => by rw [h.2 i hi f hf, e i hi f hf]⟩
/-- what isn't PEOPLE, nor STEP -/
def rst (a b : Nat → Int32) : Prop := ∀ j, (1 ≤ j ∧ j < 6) ∨ 54 ≤ j → b j = a j
theorem rst_rf (a : Nat → Int32) : rst a a := fun _ _ => rfl
theorem rst_tr {a b c : Nat → Int32} (h : rst a b) (h2 : rst b c) : rst a c := fun j hj => (h2 j hj).trans (h j hj)
theorem rst_upd {a b : Nat → Int32} (h : rst a b) {i f n : Nat} (hn : n ≤ 8) (hi : i < n) (hf : f < 6) (v : Int32) : rst a (upd b (6 + 6 * i + f) v) := fun j hj => by rw [up_n (by omega)]; exact h j hj
theorem rst_T {a b : Nat → Int32} (h : rst a b) {tn B : Nat} {tk : Nat → Nat} {nv : Nat → Int32} (hB : 54 ≤ B) (T : TRm tn tk nv B a) : TRm tn tk nv B b := ⟨by rw [h B (by omega)]; exact T.1, fun i hi => by rw [h _ (by omega)]; exact T.2 i hi⟩
/-! what the texts gave is kept -/
def MC (ME : Int32 → Int32 → Int32 → Int32) (mf : Nat → Int32) : Prop := ∀ s h c, s < 8 → h < 24 → c < 9 → mf (216 * s + 9 * h + c) = 0 ∨ mf (216 * s + 9 * h + c) = 1 + ME (nI s) (nI h) (nI c)
def DC (DE : Int32 → Int32 → Int32 → Int32) (df : Nat → Int32) : Prop := ∀ s f m, s < 8 → f < 100 → m < 10 → df (10 * (100 * s + f) + m) = 0 ∨ df (10 * (100 * s + f) + m) = 1 + DE (nI f) (nI m) (nI s)
theorem sm_meV (tn : Nat) (tk : Nat → Nat) (nv : Nat → Int32) (a b c : Int32) : sm (meV tn tk nv a b c) 1 := by
  unfold meV
  split
  · exact ⟨1, by decide, rfl⟩
  · exact sm_held 1 (by decide) _
theorem mc_upd {ME : Int32 → Int32 → Int32 → Int32} {mf : Nat → Int32} (h : MC ME mf) {s c q : Nat} (hs : s < 8) (hq : q < 24) (hc : c < 9) : MC ME (upd mf (216 * s + 9 * q + c) (1 + ME (nI s) (nI q) (nI c))) := fun s2 q2 c2 hs2 hq2 hc2 => by
  by_cases e : 216 * s2 + 9 * q2 + c2 = 216 * s + 9 * q + c
  · have e1 : s2 = s := by omega
    have e2 : q2 = q := by omega
    have e3 : c2 = c := by omega
    subst e1; subst e2; subst e3
    rw [up_s]; exact Or.inr rfl
  · rw [up_n e]; exact h s2 q2 c2 hs2 hq2 hc2
theorem dc_upd {DE : Int32 → Int32 → Int32 → Int32} {df : Nat → Int32} (h : DC DE df) {s f m : Nat} (hs : s < 8) (hf : f < 100) (hm : m < 10) : DC DE (upd df (10 * (100 * s + f) + m) (1 + DE (nI f) (nI m) (nI s))) := fun s2 f2 m2 hs2 hf2 hm2 => by
  by_cases e : 10 * (100 * s2 + f2) + m2 = 10 * (100 * s + f) + m
  · have e1 : s2 = s := by omega
    have e2 : f2 = f := by omega
    have e3 : m2 = m := by omega
    subst e1; subst e2; subst e3
    rw [up_s]; exact Or.inr rfl
  · rw [up_n e]; exact h s2 f2 m2 hs2 hf2 hm2
theorem one_plus {x : Int32} (h : sm x 1) : ¬ (1 + x) = 0 ∧ ((1 + x) = 2 ↔ ¬ x = 0) := by
  obtain ⟨k, hk, rfl⟩ := h
  rcases (show k = 0 ∨ k = 1 by omega) with rfl | rfl <;> decide
theorem m_isMeeting {tn s c sn : Nat} {tk : Nat → Nat} {nv now mf named pile : Nat → Int32} (T : TRm tn tk nv 124 now) (w : wfT tn tk nv) (hs : s < 8) (hc : c < 9) (h0 : now 0 = nI sn) (hsn : sn < 2 ^ 31) (mc : MC (meV tn tk nv) mf) {Q : Int32 → (Nat → Int32) → (Nat → Int32) → (Nat → Int32) → Prop}
    (h : ∀ mf nm p, MC (meV tn tk nv) mf → Q (b2i (¬ meV tn tk nv (nI s) (jrem (now 0) 24) (nI c) = 0)) mf nm p) : wp_X8_isMeeting (nI s) (nI c) now mf named pile Q := by
  unfold wp_X8_isMeeting
  have eh : jrem (now 0) 24 = nI (sn % 24) := by rw [h0]; exact jrem_nI (d := 24) hsn (by decide) (by decide)
  rw [eh] at h ⊢
  have hq : sn % 24 < 24 := Nat.mod_lt _ (by decide)
  generalize sn % 24 = q at hq h ⊢
  rintro v1 rfl v2 e2
  have e3 : v2 = nI (216 * s + 9 * q + c) := by rw [e2, fa_lit 216, fa_lit 9, pk_mul, pk_mul, nI_add, nI_add]
  subst e3
  have vk : vp_in (nI (216 * s + 9 * q + c)) 1728 := vp_in_nI (by omega) (by decide)
  have ck : (nI (216 * s + 9 * q + c)).toNatClampNeg = 216 * s + 9 * q + c := nI_clamp (by omega)
  have op := one_plus (sm_meV tn tk nv (nI s) (nI q) (nI c))
  have fin : ∀ mf nm p, MC (meV tn tk nv) mf → mf (216 * s + 9 * q + c) = 1 + meV tn tk nv (nI s) (nI q) (nI c) → lb_X8_isMeeting_51 (nI s) (nI c) now Q (nI (216 * s + 9 * q + c)) mf nm p := fun mf nm p m1 e => by
    unfold lb_X8_isMeeting_51
    rw [ck, e]
    refine ⟨vk, fun z => ?_, fun z => ?_⟩
    · have := h mf nm p m1
      rwa [b2i_f (fun y => z (op.2.mpr y))] at this
    · have := h mf nm p m1
      rwa [b2i_t (op.2.mp z)] at this
  refine ⟨vk, ?_⟩
  rw [ck]
  refine ⟨fun z => fin mf named pile mc ((mc s q c hs hq hc).resolve_left z), fun z => ?_⟩
  refine m_given0 T w (fun nm p v8 e8 => ⟨vk, ?_⟩)
  refine fin _ nm p ?_ ?_
  · rw [e8]; exact mc_upd mc hs hq hc
  · rw [up_s, e8]
theorem one_minus (x : Int32) : 1 + x - 1 = x := by rw [Int32.add_comm, Int32.add_sub_cancel]
theorem m_deedsFor {un s f m : Nat} {uk : Nat → Nat} {uv now df named pile : Nat → Int32} (U : TRm un uk uv 176 now) (w : wfT un uk uv) (hs : s < 8) (hf : f < 100) (hm : m < 10) (dc : DC (deV un uk uv) df) {Q : Int32 → (Nat → Int32) → (Nat → Int32) → (Nat → Int32) → Prop}
    (h : ∀ df nm p, DC (deV un uk uv) df → Q (deV un uk uv (nI f) (nI m) (nI s)) df nm p) : wp_X8_deedsFor (nI f) (nI m) (nI s) df named now pile Q := by
  unfold wp_X8_deedsFor
  intro v1 e1
  have e3 : v1 = nI (10 * (100 * s + f) + m) := by rw [e1, fa_lit 10, fa_lit 100, pk_mul, nI_add, pk_mul, nI_add]
  subst e3
  have vk : vp_in (nI (10 * (100 * s + f) + m)) 8000 := vp_in_nI (by omega) (by decide)
  have ck : (nI (10 * (100 * s + f) + m)).toNatClampNeg = 10 * (100 * s + f) + m := nI_clamp (by omega)
  rw [ck]
  refine ⟨vk, fun z => ⟨vk, ?_⟩, fun z => ?_⟩
  · rw [(dc s f m hs hf hm).resolve_left z, one_minus]
    exact h df named pile dc
  · refine m_given1 U w (fun nm p v6 e6 => ⟨vk, vk, ?_⟩)
    rw [up_s, e6, one_minus]
    exact h _ nm p (dc_upd dc hs hf hm)
theorem m_doMeet {n tn i o sn : Nat} (hn : n ≤ 8) {tk : Nat → Nat} {nv now mf named pile : Nat → Int32} {F : Nat → Nat → Int32} (T : TRm tn tk nv 124 now) (w : wfT tn tk nv) (pn : PN n F now) (ok : okP n F) (hi : i < n) (ho : o < n) (h0 : now 0 = nI sn) (hsn : sn < 2 ^ 31) (mc : MC (meV tn tk nv) mf) {Q : Int32 → (Nat → Int32) → (Nat → Int32) → (Nat → Int32) → Prop}
    (h : ∀ mf nm p, MC (meV tn tk nv) mf → Q (b2i (mtb (meV tn tk nv) n (now 0) (F 2) (F 4) i o = true)) mf nm p) : wp_X8_doMeet (nI i) (nI o) now mf named pile Q := by
  unfold wp_X8_doMeet
  rw [e_sI2 (by omega)]
  simp only [e_sI2 (show o < 8 by omega), e_sI4 (show i < 8 by omega), e_sI4 (show o < 8 by omega)]
  rw [pn.2 i hi 2 (by decide), pn.2 o ho 2 (by decide), pn.2 i hi 4 (by decide), pn.2 o ho 4 (by decide)]
  have h' := h
  refine ⟨fun c => ?_, fun c => ⟨fun c2 => ?_, fun c2 => ⟨fun c3 => ?_, fun c3 => ?_⟩⟩⟩
  · have := h mf named pile mc
    rwa [b2i_f (by rw [mtb_iff]; exact fun z => c z.1)] at this
  · have := h mf named pile mc
    rwa [b2i_f (by rw [mtb_iff]; exact fun z => c2 z.2.1)] at this
  · have := h mf named pile mc
    rwa [b2i_f (by rw [mtb_iff]; exact fun z => c3 z.2.2.1)] at this
  · refine m_at hn pn.1 ?_
    refine m_bits (st256 _ hn) ?_
    rw [pop_st _ hn, fb_ct_cong (q := fun j => decide (F 2 j = F 2 i)) (fun j hj => by rw [pn.2 j hj 2 (by decide)])]
    obtain ⟨a, ha, ea⟩ := (ok i hi).2.2.1
    have hct := fb_ct_le (fun j => decide (F 2 j = F 2 i)) n
    rw [ea]
    refine m_isMeeting T w (by omega) (by rw [ea] at hct; omega) h0 hsn mc (fun mf2 nm p m2 => ?_)
    have := h mf2 nm p m2
    have e : (mtb (meV tn tk nv) n (now 0) (F 2) (F 4) i o = true) = (¬ meV tn tk nv (nI a) (jrem (now 0) 24) (nI (fb_ct (fun j => decide (F 2 j = nI a)) n)) = 0) := by
      rw [mtb_iff, mtB, ← ea]
      exact propext ⟨fun z => z.2.2.2, fun z => ⟨c, c2, c3, z⟩⟩
    simp only [e] at this
    refine ⟨fun z => ?_, fun z => ?_⟩
    · rw [b2i_0] at z
      rwa [b2i_f z] at this
    · rw [b2i_0, Classical.not_not] at z
      rwa [b2i_t z] at this
theorem m_handedTo {n tn i sn : Nat} (hn : n ≤ 8) {tk : Nat → Nat} {nv now mf named pile ahead hd : Nat → Int32} {F : Nat → Nat → Int32} (T : TRm tn tk nv 124 now) (w : wfT tn tk nv) (pn : PN n F now) (ok : okP n F) (hi : i < n) (h0 : now 0 = nI sn) (hsn : sn < 2 ^ 31) (hh : ∀ o, o < n → hd o = hdI (F 0 o) (F 1 o) (ahead o) (now 2)) (mc : MC (meV tn tk nv) mf) {Q : Int32 → (Nat → Int32) → (Nat → Int32) → (Nat → Int32) → Prop}
    (h : ∀ mf nm p, MC (meV tn tk nv) mf → Q (g2F (meV tn tk nv) n (now 0) (F 2) (F 4) hd i 0 n) mf nm p) : wp_X8_handedTo (nI i) now mf named pile ahead Q := by
  unfold wp_X8_handedTo
  refine pk_loop (fun k o (s : Int32 × (Nat → Int32) × (Nat → Int32) × (Nat → Int32)) => lb_X8_handedTo_4 (nI i) now ahead Q k s.1 (nI o) s.2.1 s.2.2.1 s.2.2.2) (fun o s => s.1 = g2F (meV tn tk nv) n (now 0) (F 2) (F 4) hd i 0 o ∧ MC (meV tn tk nv) s.2.1) n 0 (0, mf, named, pile) (Nat.zero_le n) ⟨rfl, mc⟩ ?_ ?_
  · rintro k ⟨y, m1, n1, p1⟩ ⟨e1, e2⟩
    simp only at e1 e2
    subst e1
    refine ⟨fun _ => h m1 n1 p1 e2, fun c => absurd (pn.1 ▸ Int32.le_refl _) c⟩
  · rintro k o ⟨y, m1, n1, p1⟩ ho ⟨e1, e2⟩ ih
    simp only at e1 e2
    subst e1
    have ih : ∀ y m1 n1 p1, y = g2F (meV tn tk nv) n (now 0) (F 2) (F 4) hd i 0 (o + 1) → MC (meV tn tk nv) m1 → lb_X8_handedTo_4 (nI i) now ahead Q k y (nI (o + 1)) m1 n1 p1 := fun y m1 n1 p1 a b => ih (y, m1, n1, p1) ⟨a, b⟩
    show lb_X8_handedTo_4 (nI i) now ahead Q (k + 1) (g2F (meV tn tk nv) n (now 0) (F 2) (F 4) hd i 0 o) (nI o) m1 n1 p1
    unfold lb_X8_handedTo_4
    rw [pn.1, nI_1]
    refine ⟨fun c => absurd c (nI_ge ho (by omega)), fun _ => ⟨fun c => ?_, fun c => ?_⟩⟩
    · rw [eq_nn (by omega) (by omega)] at c
      exact ih _ _ _ _ (by rw [g2F, if_neg (fun z => z.1 c)]) e2
    · rw [eq_nn (by omega) (by omega)] at c
      refine m_doMeet hn T w pn ok hi ho h0 hsn e2 (fun m2 n2 p2 hm2 => ⟨fun z => ?_, fun z => ⟨i8 hn ho, ?_⟩⟩)
      · rw [b2i_0] at z
        exact ih _ _ _ _ (by rw [g2F, if_neg (fun y => z y.2)]) hm2
      · rw [b2i_0, Classical.not_not] at z
        refine m_hands (by omega) ?_
        intro v9 e9
        rw [c8 hn ho, pn.2 o ho 0 (by decide), pn.2 o ho 1 (by decide), ← hh o ho] at e9
        exact ih _ _ _ _ (by rw [e9, g2F, if_pos ⟨c, z⟩]) hm2
