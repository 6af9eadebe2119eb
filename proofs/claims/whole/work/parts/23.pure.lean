/-! the abstract step: F 0 kind, F 1 m, F 2 at, F 3 free, F 4 gloves, F 5 deeds, of the first n -/
def ahF (st : Int32) (F : Nat → Nat → Int32) (i : Nat) : Int32 := jmax (F 3 i) (kpI (F 0 i) (F 1 i) st)
def haF (st lo : Int32) (F : Nat → Nat → Int32) (o : Nat) : Int32 := hdI (F 0 o) (F 1 o) (ahF st F o) lo
def f2F (ME : Int32 → Int32 → Int32 → Int32) (n : Nat) (st lo : Int32) (F : Nat → Nat → Int32) (i : Nat) : Int32 := g2F ME n st (F 2) (F 4) (haF st lo F) i (ahF st F i) n
def nxF (ME DE : Int32 → Int32 → Int32 → Int32) (n : Nat) (st lo : Int32) (F : Nat → Nat → Int32) (f i : Nat) : Int32 :=
  if f = 2 then goI (F 0 i) (F 1 i) (F 2 i) (F 4 i) else if f = 3 then jmax 0 (f2F ME n st lo F i - rnI (F 0 i) (F 1 i))
  else if f = 5 then jmin 9999 (F 5 i + (if f2F ME n st lo F i ≤ 0 then 0 else DE (f2F ME n st lo F i) (F 1 i) (F 2 i))) else F f i
def itF (ME DE : Int32 → Int32 → Int32 → Int32) (n : Nat) (st lo : Int32) (F : Nat → Nat → Int32) : Nat → Nat → Nat → Int32
  | 0 => F
  | k + 1 => nxF ME DE n (st + nI k) lo (itF ME DE n st lo F k)
/-- what PEOPLE may be -/
def okP (n : Nat) (F : Nat → Nat → Int32) : Prop := ∀ i, i < n → sm (F 0 i) 6 ∧ sm (F 1 i) 9 ∧ sm (F 2 i) 7 ∧ sm (F 3 i) 99 ∧ sm (F 4 i) 1 ∧ sm (F 5 i) 9999
def eqF (n : Nat) (F G : Nat → Nat → Int32) : Prop := ∀ i, i < n → ∀ f, f < 6 → F f i = G f i
theorem mtb_cong {ME : Int32 → Int32 → Int32 → Int32} {n : Nat} {st : Int32} {at_ at2 gl gl2 : Nat → Int32} (h1 : ∀ j, j < n → at_ j = at2 j) (h2 : ∀ j, j < n → gl j = gl2 j) {i o : Nat} (hi : i < n) (ho : o < n) : mtb ME n st at_ gl i o = mtb ME n st at2 gl2 i o := by
  unfold mtb
  rw [h1 i hi, h1 o ho, h2 i hi, h2 o ho, fb_ct_cong (p := fun j => decide (at_ j = at2 i)) (q := fun j => decide (at2 j = at2 i)) (fun k hk => by rw [h1 k hk])]
theorem g2_cong {ME : Int32 → Int32 → Int32 → Int32} {n : Nat} {st : Int32} {at_ at2 gl gl2 hd hd2 : Nat → Int32} (h1 : ∀ j, j < n → at_ j = at2 j) (h2 : ∀ j, j < n → gl j = gl2 j) (h3 : ∀ j, j < n → hd j = hd2 j) {i : Nat} (hi : i < n) {x y : Int32} (hx : x = y) (m : Nat) (hm : m ≤ n) : g2F ME n st at_ gl hd i x m = g2F ME n st at2 gl2 hd2 i y m := by
  induction m with
  | zero => exact hx
  | succ m ih =>
    unfold g2F
    rw [ih (by omega), mtb_cong h1 h2 hi (show m < n by omega), h3 m (by omega)]
theorem ah_cong {n : Nat} {st : Int32} {F G : Nat → Nat → Int32} (h : eqF n F G) {i : Nat} (hi : i < n) : ahF st F i = ahF st G i := by
  unfold ahF
  rw [h i hi 0 (by decide), h i hi 1 (by decide), h i hi 3 (by decide)]
theorem f2_cong {ME : Int32 → Int32 → Int32 → Int32} {n : Nat} {st lo : Int32} {F G : Nat → Nat → Int32} (h : eqF n F G) {i : Nat} (hi : i < n) : f2F ME n st lo F i = f2F ME n st lo G i := by
  unfold f2F
  refine g2_cong (fun j hj => h j hj 2 (by decide)) (fun j hj => h j hj 4 (by decide)) (fun j hj => ?_) hi (ah_cong h hi) n (Nat.le_refl n)
  unfold haF
  rw [h j hj 0 (by decide), h j hj 1 (by decide), ah_cong h hj]
theorem nx_cong {ME DE : Int32 → Int32 → Int32 → Int32} {n : Nat} {st lo : Int32} {F G : Nat → Nat → Int32} (h : eqF n F G) : eqF n (nxF ME DE n st lo F) (nxF ME DE n st lo G) := fun i hi f hf => by
  unfold nxF
  rw [f2_cong h hi, h i hi 0 (by decide), h i hi 1 (by decide), h i hi 2 (by decide), h i hi 4 (by decide), h i hi 5 (by decide), h i hi f hf]
theorem it_cong {ME DE : Int32 → Int32 → Int32 → Int32} {n : Nat} {st lo : Int32} {F G : Nat → Nat → Int32} (h : eqF n F G) : ∀ k, eqF n (itF ME DE n st lo F k) (itF ME DE n st lo G k)
  | 0 => h
  | k + 1 => nx_cong (it_cong h k)
theorem ok_cong {n : Nat} {F G : Nat → Nat → Int32} (h : eqF n F G) (o : okP n F) : okP n G := fun i hi => by
  rw [← h i hi 0 (by decide), ← h i hi 1 (by decide), ← h i hi 2 (by decide), ← h i hi 3 (by decide), ← h i hi 4 (by decide), ← h i hi 5 (by decide)]
  exact o i hi
theorem sm_g2 {ME : Int32 → Int32 → Int32 → Int32} {n : Nat} {st : Int32} {at_ gl hd : Nat → Int32} (hh : ∀ o, o < n → sm (hd o) 99) {i : Nat} {x : Int32} (hx : sm x 99) (m : Nat) (hm : m ≤ n) : sm (g2F ME n st at_ gl hd i x m) 99 := by
  induction m with
  | zero => exact hx
  | succ m ih =>
    unfold g2F
    split
    · exact sm_max (ih (by omega)) (hh m (by omega))
    · exact ih (by omega)
theorem sm_ah {n : Nat} {st : Int32} {F : Nat → Nat → Int32} (o : okP n F) {i : Nat} (hi : i < n) : sm (ahF st F i) 99 := sm_max (o i hi).2.2.2.1 (sm_mono (sm_kp (o i hi).2.1) (by decide))
theorem sm_f2 {ME : Int32 → Int32 → Int32 → Int32} {n : Nat} {st lo : Int32} {F : Nat → Nat → Int32} (o : okP n F) {i : Nat} (hi : i < n) : sm (f2F ME n st lo F i) 99 := sm_g2 (fun _ _ => sm_hd _ _ _ _) (sm_ah o hi) n (Nat.le_refl n)
theorem ok_nx {ME DE : Int32 → Int32 → Int32 → Int32} (hD : ∀ a b c, sm (DE a b c) 9) {n : Nat} {st lo : Int32} {F : Nat → Nat → Int32} (o : okP n F) : okP n (nxF ME DE n st lo F) := fun i hi => by
  obtain ⟨o0, o1, o2, o3, o4, o5⟩ := o i hi
  refine ⟨o0, o1, ?_, ?_, o4, ?_⟩
  · show sm (goI (F 0 i) (F 1 i) (F 2 i) (F 4 i)) 7
    unfold goI
    split
    · exact sm_go o2 o1
    · exact o2
  · exact sm_less (by decide) (sm_f2 o hi) (sm_rn o1)
  · refine sm_deed o5 ?_
    split
    · exact ⟨0, by decide, rfl⟩
    · exact hD _ _ _
theorem ok_it {ME DE : Int32 → Int32 → Int32 → Int32} (hD : ∀ a b c, sm (DE a b c) 9) {n : Nat} {st lo : Int32} {F : Nat → Nat → Int32} (o : okP n F) : ∀ k, okP n (itF ME DE n st lo F k)
  | 0 => o
  | k + 1 => ok_nx hD (ok_it hD o k)
theorem sm_deV (tn : Nat) (tk : Nat → Nat) (nv : Nat → Int32) (a b c : Int32) : sm (deV tn tk nv a b c) 9 := by
  unfold deV
  split
  · unfold b2i
    split
    · exact ⟨1, by decide, rfl⟩
    · exact ⟨0, by decide, rfl⟩
  · exact sm_held 9 (by decide) _
/-- the class's rows hold it -/
def CF (n : Nat) (F : Nat → Nat → Int32) (kind m at_ free gl de : Nat → Int32) : Prop := ∀ i, i < n → kind i = F 0 i ∧ m i = F 1 i ∧ at_ i = F 2 i ∧ free i = F 3 i ∧ gl i = F 4 i ∧ de i = F 5 i
theorem s_pass {n kk tn un : Nat} (hn : n ≤ 8) (hk : kk < 2 ^ 31) {tk uk : Nat → Nat} {nv uv : Nat → Int32} {st lo size usize : Int32} {free kind m crowd at_ handed signs numbers pile gl usigns unumbers upile deeds : Nat → Int32} {F : Nat → Nat → Int32}
    (T : TRc tn tk nv size signs numbers) (w : wfT tn tk nv) (U : TRc un uk uv usize usigns unumbers) (v : wfT un uk uv) (ok : okP n F) (cf : CF n F kind m at_ free gl deeds) {Q : Int32 → (Nat → Int32) → (Nat → Int32) → (Nat → Int32) → (Nat → Int32) → (Nat → Int32) → (Nat → Int32) → (Nat → Int32) → Prop}
    (h : ∀ f c a hh p q d, CF n (itF (meV tn tk nv) (deV un uk uv) n st lo F kk) kind m a f gl d → Q (st + nI kk) f c a hh p q d) :
    wp_X0_pass (nI kk) (nI n) st lo free kind m crowd at_ handed size signs numbers pile gl usize usigns unumbers upile deeds Q := by
  unfold wp_X0_pass
  refine pk_loop (fun k i (s : (Nat → Int32) × (Nat → Int32) × (Nat → Int32) × (Nat → Int32) × (Nat → Int32) × (Nat → Int32) × (Nat → Int32)) => lb_X0_pass_2 (nI kk) (nI n) lo kind m size signs numbers gl usize usigns unumbers Q k (nI i) (st + nI i) s.1 s.2.1 s.2.2.1 s.2.2.2.1 s.2.2.2.2.1 s.2.2.2.2.2.1 s.2.2.2.2.2.2)
    (fun i s => CF n (itF (meV tn tk nv) (deV un uk uv) n st lo F i) kind m s.2.2.1 s.1 gl s.2.2.2.2.2.2) kk 0 (free, crowd, at_, handed, pile, upile, deeds) (Nat.zero_le kk) cf ?_ ?_ |> fun ⟨k, hk⟩ => ⟨k, by have := hk; simp only [nI_0, add_z] at this; exact this⟩
  · rintro k ⟨f, c, a, hh, p, q, d⟩ hs
    exact ⟨fun _ => h f c a hh p q d hs, fun c => absurd (Int32.le_refl _) c⟩
  · rintro k i ⟨f, c, a, hh, p, q, d⟩ hi hs ih
    simp only at hs
    have ih : ∀ f c a hh p q d, CF n (itF (meV tn tk nv) (deV un uk uv) n st lo F (i + 1)) kind m a f gl d → lb_X0_pass_2 (nI kk) (nI n) lo kind m size signs numbers gl usize usigns unumbers Q k (nI (i + 1)) (st + nI (i + 1)) f c a hh p q d := fun f c a hh p q d z => ih (f, c, a, hh, p, q, d) z
    show lb_X0_pass_2 (nI kk) (nI n) lo kind m size signs numbers gl usize usigns unumbers Q (k + 1) (nI i) (st + nI i) f c a hh p q d
    generalize eG : itF (meV tn tk nv) (deV un uk uv) n st lo F i = G at hs
    have okG : okP n G := eG ▸ ok_it (fun _ _ _ => sm_deV _ _ _ _ _ _) ok i
    refine ⟨fun z => absurd z (nI_ge hi hk), fun _ => ?_⟩
    refine s_haveOwn hn (fun j hj => by rw [(hs j hj).1]; exact (okG j hj).1) (fun f1 h1 => ?_)
    refine s_handOn hn T w (fun j hj => by rw [(hs j hj).2.2.1]; exact (okG j hj).2.2.1) (fun c2 f2 hh2 p2 h2 => ?_)
    have e1 : ∀ j, j < n → f1 j = ahF (st + nI i) G j := fun j hj => by
      rw [h1 j hj, (hs j hj).1, (hs j hj).2.1, (hs j hj).2.2.2.1]; rfl
    have e2 : ∀ j, j < n → f2 j = f2F (meV tn tk nv) n (st + nI i) lo G j := fun j hj => by
      rw [h2 j hj]
      refine g2_cong (fun o ho => (hs o ho).2.2.1) (fun o ho => (hs o ho).2.2.2.2.1) (fun o ho => ?_) hj (e1 j hj) n (Nat.le_refl n)
      unfold haF
      rw [(hs o ho).1, (hs o ho).2.1, e1 o ho]
    refine s_doDeeds hn U v (fun q2 d2 h3 => ?_)
    refine s_runOut hn (fun f3 h4 => ?_)
    refine s_steal hn (fun j hj => by rw [(hs j hj).1]; exact (okG j hj).1) (fun a2 h5 => ?_)
    intro v11 e11
    rw [e11, nI_1, Int32.add_assoc, nI_1]
    refine ih f3 c2 a2 hh2 p2 q2 d2 (fun j hj => ?_)
    obtain ⟨a0, a1, a2_, a3, a4, a5⟩ := hs j hj
    have eN : itF (meV tn tk nv) (deV un uk uv) n st lo F (i + 1) = nxF (meV tn tk nv) (deV un uk uv) n (st + nI i) lo G := by rw [← eG]; rfl
    rw [eN]
    refine ⟨a0, a1, ?_, ?_, a4, ?_⟩
    · rw [h5 j hj, a0, a1, a2_, a4]; rfl
    · rw [h4 j hj, e2 j hj, a0, a1]; rfl
    · rw [h3 j hj, e2 j hj, a1, a2_, a5]
      unfold nxF
      simp only [if_neg (show ¬ (5 : Nat) = 2 by decide), if_neg (show ¬ (5 : Nat) = 3 by decide), if_true]
      by_cases z : f2F (meV tn tk nv) n (st + nI i) lo G j ≤ 0
      · rw [if_pos z, if_pos z, jmin_deed (okG j hj).2.2.2.2.2]
      · rw [if_neg z, if_neg z]
