theorem ush8 (x : Int32) : ∃ k, k < 2 ^ 24 ∧ jushr x 8 = nI k := by
  have e : jushr x 8 = (x.toUInt32 >>> 8).toInt32 := rfl
  have q : (x.toUInt32 >>> 8).toNat = x.toUInt32.toNat / 2 ^ 8 := by
    rw [UInt32.toNat_shiftRight, Nat.shiftRight_eq_div_pow]; rfl
  refine ⟨(x.toUInt32 >>> 8).toNat, ?_, ?_⟩
  · rw [q]
    have := x.toUInt32.toNat_lt
    omega
  · rw [e]
    show (x.toUInt32 >>> 8).toInt32 = (UInt32.ofNat (x.toUInt32 >>> 8).toNat).toInt32
    rw [UInt32.ofNat_toNat]
def drz (z : Int32) : Int32 := z * 1103515245 + 12345
def itz (z : Int32) : Nat → Int32
  | 0 => z
  | k + 1 => drz (itz z k)
/-- where one strays to -/
def syA (z : Int32) (at_ : Nat → Int32) (j : Nat) : Int32 := if jrem (jushr (itz z (j + 1)) 8) 4 = 0 then jrem (jushr (itz z (j + 1)) 8 / 4) 8 else at_ j
def syF (z : Int32) (F : Nat → Nat → Int32) : Nat → Nat → Int32 := fun f j => if f = 2 then syA z (F 2) j else F f j
theorem sm_sy {z : Int32} {at_ : Nat → Int32} {j : Nat} (h : sm (at_ j) 7) : sm (syA z at_ j) 7 := by
  unfold syA
  split
  · obtain ⟨k, hk, e⟩ := ush8 (itz z (j + 1))
    rw [e, fa_lit 4, pk_div (by omega) (by decide) (by decide), fa_lit 8, jrem_nI (by omega) (by decide) (by decide)]
    exact ⟨_, by omega, rfl⟩
  · exact h
theorem ok_sy {n : Nat} {z : Int32} {F : Nat → Nat → Int32} (o : okP n F) : okP n (syF z F) := fun i hi => by
  obtain ⟨o0, o1, o2, o3, o4, o5⟩ := o i hi
  have e : ∀ f, f ≠ 2 → syF z F f i = F f i := fun f hf => if_neg hf
  have e2 : syF z F 2 i = syA z (F 2) i := if_pos rfl
  exact ⟨by rw [e 0 (by decide)]; exact o0, by rw [e 1 (by decide)]; exact o1, by rw [e2]; exact sm_sy o2, by rw [e 3 (by decide)]; exact o3, by rw [e 4 (by decide)]; exact o4, by rw [e 5 (by decide)]; exact o5⟩
theorem s_stray {n : Nat} (hn : n ≤ 8) {z : Int32} {at_ : Nat → Int32} {Q : Int32 → (Nat → Int32) → Prop} (h : ∀ a, (∀ j, j < n → a j = syA z at_ j) → Q (itz z n) a) : wp_X5_stray z (nI n) at_ Q := by
  unfold wp_X5_stray
  refine pk_loop (fun k i (s : Int32 × (Nat → Int32)) => lb_X5_stray_2 (nI n) Q k (nI i) s.1 s.2) (fun i s => s.1 = itz z i ∧ (∀ j, j < i → s.2 j = syA z at_ j) ∧ ∀ j, i ≤ j → s.2 j = at_ j) n 0 (z, at_) (Nat.zero_le _) ⟨rfl, fun j hj => absurd hj (by omega), fun _ _ => rfl⟩ ?_ ?_
  · rintro k ⟨y, a⟩ ⟨a1, a2, a3⟩
    simp only at a1 a2 a3
    subst a1
    exact ⟨fun _ => h a a2, fun c => absurd (Int32.le_refl _) c⟩
  · rintro k i ⟨y, a⟩ hi ⟨a1, a2, a3⟩ ih
    simp only at a1 a2 a3
    subst a1
    refine ⟨fun c => absurd c (nI_ge hi (by omega)), fun _ => ?_⟩
    unfold wp_X5_draw
    rintro v rfl
    rw [nI_1]
    refine ⟨fun c => ?_, fun c v2 e2 => ⟨vp_in_nI (by omega) (by decide), ?_⟩⟩
    · refine ih (drz (itz z i), a) ⟨rfl, fun j hj => ?_, fun j hj => a3 j (by omega)⟩
      by_cases e : j = i
      · subst e
        show a j = _
        rw [a3 j (Nat.le_refl _)]
        exact (if_neg c).symm
      · exact a2 j (by omega)
    · rw [nI_clamp (by omega)]
      refine ih (drz (itz z i), upd a i v2) ⟨rfl, fun j hj => ?_, fun j hj => ?_⟩
      · show upd a i v2 j = _
        by_cases e : j = i
        · subst e
          rw [up_s, e2]
          exact (if_pos c).symm
        · rw [up_n e]; exact a2 j (by omega)
      · show upd a i v2 j = _
        rw [up_n (by omega)]; exact a3 j (by omega)
def rs3 (w now : Nat → Int32) : Prop := ∀ j, j = 1 ∨ j = 2 ∨ j = 4 ∨ j = 5 ∨ 54 ≤ j → w j = now j
theorem rs3_T {w now : Nat → Int32} (r : rs3 w now) {tn B : Nat} {tk : Nat → Nat} {nv : Nat → Int32} (hB : 54 ≤ B) (T : TRm tn tk nv B now) : TRm tn tk nv B w := ⟨(r B (by omega)).trans T.1, fun i hi => (r _ (by omega)).trans (T.2 i hi)⟩
theorem tm_gz {n sn ln n2 sn2 : Nat} {F F2 : Nat → Nat → Int32} {tn : Nat} {tk : Nat → Nat} {nv : Nat → Int32} {un : Nat} {uk : Nat → Nat} {uv : Nat → Int32} {pn wn : Nat} {z z2 : Int32} {ti wi now now2 : Nat → Int32} (h : TM n sn ln F tn tk nv un uk uv pn wn z ti wi now) (hpn : pn ≤ 50) (hwn : wn ≤ 20) (r : rs3 now2 now) (h0 : now2 0 = nI sn2) (h3 : now2 3 = z2) (hp : PN n2 F2 now2) : TM n2 sn2 ln F2 tn tk nv un uk uv pn wn z2 ti wi now2 := by
  obtain ⟨a1, a2, a3, a4, a5, a6, a7, a8, a9, a10⟩ := h
  exact ⟨hp, h0, by rw [r 2 (by omega)]; exact a3, h3, rs3_T r (by decide) a5, rs3_T r (by decide) a6, by rw [r 4 (by omega)]; exact a7, fun i hi => by rw [r _ (by omega)]; exact a8 i hi, by rw [r 5 (by omega)]; exact a9, fun i hi => by rw [r _ (by omega)]; exact a10 i hi⟩
/-- seeds and PEOPLE, k loose steps on -/
def lsS (ME DE : Int32 → Int32 → Int32 → Int32) (n : Nat) (st lo : Int32) (z : Int32) (F : Nat → Nat → Int32) : Nat → Int32 × (Nat → Nat → Int32)
  | 0 => (z, F)
  | k + 1 => (itz (lsS ME DE n st lo z F k).1 n, nxF ME DE n (st + nI k) lo (syF (lsS ME DE n st lo z F k).1 (lsS ME DE n st lo z F k).2))
theorem ok_ls {ME DE : Int32 → Int32 → Int32 → Int32} (hD : ∀ a b c, sm (DE a b c) 9) {n : Nat} {st lo z : Int32} {F : Nat → Nat → Int32} (o : okP n F) : ∀ k, okP n (lsS ME DE n st lo z F k).2
  | 0 => o
  | k + 1 => ok_nx hD (ok_sy (ok_ls hD o k))
theorem cf_sy {n : Nat} {z : Int32} {F : Nat → Nat → Int32} {kind m at_ free gl de a : Nat → Int32} (cf : CF n F kind m at_ free gl de) (h : ∀ j, j < n → a j = syA z at_ j) : CF n (syF z F) kind m a free gl de := fun i hi => by
  obtain ⟨f0, f1, f2, f3, f4, f5⟩ := cf i hi
  have e : ∀ f, f ≠ 2 → syF z F f i = F f i := fun f hf => if_neg hf
  have e2 : syF z F 2 i = syA z (F 2) i := if_pos rfl
  refine ⟨by rw [e 0 (by decide)]; exact f0, by rw [e 1 (by decide)]; exact f1, ?_, by rw [e 3 (by decide)]; exact f3, by rw [e 4 (by decide)]; exact f4, by rw [e 5 (by decide)]; exact f5⟩
  rw [e2, h i hi]
  unfold syA
  rw [f2]
theorem s_loose {n kk tn un sn : Nat} (hn : n ≤ 8) (hk : kk ≤ 60) {tk uk : Nat → Nat} {nv uv : Nat → Int32} {z lo size usize : Int32} {rf free kind m crowd at_ handed signs numbers pile gl usigns unumbers upile deeds : Nat → Int32} {F : Nat → Nat → Int32}
    (T : TRc tn tk nv size signs numbers) (w : wfT tn tk nv) (U : TRc un uk uv usize usigns unumbers) (v : wfT un uk uv) (ok : okP n F) (cf : CF n F kind m at_ free gl deeds) {Q : Int32 → (Nat → Int32) → Int32 → Int32 → (Nat → Int32) → (Nat → Int32) → (Nat → Int32) → (Nat → Int32) → (Nat → Int32) → (Nat → Int32) → (Nat → Int32) → Prop}
    (h : ∀ f c a hh p q d, CF n (lsS (meV tn tk nv) (deV un uk uv) n (nI sn) lo z F kk).2 kind m a f gl d → Q (smI f n) rf (lsS (meV tn tk nv) (deV un uk uv) n (nI sn) lo z F kk).1 (nI (sn + kk)) a f c hh p q d) :
    ∃ k, lb_X7_loose_42 (nI kk) (nI n) lo kind m size signs numbers gl usize usigns unumbers Q k 0 rf z (nI sn) at_ free crowd handed pile upile deeds := by
  refine pk_loop (fun k i (s : Int32 × Int32 × (Nat → Int32) × (Nat → Int32) × (Nat → Int32) × (Nat → Int32) × (Nat → Int32) × (Nat → Int32) × (Nat → Int32)) => lb_X7_loose_42 (nI kk) (nI n) lo kind m size signs numbers gl usize usigns unumbers Q k (nI i) rf s.1 s.2.1 s.2.2.1 s.2.2.2.1 s.2.2.2.2.1 s.2.2.2.2.2.1 s.2.2.2.2.2.2.1 s.2.2.2.2.2.2.2.1 s.2.2.2.2.2.2.2.2)
    (fun i s => s.1 = (lsS (meV tn tk nv) (deV un uk uv) n (nI sn) lo z F i).1 ∧ s.2.1 = nI (sn + i) ∧ CF n (lsS (meV tn tk nv) (deV un uk uv) n (nI sn) lo z F i).2 kind m s.2.2.1 s.2.2.2.1 gl s.2.2.2.2.2.2.2.2) kk 0 (z, nI sn, at_, free, crowd, handed, pile, upile, deeds) (Nat.zero_le kk) ⟨rfl, rfl, cf⟩ ?_ ?_
  · rintro k ⟨y, st, a, f, c, hh, p, q, d⟩ ⟨a1, a2, a3⟩
    simp only at a1 a2 a3
    subst a1 a2
    exact ⟨fun _ => s_freeTog hn (h f c a hh p q d a3), fun c => absurd (Int32.le_refl _) c⟩
  · rintro k i ⟨y, st, a, f, c, hh, p, q, d⟩ hi ⟨a1, a2, a3⟩ ih
    simp only at a1 a2 a3
    subst a1 a2
    refine ⟨fun c => absurd c (nI_ge hi (by omega)), fun _ => ?_⟩
    refine s_stray hn (fun a' ha => ?_)
    refine s_pass (kk := 1) hn (by decide) T w U v (ok_sy (ok_ls (fun _ _ _ => sm_deV _ _ _ _ _ _) ok i)) (cf_sy a3 ha) (fun f2 c2 a2 h2 p2 q2 d2 cf2 => ?_)
    rw [nI_1]
    refine ih (itz (lsS (meV tn tk nv) (deV un uk uv) n (nI sn) lo z F i).1 n, _, a2, f2, c2, h2, p2, q2, d2) ⟨rfl, ?_, ?_⟩
    · show nI (sn + i) + nI 1 = _
      rw [nI_add, Nat.add_assoc]
    · have e : nI (sn + i) + nI 0 = nI sn + nI i := by rw [nI_add, nI_add, Nat.add_zero]
      have cf3 : CF n (nxF (meV tn tk nv) (deV un uk uv) n (nI (sn + i) + nI 0) lo (syF (lsS (meV tn tk nv) (deV un uk uv) n (nI sn) lo z F i).1 (lsS (meV tn tk nv) (deV un uk uv) n (nI sn) lo z F i).2)) kind m a2 f2 gl d2 := cf2
      rw [e] at cf3
      exact cf3
def mdF (z : Int32) (G : Nat → Nat → Int32) (j : Nat) : Nat → Nat → Int32 := fun f t => if f = 2 ∧ t < j then syA z (G 2) t else G f t
theorem md_y {z : Int32} {G : Nat → Nat → Int32} {j t : Nat} (h : t < j) : mdF z G j 2 t = syA z (G 2) t := if_pos ⟨rfl, h⟩
theorem md_n {z : Int32} {G : Nat → Nat → Int32} {j f t : Nat} (h : ¬ (f = 2 ∧ t < j)) : mdF z G j f t = G f t := if_neg h
theorem sy_n {z : Int32} {G : Nat → Nat → Int32} {f t : Nat} (h : f ≠ 2) : syF z G f t = G f t := if_neg h
theorem sy_y {z : Int32} {G : Nat → Nat → Int32} {t : Nat} : syF z G 2 t = syA z (G 2) t := if_pos rfl
theorem m_loose {n kk tn un sn : Nat} (hn : n ≤ 8) (hk : kk ≤ 60) (hs : sn < 2 ^ 30) {tk uk : Nat → Nat} {nv uv er now mf named pile ahead df : Nat → Int32} {F : Nat → Nat → Int32} {lo z : Int32} (T : TRm tn tk nv 124 now) (w : wfT tn tk nv) (U : TRm un uk uv 176 now) (v : wfT un uk uv) (pn : PN n F now) (ok : okP n F) (h0 : now 0 = nI sn) (h2 : now 2 = lo) (h3 : now 3 = z) (mc : MC (meV tn tk nv) mf) (dc : DC (deV un uk uv) df) {Q : Int32 → (Nat → Int32) → (Nat → Int32) → (Nat → Int32) → (Nat → Int32) → (Nat → Int32) → (Nat → Int32) → (Nat → Int32) → Prop}
    (h : ∀ nw ah mf nm p df, nw 0 = nI (sn + kk) → nw 3 = (lsS (meV tn tk nv) (deV un uk uv) n (nI sn) lo z F kk).1 → PN n (lsS (meV tn tk nv) (deV un uk uv) n (nI sn) lo z F kk).2 nw → rs3 nw now → MC (meV tn tk nv) mf → DC (deV un uk uv) df → Q (smI (fun i => nw (6 + 6 * i + 3)) n) er nw ah mf nm p df) :
    ∃ k, lb_X8_loose_40 (nI kk) Q k 0 er now ahead mf named pile df := by
  refine pk_loop (fun k i (s : (Nat → Int32) × (Nat → Int32) × (Nat → Int32) × (Nat → Int32) × (Nat → Int32) × (Nat → Int32)) => lb_X8_loose_40 (nI kk) Q k (nI i) er s.1 s.2.1 s.2.2.1 s.2.2.2.1 s.2.2.2.2.1 s.2.2.2.2.2)
    (fun i s => s.1 0 = nI (sn + i) ∧ s.1 3 = (lsS (meV tn tk nv) (deV un uk uv) n (nI sn) lo z F i).1 ∧ PN n (lsS (meV tn tk nv) (deV un uk uv) n (nI sn) lo z F i).2 s.1 ∧ rs3 s.1 now ∧ MC (meV tn tk nv) s.2.2.1 ∧ DC (deV un uk uv) s.2.2.2.2.2) kk 0 (now, ahead, mf, named, pile, df) (Nat.zero_le kk) ⟨h0, h3, pn, fun _ _ => rfl, mc, dc⟩ ?_ ?_
  · rintro k ⟨nw, ah, m1, n1, p1, d1⟩ ⟨a1, a2, a3, a4, a5, a6⟩
    simp only at a1 a2 a3 a4 a5 a6
    exact ⟨fun _ => m_sum3 hn a3.1 (h nw ah m1 n1 p1 d1 a1 a2 a3 a4 a5 a6), fun c => absurd (Int32.le_refl _) c⟩
  · rintro k i ⟨nw, ah, m1, n1, p1, d1⟩ hi ⟨a1, a2, a3, a4, a5, a6⟩ ih
    simp only at a1 a2 a3 a4 a5 a6
    refine ⟨fun c => absurd c (nI_ge hi (by omega)), fun _ => ?_⟩
    have oki : okP n (lsS (meV tn tk nv) (deV un uk uv) n (nI sn) lo z F i).2 := ok_ls (fun _ _ _ => sm_deV _ _ _ _ _ _) ok i
    generalize hS : lsS (meV tn tk nv) (deV un uk uv) n (nI sn) lo z F i = S at a2 a3 oki
    refine pk_loop (fun k j s => lb_X8_loose_47 (nI kk) Q _ k (nI i) (nI j) er s ah m1 n1 p1 d1)
      (fun j s => s 0 = nI (sn + i) ∧ s 3 = itz S.1 j ∧ PN n (mdF S.1 S.2 j) s ∧ rs3 s now) n 0 nw (Nat.zero_le n) ⟨a1, a2, ⟨a3.1, fun t ht f hf => by rw [md_n (by omega)]; exact a3.2 t ht f hf⟩, a4⟩ ?_ ?_
    · rintro k2 w2 ⟨b1, b2, b3, b4⟩
      have b3' : PN n (syF S.1 S.2) w2 := ⟨b3.1, fun t ht f hf => by
        rw [b3.2 t ht f hf]
        by_cases e : f = 2
        · subst e; rw [md_y ht, sy_y]
        · rw [md_n (fun q => e q.1), sy_n e]⟩
      refine ⟨fun _ => ?_, fun c => absurd (by rw [b3.1]; exact Int32.le_refl _) c⟩
      refine m_step hn (rs3_T b4 (by decide) T) w (rs3_T b4 (by decide) U) v b3' (ok_sy oki) b1 (by omega) ((b4 2 (by omega)).trans h2) a5 a6 (fun nw3 ah3 m3 n3 p3 d3 c1 c2 c3 c4 c5 => ?_)
      rw [nI_1]
      refine ih (nw3, ah3, m3, n3, p3, d3) ⟨?_, ?_, ?_, ?_, c4, c5⟩
      · show nw3 0 = _
        rw [c1, b1, nI_1, Nat.add_assoc]
      · show nw3 3 = itz (lsS (meV tn tk nv) (deV un uk uv) n (nI sn) lo z F i).1 n
        rw [hS, c3 3 (by omega)]
        exact b2
      · show PN n (nxF (meV tn tk nv) (deV un uk uv) n (nI sn + nI i) lo (syF (lsS (meV tn tk nv) (deV un uk uv) n (nI sn) lo z F i).1 (lsS (meV tn tk nv) (deV un uk uv) n (nI sn) lo z F i).2)) nw3
        rw [hS, nI_add, ← b1]
        exact c2
      · intro j hj
        show nw3 j = now j
        rw [c3 j (by omega)]
        exact b4 j hj
    · rintro k2 j w2 hj ⟨b1, b2, b3, b4⟩ ih2
      refine ⟨fun c => absurd (by rw [b3.1] at c; exact c) (nI_ge hj (by omega)), fun _ => ?_⟩
      unfold wp_X8_drawn
      rintro v1 rfl
      rw [up_s, b2, e_sA2, nI_1]
      have l8 : j < 8 := by omega
      have dn : itz S.1 j * 1103515245 + 12345 = itz S.1 (j + 1) := rfl
      rw [dn]
      have step : ∀ x, x = syA S.1 (S.2 2) j → lb_X8_loose_47 (nI kk) Q (lb_X8_loose_40 (nI kk) Q k) k2 (nI i) (nI (j + 1)) er (upd (upd w2 3 (itz S.1 (j + 1))) (6 + 6 * j + 2) x) ah m1 n1 p1 d1 := fun x hx => by
        refine ih2 _ ⟨by rw [up_n (by omega), up_n (by omega)]; exact b1, by rw [up_n (by omega), up_s], ⟨by rw [up_n (by omega), up_n (by omega)]; exact b3.1, fun t ht f hf => ?_⟩, fun q hq => by rw [up_n (by omega), up_n (by omega)]; exact b4 q hq⟩
        by_cases e : f = 2 ∧ t = j
        · obtain ⟨rfl, rfl⟩ := e
          rw [up_s, md_y (by omega), hx]
        · rw [up_n (by omega), up_n (by omega), b3.2 t ht f hf]
          by_cases e2 : f = 2 ∧ t < j
          · obtain ⟨rfl, e3⟩ := e2
            rw [md_y e3, md_y (by omega)]
          · rw [md_n e2, md_n (by omega)]
      refine ⟨fun c => ?_, fun c x hx => ⟨vp_in_nI (by omega) (by decide), ?_⟩⟩
      · rw [e_sI2 l8]
        refine ⟨vp_in_nI (by omega) (by decide), ?_⟩
        rw [nI_clamp (by omega), up_n (show 6 + 6 * j + 2 ≠ 3 by omega)]
        refine step _ ?_
        rw [b3.2 j hj 2 (by decide), md_n (by omega)]
        exact (if_neg c).symm
      · rw [nI_clamp (by omega)]
        refine step _ ?_
        rw [hx]
        exact (if_pos c).symm
set_option maxHeartbeats 4000000 in
set_option maxRecDepth 100000 in
theorem op_loose {ca : Nat → Nat → Int32} {ci : Nat → Int32} {ma : Nat → Nat → Int32} {mi : Nat → Int32} (h : Inv ca ci ma mi) (s1 : Int32) : wp_X7_loose s1 (ca 49) (ci 1) (ci 4) (ci 5) (ci 6) (ca 8) (ca 9) (ca 6) (ca 7) (ca 13) (ca 12) (ci 2) (ca 0) (ca 1) (ca 2) (ca 10) (ci 3) (ca 3) (ca 4) (ca 5) (ca 11) (fun r1 c0 c1 c2 c3 c4 c5 c6 c7 c8 c9 => wp_X8_loose s1 (ma 3) (ma 0) (ma 6) (ma 4) (ma 8) (ma 9) (ma 5) (fun r2 m0 m1 m2 m3 m4 m5 m6 => r1 = r2 ∧ Inv (va_up (va_up (va_up (va_up (va_up (va_up (va_up (va_up ca 49 c0) 8 c3) 9 c4) 13 c5) 12 c6) 2 c7) 5 c8) 11 c9) (va_up (va_up ci 1 c1) 5 c2) (va_up (va_up (va_up (va_up (va_up (va_up (va_up ma 3 m0) 0 m1) 6 m2) 4 m3) 8 m4) 9 m5) 5 m6) mi)) := by
  obtain ⟨tl, hkp, him, re, rv, r0, r1, r2, r3⟩ := h
  obtain ⟨n, sn, ln, F, tn, tk, nv, un, uk, uv, pn, wn, ⟨hn, hsn, hln, ok, wT, wU, hpn, hwn⟩, ⟨tc1, tc2, tc3, cf, cT, cU, tc7, tc8⟩, tm, mc, dc⟩ := id tl
  obtain ⟨tm1, tm2, tm3, tm4, tmT, tmU, tm7, tm8, tm9, tm10⟩ := id tm
  unfold wp_X7_loose wp_X8_loose
  rw [tc1, tc2, tm2]
  by_cases c : (1 : Int32) ≤ s1 ∧ s1 ≤ 40
  · simp only [e_within, e_within8, b2i_t c, z10, false_implies, true_implies, not_true_eq_false, not_false_eq_true, true_and, and_true, forall_eq]
    obtain ⟨k, hk, rfl⟩ := sm_of (n := 40) (by decide) ⟨Int32.le_trans (by decide) c.1, c.2⟩
    rw [nI_add]
    refine ⟨fun le => ?_, fun le => ?_⟩
    · simp only [le, false_implies, true_implies, not_true_eq_false, not_false_eq_true, true_and, and_true, forall_eq]
      rw [fa_lit 9999, li_nn (by omega) (by decide)] at le
      refine s_loose hn (by omega) cT wT cU wU ok cf (fun f cr a hh p q d cf' => ?_)
      refine m_loose hn (by omega) (by omega) tmT wT tmU wU tm1 ok tm2 tm3 tm4 mc dc (fun nw ah mf nm p2 df b1 b2 b3 b4 b5 b6 => ?_)
      rw [tc3] at cf'
      rw [tc3]
      refine ⟨smI_cong (fun i hi => by rw [(cf' i hi).2.2.2.1, b3.2 i hi 3 (by decide)]), ?_⟩
      have ok' : okP n (lsS (meV tn tk nv) (deV un uk uv) n (nI sn) (nI ln) (ci 1) F k).2 := ok_ls (fun _ _ _ => sm_deV _ _ _ _ _ _) ok k
      have tm' := tm_gz (sn2 := sn + k) tm hpn hwn b4 b1 b2 b3
      exact ⟨⟨n, sn + k, ln, _, tn, tk, nv, un, uk, uv, pn, wn, ⟨hn, le, hln, ok', wT, wU, hpn, hwn⟩, ⟨tc1, rfl, tc3, cf', cT, cU, tc7, tc8⟩, tm', b5, b6⟩, hkp, him, re, rv, r0, r1, r2, r3⟩
    · simp only [le, e_ref3, e_fin3, false_implies, true_implies, not_true_eq_false, not_false_eq_true, true_and, and_true, forall_eq]
      exact ⟨⟨n, sn, ln, F, tn, tk, nv, un, uk, uv, pn, wn, ⟨hn, hsn, hln, ok, wT, wU, hpn, hwn⟩, ⟨tc1, rfl, tc3, cf, cT, cU, tc7, tc8⟩, tm, mc, dc⟩, hkp, him, re_upd re (k := 3) (by decide), rv, r0, r1, r2, r3⟩
  · simp only [e_within, e_within8, b2i_f c, z00, e_ref1, e_fin1, false_implies, true_implies, not_true_eq_false, not_false_eq_true, true_and, and_true, forall_eq]
    exact ⟨⟨n, sn, ln, F, tn, tk, nv, un, uk, uv, pn, wn, ⟨hn, hsn, hln, ok, wT, wU, hpn, hwn⟩, ⟨tc1, rfl, tc3, cf, cT, cU, tc7, tc8⟩, tm, mc, dc⟩, hkp, him, re_upd re (k := 1) (by decide), rv, r0, r1, r2, r3⟩
