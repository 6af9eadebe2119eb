/-! the two objects tied to one state -/
def TA (n sn ln : Nat) (F : Nat → Nat → Int32) (tn : Nat) (tk : Nat → Nat) (nv : Nat → Int32) (un : Nat) (uk : Nat → Nat) (uv : Nat → Int32) (pn wn : Nat) : Prop := n ≤ 8 ∧ sn ≤ 9999 ∧ (1 ≤ ln ∧ ln ≤ 9) ∧ okP n F ∧ wfT tn tk nv ∧ wfT un uk uv ∧ pn ≤ 50 ∧ wn ≤ 20
def TC (n sn ln : Nat) (F : Nat → Nat → Int32) (tn : Nat) (tk : Nat → Nat) (nv : Nat → Int32) (un : Nat) (uk : Nat → Nat) (uv : Nat → Int32) (pn wn : Nat) (size step loss : Int32) (kind m at_ free gl de : Nat → Int32) (msz : Int32) (msg mnu : Nat → Int32) (dsz : Int32) (dsg dnu : Nat → Int32) (tsz wsz : Int32) : Prop := size = nI n ∧ step = nI sn ∧ loss = nI ln ∧ CF n F kind m at_ free gl de ∧ TRc tn tk nv msz msg mnu ∧ TRc un uk uv dsz dsg dnu ∧ tsz = nI pn ∧ wsz = nI wn
def TM (n sn ln : Nat) (F : Nat → Nat → Int32) (tn : Nat) (tk : Nat → Nat) (nv : Nat → Int32) (un : Nat) (uk : Nat → Nat) (uv : Nat → Int32) (pn wn : Nat) (z : Int32) (ti wi now : Nat → Int32) : Prop := PN n F now ∧ now 0 = nI sn ∧ now 2 = nI ln ∧ now 3 = z ∧ TRm tn tk nv 124 now ∧ TRm un uk uv 176 now ∧ now 4 = nI pn ∧ (∀ i, i < pn → ti i = now (54 + i) ∧ sm (ti i) 255) ∧ now 5 = nI wn ∧ ∀ i, i < wn → wi i = now (104 + i)
def TK (z size step loss : Int32) (kind m at_ free gl de : Nat → Int32) (msz : Int32) (msg mnu : Nat → Int32) (dsz : Int32) (dsg dnu : Nat → Int32) (tsz : Int32) (ti : Nat → Int32) (wsz : Int32) (wi now : Nat → Int32) : Prop := ∃ (n sn ln : Nat) (F : Nat → Nat → Int32) (tn : Nat) (tk : Nat → Nat) (nv : Nat → Int32) (un : Nat) (uk : Nat → Nat) (uv : Nat → Int32) (pn wn : Nat), TA n sn ln F tn tk nv un uk uv pn wn ∧ TC n sn ln F tn tk nv un uk uv pn wn size step loss kind m at_ free gl de msz msg mnu dsz dsg dnu tsz wsz ∧ TM n sn ln F tn tk nv un uk uv pn wn z ti wi now
def TL (z size step loss : Int32) (kind m at_ free gl de : Nat → Int32) (msz : Int32) (msg mnu : Nat → Int32) (dsz : Int32) (dsg dnu : Nat → Int32) (tsz : Int32) (ti : Nat → Int32) (wsz : Int32) (wi now mf df : Nat → Int32) : Prop := ∃ (n sn ln : Nat) (F : Nat → Nat → Int32) (tn : Nat) (tk : Nat → Nat) (nv : Nat → Int32) (un : Nat) (uk : Nat → Nat) (uv : Nat → Int32) (pn wn : Nat), TA n sn ln F tn tk nv un uk uv pn wn ∧ TC n sn ln F tn tk nv un uk uv pn wn size step loss kind m at_ free gl de msz msg mnu dsz dsg dnu tsz wsz ∧ TM n sn ln F tn tk nv un uk uv pn wn z ti wi now ∧ MC (meV tn tk nv) mf ∧ DC (deV un uk uv) df
def RE (rf er : Nat → Int32) : Prop := ∀ k, k < 6 → rf k = er k
def RV (bs : Int32) (bi tr : Nat → Int32) (tc : Int32) : Prop := bs = tc ∧ ∃ r, r ≤ 40 ∧ bs = nI r ∧ ∀ i, i < r → bi i = tr i
def nrel (w a b : Int32) : Prop := if w = 8 then a &&& 255 = a ∧ b = ji2b a else if w = 16 then a &&& 65535 = a ∧ b = ji2s a else b = a
def RSh (q : Nat) (bits size : Int32) (nums wd sz mn : Nat → Int32) : Prop := bits = wd q ∧ (bits = 0 ∨ bits = 8 ∨ bits = 16 ∨ bits = 32) ∧ ∃ len, len ≤ 40 ∧ size = nI len ∧ sz q = nI len ∧ ∀ i, i < len → nrel bits (nums i) (mn (40 * q + i))
def Inv (ca : Nat → Nat → Int32) (ci : Nat → Int32) (ma : Nat → Nat → Int32) (mi : Nat → Int32) : Prop := TL (ci 1) (ci 4) (ci 5) (ci 6) (ca 6) (ca 7) (ca 8) (ca 9) (ca 10) (ca 11) (ci 2) (ca 0) (ca 1) (ci 3) (ca 3) (ca 4) (ci 7) (ca 14) (ci 8) (ca 15) (ma 0) (ma 4) (ma 5) ∧ (¬ (ci 0) = 0 → TK (ci 9) (ci 12) (ci 13) (ci 14) (ca 22) (ca 23) (ca 24) (ca 25) (ca 26) (ca 27) (ci 10) (ca 16) (ca 17) (ci 11) (ca 19) (ca 20) (ci 15) (ca 30) (ci 16) (ca 31) (ma 1)) ∧ (ci 0) = (mi 0) ∧ RE (ca 49) (ma 3) ∧ RV (ci 27) (ca 44) (ma 11) (mi 6) ∧ RSh 0 (ci 28) (ci 29) (ca 45) (ma 12) (ma 13) (ma 14) ∧ RSh 1 (ci 30) (ci 31) (ca 46) (ma 12) (ma 13) (ma 14) ∧ RSh 2 (ci 32) (ci 33) (ca 47) (ma 12) (ma 13) (ma 14) ∧ RSh 3 (ci 34) (ci 35) (ca 48) (ma 12) (ma 13) (ma 14)
theorem z10 : ((1 : Int32) = 0) = False := by decide
theorem z00 : ((0 : Int32) = 0) = True := by decide
theorem re_upd {rf er : Nat → Int32} (h : RE rf er) {k : Nat} (hk : k < 6) : RE (upd rf k (rf k + 1)) (upd er k (er k + 1)) := fun j hj => by
  by_cases e : j = k
  · subst e; rw [up_s, up_s, h j hj]
  · rw [up_n e, up_n e]; exact h j hj
theorem tm_gen {n sn ln n2 sn2 : Nat} {F F2 : Nat → Nat → Int32} {tn : Nat} {tk : Nat → Nat} {nv : Nat → Int32} {un : Nat} {uk : Nat → Nat} {uv : Nat → Int32} {pn wn : Nat} {z : Int32} {ti wi now now2 : Nat → Int32} (h : TM n sn ln F tn tk nv un uk uv pn wn z ti wi now) (hpn : pn ≤ 50) (hwn : wn ≤ 20) (r : ∀ j, (2 ≤ j ∧ j < 6) ∨ 54 ≤ j → now2 j = now j) (h0 : now2 0 = nI sn2) (hp : PN n2 F2 now2) : TM n2 sn2 ln F2 tn tk nv un uk uv pn wn z ti wi now2 := by
  obtain ⟨a1, a2, a3, a4, a5, a6, a7, a8, a9, a10⟩ := h
  refine ⟨hp, h0, by rw [r 2 (by omega)]; exact a3, by rw [r 3 (by omega)]; exact a4, ⟨by rw [r _ (by omega)]; exact a5.1, fun i hi => by rw [r _ (by omega)]; exact a5.2 i hi⟩, ⟨by rw [r _ (by omega)]; exact a6.1, fun i hi => by rw [r _ (by omega)]; exact a6.2 i hi⟩, by rw [r 4 (by omega)]; exact a7, fun i hi => by rw [r _ (by omega)]; exact a8 i hi, by rw [r 5 (by omega)]; exact a9, fun i hi => by rw [r _ (by omega)]; exact a10 i hi⟩
theorem rst_2 {a b : Nat → Int32} (h : rst a b) : ∀ j, (2 ≤ j ∧ j < 6) ∨ 54 ≤ j → b j = a j := fun j hj => h j (by omega)
/-- one field of one -/
def stF (F : Nat → Nat → Int32) (i f : Nat) (v : Int32) : Nat → Nat → Int32 := fun g j => if j = i ∧ g = f then v else F g j
theorem stF_s {F : Nat → Nat → Int32} {i f : Nat} {v : Int32} : stF F i f v f i = v := by simp [stF]
theorem stF_n {F : Nat → Nat → Int32} {i f g j : Nat} {v : Int32} (h : ¬ (j = i ∧ g = f)) : stF F i f v g j = F g j := by unfold stF; rw [if_neg h]
theorem st_upd {F : Nat → Nat → Int32} {i f n : Nat} {v : Int32} {a : Nat → Int32} (h : ∀ j, j < n → a j = F f j) : ∀ j, j < n → upd a i v j = stF F i f v f j := fun j hj => by
  by_cases e : j = i
  · subst e; rw [up_s, stF_s]
  · rw [up_n e, stF_n (fun z => e z.1)]; exact h j hj
theorem st_keep {F : Nat → Nat → Int32} {i f g n : Nat} {v : Int32} (hg : g ≠ f) {a : Nat → Int32} (h : ∀ j, j < n → a j = F g j) : ∀ j, j < n → a j = stF F i f v g j := fun j hj => by
  rw [stF_n (fun z => hg z.2)]; exact h j hj
theorem cf_iff {n : Nat} {F : Nat → Nat → Int32} {kind m at_ free gl de : Nat → Int32} : CF n F kind m at_ free gl de ↔ (∀ j, j < n → kind j = F 0 j) ∧ (∀ j, j < n → m j = F 1 j) ∧ (∀ j, j < n → at_ j = F 2 j) ∧ (∀ j, j < n → free j = F 3 j) ∧ (∀ j, j < n → gl j = F 4 j) ∧ (∀ j, j < n → de j = F 5 j) :=
  ⟨fun h => ⟨fun j hj => (h j hj).1, fun j hj => (h j hj).2.1, fun j hj => (h j hj).2.2.1, fun j hj => (h j hj).2.2.2.1, fun j hj => (h j hj).2.2.2.2.1, fun j hj => (h j hj).2.2.2.2.2⟩, fun h j hj => ⟨h.1 j hj, h.2.1 j hj, h.2.2.1 j hj, h.2.2.2.1 j hj, h.2.2.2.2.1 j hj, h.2.2.2.2.2 j hj⟩⟩
theorem m_turn {k : Nat} (hk : k < 228) {v : Int32} {now : Nat → Int32} {Q : Int32 → (Nat → Int32) → Prop} (h : Q (now k) (upd now k v)) : wp_X8_turn (nI k) v now Q := by
  unfold wp_X8_turn
  rw [nI_clamp (by omega)]
  exact ⟨vp_in_nI hk (by decide), fun w hw => ⟨vp_in_nI hk (by decide), by rw [hw]; exact h⟩⟩
theorem s_turnInto {i n : Nat} (hn : n ≤ 8) (hi : i < n) {x : Int32} {kind m : Nat → Int32} {Q : (Nat → Int32) → (Nat → Int32) → Prop} (h : Q (upd kind i (x / 10)) (upd m i (jrem x 10))) : wp_X0_turnInto (nI i) x kind m Q := by
  unfold wp_X0_turnInto
  rw [c8 hn hi]
  rintro v1 rfl
  exact ⟨i8 hn hi, fun v2 e2 => ⟨i8 hn hi, by rw [e2]; exact h⟩⟩
/-- ten times a kind, and a number -/
theorem km_ok {x : Int32} (h : 0 ≤ x ∧ x ≤ 69) : sm (x / 10) 6 ∧ sm (jrem x 10) 9 := by
  obtain ⟨k, hk, rfl⟩ := sm_of (n := 69) (by decide) h
  refine ⟨⟨k / 10, by omega, ?_⟩, ⟨k % 10, by omega, ?_⟩⟩
  · rw [fa_lit 10]; exact pk_div (by omega) (by decide) (by decide)
  · rw [fa_lit 10]; exact jrem_nI (by omega) (by decide) (by decide)
