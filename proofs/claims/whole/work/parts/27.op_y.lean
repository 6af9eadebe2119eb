theorem bo_0_0 {Q : Int32 → Prop} (h : Q 10) : wp_X6_bodyOf 0 0 Q := ⟨4, by simp +decide only [lb_X6_bodyOf_4, e_within, vp_in, b2i, if_true, if_false, forall_eq, false_implies, true_implies, not_true_eq_false, not_false_eq_true, true_and, and_true]; exact h⟩
theorem bo_0_1 {Q : Int32 → Prop} (h : Q 11) : wp_X6_bodyOf 0 1 Q := ⟨4, by simp +decide only [lb_X6_bodyOf_4, e_within, vp_in, b2i, if_true, if_false, forall_eq, false_implies, true_implies, not_true_eq_false, not_false_eq_true, true_and, and_true]; exact h⟩
theorem bo_0_2 {Q : Int32 → Prop} (h : Q 12) : wp_X6_bodyOf 0 2 Q := ⟨4, by simp +decide only [lb_X6_bodyOf_4, e_within, vp_in, b2i, if_true, if_false, forall_eq, false_implies, true_implies, not_true_eq_false, not_false_eq_true, true_and, and_true]; exact h⟩
theorem bo_0_3 {Q : Int32 → Prop} (h : Q 13) : wp_X6_bodyOf 0 3 Q := ⟨4, by simp +decide only [lb_X6_bodyOf_4, e_within, vp_in, b2i, if_true, if_false, forall_eq, false_implies, true_implies, not_true_eq_false, not_false_eq_true, true_and, and_true]; exact h⟩
theorem bo_1_0 {Q : Int32 → Prop} (h : Q 20) : wp_X6_bodyOf 1 0 Q := ⟨4, by simp +decide only [lb_X6_bodyOf_4, e_within, vp_in, b2i, if_true, if_false, forall_eq, false_implies, true_implies, not_true_eq_false, not_false_eq_true, true_and, and_true]; exact h⟩
theorem bo_1_1 {Q : Int32 → Prop} (h : Q 11) : wp_X6_bodyOf 1 1 Q := ⟨4, by simp +decide only [lb_X6_bodyOf_4, e_within, vp_in, b2i, if_true, if_false, forall_eq, false_implies, true_implies, not_true_eq_false, not_false_eq_true, true_and, and_true]; exact h⟩
theorem bo_1_2 {Q : Int32 → Prop} (h : Q 12) : wp_X6_bodyOf 1 2 Q := ⟨4, by simp +decide only [lb_X6_bodyOf_4, e_within, vp_in, b2i, if_true, if_false, forall_eq, false_implies, true_implies, not_true_eq_false, not_false_eq_true, true_and, and_true]; exact h⟩
theorem bo_1_3 {Q : Int32 → Prop} (h : Q 13) : wp_X6_bodyOf 1 3 Q := ⟨4, by simp +decide only [lb_X6_bodyOf_4, e_within, vp_in, b2i, if_true, if_false, forall_eq, false_implies, true_implies, not_true_eq_false, not_false_eq_true, true_and, and_true]; exact h⟩
theorem bo_2_0 {Q : Int32 → Prop} (h : Q 10) : wp_X6_bodyOf 2 0 Q := ⟨4, by simp +decide only [lb_X6_bodyOf_4, e_within, vp_in, b2i, if_true, if_false, forall_eq, false_implies, true_implies, not_true_eq_false, not_false_eq_true, true_and, and_true]; exact h⟩
theorem bo_2_1 {Q : Int32 → Prop} (h : Q 30) : wp_X6_bodyOf 2 1 Q := ⟨4, by simp +decide only [lb_X6_bodyOf_4, e_within, vp_in, b2i, if_true, if_false, forall_eq, false_implies, true_implies, not_true_eq_false, not_false_eq_true, true_and, and_true]; exact h⟩
theorem bo_2_2 {Q : Int32 → Prop} (h : Q 12) : wp_X6_bodyOf 2 2 Q := ⟨4, by simp +decide only [lb_X6_bodyOf_4, e_within, vp_in, b2i, if_true, if_false, forall_eq, false_implies, true_implies, not_true_eq_false, not_false_eq_true, true_and, and_true]; exact h⟩
theorem bo_2_3 {Q : Int32 → Prop} (h : Q 13) : wp_X6_bodyOf 2 3 Q := ⟨4, by simp +decide only [lb_X6_bodyOf_4, e_within, vp_in, b2i, if_true, if_false, forall_eq, false_implies, true_implies, not_true_eq_false, not_false_eq_true, true_and, and_true]; exact h⟩
theorem bo_3_0 {Q : Int32 → Prop} (h : Q 10) : wp_X6_bodyOf 3 0 Q := ⟨4, by simp +decide only [lb_X6_bodyOf_4, e_within, vp_in, b2i, if_true, if_false, forall_eq, false_implies, true_implies, not_true_eq_false, not_false_eq_true, true_and, and_true]; exact h⟩
theorem bo_3_1 {Q : Int32 → Prop} (h : Q 11) : wp_X6_bodyOf 3 1 Q := ⟨4, by simp +decide only [lb_X6_bodyOf_4, e_within, vp_in, b2i, if_true, if_false, forall_eq, false_implies, true_implies, not_true_eq_false, not_false_eq_true, true_and, and_true]; exact h⟩
theorem bo_3_2 {Q : Int32 → Prop} (h : Q 40) : wp_X6_bodyOf 3 2 Q := ⟨4, by simp +decide only [lb_X6_bodyOf_4, e_within, vp_in, b2i, if_true, if_false, forall_eq, false_implies, true_implies, not_true_eq_false, not_false_eq_true, true_and, and_true]; exact h⟩
theorem bo_3_3 {Q : Int32 → Prop} (h : Q 13) : wp_X6_bodyOf 3 3 Q := ⟨4, by simp +decide only [lb_X6_bodyOf_4, e_within, vp_in, b2i, if_true, if_false, forall_eq, false_implies, true_implies, not_true_eq_false, not_false_eq_true, true_and, and_true]; exact h⟩
theorem bo_4_0 {Q : Int32 → Prop} (h : Q 20) : wp_X6_bodyOf 4 0 Q := ⟨4, by simp +decide only [lb_X6_bodyOf_4, e_within, vp_in, b2i, if_true, if_false, forall_eq, false_implies, true_implies, not_true_eq_false, not_false_eq_true, true_and, and_true]; exact h⟩
theorem bo_4_1 {Q : Int32 → Prop} (h : Q 11) : wp_X6_bodyOf 4 1 Q := ⟨4, by simp +decide only [lb_X6_bodyOf_4, e_within, vp_in, b2i, if_true, if_false, forall_eq, false_implies, true_implies, not_true_eq_false, not_false_eq_true, true_and, and_true]; exact h⟩
theorem bo_4_2 {Q : Int32 → Prop} (h : Q 12) : wp_X6_bodyOf 4 2 Q := ⟨4, by simp +decide only [lb_X6_bodyOf_4, e_within, vp_in, b2i, if_true, if_false, forall_eq, false_implies, true_implies, not_true_eq_false, not_false_eq_true, true_and, and_true]; exact h⟩
theorem bo_4_3 {Q : Int32 → Prop} (h : Q 50) : wp_X6_bodyOf 4 3 Q := ⟨4, by simp +decide only [lb_X6_bodyOf_4, e_within, vp_in, b2i, if_true, if_false, forall_eq, false_implies, true_implies, not_true_eq_false, not_false_eq_true, true_and, and_true]; exact h⟩
theorem bo_5_0 {Q : Int32 → Prop} (h : Q 10) : wp_X6_bodyOf 5 0 Q := ⟨4, by simp +decide only [lb_X6_bodyOf_4, e_within, vp_in, b2i, if_true, if_false, forall_eq, false_implies, true_implies, not_true_eq_false, not_false_eq_true, true_and, and_true]; exact h⟩
theorem bo_5_1 {Q : Int32 → Prop} (h : Q 60) : wp_X6_bodyOf 5 1 Q := ⟨4, by simp +decide only [lb_X6_bodyOf_4, e_within, vp_in, b2i, if_true, if_false, forall_eq, false_implies, true_implies, not_true_eq_false, not_false_eq_true, true_and, and_true]; exact h⟩
theorem bo_5_2 {Q : Int32 → Prop} (h : Q 12) : wp_X6_bodyOf 5 2 Q := ⟨4, by simp +decide only [lb_X6_bodyOf_4, e_within, vp_in, b2i, if_true, if_false, forall_eq, false_implies, true_implies, not_true_eq_false, not_false_eq_true, true_and, and_true]; exact h⟩
theorem bo_5_3 {Q : Int32 → Prop} (h : Q 13) : wp_X6_bodyOf 5 3 Q := ⟨4, by simp +decide only [lb_X6_bodyOf_4, e_within, vp_in, b2i, if_true, if_false, forall_eq, false_implies, true_implies, not_true_eq_false, not_false_eq_true, true_and, and_true]; exact h⟩
theorem bo_6_0 {Q : Int32 → Prop} (h : Q 10) : wp_X6_bodyOf 6 0 Q := ⟨4, by simp +decide only [lb_X6_bodyOf_4, e_within, vp_in, b2i, if_true, if_false, forall_eq, false_implies, true_implies, not_true_eq_false, not_false_eq_true, true_and, and_true]; exact h⟩
theorem bo_6_1 {Q : Int32 → Prop} (h : Q 11) : wp_X6_bodyOf 6 1 Q := ⟨4, by simp +decide only [lb_X6_bodyOf_4, e_within, vp_in, b2i, if_true, if_false, forall_eq, false_implies, true_implies, not_true_eq_false, not_false_eq_true, true_and, and_true]; exact h⟩
theorem bo_6_2 {Q : Int32 → Prop} (h : Q 70) : wp_X6_bodyOf 6 2 Q := ⟨4, by simp +decide only [lb_X6_bodyOf_4, e_within, vp_in, b2i, if_true, if_false, forall_eq, false_implies, true_implies, not_true_eq_false, not_false_eq_true, true_and, and_true]; exact h⟩
theorem bo_6_3 {Q : Int32 → Prop} (h : Q 71) : wp_X6_bodyOf 6 3 Q := ⟨4, by simp +decide only [lb_X6_bodyOf_4, e_within, vp_in, b2i, if_true, if_false, forall_eq, false_implies, true_implies, not_true_eq_false, not_false_eq_true, true_and, and_true]; exact h⟩
theorem s_of {d s dd : Nat} (hs : s < 40) (hd : dd < 40) {f a b x k num m : Int32} (hb : ¬ b = 0) {it : Nat → Int32} {Q : Int32 → Int32 → (Nat → Int32) → Prop} (bo : ∀ R : Int32 → Prop, R b → wp_X6_bodyOf f a R) (h : wp_X6_work (rc_X6_work d).1 (rc_X6_work d).2 b x (nI (dd + 1)) k num m (nI (s + 1)) (upd it s b) Q) : (rc_X6_work (d + 1)).1 f a x (nI dd) k num m (nI s) it Q := by
  show wp_X6_of _ _ _ _ _ _ _ _ _ _ _ _
  unfold wp_X6_of
  refine bo _ ⟨fun c => absurd c (nI_ge hd (by decide)), fun _ => ⟨fun _ => s_add hs (by decide) ?_, fun c => absurd c hb⟩⟩
  rw [nI_1]
  exact h
theorem s_own {d s dd : Nat} (hs : s < 40) (hd : dd < 40) {a b x k num m : Int32} (hb : ¬ b = 0) {it : Nat → Int32} {Q : Int32 → Int32 → (Nat → Int32) → Prop} (bo : ∀ R : Int32 → Prop, R b → wp_X6_bodyOf k a R) (h : wp_X6_work (rc_X6_work d).1 (rc_X6_work d).2 b x (nI (dd + 1)) k num m (nI (s + 1)) (upd it s b) Q) : (rc_X6_work (d + 1)).2 a x (nI dd) k num m (nI s) it Q := by
  show wp_X6_own _ _ _ _ _ _ _ _ _ _ _
  unfold wp_X6_own
  exact s_of hs hd hb bo h
theorem s_w10 {R0 : Int32 → Int32 → Int32 → Int32 → Int32 → Int32 → Int32 → Int32 → (Nat → Int32) → (Int32 → Int32 → (Nat → Int32) → Prop) → Prop} {R1 : Int32 → Int32 → Int32 → Int32 → Int32 → Int32 → Int32 → (Nat → Int32) → (Int32 → Int32 → (Nat → Int32) → Prop) → Prop} {x dd k num m s : Int32} {it : Nat → Int32} {Q : Int32 → Int32 → (Nat → Int32) → Prop} (h : Q (x + num) s it) : wp_X6_work R0 R1 10 x dd k num m s it Q := by
  unfold wp_X6_work
  simp +decide only [forall_eq, false_implies, true_implies, not_true_eq_false, not_false_eq_true, true_and, and_true]
  exact h
theorem s_w11 {R0 : Int32 → Int32 → Int32 → Int32 → Int32 → Int32 → Int32 → Int32 → (Nat → Int32) → (Int32 → Int32 → (Nat → Int32) → Prop) → Prop} {R1 : Int32 → Int32 → Int32 → Int32 → Int32 → Int32 → Int32 → (Nat → Int32) → (Int32 → Int32 → (Nat → Int32) → Prop) → Prop} {x dd k num m s : Int32} {it : Nat → Int32} {Q : Int32 → Int32 → (Nat → Int32) → Prop} (h : R1 0 x dd k num m s it (fun r o3 o4 => Q (r * 2) o3 o4)) : wp_X6_work R0 R1 11 x dd k num m s it Q := by
  unfold wp_X6_work
  simp +decide only [forall_eq, false_implies, true_implies, not_true_eq_false, not_false_eq_true, true_and, and_true]
  exact h
theorem s_w12 {R0 : Int32 → Int32 → Int32 → Int32 → Int32 → Int32 → Int32 → Int32 → (Nat → Int32) → (Int32 → Int32 → (Nat → Int32) → Prop) → Prop} {R1 : Int32 → Int32 → Int32 → Int32 → Int32 → Int32 → Int32 → (Nat → Int32) → (Int32 → Int32 → (Nat → Int32) → Prop) → Prop} {x dd k num m s : Int32} {it : Nat → Int32} {Q : Int32 → Int32 → (Nat → Int32) → Prop} (h : Q (x - m) s it) : wp_X6_work R0 R1 12 x dd k num m s it Q := by
  unfold wp_X6_work
  simp +decide only [forall_eq, false_implies, true_implies, not_true_eq_false, not_false_eq_true, true_and, and_true]
  exact h
theorem s_w13 {R0 : Int32 → Int32 → Int32 → Int32 → Int32 → Int32 → Int32 → Int32 → (Nat → Int32) → (Int32 → Int32 → (Nat → Int32) → Prop) → Prop} {R1 : Int32 → Int32 → Int32 → Int32 → Int32 → Int32 → Int32 → (Nat → Int32) → (Int32 → Int32 → (Nat → Int32) → Prop) → Prop} {x dd k num m s : Int32} {it : Nat → Int32} {Q : Int32 → Int32 → (Nat → Int32) → Prop} (h : R1 1 x dd k num m s it (fun r o8 o9 => R1 2 x dd k num m o8 o9 (fun r2 o11 o12 => Q (r ^^^ r2) o11 o12))) : wp_X6_work R0 R1 13 x dd k num m s it Q := by
  unfold wp_X6_work
  simp +decide only [forall_eq, false_implies, true_implies, not_true_eq_false, not_false_eq_true, true_and, and_true]
  exact h
theorem s_w20 {R0 : Int32 → Int32 → Int32 → Int32 → Int32 → Int32 → Int32 → Int32 → (Nat → Int32) → (Int32 → Int32 → (Nat → Int32) → Prop) → Prop} {R1 : Int32 → Int32 → Int32 → Int32 → Int32 → Int32 → Int32 → (Nat → Int32) → (Int32 → Int32 → (Nat → Int32) → Prop) → Prop} {x dd k num m s : Int32} {it : Nat → Int32} {Q : Int32 → Int32 → (Nat → Int32) → Prop} (h : R0 0 0 x dd k num m s it (fun r o o2 => Q (r * 3) o o2)) : wp_X6_work R0 R1 20 x dd k num m s it Q := by
  unfold wp_X6_work
  simp +decide only [forall_eq, false_implies, true_implies, not_true_eq_false, not_false_eq_true, true_and, and_true]
  exact h
theorem s_w30 {R0 : Int32 → Int32 → Int32 → Int32 → Int32 → Int32 → Int32 → Int32 → (Nat → Int32) → (Int32 → Int32 → (Nat → Int32) → Prop) → Prop} {R1 : Int32 → Int32 → Int32 → Int32 → Int32 → Int32 → Int32 → (Nat → Int32) → (Int32 → Int32 → (Nat → Int32) → Prop) → Prop} {x dd k num m s : Int32} {it : Nat → Int32} {Q : Int32 → Int32 → (Nat → Int32) → Prop} (h : R0 0 1 x dd k num m s it (fun r o o2 => R1 2 1 dd k num m o o2 (fun r2 o3 o4 => Q (r - r2) o3 o4))) : wp_X6_work R0 R1 30 x dd k num m s it Q := by
  unfold wp_X6_work
  simp +decide only [forall_eq, false_implies, true_implies, not_true_eq_false, not_false_eq_true, true_and, and_true]
  exact h
theorem s_w40 {R0 : Int32 → Int32 → Int32 → Int32 → Int32 → Int32 → Int32 → Int32 → (Nat → Int32) → (Int32 → Int32 → (Nat → Int32) → Prop) → Prop} {R1 : Int32 → Int32 → Int32 → Int32 → Int32 → Int32 → Int32 → (Nat → Int32) → (Int32 → Int32 → (Nat → Int32) → Prop) → Prop} {x dd k num m s : Int32} {it : Nat → Int32} {Q : Int32 → Int32 → (Nat → Int32) → Prop} (h : R0 0 2 x dd k num m s it (fun r o o2 => Q (-r) o o2)) : wp_X6_work R0 R1 40 x dd k num m s it Q := by
  unfold wp_X6_work
  simp +decide only [forall_eq, false_implies, true_implies, not_true_eq_false, not_false_eq_true, true_and, and_true]
  exact h
theorem s_w50 {R0 : Int32 → Int32 → Int32 → Int32 → Int32 → Int32 → Int32 → Int32 → (Nat → Int32) → (Int32 → Int32 → (Nat → Int32) → Prop) → Prop} {R1 : Int32 → Int32 → Int32 → Int32 → Int32 → Int32 → Int32 → (Nat → Int32) → (Int32 → Int32 → (Nat → Int32) → Prop) → Prop} {x dd k num m s : Int32} {it : Nat → Int32} {Q : Int32 → Int32 → (Nat → Int32) → Prop} (h : R0 1 3 x dd k num m s it (fun r o o2 => R1 0 2 dd k num m o o2 (fun r2 o3 o4 => Q (r - r2) o3 o4))) : wp_X6_work R0 R1 50 x dd k num m s it Q := by
  unfold wp_X6_work
  simp +decide only [forall_eq, false_implies, true_implies, not_true_eq_false, not_false_eq_true, true_and, and_true]
  exact h
theorem s_w60 {R0 : Int32 → Int32 → Int32 → Int32 → Int32 → Int32 → Int32 → Int32 → (Nat → Int32) → (Int32 → Int32 → (Nat → Int32) → Prop) → Prop} {R1 : Int32 → Int32 → Int32 → Int32 → Int32 → Int32 → Int32 → (Nat → Int32) → (Int32 → Int32 → (Nat → Int32) → Prop) → Prop} {x dd k num m s : Int32} {it : Nat → Int32} {Q : Int32 → Int32 → (Nat → Int32) → Prop} (h : R0 2 1 (x + 1) dd k num m s it (fun r o o2 => Q r o o2)) : wp_X6_work R0 R1 60 x dd k num m s it Q := by
  unfold wp_X6_work
  simp +decide only [forall_eq, false_implies, true_implies, not_true_eq_false, not_false_eq_true, true_and, and_true]
  exact h
theorem s_w70 {R0 : Int32 → Int32 → Int32 → Int32 → Int32 → Int32 → Int32 → Int32 → (Nat → Int32) → (Int32 → Int32 → (Nat → Int32) → Prop) → Prop} {R1 : Int32 → Int32 → Int32 → Int32 → Int32 → Int32 → Int32 → (Nat → Int32) → (Int32 → Int32 → (Nat → Int32) → Prop) → Prop} {x dd k num m s : Int32} {it : Nat → Int32} {Q : Int32 → Int32 → (Nat → Int32) → Prop} (h : R0 3 2 x dd k num m s it (fun r o o2 => Q (r ^^^ num) o o2)) : wp_X6_work R0 R1 70 x dd k num m s it Q := by
  unfold wp_X6_work
  simp +decide only [forall_eq, false_implies, true_implies, not_true_eq_false, not_false_eq_true, true_and, and_true]
  exact h
theorem s_w71 {R0 : Int32 → Int32 → Int32 → Int32 → Int32 → Int32 → Int32 → Int32 → (Nat → Int32) → (Int32 → Int32 → (Nat → Int32) → Prop) → Prop} {R1 : Int32 → Int32 → Int32 → Int32 → Int32 → Int32 → Int32 → (Nat → Int32) → (Int32 → Int32 → (Nat → Int32) → Prop) → Prop} {x dd k num m s : Int32} {it : Nat → Int32} {Q : Int32 → Int32 → (Nat → Int32) → Prop} (h : R1 1 x dd k num m s it (fun r o o2 => R0 3 3 x dd k num m o o2 (fun r2 o3 o4 => Q (r - r2) o3 o4))) : wp_X6_work R0 R1 71 x dd k num m s it Q := by
  unfold wp_X6_work
  simp +decide only [forall_eq, false_implies, true_implies, not_true_eq_false, not_false_eq_true, true_and, and_true]
  exact h
theorem m_ran {s : Nat} (hs : s < 40) {b : Int32} {tr : Nat → Int32} {Q : Int32 → (Nat → Int32) → Prop} (h : Q (nI (s + 1)) (upd tr s b)) : wp_X8_ran b (nI s) tr Q := by
  unfold wp_X8_ran
  refine ⟨fun c => absurd c (nI_ge hs (by decide)), fun _ => ⟨vp_in_nI hs (by decide), ?_⟩⟩
  rintro v rfl
  rw [nI_1, nI_clamp (by omega)]
  exact h
theorem rv_up {s : Nat} {A B : Nat → Int32} {b : Int32} (h : ∀ i, i < s → A i = B i) : ∀ i, i < s + 1 → upd A s b i = upd B s b i := fun i hi => by
  by_cases e : i = s
  · subst e; rw [up_s, up_s]
  · rw [up_n e, up_n e]; exact h i (by omega)
theorem vc_0_0 {x num m : Int32} {it : Nat → Int32} {Q : Int32 → Int32 → (Nat → Int32) → Prop} (h : Q (x + num) (nI 1) (upd it 0 10)) : (rc_X6_work 8).2 0 x 0 (nI 0) num m 0 it Q := by
  refine s_own (s := 0) (dd := 0) (by decide) (by decide) (by decide) (fun _ h => bo_0_0 h) (s_w10 ?_)
  exact h
theorem vm_0_0 {x num : Int32} {tr : Nat → Int32} {Q : Int32 → Int32 → (Nat → Int32) → Prop} (h : Q (x + num) (nI 1) (upd tr 0 10)) : wp_X8_keepsOf x 0 (nI 0) num tr Q := by
  try unfold wp_X8_keepsOf
  refine m_under (k := 0) (a := 1) (by decide) (by decide) ?_
  refine ⟨fun _ => ?_, fun c => absurd (by decide) c⟩
  try unfold lb_X8_keepsOf_19
  refine m_ran (s := 0) (by decide) ?_
  refine ⟨fun _ => ?_, fun c => absurd (by decide) c⟩
  exact h
theorem vc_0_1 {x num m : Int32} {it : Nat → Int32} {Q : Int32 → Int32 → (Nat → Int32) → Prop} (h : Q ((x + num) * 2) (nI 2) (upd (upd it 0 11) 1 10)) : (rc_X6_work 8).2 1 x 0 (nI 0) num m 0 it Q := by
  refine s_own (s := 0) (dd := 0) (by decide) (by decide) (by decide) (fun _ h => bo_0_1 h) (s_w11 ?_)
  refine s_own (s := 1) (dd := 1) (by decide) (by decide) (by decide) (fun _ h => bo_0_0 h) (s_w10 ?_)
  exact h
theorem vm_0_1 {x num m : Int32} {tr : Nat → Int32} {Q : Int32 → Int32 → (Nat → Int32) → Prop} (h : Q ((x + num) * 2) (nI 2) (upd (upd tr 0 11) 1 10)) : wp_X8_handsOf x 0 (nI 0) num m tr Q := by
  try unfold wp_X8_handsOf
  refine ⟨fun _ => ?_, fun c => absurd c (by decide)⟩
  try unfold lb_X8_handsOf_19
  refine m_under (k := 0) (a := 2) (by decide) (by decide) ?_
  refine ⟨fun _ => ?_, fun c => absurd (by decide) c⟩
  try unfold lb_X8_handsOf_38
  refine m_ran (s := 0) (by decide) ?_
  try unfold wp_X8_keepsOf
  refine m_under (k := 0) (a := 1) (by decide) (by decide) ?_
  refine ⟨fun _ => ?_, fun c => absurd (by decide) c⟩
  try unfold lb_X8_keepsOf_19
  refine m_ran (s := 1) (by decide) ?_
  refine ⟨fun _ => ?_, fun c => absurd (by decide) c⟩
  rintro v rfl
  refine ⟨fun _ => ?_, fun c => absurd (by decide) c⟩
  exact h
theorem vc_0_2 {x num m : Int32} {it : Nat → Int32} {Q : Int32 → Int32 → (Nat → Int32) → Prop} (h : Q (x - m) (nI 1) (upd it 0 12)) : (rc_X6_work 8).2 2 x 0 (nI 0) num m 0 it Q := by
  refine s_own (s := 0) (dd := 0) (by decide) (by decide) (by decide) (fun _ h => bo_0_2 h) (s_w12 ?_)
  exact h
theorem vm_0_2 {x num m : Int32} {tr : Nat → Int32} {Q : Int32 → Int32 → (Nat → Int32) → Prop} (h : Q (x - m) (nI 1) (upd tr 0 12)) : wp_X8_stealsOf x 0 (nI 0) num m tr Q := by
  try unfold wp_X8_stealsOf
  refine ⟨fun _ => ?_, fun c => absurd c (by decide)⟩
  try unfold lb_X8_stealsOf_15
  refine m_under (k := 0) (a := 3) (by decide) (by decide) ?_
  refine ⟨fun _ => ?_, fun c => absurd (by decide) c⟩
  try unfold lb_X8_stealsOf_34
  refine m_ran (s := 0) (by decide) ?_
  refine ⟨fun _ => ?_, fun c => absurd (by decide) c⟩
  try unfold lb_X8_stealsOf_60
  refine ⟨fun _ => ?_, fun c => absurd c (by decide)⟩
  exact h
theorem vc_0_3 {x num m : Int32} {it : Nat → Int32} {Q : Int32 → Int32 → (Nat → Int32) → Prop} (h : Q (((x + num) * 2) ^^^ (x - m)) (nI 4) (upd (upd (upd (upd it 0 13) 1 11) 2 10) 3 12)) : (rc_X6_work 8).2 3 x 0 (nI 0) num m 0 it Q := by
  refine s_own (s := 0) (dd := 0) (by decide) (by decide) (by decide) (fun _ h => bo_0_3 h) (s_w13 ?_)
  refine s_own (s := 1) (dd := 1) (by decide) (by decide) (by decide) (fun _ h => bo_0_1 h) (s_w11 ?_)
  refine s_own (s := 2) (dd := 2) (by decide) (by decide) (by decide) (fun _ h => bo_0_0 h) (s_w10 ?_)
  refine s_own (s := 3) (dd := 1) (by decide) (by decide) (by decide) (fun _ h => bo_0_2 h) (s_w12 ?_)
  exact h
theorem vm_0_3 {x num m : Int32} {tr : Nat → Int32} {Q : Int32 → Int32 → (Nat → Int32) → Prop} (h : Q (((x + num) * 2) ^^^ (x - m)) (nI 4) (upd (upd (upd (upd tr 0 13) 1 11) 2 10) 3 12)) : wp_X8_tellsOf x 0 (nI 0) num m tr Q := by
  try unfold wp_X8_tellsOf
  refine ⟨fun _ => ?_, fun c => absurd c (by decide)⟩
  refine ⟨fun _ => ?_, fun c => absurd c (by decide)⟩
  try unfold wp_X8_plainTells
  refine m_ran (s := 0) (by decide) ?_
  try unfold wp_X8_handsOf
  refine ⟨fun _ => ?_, fun c => absurd c (by decide)⟩
  try unfold lb_X8_handsOf_19
  refine m_under (k := 0) (a := 2) (by decide) (by decide) ?_
  refine ⟨fun _ => ?_, fun c => absurd (by decide) c⟩
  try unfold lb_X8_handsOf_38
  refine m_ran (s := 1) (by decide) ?_
  try unfold wp_X8_keepsOf
  refine m_under (k := 0) (a := 1) (by decide) (by decide) ?_
  refine ⟨fun _ => ?_, fun c => absurd (by decide) c⟩
  try unfold lb_X8_keepsOf_19
  refine m_ran (s := 2) (by decide) ?_
  refine ⟨fun _ => ?_, fun c => absurd (by decide) c⟩
  rintro v rfl
  refine ⟨fun _ => ?_, fun c => absurd (by decide) c⟩
  try unfold wp_X8_stealsOf
  refine ⟨fun _ => ?_, fun c => absurd c (by decide)⟩
  try unfold lb_X8_stealsOf_15
  refine m_under (k := 0) (a := 3) (by decide) (by decide) ?_
  refine ⟨fun _ => ?_, fun c => absurd (by decide) c⟩
  try unfold lb_X8_stealsOf_34
  refine m_ran (s := 3) (by decide) ?_
  refine ⟨fun _ => ?_, fun c => absurd (by decide) c⟩
  try unfold lb_X8_stealsOf_60
  refine ⟨fun _ => ?_, fun c => absurd c (by decide)⟩
  exact h
theorem vc_1_0 {x num m : Int32} {it : Nat → Int32} {Q : Int32 → Int32 → (Nat → Int32) → Prop} (h : Q ((x + num) * 3) (nI 2) (upd (upd it 0 20) 1 10)) : (rc_X6_work 8).2 0 x 0 (nI 1) num m 0 it Q := by
  refine s_own (s := 0) (dd := 0) (by decide) (by decide) (by decide) (fun _ h => bo_1_0 h) (s_w20 ?_)
  refine s_of (s := 1) (dd := 1) (by decide) (by decide) (by decide) (fun _ h => bo_0_0 h) (s_w10 ?_)
  exact h
theorem vm_1_0 {x num : Int32} {tr : Nat → Int32} {Q : Int32 → Int32 → (Nat → Int32) → Prop} (h : Q ((x + num) * 3) (nI 2) (upd (upd tr 0 20) 1 10)) : wp_X8_keepsOf x 0 (nI 1) num tr Q := by
  try unfold wp_X8_keepsOf
  refine m_under (k := 1) (a := 1) (by decide) (by decide) ?_
  refine ⟨fun c => absurd c (by decide), fun _ => ?_⟩
  refine m_ran (s := 0) (by decide) ?_
  try unfold lb_X8_keepsOf_19
  refine m_ran (s := 1) (by decide) ?_
  refine ⟨fun c => absurd c (by decide), fun _ => ?_⟩
  exact h
theorem vc_1_1 {x num m : Int32} {it : Nat → Int32} {Q : Int32 → Int32 → (Nat → Int32) → Prop} (h : Q (((x + num) * 3) * 2) (nI 3) (upd (upd (upd it 0 11) 1 20) 2 10)) : (rc_X6_work 8).2 1 x 0 (nI 1) num m 0 it Q := by
  refine s_own (s := 0) (dd := 0) (by decide) (by decide) (by decide) (fun _ h => bo_1_1 h) (s_w11 ?_)
  refine s_own (s := 1) (dd := 1) (by decide) (by decide) (by decide) (fun _ h => bo_1_0 h) (s_w20 ?_)
  refine s_of (s := 2) (dd := 2) (by decide) (by decide) (by decide) (fun _ h => bo_0_0 h) (s_w10 ?_)
  exact h
theorem vm_1_1 {x num m : Int32} {tr : Nat → Int32} {Q : Int32 → Int32 → (Nat → Int32) → Prop} (h : Q (((x + num) * 3) * 2) (nI 3) (upd (upd (upd tr 0 11) 1 20) 2 10)) : wp_X8_handsOf x 0 (nI 1) num m tr Q := by
  try unfold wp_X8_handsOf
  refine ⟨fun _ => ?_, fun c => absurd c (by decide)⟩
  try unfold lb_X8_handsOf_19
  refine m_under (k := 1) (a := 2) (by decide) (by decide) ?_
  refine ⟨fun _ => ?_, fun c => absurd (by decide) c⟩
  try unfold lb_X8_handsOf_38
  refine m_ran (s := 0) (by decide) ?_
  try unfold wp_X8_keepsOf
  refine m_under (k := 1) (a := 1) (by decide) (by decide) ?_
  refine ⟨fun c => absurd c (by decide), fun _ => ?_⟩
  refine m_ran (s := 1) (by decide) ?_
  try unfold lb_X8_keepsOf_19
  refine m_ran (s := 2) (by decide) ?_
  refine ⟨fun c => absurd c (by decide), fun _ => ?_⟩
  rintro v rfl
  refine ⟨fun _ => ?_, fun c => absurd (by decide) c⟩
  exact h
theorem vc_1_2 {x num m : Int32} {it : Nat → Int32} {Q : Int32 → Int32 → (Nat → Int32) → Prop} (h : Q (x - m) (nI 1) (upd it 0 12)) : (rc_X6_work 8).2 2 x 0 (nI 1) num m 0 it Q := by
  refine s_own (s := 0) (dd := 0) (by decide) (by decide) (by decide) (fun _ h => bo_1_2 h) (s_w12 ?_)
  exact h
theorem vm_1_2 {x num m : Int32} {tr : Nat → Int32} {Q : Int32 → Int32 → (Nat → Int32) → Prop} (h : Q (x - m) (nI 1) (upd tr 0 12)) : wp_X8_stealsOf x 0 (nI 1) num m tr Q := by
  try unfold wp_X8_stealsOf
  refine ⟨fun _ => ?_, fun c => absurd c (by decide)⟩
  try unfold lb_X8_stealsOf_15
  refine m_under (k := 1) (a := 3) (by decide) (by decide) ?_
  refine ⟨fun _ => ?_, fun c => absurd (by decide) c⟩
  try unfold lb_X8_stealsOf_34
  refine m_ran (s := 0) (by decide) ?_
  refine ⟨fun _ => ?_, fun c => absurd (by decide) c⟩
  try unfold lb_X8_stealsOf_60
  refine ⟨fun _ => ?_, fun c => absurd c (by decide)⟩
  exact h
theorem vc_1_3 {x num m : Int32} {it : Nat → Int32} {Q : Int32 → Int32 → (Nat → Int32) → Prop} (h : Q ((((x + num) * 3) * 2) ^^^ (x - m)) (nI 5) (upd (upd (upd (upd (upd it 0 13) 1 11) 2 20) 3 10) 4 12)) : (rc_X6_work 8).2 3 x 0 (nI 1) num m 0 it Q := by
  refine s_own (s := 0) (dd := 0) (by decide) (by decide) (by decide) (fun _ h => bo_1_3 h) (s_w13 ?_)
  refine s_own (s := 1) (dd := 1) (by decide) (by decide) (by decide) (fun _ h => bo_1_1 h) (s_w11 ?_)
  refine s_own (s := 2) (dd := 2) (by decide) (by decide) (by decide) (fun _ h => bo_1_0 h) (s_w20 ?_)
  refine s_of (s := 3) (dd := 3) (by decide) (by decide) (by decide) (fun _ h => bo_0_0 h) (s_w10 ?_)
  refine s_own (s := 4) (dd := 1) (by decide) (by decide) (by decide) (fun _ h => bo_1_2 h) (s_w12 ?_)
  exact h
theorem vm_1_3 {x num m : Int32} {tr : Nat → Int32} {Q : Int32 → Int32 → (Nat → Int32) → Prop} (h : Q ((((x + num) * 3) * 2) ^^^ (x - m)) (nI 5) (upd (upd (upd (upd (upd tr 0 13) 1 11) 2 20) 3 10) 4 12)) : wp_X8_tellsOf x 0 (nI 1) num m tr Q := by
  try unfold wp_X8_tellsOf
  refine ⟨fun _ => ?_, fun c => absurd c (by decide)⟩
  refine ⟨fun _ => ?_, fun c => absurd c (by decide)⟩
  try unfold wp_X8_plainTells
  refine m_ran (s := 0) (by decide) ?_
  try unfold wp_X8_handsOf
  refine ⟨fun _ => ?_, fun c => absurd c (by decide)⟩
  try unfold lb_X8_handsOf_19
  refine m_under (k := 1) (a := 2) (by decide) (by decide) ?_
  refine ⟨fun _ => ?_, fun c => absurd (by decide) c⟩
  try unfold lb_X8_handsOf_38
  refine m_ran (s := 1) (by decide) ?_
  try unfold wp_X8_keepsOf
  refine m_under (k := 1) (a := 1) (by decide) (by decide) ?_
  refine ⟨fun c => absurd c (by decide), fun _ => ?_⟩
  refine m_ran (s := 2) (by decide) ?_
  try unfold lb_X8_keepsOf_19
  refine m_ran (s := 3) (by decide) ?_
  refine ⟨fun c => absurd c (by decide), fun _ => ?_⟩
  rintro v rfl
  refine ⟨fun _ => ?_, fun c => absurd (by decide) c⟩
  try unfold wp_X8_stealsOf
  refine ⟨fun _ => ?_, fun c => absurd c (by decide)⟩
  try unfold lb_X8_stealsOf_15
  refine m_under (k := 1) (a := 3) (by decide) (by decide) ?_
  refine ⟨fun _ => ?_, fun c => absurd (by decide) c⟩
  try unfold lb_X8_stealsOf_34
  refine m_ran (s := 4) (by decide) ?_
  refine ⟨fun _ => ?_, fun c => absurd (by decide) c⟩
  try unfold lb_X8_stealsOf_60
  refine ⟨fun _ => ?_, fun c => absurd c (by decide)⟩
  exact h
theorem vc_2_0 {x num m : Int32} {it : Nat → Int32} {Q : Int32 → Int32 → (Nat → Int32) → Prop} (h : Q (x + num) (nI 1) (upd it 0 10)) : (rc_X6_work 8).2 0 x 0 (nI 2) num m 0 it Q := by
  refine s_own (s := 0) (dd := 0) (by decide) (by decide) (by decide) (fun _ h => bo_2_0 h) (s_w10 ?_)
  exact h
theorem vm_2_0 {x num : Int32} {tr : Nat → Int32} {Q : Int32 → Int32 → (Nat → Int32) → Prop} (h : Q (x + num) (nI 1) (upd tr 0 10)) : wp_X8_keepsOf x 0 (nI 2) num tr Q := by
  try unfold wp_X8_keepsOf
  refine m_under (k := 2) (a := 1) (by decide) (by decide) ?_
  refine ⟨fun _ => ?_, fun c => absurd (by decide) c⟩
  try unfold lb_X8_keepsOf_19
  refine m_ran (s := 0) (by decide) ?_
  refine ⟨fun _ => ?_, fun c => absurd (by decide) c⟩
  exact h
theorem vc_2_1 {x num m : Int32} {it : Nat → Int32} {Q : Int32 → Int32 → (Nat → Int32) → Prop} (h : Q (((x + num) * 2) - (1 - m)) (nI 4) (upd (upd (upd (upd it 0 30) 1 11) 2 10) 3 12)) : (rc_X6_work 8).2 1 x 0 (nI 2) num m 0 it Q := by
  refine s_own (s := 0) (dd := 0) (by decide) (by decide) (by decide) (fun _ h => bo_2_1 h) (s_w30 ?_)
  refine s_of (s := 1) (dd := 1) (by decide) (by decide) (by decide) (fun _ h => bo_0_1 h) (s_w11 ?_)
  refine s_own (s := 2) (dd := 2) (by decide) (by decide) (by decide) (fun _ h => bo_2_0 h) (s_w10 ?_)
  refine s_own (s := 3) (dd := 1) (by decide) (by decide) (by decide) (fun _ h => bo_2_2 h) (s_w12 ?_)
  exact h
theorem vm_2_1 {x num m : Int32} {tr : Nat → Int32} {Q : Int32 → Int32 → (Nat → Int32) → Prop} (h : Q (((x + num) * 2) - (1 - m)) (nI 4) (upd (upd (upd (upd tr 0 30) 1 11) 2 10) 3 12)) : wp_X8_handsOf x 0 (nI 2) num m tr Q := by
  try unfold wp_X8_handsOf
  refine ⟨fun _ => ?_, fun c => absurd c (by decide)⟩
  try unfold lb_X8_handsOf_19
  refine m_under (k := 2) (a := 2) (by decide) (by decide) ?_
  refine ⟨fun c => absurd c (by decide), fun _ => ?_⟩
  refine m_ran (s := 0) (by decide) ?_
  try unfold lb_X8_handsOf_38
  refine m_ran (s := 1) (by decide) ?_
  try unfold wp_X8_keepsOf
  refine m_under (k := 2) (a := 1) (by decide) (by decide) ?_
  refine ⟨fun _ => ?_, fun c => absurd (by decide) c⟩
  try unfold lb_X8_keepsOf_19
  refine m_ran (s := 2) (by decide) ?_
  refine ⟨fun _ => ?_, fun c => absurd (by decide) c⟩
  rintro v rfl
  refine ⟨fun c => absurd c (by decide), fun _ => ?_⟩
  try unfold wp_X8_stealsOf
  refine ⟨fun _ => ?_, fun c => absurd c (by decide)⟩
  try unfold lb_X8_stealsOf_15
  refine m_under (k := 2) (a := 3) (by decide) (by decide) ?_
  refine ⟨fun _ => ?_, fun c => absurd (by decide) c⟩
  try unfold lb_X8_stealsOf_34
  refine m_ran (s := 3) (by decide) ?_
  refine ⟨fun _ => ?_, fun c => absurd (by decide) c⟩
  try unfold lb_X8_stealsOf_60
  refine ⟨fun _ => ?_, fun c => absurd c (by decide)⟩
  exact h
theorem vc_2_2 {x num m : Int32} {it : Nat → Int32} {Q : Int32 → Int32 → (Nat → Int32) → Prop} (h : Q (x - m) (nI 1) (upd it 0 12)) : (rc_X6_work 8).2 2 x 0 (nI 2) num m 0 it Q := by
  refine s_own (s := 0) (dd := 0) (by decide) (by decide) (by decide) (fun _ h => bo_2_2 h) (s_w12 ?_)
  exact h
theorem vm_2_2 {x num m : Int32} {tr : Nat → Int32} {Q : Int32 → Int32 → (Nat → Int32) → Prop} (h : Q (x - m) (nI 1) (upd tr 0 12)) : wp_X8_stealsOf x 0 (nI 2) num m tr Q := by
  try unfold wp_X8_stealsOf
  refine ⟨fun _ => ?_, fun c => absurd c (by decide)⟩
  try unfold lb_X8_stealsOf_15
  refine m_under (k := 2) (a := 3) (by decide) (by decide) ?_
  refine ⟨fun _ => ?_, fun c => absurd (by decide) c⟩
  try unfold lb_X8_stealsOf_34
  refine m_ran (s := 0) (by decide) ?_
  refine ⟨fun _ => ?_, fun c => absurd (by decide) c⟩
  try unfold lb_X8_stealsOf_60
  refine ⟨fun _ => ?_, fun c => absurd c (by decide)⟩
  exact h
theorem vc_2_3 {x num m : Int32} {it : Nat → Int32} {Q : Int32 → Int32 → (Nat → Int32) → Prop} (h : Q ((((x + num) * 2) - (1 - m)) ^^^ (x - m)) (nI 6) (upd (upd (upd (upd (upd (upd it 0 13) 1 30) 2 11) 3 10) 4 12) 5 12)) : (rc_X6_work 8).2 3 x 0 (nI 2) num m 0 it Q := by
  refine s_own (s := 0) (dd := 0) (by decide) (by decide) (by decide) (fun _ h => bo_2_3 h) (s_w13 ?_)
  refine s_own (s := 1) (dd := 1) (by decide) (by decide) (by decide) (fun _ h => bo_2_1 h) (s_w30 ?_)
  refine s_of (s := 2) (dd := 2) (by decide) (by decide) (by decide) (fun _ h => bo_0_1 h) (s_w11 ?_)
  refine s_own (s := 3) (dd := 3) (by decide) (by decide) (by decide) (fun _ h => bo_2_0 h) (s_w10 ?_)
  refine s_own (s := 4) (dd := 2) (by decide) (by decide) (by decide) (fun _ h => bo_2_2 h) (s_w12 ?_)
  refine s_own (s := 5) (dd := 1) (by decide) (by decide) (by decide) (fun _ h => bo_2_2 h) (s_w12 ?_)
  exact h
theorem vm_2_3 {x num m : Int32} {tr : Nat → Int32} {Q : Int32 → Int32 → (Nat → Int32) → Prop} (h : Q ((((x + num) * 2) - (1 - m)) ^^^ (x - m)) (nI 6) (upd (upd (upd (upd (upd (upd tr 0 13) 1 30) 2 11) 3 10) 4 12) 5 12)) : wp_X8_tellsOf x 0 (nI 2) num m tr Q := by
  try unfold wp_X8_tellsOf
  refine ⟨fun _ => ?_, fun c => absurd c (by decide)⟩
  refine ⟨fun _ => ?_, fun c => absurd c (by decide)⟩
  try unfold wp_X8_plainTells
  refine m_ran (s := 0) (by decide) ?_
  try unfold wp_X8_handsOf
  refine ⟨fun _ => ?_, fun c => absurd c (by decide)⟩
  try unfold lb_X8_handsOf_19
  refine m_under (k := 2) (a := 2) (by decide) (by decide) ?_
  refine ⟨fun c => absurd c (by decide), fun _ => ?_⟩
  refine m_ran (s := 1) (by decide) ?_
  try unfold lb_X8_handsOf_38
  refine m_ran (s := 2) (by decide) ?_
  try unfold wp_X8_keepsOf
  refine m_under (k := 2) (a := 1) (by decide) (by decide) ?_
  refine ⟨fun _ => ?_, fun c => absurd (by decide) c⟩
  try unfold lb_X8_keepsOf_19
  refine m_ran (s := 3) (by decide) ?_
  refine ⟨fun _ => ?_, fun c => absurd (by decide) c⟩
  rintro v rfl
  refine ⟨fun c => absurd c (by decide), fun _ => ?_⟩
  try unfold wp_X8_stealsOf
  refine ⟨fun _ => ?_, fun c => absurd c (by decide)⟩
  try unfold lb_X8_stealsOf_15
  refine m_under (k := 2) (a := 3) (by decide) (by decide) ?_
  refine ⟨fun _ => ?_, fun c => absurd (by decide) c⟩
  try unfold lb_X8_stealsOf_34
  refine m_ran (s := 4) (by decide) ?_
  refine ⟨fun _ => ?_, fun c => absurd (by decide) c⟩
  try unfold lb_X8_stealsOf_60
  refine ⟨fun _ => ?_, fun c => absurd c (by decide)⟩
  try unfold wp_X8_stealsOf
  refine ⟨fun _ => ?_, fun c => absurd c (by decide)⟩
  try unfold lb_X8_stealsOf_15
  refine m_under (k := 2) (a := 3) (by decide) (by decide) ?_
  refine ⟨fun _ => ?_, fun c => absurd (by decide) c⟩
  try unfold lb_X8_stealsOf_34
  refine m_ran (s := 5) (by decide) ?_
  refine ⟨fun _ => ?_, fun c => absurd (by decide) c⟩
  try unfold lb_X8_stealsOf_60
  refine ⟨fun _ => ?_, fun c => absurd c (by decide)⟩
  exact h
theorem vc_3_0 {x num m : Int32} {it : Nat → Int32} {Q : Int32 → Int32 → (Nat → Int32) → Prop} (h : Q (x + num) (nI 1) (upd it 0 10)) : (rc_X6_work 8).2 0 x 0 (nI 3) num m 0 it Q := by
  refine s_own (s := 0) (dd := 0) (by decide) (by decide) (by decide) (fun _ h => bo_3_0 h) (s_w10 ?_)
  exact h
theorem vm_3_0 {x num : Int32} {tr : Nat → Int32} {Q : Int32 → Int32 → (Nat → Int32) → Prop} (h : Q (x + num) (nI 1) (upd tr 0 10)) : wp_X8_keepsOf x 0 (nI 3) num tr Q := by
  try unfold wp_X8_keepsOf
  refine m_under (k := 3) (a := 1) (by decide) (by decide) ?_
  refine ⟨fun _ => ?_, fun c => absurd (by decide) c⟩
  try unfold lb_X8_keepsOf_19
  refine m_ran (s := 0) (by decide) ?_
  refine ⟨fun _ => ?_, fun c => absurd (by decide) c⟩
  exact h
theorem vc_3_1 {x num m : Int32} {it : Nat → Int32} {Q : Int32 → Int32 → (Nat → Int32) → Prop} (h : Q ((x + num) * 2) (nI 2) (upd (upd it 0 11) 1 10)) : (rc_X6_work 8).2 1 x 0 (nI 3) num m 0 it Q := by
  refine s_own (s := 0) (dd := 0) (by decide) (by decide) (by decide) (fun _ h => bo_3_1 h) (s_w11 ?_)
  refine s_own (s := 1) (dd := 1) (by decide) (by decide) (by decide) (fun _ h => bo_3_0 h) (s_w10 ?_)
  exact h
theorem vm_3_1 {x num m : Int32} {tr : Nat → Int32} {Q : Int32 → Int32 → (Nat → Int32) → Prop} (h : Q ((x + num) * 2) (nI 2) (upd (upd tr 0 11) 1 10)) : wp_X8_handsOf x 0 (nI 3) num m tr Q := by
  try unfold wp_X8_handsOf
  refine ⟨fun _ => ?_, fun c => absurd c (by decide)⟩
  try unfold lb_X8_handsOf_19
  refine m_under (k := 3) (a := 2) (by decide) (by decide) ?_
  refine ⟨fun _ => ?_, fun c => absurd (by decide) c⟩
  try unfold lb_X8_handsOf_38
  refine m_ran (s := 0) (by decide) ?_
  try unfold wp_X8_keepsOf
  refine m_under (k := 3) (a := 1) (by decide) (by decide) ?_
  refine ⟨fun _ => ?_, fun c => absurd (by decide) c⟩
  try unfold lb_X8_keepsOf_19
  refine m_ran (s := 1) (by decide) ?_
  refine ⟨fun _ => ?_, fun c => absurd (by decide) c⟩
  rintro v rfl
  refine ⟨fun _ => ?_, fun c => absurd (by decide) c⟩
  exact h
theorem vc_3_2 {x num m : Int32} {it : Nat → Int32} {Q : Int32 → Int32 → (Nat → Int32) → Prop} (h : Q (-(x - m)) (nI 2) (upd (upd it 0 40) 1 12)) : (rc_X6_work 8).2 2 x 0 (nI 3) num m 0 it Q := by
  refine s_own (s := 0) (dd := 0) (by decide) (by decide) (by decide) (fun _ h => bo_3_2 h) (s_w40 ?_)
  refine s_of (s := 1) (dd := 1) (by decide) (by decide) (by decide) (fun _ h => bo_0_2 h) (s_w12 ?_)
  exact h
theorem vm_3_2 {x num m : Int32} {tr : Nat → Int32} {Q : Int32 → Int32 → (Nat → Int32) → Prop} (h : Q (-(x - m)) (nI 2) (upd (upd tr 0 40) 1 12)) : wp_X8_stealsOf x 0 (nI 3) num m tr Q := by
  try unfold wp_X8_stealsOf
  refine ⟨fun _ => ?_, fun c => absurd c (by decide)⟩
  try unfold lb_X8_stealsOf_15
  refine m_under (k := 3) (a := 3) (by decide) (by decide) ?_
  refine ⟨fun c => absurd c (by decide), fun _ => ?_⟩
  refine m_ran (s := 0) (by decide) ?_
  try unfold lb_X8_stealsOf_34
  refine m_ran (s := 1) (by decide) ?_
  refine ⟨fun c => absurd c (by decide), fun _ => ?_⟩
  try unfold lb_X8_stealsOf_60
  refine ⟨fun _ => ?_, fun c => absurd c (by decide)⟩
  exact h
theorem vc_3_3 {x num m : Int32} {it : Nat → Int32} {Q : Int32 → Int32 → (Nat → Int32) → Prop} (h : Q (((x + num) * 2) ^^^ (-(x - m))) (nI 5) (upd (upd (upd (upd (upd it 0 13) 1 11) 2 10) 3 40) 4 12)) : (rc_X6_work 8).2 3 x 0 (nI 3) num m 0 it Q := by
  refine s_own (s := 0) (dd := 0) (by decide) (by decide) (by decide) (fun _ h => bo_3_3 h) (s_w13 ?_)
  refine s_own (s := 1) (dd := 1) (by decide) (by decide) (by decide) (fun _ h => bo_3_1 h) (s_w11 ?_)
  refine s_own (s := 2) (dd := 2) (by decide) (by decide) (by decide) (fun _ h => bo_3_0 h) (s_w10 ?_)
  refine s_own (s := 3) (dd := 1) (by decide) (by decide) (by decide) (fun _ h => bo_3_2 h) (s_w40 ?_)
  refine s_of (s := 4) (dd := 2) (by decide) (by decide) (by decide) (fun _ h => bo_0_2 h) (s_w12 ?_)
  exact h
theorem vm_3_3 {x num m : Int32} {tr : Nat → Int32} {Q : Int32 → Int32 → (Nat → Int32) → Prop} (h : Q (((x + num) * 2) ^^^ (-(x - m))) (nI 5) (upd (upd (upd (upd (upd tr 0 13) 1 11) 2 10) 3 40) 4 12)) : wp_X8_tellsOf x 0 (nI 3) num m tr Q := by
  try unfold wp_X8_tellsOf
  refine ⟨fun _ => ?_, fun c => absurd c (by decide)⟩
  refine ⟨fun _ => ?_, fun c => absurd c (by decide)⟩
  try unfold wp_X8_plainTells
  refine m_ran (s := 0) (by decide) ?_
  try unfold wp_X8_handsOf
  refine ⟨fun _ => ?_, fun c => absurd c (by decide)⟩
  try unfold lb_X8_handsOf_19
  refine m_under (k := 3) (a := 2) (by decide) (by decide) ?_
  refine ⟨fun _ => ?_, fun c => absurd (by decide) c⟩
  try unfold lb_X8_handsOf_38
  refine m_ran (s := 1) (by decide) ?_
  try unfold wp_X8_keepsOf
  refine m_under (k := 3) (a := 1) (by decide) (by decide) ?_
  refine ⟨fun _ => ?_, fun c => absurd (by decide) c⟩
  try unfold lb_X8_keepsOf_19
  refine m_ran (s := 2) (by decide) ?_
  refine ⟨fun _ => ?_, fun c => absurd (by decide) c⟩
  rintro v rfl
  refine ⟨fun _ => ?_, fun c => absurd (by decide) c⟩
  try unfold wp_X8_stealsOf
  refine ⟨fun _ => ?_, fun c => absurd c (by decide)⟩
  try unfold lb_X8_stealsOf_15
  refine m_under (k := 3) (a := 3) (by decide) (by decide) ?_
  refine ⟨fun c => absurd c (by decide), fun _ => ?_⟩
  refine m_ran (s := 3) (by decide) ?_
  try unfold lb_X8_stealsOf_34
  refine m_ran (s := 4) (by decide) ?_
  refine ⟨fun c => absurd c (by decide), fun _ => ?_⟩
  try unfold lb_X8_stealsOf_60
  refine ⟨fun _ => ?_, fun c => absurd c (by decide)⟩
  exact h
theorem vc_4_0 {x num m : Int32} {it : Nat → Int32} {Q : Int32 → Int32 → (Nat → Int32) → Prop} (h : Q ((x + num) * 3) (nI 2) (upd (upd it 0 20) 1 10)) : (rc_X6_work 8).2 0 x 0 (nI 4) num m 0 it Q := by
  refine s_own (s := 0) (dd := 0) (by decide) (by decide) (by decide) (fun _ h => bo_4_0 h) (s_w20 ?_)
  refine s_of (s := 1) (dd := 1) (by decide) (by decide) (by decide) (fun _ h => bo_0_0 h) (s_w10 ?_)
  exact h
theorem vm_4_0 {x num : Int32} {tr : Nat → Int32} {Q : Int32 → Int32 → (Nat → Int32) → Prop} (h : Q ((x + num) * 3) (nI 2) (upd (upd tr 0 20) 1 10)) : wp_X8_keepsOf x 0 (nI 4) num tr Q := by
  try unfold wp_X8_keepsOf
  refine m_under (k := 4) (a := 1) (by decide) (by decide) ?_
  refine ⟨fun c => absurd c (by decide), fun _ => ?_⟩
  refine m_ran (s := 0) (by decide) ?_
  try unfold lb_X8_keepsOf_19
  refine m_ran (s := 1) (by decide) ?_
  refine ⟨fun c => absurd c (by decide), fun _ => ?_⟩
  exact h
theorem vc_4_1 {x num m : Int32} {it : Nat → Int32} {Q : Int32 → Int32 → (Nat → Int32) → Prop} (h : Q (((x + num) * 3) * 2) (nI 3) (upd (upd (upd it 0 11) 1 20) 2 10)) : (rc_X6_work 8).2 1 x 0 (nI 4) num m 0 it Q := by
  refine s_own (s := 0) (dd := 0) (by decide) (by decide) (by decide) (fun _ h => bo_4_1 h) (s_w11 ?_)
  refine s_own (s := 1) (dd := 1) (by decide) (by decide) (by decide) (fun _ h => bo_4_0 h) (s_w20 ?_)
  refine s_of (s := 2) (dd := 2) (by decide) (by decide) (by decide) (fun _ h => bo_0_0 h) (s_w10 ?_)
  exact h
theorem vm_4_1 {x num m : Int32} {tr : Nat → Int32} {Q : Int32 → Int32 → (Nat → Int32) → Prop} (h : Q (((x + num) * 3) * 2) (nI 3) (upd (upd (upd tr 0 11) 1 20) 2 10)) : wp_X8_handsOf x 0 (nI 4) num m tr Q := by
  try unfold wp_X8_handsOf
  refine ⟨fun _ => ?_, fun c => absurd c (by decide)⟩
  try unfold lb_X8_handsOf_19
  refine m_under (k := 4) (a := 2) (by decide) (by decide) ?_
  refine ⟨fun _ => ?_, fun c => absurd (by decide) c⟩
  try unfold lb_X8_handsOf_38
  refine m_ran (s := 0) (by decide) ?_
  try unfold wp_X8_keepsOf
  refine m_under (k := 4) (a := 1) (by decide) (by decide) ?_
  refine ⟨fun c => absurd c (by decide), fun _ => ?_⟩
  refine m_ran (s := 1) (by decide) ?_
  try unfold lb_X8_keepsOf_19
  refine m_ran (s := 2) (by decide) ?_
  refine ⟨fun c => absurd c (by decide), fun _ => ?_⟩
  rintro v rfl
  refine ⟨fun _ => ?_, fun c => absurd (by decide) c⟩
  exact h
theorem vc_4_2 {x num m : Int32} {it : Nat → Int32} {Q : Int32 → Int32 → (Nat → Int32) → Prop} (h : Q (x - m) (nI 1) (upd it 0 12)) : (rc_X6_work 8).2 2 x 0 (nI 4) num m 0 it Q := by
  refine s_own (s := 0) (dd := 0) (by decide) (by decide) (by decide) (fun _ h => bo_4_2 h) (s_w12 ?_)
  exact h
theorem vm_4_2 {x num m : Int32} {tr : Nat → Int32} {Q : Int32 → Int32 → (Nat → Int32) → Prop} (h : Q (x - m) (nI 1) (upd tr 0 12)) : wp_X8_stealsOf x 0 (nI 4) num m tr Q := by
  try unfold wp_X8_stealsOf
  refine ⟨fun _ => ?_, fun c => absurd c (by decide)⟩
  try unfold lb_X8_stealsOf_15
  refine m_under (k := 4) (a := 3) (by decide) (by decide) ?_
  refine ⟨fun _ => ?_, fun c => absurd (by decide) c⟩
  try unfold lb_X8_stealsOf_34
  refine m_ran (s := 0) (by decide) ?_
  refine ⟨fun _ => ?_, fun c => absurd (by decide) c⟩
  try unfold lb_X8_stealsOf_60
  refine ⟨fun _ => ?_, fun c => absurd c (by decide)⟩
  exact h
theorem vc_4_3 {x num m : Int32} {it : Nat → Int32} {Q : Int32 → Int32 → (Nat → Int32) → Prop} (h : Q (((((x + num) * 3) * 2) ^^^ (x - m)) - ((2 + num) * 3)) (nI 8) (upd (upd (upd (upd (upd (upd (upd (upd it 0 50) 1 13) 2 11) 3 20) 4 10) 5 12) 6 20) 7 10)) : (rc_X6_work 8).2 3 x 0 (nI 4) num m 0 it Q := by
  refine s_own (s := 0) (dd := 0) (by decide) (by decide) (by decide) (fun _ h => bo_4_3 h) (s_w50 ?_)
  refine s_of (s := 1) (dd := 1) (by decide) (by decide) (by decide) (fun _ h => bo_1_3 h) (s_w13 ?_)
  refine s_own (s := 2) (dd := 2) (by decide) (by decide) (by decide) (fun _ h => bo_4_1 h) (s_w11 ?_)
  refine s_own (s := 3) (dd := 3) (by decide) (by decide) (by decide) (fun _ h => bo_4_0 h) (s_w20 ?_)
  refine s_of (s := 4) (dd := 4) (by decide) (by decide) (by decide) (fun _ h => bo_0_0 h) (s_w10 ?_)
  refine s_own (s := 5) (dd := 2) (by decide) (by decide) (by decide) (fun _ h => bo_4_2 h) (s_w12 ?_)
  refine s_own (s := 6) (dd := 1) (by decide) (by decide) (by decide) (fun _ h => bo_4_0 h) (s_w20 ?_)
  refine s_of (s := 7) (dd := 2) (by decide) (by decide) (by decide) (fun _ h => bo_0_0 h) (s_w10 ?_)
  exact h
theorem vm_4_3 {x num m : Int32} {tr : Nat → Int32} {Q : Int32 → Int32 → (Nat → Int32) → Prop} (h : Q (((((x + num) * 3) * 2) ^^^ (x - m)) - ((2 + num) * 3)) (nI 8) (upd (upd (upd (upd (upd (upd (upd (upd tr 0 50) 1 13) 2 11) 3 20) 4 10) 5 12) 6 20) 7 10)) : wp_X8_tellsOf x 0 (nI 4) num m tr Q := by
  try unfold wp_X8_tellsOf
  refine ⟨fun _ => ?_, fun c => absurd c (by decide)⟩
  refine ⟨fun c => absurd rfl c, fun _ => ?_⟩
  refine m_ran (s := 0) (by decide) ?_
  try unfold wp_X8_plainTells
  refine m_ran (s := 1) (by decide) ?_
  try unfold wp_X8_handsOf
  refine ⟨fun _ => ?_, fun c => absurd c (by decide)⟩
  try unfold lb_X8_handsOf_19
  refine m_under (k := 4) (a := 2) (by decide) (by decide) ?_
  refine ⟨fun _ => ?_, fun c => absurd (by decide) c⟩
  try unfold lb_X8_handsOf_38
  refine m_ran (s := 2) (by decide) ?_
  try unfold wp_X8_keepsOf
  refine m_under (k := 4) (a := 1) (by decide) (by decide) ?_
  refine ⟨fun c => absurd c (by decide), fun _ => ?_⟩
  refine m_ran (s := 3) (by decide) ?_
  try unfold lb_X8_keepsOf_19
  refine m_ran (s := 4) (by decide) ?_
  refine ⟨fun c => absurd c (by decide), fun _ => ?_⟩
  rintro v rfl
  refine ⟨fun _ => ?_, fun c => absurd (by decide) c⟩
  try unfold wp_X8_stealsOf
  refine ⟨fun _ => ?_, fun c => absurd c (by decide)⟩
  try unfold lb_X8_stealsOf_15
  refine m_under (k := 4) (a := 3) (by decide) (by decide) ?_
  refine ⟨fun _ => ?_, fun c => absurd (by decide) c⟩
  try unfold lb_X8_stealsOf_34
  refine m_ran (s := 5) (by decide) ?_
  refine ⟨fun _ => ?_, fun c => absurd (by decide) c⟩
  try unfold lb_X8_stealsOf_60
  refine ⟨fun _ => ?_, fun c => absurd c (by decide)⟩
  try unfold wp_X8_keepsOf
  refine m_under (k := 4) (a := 1) (by decide) (by decide) ?_
  refine ⟨fun c => absurd c (by decide), fun _ => ?_⟩
  refine m_ran (s := 6) (by decide) ?_
  try unfold lb_X8_keepsOf_19
  refine m_ran (s := 7) (by decide) ?_
  refine ⟨fun c => absurd c (by decide), fun _ => ?_⟩
  exact h
theorem vc_5_0 {x num m : Int32} {it : Nat → Int32} {Q : Int32 → Int32 → (Nat → Int32) → Prop} (h : Q (x + num) (nI 1) (upd it 0 10)) : (rc_X6_work 8).2 0 x 0 (nI 5) num m 0 it Q := by
  refine s_own (s := 0) (dd := 0) (by decide) (by decide) (by decide) (fun _ h => bo_5_0 h) (s_w10 ?_)
  exact h
theorem vm_5_0 {x num : Int32} {tr : Nat → Int32} {Q : Int32 → Int32 → (Nat → Int32) → Prop} (h : Q (x + num) (nI 1) (upd tr 0 10)) : wp_X8_keepsOf x 0 (nI 5) num tr Q := by
  try unfold wp_X8_keepsOf
  refine m_under (k := 5) (a := 1) (by decide) (by decide) ?_
  refine ⟨fun _ => ?_, fun c => absurd (by decide) c⟩
  try unfold lb_X8_keepsOf_19
  refine m_ran (s := 0) (by decide) ?_
  refine ⟨fun _ => ?_, fun c => absurd (by decide) c⟩
  exact h
theorem vc_5_1 {x num m : Int32} {it : Nat → Int32} {Q : Int32 → Int32 → (Nat → Int32) → Prop} (h : Q ((((x + 1) + num) * 2) - (1 - m)) (nI 5) (upd (upd (upd (upd (upd it 0 60) 1 30) 2 11) 3 10) 4 12)) : (rc_X6_work 8).2 1 x 0 (nI 5) num m 0 it Q := by
  refine s_own (s := 0) (dd := 0) (by decide) (by decide) (by decide) (fun _ h => bo_5_1 h) (s_w60 ?_)
  refine s_of (s := 1) (dd := 1) (by decide) (by decide) (by decide) (fun _ h => bo_2_1 h) (s_w30 ?_)
  refine s_of (s := 2) (dd := 2) (by decide) (by decide) (by decide) (fun _ h => bo_0_1 h) (s_w11 ?_)
  refine s_own (s := 3) (dd := 3) (by decide) (by decide) (by decide) (fun _ h => bo_5_0 h) (s_w10 ?_)
  refine s_own (s := 4) (dd := 2) (by decide) (by decide) (by decide) (fun _ h => bo_5_2 h) (s_w12 ?_)
  exact h
theorem vm_5_1 {x num m : Int32} {tr : Nat → Int32} {Q : Int32 → Int32 → (Nat → Int32) → Prop} (h : Q ((((x + 1) + num) * 2) - (1 - m)) (nI 5) (upd (upd (upd (upd (upd tr 0 60) 1 30) 2 11) 3 10) 4 12)) : wp_X8_handsOf x 0 (nI 5) num m tr Q := by
  try unfold wp_X8_handsOf
  refine ⟨fun c => absurd rfl c, fun _ => ?_⟩
  refine m_ran (s := 0) (by decide) ?_
  try unfold lb_X8_handsOf_19
  refine m_under (k := 5) (a := 2) (by decide) (by decide) ?_
  refine ⟨fun c => absurd c (by decide), fun _ => ?_⟩
  refine m_ran (s := 1) (by decide) ?_
  try unfold lb_X8_handsOf_38
  refine m_ran (s := 2) (by decide) ?_
  try unfold wp_X8_keepsOf
  refine m_under (k := 5) (a := 1) (by decide) (by decide) ?_
  refine ⟨fun _ => ?_, fun c => absurd (by decide) c⟩
  try unfold lb_X8_keepsOf_19
  refine m_ran (s := 3) (by decide) ?_
  refine ⟨fun _ => ?_, fun c => absurd (by decide) c⟩
  rintro v rfl
  refine ⟨fun c => absurd c (by decide), fun _ => ?_⟩
  try unfold wp_X8_stealsOf
  refine ⟨fun _ => ?_, fun c => absurd c (by decide)⟩
  try unfold lb_X8_stealsOf_15
  refine m_under (k := 5) (a := 3) (by decide) (by decide) ?_
  refine ⟨fun _ => ?_, fun c => absurd (by decide) c⟩
  try unfold lb_X8_stealsOf_34
  refine m_ran (s := 4) (by decide) ?_
  refine ⟨fun _ => ?_, fun c => absurd (by decide) c⟩
  try unfold lb_X8_stealsOf_60
  refine ⟨fun _ => ?_, fun c => absurd c (by decide)⟩
  exact h
theorem vc_5_2 {x num m : Int32} {it : Nat → Int32} {Q : Int32 → Int32 → (Nat → Int32) → Prop} (h : Q (x - m) (nI 1) (upd it 0 12)) : (rc_X6_work 8).2 2 x 0 (nI 5) num m 0 it Q := by
  refine s_own (s := 0) (dd := 0) (by decide) (by decide) (by decide) (fun _ h => bo_5_2 h) (s_w12 ?_)
  exact h
theorem vm_5_2 {x num m : Int32} {tr : Nat → Int32} {Q : Int32 → Int32 → (Nat → Int32) → Prop} (h : Q (x - m) (nI 1) (upd tr 0 12)) : wp_X8_stealsOf x 0 (nI 5) num m tr Q := by
  try unfold wp_X8_stealsOf
  refine ⟨fun _ => ?_, fun c => absurd c (by decide)⟩
  try unfold lb_X8_stealsOf_15
  refine m_under (k := 5) (a := 3) (by decide) (by decide) ?_
  refine ⟨fun _ => ?_, fun c => absurd (by decide) c⟩
  try unfold lb_X8_stealsOf_34
  refine m_ran (s := 0) (by decide) ?_
  refine ⟨fun _ => ?_, fun c => absurd (by decide) c⟩
  try unfold lb_X8_stealsOf_60
  refine ⟨fun _ => ?_, fun c => absurd c (by decide)⟩
  exact h
theorem vc_5_3 {x num m : Int32} {it : Nat → Int32} {Q : Int32 → Int32 → (Nat → Int32) → Prop} (h : Q (((((x + 1) + num) * 2) - (1 - m)) ^^^ (x - m)) (nI 7) (upd (upd (upd (upd (upd (upd (upd it 0 13) 1 60) 2 30) 3 11) 4 10) 5 12) 6 12)) : (rc_X6_work 8).2 3 x 0 (nI 5) num m 0 it Q := by
  refine s_own (s := 0) (dd := 0) (by decide) (by decide) (by decide) (fun _ h => bo_5_3 h) (s_w13 ?_)
  refine s_own (s := 1) (dd := 1) (by decide) (by decide) (by decide) (fun _ h => bo_5_1 h) (s_w60 ?_)
  refine s_of (s := 2) (dd := 2) (by decide) (by decide) (by decide) (fun _ h => bo_2_1 h) (s_w30 ?_)
  refine s_of (s := 3) (dd := 3) (by decide) (by decide) (by decide) (fun _ h => bo_0_1 h) (s_w11 ?_)
  refine s_own (s := 4) (dd := 4) (by decide) (by decide) (by decide) (fun _ h => bo_5_0 h) (s_w10 ?_)
  refine s_own (s := 5) (dd := 3) (by decide) (by decide) (by decide) (fun _ h => bo_5_2 h) (s_w12 ?_)
  refine s_own (s := 6) (dd := 1) (by decide) (by decide) (by decide) (fun _ h => bo_5_2 h) (s_w12 ?_)
  exact h
theorem vm_5_3 {x num m : Int32} {tr : Nat → Int32} {Q : Int32 → Int32 → (Nat → Int32) → Prop} (h : Q (((((x + 1) + num) * 2) - (1 - m)) ^^^ (x - m)) (nI 7) (upd (upd (upd (upd (upd (upd (upd tr 0 13) 1 60) 2 30) 3 11) 4 10) 5 12) 6 12)) : wp_X8_tellsOf x 0 (nI 5) num m tr Q := by
  try unfold wp_X8_tellsOf
  refine ⟨fun _ => ?_, fun c => absurd c (by decide)⟩
  refine ⟨fun _ => ?_, fun c => absurd c (by decide)⟩
  try unfold wp_X8_plainTells
  refine m_ran (s := 0) (by decide) ?_
  try unfold wp_X8_handsOf
  refine ⟨fun c => absurd rfl c, fun _ => ?_⟩
  refine m_ran (s := 1) (by decide) ?_
  try unfold lb_X8_handsOf_19
  refine m_under (k := 5) (a := 2) (by decide) (by decide) ?_
  refine ⟨fun c => absurd c (by decide), fun _ => ?_⟩
  refine m_ran (s := 2) (by decide) ?_
  try unfold lb_X8_handsOf_38
  refine m_ran (s := 3) (by decide) ?_
  try unfold wp_X8_keepsOf
  refine m_under (k := 5) (a := 1) (by decide) (by decide) ?_
  refine ⟨fun _ => ?_, fun c => absurd (by decide) c⟩
  try unfold lb_X8_keepsOf_19
  refine m_ran (s := 4) (by decide) ?_
  refine ⟨fun _ => ?_, fun c => absurd (by decide) c⟩
  rintro v rfl
  refine ⟨fun c => absurd c (by decide), fun _ => ?_⟩
  try unfold wp_X8_stealsOf
  refine ⟨fun _ => ?_, fun c => absurd c (by decide)⟩
  try unfold lb_X8_stealsOf_15
  refine m_under (k := 5) (a := 3) (by decide) (by decide) ?_
  refine ⟨fun _ => ?_, fun c => absurd (by decide) c⟩
  try unfold lb_X8_stealsOf_34
  refine m_ran (s := 5) (by decide) ?_
  refine ⟨fun _ => ?_, fun c => absurd (by decide) c⟩
  try unfold lb_X8_stealsOf_60
  refine ⟨fun _ => ?_, fun c => absurd c (by decide)⟩
  try unfold wp_X8_stealsOf
  refine ⟨fun _ => ?_, fun c => absurd c (by decide)⟩
  try unfold lb_X8_stealsOf_15
  refine m_under (k := 5) (a := 3) (by decide) (by decide) ?_
  refine ⟨fun _ => ?_, fun c => absurd (by decide) c⟩
  try unfold lb_X8_stealsOf_34
  refine m_ran (s := 6) (by decide) ?_
  refine ⟨fun _ => ?_, fun c => absurd (by decide) c⟩
  try unfold lb_X8_stealsOf_60
  refine ⟨fun _ => ?_, fun c => absurd c (by decide)⟩
  exact h
theorem vc_6_0 {x num m : Int32} {it : Nat → Int32} {Q : Int32 → Int32 → (Nat → Int32) → Prop} (h : Q (x + num) (nI 1) (upd it 0 10)) : (rc_X6_work 8).2 0 x 0 (nI 6) num m 0 it Q := by
  refine s_own (s := 0) (dd := 0) (by decide) (by decide) (by decide) (fun _ h => bo_6_0 h) (s_w10 ?_)
  exact h
theorem vm_6_0 {x num : Int32} {tr : Nat → Int32} {Q : Int32 → Int32 → (Nat → Int32) → Prop} (h : Q (x + num) (nI 1) (upd tr 0 10)) : wp_X8_keepsOf x 0 (nI 6) num tr Q := by
  try unfold wp_X8_keepsOf
  refine m_under (k := 6) (a := 1) (by decide) (by decide) ?_
  refine ⟨fun _ => ?_, fun c => absurd (by decide) c⟩
  try unfold lb_X8_keepsOf_19
  refine m_ran (s := 0) (by decide) ?_
  refine ⟨fun _ => ?_, fun c => absurd (by decide) c⟩
  exact h
theorem vc_6_1 {x num m : Int32} {it : Nat → Int32} {Q : Int32 → Int32 → (Nat → Int32) → Prop} (h : Q ((x + num) * 2) (nI 2) (upd (upd it 0 11) 1 10)) : (rc_X6_work 8).2 1 x 0 (nI 6) num m 0 it Q := by
  refine s_own (s := 0) (dd := 0) (by decide) (by decide) (by decide) (fun _ h => bo_6_1 h) (s_w11 ?_)
  refine s_own (s := 1) (dd := 1) (by decide) (by decide) (by decide) (fun _ h => bo_6_0 h) (s_w10 ?_)
  exact h
theorem vm_6_1 {x num m : Int32} {tr : Nat → Int32} {Q : Int32 → Int32 → (Nat → Int32) → Prop} (h : Q ((x + num) * 2) (nI 2) (upd (upd tr 0 11) 1 10)) : wp_X8_handsOf x 0 (nI 6) num m tr Q := by
  try unfold wp_X8_handsOf
  refine ⟨fun _ => ?_, fun c => absurd c (by decide)⟩
  try unfold lb_X8_handsOf_19
  refine m_under (k := 6) (a := 2) (by decide) (by decide) ?_
  refine ⟨fun _ => ?_, fun c => absurd (by decide) c⟩
  try unfold lb_X8_handsOf_38
  refine m_ran (s := 0) (by decide) ?_
  try unfold wp_X8_keepsOf
  refine m_under (k := 6) (a := 1) (by decide) (by decide) ?_
  refine ⟨fun _ => ?_, fun c => absurd (by decide) c⟩
  try unfold lb_X8_keepsOf_19
  refine m_ran (s := 1) (by decide) ?_
  refine ⟨fun _ => ?_, fun c => absurd (by decide) c⟩
  rintro v rfl
  refine ⟨fun _ => ?_, fun c => absurd (by decide) c⟩
  exact h
theorem vc_6_2 {x num m : Int32} {it : Nat → Int32} {Q : Int32 → Int32 → (Nat → Int32) → Prop} (h : Q ((-(x - m)) ^^^ num) (nI 3) (upd (upd (upd it 0 70) 1 40) 2 12)) : (rc_X6_work 8).2 2 x 0 (nI 6) num m 0 it Q := by
  refine s_own (s := 0) (dd := 0) (by decide) (by decide) (by decide) (fun _ h => bo_6_2 h) (s_w70 ?_)
  refine s_of (s := 1) (dd := 1) (by decide) (by decide) (by decide) (fun _ h => bo_3_2 h) (s_w40 ?_)
  refine s_of (s := 2) (dd := 2) (by decide) (by decide) (by decide) (fun _ h => bo_0_2 h) (s_w12 ?_)
  exact h
theorem vm_6_2 {x num m : Int32} {tr : Nat → Int32} {Q : Int32 → Int32 → (Nat → Int32) → Prop} (h : Q ((-(x - m)) ^^^ num) (nI 3) (upd (upd (upd tr 0 70) 1 40) 2 12)) : wp_X8_stealsOf x 0 (nI 6) num m tr Q := by
  try unfold wp_X8_stealsOf
  refine ⟨fun c => absurd rfl c, fun _ => ?_⟩
  refine m_ran (s := 0) (by decide) ?_
  try unfold lb_X8_stealsOf_15
  refine m_under (k := 6) (a := 3) (by decide) (by decide) ?_
  refine ⟨fun c => absurd c (by decide), fun _ => ?_⟩
  refine m_ran (s := 1) (by decide) ?_
  try unfold lb_X8_stealsOf_34
  refine m_ran (s := 2) (by decide) ?_
  refine ⟨fun c => absurd c (by decide), fun _ => ?_⟩
  try unfold lb_X8_stealsOf_60
  refine ⟨fun c => absurd rfl c, fun _ => ?_⟩
  exact h
theorem vc_6_3 {x num m : Int32} {it : Nat → Int32} {Q : Int32 → Int32 → (Nat → Int32) → Prop} (h : Q (((x + num) * 2) - (((x + num) * 2) ^^^ ((-(x - m)) ^^^ num))) (nI 9) (upd (upd (upd (upd (upd (upd (upd (upd (upd it 0 71) 1 11) 2 10) 3 13) 4 11) 5 10) 6 70) 7 40) 8 12)) : (rc_X6_work 8).2 3 x 0 (nI 6) num m 0 it Q := by
  refine s_own (s := 0) (dd := 0) (by decide) (by decide) (by decide) (fun _ h => bo_6_3 h) (s_w71 ?_)
  refine s_own (s := 1) (dd := 1) (by decide) (by decide) (by decide) (fun _ h => bo_6_1 h) (s_w11 ?_)
  refine s_own (s := 2) (dd := 2) (by decide) (by decide) (by decide) (fun _ h => bo_6_0 h) (s_w10 ?_)
  refine s_of (s := 3) (dd := 1) (by decide) (by decide) (by decide) (fun _ h => bo_3_3 h) (s_w13 ?_)
  refine s_own (s := 4) (dd := 2) (by decide) (by decide) (by decide) (fun _ h => bo_6_1 h) (s_w11 ?_)
  refine s_own (s := 5) (dd := 3) (by decide) (by decide) (by decide) (fun _ h => bo_6_0 h) (s_w10 ?_)
  refine s_own (s := 6) (dd := 2) (by decide) (by decide) (by decide) (fun _ h => bo_6_2 h) (s_w70 ?_)
  refine s_of (s := 7) (dd := 3) (by decide) (by decide) (by decide) (fun _ h => bo_3_2 h) (s_w40 ?_)
  refine s_of (s := 8) (dd := 4) (by decide) (by decide) (by decide) (fun _ h => bo_0_2 h) (s_w12 ?_)
  exact h
theorem vm_6_3 {x num m : Int32} {tr : Nat → Int32} {Q : Int32 → Int32 → (Nat → Int32) → Prop} (h : Q (((x + num) * 2) - (((x + num) * 2) ^^^ ((-(x - m)) ^^^ num))) (nI 9) (upd (upd (upd (upd (upd (upd (upd (upd (upd tr 0 71) 1 11) 2 10) 3 13) 4 11) 5 10) 6 70) 7 40) 8 12)) : wp_X8_tellsOf x 0 (nI 6) num m tr Q := by
  try unfold wp_X8_tellsOf
  refine ⟨fun c => absurd rfl c, fun _ => ?_⟩
  refine m_ran (s := 0) (by decide) ?_
  try unfold wp_X8_handsOf
  refine ⟨fun _ => ?_, fun c => absurd c (by decide)⟩
  try unfold lb_X8_handsOf_19
  refine m_under (k := 6) (a := 2) (by decide) (by decide) ?_
  refine ⟨fun _ => ?_, fun c => absurd (by decide) c⟩
  try unfold lb_X8_handsOf_38
  refine m_ran (s := 1) (by decide) ?_
  try unfold wp_X8_keepsOf
  refine m_under (k := 6) (a := 1) (by decide) (by decide) ?_
  refine ⟨fun _ => ?_, fun c => absurd (by decide) c⟩
  try unfold lb_X8_keepsOf_19
  refine m_ran (s := 2) (by decide) ?_
  refine ⟨fun _ => ?_, fun c => absurd (by decide) c⟩
  rintro v rfl
  refine ⟨fun _ => ?_, fun c => absurd (by decide) c⟩
  try unfold wp_X8_plainTells
  refine m_ran (s := 3) (by decide) ?_
  try unfold wp_X8_handsOf
  refine ⟨fun _ => ?_, fun c => absurd c (by decide)⟩
  try unfold lb_X8_handsOf_19
  refine m_under (k := 6) (a := 2) (by decide) (by decide) ?_
  refine ⟨fun _ => ?_, fun c => absurd (by decide) c⟩
  try unfold lb_X8_handsOf_38
  refine m_ran (s := 4) (by decide) ?_
  try unfold wp_X8_keepsOf
  refine m_under (k := 6) (a := 1) (by decide) (by decide) ?_
  refine ⟨fun _ => ?_, fun c => absurd (by decide) c⟩
  try unfold lb_X8_keepsOf_19
  refine m_ran (s := 5) (by decide) ?_
  refine ⟨fun _ => ?_, fun c => absurd (by decide) c⟩
  rintro v rfl
  refine ⟨fun _ => ?_, fun c => absurd (by decide) c⟩
  try unfold wp_X8_stealsOf
  refine ⟨fun c => absurd rfl c, fun _ => ?_⟩
  refine m_ran (s := 6) (by decide) ?_
  try unfold lb_X8_stealsOf_15
  refine m_under (k := 6) (a := 3) (by decide) (by decide) ?_
  refine ⟨fun c => absurd c (by decide), fun _ => ?_⟩
  refine m_ran (s := 7) (by decide) ?_
  try unfold lb_X8_stealsOf_34
  refine m_ran (s := 8) (by decide) ?_
  refine ⟨fun c => absurd c (by decide), fun _ => ?_⟩
  try unfold lb_X8_stealsOf_60
  refine ⟨fun c => absurd rfl c, fun _ => ?_⟩
  exact h
set_option maxHeartbeats 4000000 in
set_option maxRecDepth 100000 in
theorem op_voice {ca : Nat → Nat → Int32} {ci : Nat → Int32} {ma : Nat → Nat → Int32} {mi : Nat → Int32} (h : Inv ca ci ma mi) (s1 : Int32) (s2 : Int32) (s3 : Int32) : wp_X7_voice s1 s2 s3 (ci 4) (ca 49) (ca 6) (ca 7) (ci 24) (ci 25) (ci 26) (ci 27) (ca 44) (fun r1 c0 c1 c2 c3 c4 c5 => wp_X8_voice s1 s2 s3 (mi 6) (mi 7) (mi 8) (mi 9) (ma 0) (ma 3) (ma 11) (fun r2 m0 m1 m2 m3 m4 m5 => r1 = r2 ∧ Inv (va_up (va_up ca 49 c0) 44 c5) (va_up (va_up (va_up (va_up ci 24 c1) 25 c2) 26 c3) 27 c4) (va_up (va_up ma 3 m4) 11 m5) (va_up (va_up (va_up (va_up mi 6 m0) 7 m1) 8 m2) 9 m3))) := by
  obtain ⟨tl, hkp, him, re, rv, r0, r1, r2, r3⟩ := h
  obtain ⟨n, sn, ln, F, tn, tk, nv, un, uk, uv, pn, wn, ⟨hn, hsn, hln, ok, wT, wU, hpn, hwn⟩, ⟨tc1, tc2, tc3, cf, cT, cU, tc7, tc8⟩, tm, mc, dc⟩ := id tl
  obtain ⟨tm1, tm2, tm3, tm4, tmT, tmU, tm7, tm8, tm9, tm10⟩ := id tm
  unfold wp_X7_voice wp_X8_voice lb_X7_voice_17 lb_X8_voice_17
  rw [tc1]
  by_cases c : (0 : Int32) ≤ s1 ∧ s1 ≤ nI n - 1
  · by_cases d : (0 : Int32) ≤ s2 ∧ s2 ≤ 3
    · simp only [e_isSoul, e_isSoul8, tm1.1, e_within, e_within8, b2i_t c, b2i_t d, z10, false_implies, true_implies, not_true_eq_false, not_false_eq_true, true_and, and_true, forall_eq]
      obtain ⟨i, hi, rfl⟩ := soul_of hn c
      obtain ⟨a, ha, rfl⟩ := sm_of (n := 3) (by decide) d
      refine ⟨i8 hn hi, i8 hn hi, ?_⟩
      simp only [c8 hn hi, e_sI0 (show i < 8 by omega), e_sI1 (show i < 8 by omega)]
      rw [(cf i hi).1, tm1.2 i hi 0 (by decide), (cf i hi).2.1, tm1.2 i hi 1 (by decide)]
      obtain ⟨k, hk, ek⟩ := (ok i hi).1
      rw [ek]
      unfold wp_X6_speak wp_X4_clear
      match k, hk, a, ha with
      | 0, _, 0, _ =>
        refine vc_0_0 ?_
        refine ⟨fun c => absurd rfl c, fun _ => ?_⟩
        exact vm_0_0 ⟨rfl, tl, hkp, him, re, ⟨rfl, 1, by decide, rfl, rv_up (fun i hi => absurd hi (Nat.not_lt_zero i))⟩, r0, r1, r2, r3⟩
      | 0, _, 1, _ =>
        refine vc_0_1 ?_
        refine ⟨fun _ => ⟨fun c => absurd rfl c, fun _ => ?_⟩, fun c => absurd c (by decide)⟩
        exact vm_0_1 ⟨rfl, tl, hkp, him, re, ⟨rfl, 2, by decide, rfl, rv_up (rv_up (fun i hi => absurd hi (Nat.not_lt_zero i)))⟩, r0, r1, r2, r3⟩
      | 0, _, 2, _ =>
        refine vc_0_2 ?_
        refine ⟨fun _ => ⟨fun _ => ⟨fun c => absurd rfl c, fun _ => ?_⟩, fun c => absurd c (by decide)⟩, fun c => absurd c (by decide)⟩
        exact vm_0_2 ⟨rfl, tl, hkp, him, re, ⟨rfl, 1, by decide, rfl, rv_up (fun i hi => absurd hi (Nat.not_lt_zero i))⟩, r0, r1, r2, r3⟩
      | 0, _, 3, _ =>
        refine vc_0_3 ?_
        refine ⟨fun _ => ⟨fun _ => ⟨fun _ => ?_, fun c => absurd c (by decide)⟩, fun c => absurd c (by decide)⟩, fun c => absurd c (by decide)⟩
        exact vm_0_3 ⟨rfl, tl, hkp, him, re, ⟨rfl, 4, by decide, rfl, rv_up (rv_up (rv_up (rv_up (fun i hi => absurd hi (Nat.not_lt_zero i)))))⟩, r0, r1, r2, r3⟩
      | 1, _, 0, _ =>
        refine vc_1_0 ?_
        refine ⟨fun c => absurd rfl c, fun _ => ?_⟩
        exact vm_1_0 ⟨rfl, tl, hkp, him, re, ⟨rfl, 2, by decide, rfl, rv_up (rv_up (fun i hi => absurd hi (Nat.not_lt_zero i)))⟩, r0, r1, r2, r3⟩
      | 1, _, 1, _ =>
        refine vc_1_1 ?_
        refine ⟨fun _ => ⟨fun c => absurd rfl c, fun _ => ?_⟩, fun c => absurd c (by decide)⟩
        exact vm_1_1 ⟨rfl, tl, hkp, him, re, ⟨rfl, 3, by decide, rfl, rv_up (rv_up (rv_up (fun i hi => absurd hi (Nat.not_lt_zero i))))⟩, r0, r1, r2, r3⟩
      | 1, _, 2, _ =>
        refine vc_1_2 ?_
        refine ⟨fun _ => ⟨fun _ => ⟨fun c => absurd rfl c, fun _ => ?_⟩, fun c => absurd c (by decide)⟩, fun c => absurd c (by decide)⟩
        exact vm_1_2 ⟨rfl, tl, hkp, him, re, ⟨rfl, 1, by decide, rfl, rv_up (fun i hi => absurd hi (Nat.not_lt_zero i))⟩, r0, r1, r2, r3⟩
      | 1, _, 3, _ =>
        refine vc_1_3 ?_
        refine ⟨fun _ => ⟨fun _ => ⟨fun _ => ?_, fun c => absurd c (by decide)⟩, fun c => absurd c (by decide)⟩, fun c => absurd c (by decide)⟩
        exact vm_1_3 ⟨rfl, tl, hkp, him, re, ⟨rfl, 5, by decide, rfl, rv_up (rv_up (rv_up (rv_up (rv_up (fun i hi => absurd hi (Nat.not_lt_zero i))))))⟩, r0, r1, r2, r3⟩
      | 2, _, 0, _ =>
        refine vc_2_0 ?_
        refine ⟨fun c => absurd rfl c, fun _ => ?_⟩
        exact vm_2_0 ⟨rfl, tl, hkp, him, re, ⟨rfl, 1, by decide, rfl, rv_up (fun i hi => absurd hi (Nat.not_lt_zero i))⟩, r0, r1, r2, r3⟩
      | 2, _, 1, _ =>
        refine vc_2_1 ?_
        refine ⟨fun _ => ⟨fun c => absurd rfl c, fun _ => ?_⟩, fun c => absurd c (by decide)⟩
        exact vm_2_1 ⟨rfl, tl, hkp, him, re, ⟨rfl, 4, by decide, rfl, rv_up (rv_up (rv_up (rv_up (fun i hi => absurd hi (Nat.not_lt_zero i)))))⟩, r0, r1, r2, r3⟩
      | 2, _, 2, _ =>
        refine vc_2_2 ?_
        refine ⟨fun _ => ⟨fun _ => ⟨fun c => absurd rfl c, fun _ => ?_⟩, fun c => absurd c (by decide)⟩, fun c => absurd c (by decide)⟩
        exact vm_2_2 ⟨rfl, tl, hkp, him, re, ⟨rfl, 1, by decide, rfl, rv_up (fun i hi => absurd hi (Nat.not_lt_zero i))⟩, r0, r1, r2, r3⟩
      | 2, _, 3, _ =>
        refine vc_2_3 ?_
        refine ⟨fun _ => ⟨fun _ => ⟨fun _ => ?_, fun c => absurd c (by decide)⟩, fun c => absurd c (by decide)⟩, fun c => absurd c (by decide)⟩
        exact vm_2_3 ⟨rfl, tl, hkp, him, re, ⟨rfl, 6, by decide, rfl, rv_up (rv_up (rv_up (rv_up (rv_up (rv_up (fun i hi => absurd hi (Nat.not_lt_zero i)))))))⟩, r0, r1, r2, r3⟩
      | 3, _, 0, _ =>
        refine vc_3_0 ?_
        refine ⟨fun c => absurd rfl c, fun _ => ?_⟩
        exact vm_3_0 ⟨rfl, tl, hkp, him, re, ⟨rfl, 1, by decide, rfl, rv_up (fun i hi => absurd hi (Nat.not_lt_zero i))⟩, r0, r1, r2, r3⟩
      | 3, _, 1, _ =>
        refine vc_3_1 ?_
        refine ⟨fun _ => ⟨fun c => absurd rfl c, fun _ => ?_⟩, fun c => absurd c (by decide)⟩
        exact vm_3_1 ⟨rfl, tl, hkp, him, re, ⟨rfl, 2, by decide, rfl, rv_up (rv_up (fun i hi => absurd hi (Nat.not_lt_zero i)))⟩, r0, r1, r2, r3⟩
      | 3, _, 2, _ =>
        refine vc_3_2 ?_
        refine ⟨fun _ => ⟨fun _ => ⟨fun c => absurd rfl c, fun _ => ?_⟩, fun c => absurd c (by decide)⟩, fun c => absurd c (by decide)⟩
        exact vm_3_2 ⟨rfl, tl, hkp, him, re, ⟨rfl, 2, by decide, rfl, rv_up (rv_up (fun i hi => absurd hi (Nat.not_lt_zero i)))⟩, r0, r1, r2, r3⟩
      | 3, _, 3, _ =>
        refine vc_3_3 ?_
        refine ⟨fun _ => ⟨fun _ => ⟨fun _ => ?_, fun c => absurd c (by decide)⟩, fun c => absurd c (by decide)⟩, fun c => absurd c (by decide)⟩
        exact vm_3_3 ⟨rfl, tl, hkp, him, re, ⟨rfl, 5, by decide, rfl, rv_up (rv_up (rv_up (rv_up (rv_up (fun i hi => absurd hi (Nat.not_lt_zero i))))))⟩, r0, r1, r2, r3⟩
      | 4, _, 0, _ =>
        refine vc_4_0 ?_
        refine ⟨fun c => absurd rfl c, fun _ => ?_⟩
        exact vm_4_0 ⟨rfl, tl, hkp, him, re, ⟨rfl, 2, by decide, rfl, rv_up (rv_up (fun i hi => absurd hi (Nat.not_lt_zero i)))⟩, r0, r1, r2, r3⟩
      | 4, _, 1, _ =>
        refine vc_4_1 ?_
        refine ⟨fun _ => ⟨fun c => absurd rfl c, fun _ => ?_⟩, fun c => absurd c (by decide)⟩
        exact vm_4_1 ⟨rfl, tl, hkp, him, re, ⟨rfl, 3, by decide, rfl, rv_up (rv_up (rv_up (fun i hi => absurd hi (Nat.not_lt_zero i))))⟩, r0, r1, r2, r3⟩
      | 4, _, 2, _ =>
        refine vc_4_2 ?_
        refine ⟨fun _ => ⟨fun _ => ⟨fun c => absurd rfl c, fun _ => ?_⟩, fun c => absurd c (by decide)⟩, fun c => absurd c (by decide)⟩
        exact vm_4_2 ⟨rfl, tl, hkp, him, re, ⟨rfl, 1, by decide, rfl, rv_up (fun i hi => absurd hi (Nat.not_lt_zero i))⟩, r0, r1, r2, r3⟩
      | 4, _, 3, _ =>
        refine vc_4_3 ?_
        refine ⟨fun _ => ⟨fun _ => ⟨fun _ => ?_, fun c => absurd c (by decide)⟩, fun c => absurd c (by decide)⟩, fun c => absurd c (by decide)⟩
        exact vm_4_3 ⟨rfl, tl, hkp, him, re, ⟨rfl, 8, by decide, rfl, rv_up (rv_up (rv_up (rv_up (rv_up (rv_up (rv_up (rv_up (fun i hi => absurd hi (Nat.not_lt_zero i)))))))))⟩, r0, r1, r2, r3⟩
      | 5, _, 0, _ =>
        refine vc_5_0 ?_
        refine ⟨fun c => absurd rfl c, fun _ => ?_⟩
        exact vm_5_0 ⟨rfl, tl, hkp, him, re, ⟨rfl, 1, by decide, rfl, rv_up (fun i hi => absurd hi (Nat.not_lt_zero i))⟩, r0, r1, r2, r3⟩
      | 5, _, 1, _ =>
        refine vc_5_1 ?_
        refine ⟨fun _ => ⟨fun c => absurd rfl c, fun _ => ?_⟩, fun c => absurd c (by decide)⟩
        exact vm_5_1 ⟨rfl, tl, hkp, him, re, ⟨rfl, 5, by decide, rfl, rv_up (rv_up (rv_up (rv_up (rv_up (fun i hi => absurd hi (Nat.not_lt_zero i))))))⟩, r0, r1, r2, r3⟩
      | 5, _, 2, _ =>
        refine vc_5_2 ?_
        refine ⟨fun _ => ⟨fun _ => ⟨fun c => absurd rfl c, fun _ => ?_⟩, fun c => absurd c (by decide)⟩, fun c => absurd c (by decide)⟩
        exact vm_5_2 ⟨rfl, tl, hkp, him, re, ⟨rfl, 1, by decide, rfl, rv_up (fun i hi => absurd hi (Nat.not_lt_zero i))⟩, r0, r1, r2, r3⟩
      | 5, _, 3, _ =>
        refine vc_5_3 ?_
        refine ⟨fun _ => ⟨fun _ => ⟨fun _ => ?_, fun c => absurd c (by decide)⟩, fun c => absurd c (by decide)⟩, fun c => absurd c (by decide)⟩
        exact vm_5_3 ⟨rfl, tl, hkp, him, re, ⟨rfl, 7, by decide, rfl, rv_up (rv_up (rv_up (rv_up (rv_up (rv_up (rv_up (fun i hi => absurd hi (Nat.not_lt_zero i))))))))⟩, r0, r1, r2, r3⟩
      | 6, _, 0, _ =>
        refine vc_6_0 ?_
        refine ⟨fun c => absurd rfl c, fun _ => ?_⟩
        exact vm_6_0 ⟨rfl, tl, hkp, him, re, ⟨rfl, 1, by decide, rfl, rv_up (fun i hi => absurd hi (Nat.not_lt_zero i))⟩, r0, r1, r2, r3⟩
      | 6, _, 1, _ =>
        refine vc_6_1 ?_
        refine ⟨fun _ => ⟨fun c => absurd rfl c, fun _ => ?_⟩, fun c => absurd c (by decide)⟩
        exact vm_6_1 ⟨rfl, tl, hkp, him, re, ⟨rfl, 2, by decide, rfl, rv_up (rv_up (fun i hi => absurd hi (Nat.not_lt_zero i)))⟩, r0, r1, r2, r3⟩
      | 6, _, 2, _ =>
        refine vc_6_2 ?_
        refine ⟨fun _ => ⟨fun _ => ⟨fun c => absurd rfl c, fun _ => ?_⟩, fun c => absurd c (by decide)⟩, fun c => absurd c (by decide)⟩
        exact vm_6_2 ⟨rfl, tl, hkp, him, re, ⟨rfl, 3, by decide, rfl, rv_up (rv_up (rv_up (fun i hi => absurd hi (Nat.not_lt_zero i))))⟩, r0, r1, r2, r3⟩
      | 6, _, 3, _ =>
        refine vc_6_3 ?_
        refine ⟨fun _ => ⟨fun _ => ⟨fun _ => ?_, fun c => absurd c (by decide)⟩, fun c => absurd c (by decide)⟩, fun c => absurd c (by decide)⟩
        exact vm_6_3 ⟨rfl, tl, hkp, him, re, ⟨rfl, 9, by decide, rfl, rv_up (rv_up (rv_up (rv_up (rv_up (rv_up (rv_up (rv_up (rv_up (fun i hi => absurd hi (Nat.not_lt_zero i))))))))))⟩, r0, r1, r2, r3⟩
    · simp only [e_isSoul, e_isSoul8, tm1.1, e_within, e_within8, b2i_t c, b2i_f d, z10, z00, e_ref1, e_fin1, false_implies, true_implies, not_true_eq_false, not_false_eq_true, true_and, and_true, forall_eq]
      exact (by first | exact ⟨tl, hkp, him, re_upd re (k := 1) (by decide), rv, r0, r1, r2, r3⟩ | exact ⟨rfl, tl, hkp, him, re_upd re (k := 1) (by decide), rv, r0, r1, r2, r3⟩)
  · simp only [e_isSoul, e_isSoul8, tm1.1, b2i_f c, z00, e_ref1, e_fin1, false_implies, true_implies, not_true_eq_false, not_false_eq_true, true_and, and_true, forall_eq]
    exact (by first | exact ⟨tl, hkp, him, re_upd re (k := 1) (by decide), rv, r0, r1, r2, r3⟩ | exact ⟨rfl, tl, hkp, him, re_upd re (k := 1) (by decide), rv, r0, r1, r2, r3⟩)
