theorem bo_0_0 {Q : Int32 → Prop} (h : Q 10) : wp_X6_bodyOf 0 0 Q := ⟨4, by simp +decide only [lb_X6_bodyOf_4, e_within, vp_in, b2i, if_true, if_false, forall_eq, false_implies, true_implies, not_true_eq_false, not_false_eq_true, true_and, and_true]; exact h⟩
theorem bo_0_1 {Q : Int32 → Prop} (h : Q 11) : wp_X6_bodyOf 0 1 Q := ⟨4, by simp +decide only [lb_X6_bodyOf_4, e_within, vp_in, b2i, if_true, if_false, forall_eq, false_implies, true_implies, not_true_eq_false, not_false_eq_true, true_and, and_true]; exact h⟩
theorem bo_0_2 {Q : Int32 → Prop} (h : Q 12) : wp_X6_bodyOf 0 2 Q := ⟨4, by simp +decide only [lb_X6_bodyOf_4, e_within, vp_in, b2i, if_true, if_false, forall_eq, false_implies, true_implies, not_true_eq_false, not_false_eq_true, true_and, and_true]; exact h⟩
theorem bo_0_3 {Q : Int32 → Prop} (h : Q 13) : wp_X6_bodyOf 0 3 Q := ⟨4, by simp +decide only [lb_X6_bodyOf_4, e_within, vp_in, b2i, if_true, if_false, forall_eq, false_implies, true_implies, not_true_eq_false, not_false_eq_true, true_and, and_true]; exact h⟩
theorem bo_1_0 {Q : Int32 → Prop} (h : Q 20) : wp_X6_bodyOf 1 0 Q := ⟨4, by simp +decide only [lb_X6_bodyOf_4, e_within, vp_in, b2i, if_true, if_false, forall_eq, false_implies, true_implies, not_true_eq_false, not_false_eq_true, true_and, and_true]; exact h⟩
theorem bo_1_1 {Q : Int32 → Prop} (h : Q 11) : wp_X6_bodyOf 1 1 Q := ⟨4, by simp +decide only [lb_X6_bodyOf_4, e_within, vp_in, b2i, if_true, if_false, forall_eq, false_implies, true_implies, not_true_eq_false, not_false_eq_true, true_and, and_true]; exact h⟩
theorem bo_1_2 {Q : Int32 → Prop} (h : Q 12) : wp_X6_bodyOf 1 2 Q := ⟨4, by simp +decide only [lb_X6_bodyOf_4, e_within, vp_in, b2i, if_true, if_false, forall_eq, false_implies, true_implies, not_true_eq_false, not_false_eq_true, true_and, and_true]; exact h⟩
theorem bo_1_3 {Q : Int32 → Prop} (h : Q 13) : wp_X6_bodyOf 1 3 Q := ⟨4, by simp +decide only [lb_X6_bodyOf_4, e_within, vp_in, b2i, if_true, if_false, forall_eq, false_implies, true_implies, not_true_eq_false, not_false_eq_true, true_and, and_true]; exact h⟩
theorem bo_2_0 {Q : Int32 → Prop} (h : Q 10) : wp_X6_bodyOf 2 0 Q := ⟨4, by simp +decide only [lb_X6_bodyOf_4, e_within, vp_in, b2i, if_true, if_false, forall_eq, false_implies, true_implies, not_true_eq_false, not_false_eq_true, true_and, and_true]; exact h⟩
theorem bo_2_1 {Q : Int32 → Prop} (h : Q 30) : wp_X6_bodyOf 2 1 Q := ⟨4, by simp +decide only [lb_X6_bodyOf_4, e_within, vp_in, b2i, if_true, if_false, forall_eq, false_implies, true_implies, not_true_eq_false, not_false_eq_true, true_and, and_true]; exact h⟩
theorem bo_2_2 {Q : Int32 → Prop} (h : Q 12) : wp_X6_bodyOf 2 2 Q := ⟨4, by simp +decide only [lb_X6_bodyOf_4, e_within, vp_in, b2i, if_true, if_false, forall_eq, false_implies, true_implies, not_true_eq_false, not_false_eq_true, true_and, and_true]; exact h⟩
theorem bo_2_3 {Q : Int32 → Prop} (h : Q 13) : wp_X6_bodyOf 2 3 Q := ⟨4, by simp +decide only [lb_X6_bodyOf_4, e_within, vp_in, b2i, if_true, if_false, forall_eq, false_implies, true_implies, not_true_eq_false, not_false_eq_true, true_and, and_true]; exact h⟩
theorem bo_3_0 {Q : Int32 → Prop} (h : Q 10) : wp_X6_bodyOf 3 0 Q := ⟨4, by simp +decide only [lb_X6_bodyOf_4, e_within, vp_in, b2i, if_true, if_false, forall_eq, false_implies, true_implies, not_true_eq_false, not_false_eq_true, true_and, and_true]; exact h⟩
theorem bo_3_1 {Q : Int32 → Prop} (h : Q 11) : wp_X6_bodyOf 3 1 Q := ⟨4, by simp +decide only [lb_X6_bodyOf_4, e_within, vp_in, b2i, if_true, if_false, forall_eq, false_implies, true_implies, not_true_eq_false, not_false_eq_true, true_and, and_true]; exact h⟩
theorem bo_3_2 {Q : Int32 → Prop} (h : Q 40) : wp_X6_bodyOf 3 2 Q := ⟨4, by simp +decide only [lb_X6_bodyOf_4, e_within, vp_in, b2i, if_true, if_false, forall_eq, false_implies, true_implies, not_true_eq_false, not_false_eq_true, true_and, and_true]; exact h⟩
theorem bo_3_3 {Q : Int32 → Prop} (h : Q 13) : wp_X6_bodyOf 3 3 Q := ⟨4, by simp +decide only [lb_X6_bodyOf_4, e_within, vp_in, b2i, if_true, if_false, forall_eq, false_implies, true_implies, not_true_eq_false, not_false_eq_true, true_and, and_true]; exact h⟩
theorem bo_4_0 {Q : Int32 → Prop} (h : Q 20) : wp_X6_bodyOf 4 0 Q := ⟨4, by simp +decide only [lb_X6_bodyOf_4, e_within, vp_in, b2i, if_true, if_false, forall_eq, false_implies, true_implies, not_true_eq_false, not_false_eq_true, true_and, and_true]; exact h⟩
theorem bo_4_1 {Q : Int32 → Prop} (h : Q 11) : wp_X6_bodyOf 4 1 Q := ⟨4, by simp +decide only [lb_X6_bodyOf_4, e_within, vp_in, b2i, if_true, if_false, forall_eq, false_implies, true_implies, not_true_eq_false, not_false_eq_true, true_and, and_true]; exact h⟩
theorem bo_4_2 {Q : Int32 → Prop} (h : Q 12) : wp_X6_bodyOf 4 2 Q := ⟨4, by simp +decide only [lb_X6_bodyOf_4, e_within, vp_in, b2i, if_true, if_false, forall_eq, false_implies, true_implies, not_true_eq_false, not_false_eq_true, true_and, and_true]; exact h⟩
theorem bo_4_3 {Q : Int32 → Prop} (h : Q 50) : wp_X6_bodyOf 4 3 Q := ⟨4, by simp +decide only [lb_X6_bodyOf_4, e_within, vp_in, b2i, if_true, if_false, forall_eq, false_implies, true_implies, not_true_eq_false, not_false_eq_true, true_and, and_true]; exact h⟩
theorem bo_5_0 {Q : Int32 → Prop} (h : Q 10) : wp_X6_bodyOf 5 0 Q := ⟨4, by simp +decide only [lb_X6_bodyOf_4, e_within, vp_in, b2i, if_true, if_false, forall_eq, false_implies, true_implies, not_true_eq_false, not_false_eq_true, true_and, and_true]; exact h⟩
theorem bo_5_1 {Q : Int32 → Prop} (h : Q 60) : wp_X6_bodyOf 5 1 Q := ⟨4, by simp +decide only [lb_X6_bodyOf_4, e_within, vp_in, b2i, if_true, if_false, forall_eq, false_implies, true_implies, not_true_eq_false, not_false_eq_true, true_and, and_true]; exact h⟩
theorem bo_5_2 {Q : Int32 → Prop} (h : Q 12) : wp_X6_bodyOf 5 2 Q := ⟨4, by simp +decide only [lb_X6_bodyOf_4, e_within, vp_in, b2i, if_true, if_false, forall_eq, false_implies, true_implies, not_true_eq_false, not_false_eq_true, true_and, and_true]; exact h⟩
theorem bo_5_3 {Q : Int32 → Prop} (h : Q 13) : wp_X6_bodyOf 5 3 Q := ⟨4, by simp +decide only [lb_X6_bodyOf_4, e_within, vp_in, b2i, if_true, if_false, forall_eq, false_implies, true_implies, not_true_eq_false, not_false_eq_true, true_and, and_true]; exact h⟩
theorem bo_6_0 {Q : Int32 → Prop} (h : Q 10) : wp_X6_bodyOf 6 0 Q := ⟨4, by simp +decide only [lb_X6_bodyOf_4, e_within, vp_in, b2i, if_true, if_false, forall_eq, false_implies, true_implies, not_true_eq_false, not_false_eq_true, true_and, and_true]; exact h⟩
theorem bo_6_1 {Q : Int32 → Prop} (h : Q 11) : wp_X6_bodyOf 6 1 Q := ⟨4, by simp +decide only [lb_X6_bodyOf_4, e_within, vp_in, b2i, if_true, if_false, forall_eq, false_implies, true_implies, not_true_eq_false, not_false_eq_true, true_and, and_true]; exact h⟩
theorem bo_6_2 {Q : Int32 → Prop} (h : Q 70) : wp_X6_bodyOf 6 2 Q := ⟨4, by simp +decide only [lb_X6_bodyOf_4, e_within, vp_in, b2i, if_true, if_false, forall_eq, false_implies, true_implies, not_true_eq_false, not_false_eq_true, true_and, and_true]; exact h⟩
theorem bo_6_3 {Q : Int32 → Prop} (h : Q 71) : wp_X6_bodyOf 6 3 Q := ⟨4, by simp +decide only [lb_X6_bodyOf_4, e_within, vp_in, b2i, if_true, if_false, forall_eq, false_implies, true_implies, not_true_eq_false, not_false_eq_true, true_and, and_true]; exact h⟩
theorem s_of {d s dd : Nat} (hs : s < 40) (hd : dd < 40) {f a b x k num m : Int32} (hb : ¬ b = 0) {it : Nat → Int32} {Q : Int32 → Int32 → (Nat → Int32) → Prop} (bo : ∀ R : Int32 → Prop, R b → wp_X6_bodyOf f a R) (h : wp_X6_work (rc_X6_work d).1 (rc_X6_work d).2 b x (nI (dd + 1)) k num m (nI (s + 1)) (upd it s b) Q) : (rc_X6_work (d + 1)).1 f a x (nI dd) k num m (nI s) it Q := by
  show wp_X6_of _ _ _ _ _ _ _ _ _ _ _ _
  unfold wp_X6_of
  refine bo _ ⟨fun c => absurd c (nI_ge hd (by decide)), fun _ => ⟨fun _ => s_add hs (by decide) ?_, fun c => absurd c hb⟩⟩
  rw [nI_1]
  exact h
theorem s_own {d s dd : Nat} (hs : s < 40) (hd : dd < 40) {a b x k num m : Int32} (hb : ¬ b = 0) {it : Nat → Int32} {Q : Int32 → Int32 → (Nat → Int32) → Prop} (bo : ∀ R : Int32 → Prop, R b → wp_X6_bodyOf k a R) (h : wp_X6_work (rc_X6_work d).1 (rc_X6_work d).2 b x (nI (dd + 1)) k num m (nI (s + 1)) (upd it s b) Q) : (rc_X6_work (d + 1)).2 a x (nI dd) k num m (nI s) it Q := by
  show wp_X6_own _ _ _ _ _ _ _ _ _ _ _
  unfold wp_X6_own
  exact s_of hs hd hb bo h
theorem s_w10 {R0 : Int32 → Int32 → Int32 → Int32 → Int32 → Int32 → Int32 → Int32 → (Nat → Int32) → (Int32 → Int32 → (Nat → Int32) → Prop) → Prop} {R1 : Int32 → Int32 → Int32 → Int32 → Int32 → Int32 → Int32 → (Nat → Int32) → (Int32 → Int32 → (Nat → Int32) → Prop) → Prop} {x dd k num m s : Int32} {it : Nat → Int32} {Q : Int32 → Int32 → (Nat → Int32) → Prop} (h : Q (x + num) s it) : wp_X6_work R0 R1 10 x dd k num m s it Q := by
  unfold wp_X6_work
  simp +decide only [forall_eq, false_implies, true_implies, not_true_eq_false, not_false_eq_true, true_and, and_true]
  exact h
theorem s_w11 {R0 : Int32 → Int32 → Int32 → Int32 → Int32 → Int32 → Int32 → Int32 → (Nat → Int32) → (Int32 → Int32 → (Nat → Int32) → Prop) → Prop} {R1 : Int32 → Int32 → Int32 → Int32 → Int32 → Int32 → Int32 → (Nat → Int32) → (Int32 → Int32 → (Nat → Int32) → Prop) → Prop} {x dd k num m s : Int32} {it : Nat → Int32} {Q : Int32 → Int32 → (Nat → Int32) → Prop} (h : R1 0 x dd k num m s it (fun r o3 o4 => Q (r * 2) o3 o4)) : wp_X6_work R0 R1 11 x dd k num m s it Q := by
  unfold wp_X6_work
  simp +decide only [forall_eq, false_implies, true_implies, not_true_eq_false, not_false_eq_true, true_and, and_true]
  exact h
theorem s_w12 {R0 : Int32 → Int32 → Int32 → Int32 → Int32 → Int32 → Int32 → Int32 → (Nat → Int32) → (Int32 → Int32 → (Nat → Int32) → Prop) → Prop} {R1 : Int32 → Int32 → Int32 → Int32 → Int32 → Int32 → Int32 → (Nat → Int32) → (Int32 → Int32 → (Nat → Int32) → Prop) → Prop} {x dd k num m s : Int32} {it : Nat → Int32} {Q : Int32 → Int32 → (Nat → Int32) → Prop} (h : Q (x - m) s it) : wp_X6_work R0 R1 12 x dd k num m s it Q := by
  unfold wp_X6_work
  simp +decide only [forall_eq, false_implies, true_implies, not_true_eq_false, not_false_eq_true, true_and, and_true]
  exact h
theorem s_w13 {R0 : Int32 → Int32 → Int32 → Int32 → Int32 → Int32 → Int32 → Int32 → (Nat → Int32) → (Int32 → Int32 → (Nat → Int32) → Prop) → Prop} {R1 : Int32 → Int32 → Int32 → Int32 → Int32 → Int32 → Int32 → (Nat → Int32) → (Int32 → Int32 → (Nat → Int32) → Prop) → Prop} {x dd k num m s : Int32} {it : Nat → Int32} {Q : Int32 → Int32 → (Nat → Int32) → Prop} (h : R1 1 x dd k num m s it (fun r o8 o9 => R1 2 x dd k num m o8 o9 (fun r2 o11 o12 => Q (r ^^^ r2) o11 o12))) : wp_X6_work R0 R1 13 x dd k num m s it Q := by
  unfold wp_X6_work
  simp +decide only [forall_eq, false_implies, true_implies, not_true_eq_false, not_false_eq_true, true_and, and_true]
  exact h
theorem s_w20 {R0 : Int32 → Int32 → Int32 → Int32 → Int32 → Int32 → Int32 → Int32 → (Nat → Int32) → (Int32 → Int32 → (Nat → Int32) → Prop) → Prop} {R1 : Int32 → Int32 → Int32 → Int32 → Int32 → Int32 → Int32 → (Nat → Int32) → (Int32 → Int32 → (Nat → Int32) → Prop) → Prop} {x dd k num m s : Int32} {it : Nat → Int32} {Q : Int32 → Int32 → (Nat → Int32) → Prop} (h : R0 0 0 x dd k num m s it (fun r o o2 => Q (r * 3) o o2)) : wp_X6_work R0 R1 20 x dd k num m s it Q := by
  unfold wp_X6_work
  simp +decide only [forall_eq, false_implies, true_implies, not_true_eq_false, not_false_eq_true, true_and, and_true]
  exact h
theorem s_w30 {R0 : Int32 → Int32 → Int32 → Int32 → Int32 → Int32 → Int32 → Int32 → (Nat → Int32) → (Int32 → Int32 → (Nat → Int32) → Prop) → Prop} {R1 : Int32 → Int32 → Int32 → Int32 → Int32 → Int32 → Int32 → (Nat → Int32) → (Int32 → Int32 → (Nat → Int32) → Prop) → Prop} {x dd k num m s : Int32} {it : Nat → Int32} {Q : Int32 → Int32 → (Nat → Int32) → Prop} (h : R0 0 1 x dd k num m s it (fun r o o2 => R1 2 1 dd k num m o o2 (fun r2 o3 o4 => Q (r - r2) o3 o4))) : wp_X6_work R0 R1 30 x dd k num m s it Q := by
  unfold wp_X6_work
  simp +decide only [forall_eq, false_implies, true_implies, not_true_eq_false, not_false_eq_true, true_and, and_true]
  exact h
theorem s_w40 {R0 : Int32 → Int32 → Int32 → Int32 → Int32 → Int32 → Int32 → Int32 → (Nat → Int32) → (Int32 → Int32 → (Nat → Int32) → Prop) → Prop} {R1 : Int32 → Int32 → Int32 → Int32 → Int32 → Int32 → Int32 → (Nat → Int32) → (Int32 → Int32 → (Nat → Int32) → Prop) → Prop} {x dd k num m s : Int32} {it : Nat → Int32} {Q : Int32 → Int32 → (Nat → Int32) → Prop} (h : R0 0 2 x dd k num m s it (fun r o o2 => Q (-r) o o2)) : wp_X6_work R0 R1 40 x dd k num m s it Q := by
  unfold wp_X6_work
  simp +decide only [forall_eq, false_implies, true_implies, not_true_eq_false, not_false_eq_true, true_and, and_true]
  exact h
theorem s_w50 {R0 : Int32 → Int32 → Int32 → Int32 → Int32 → Int32 → Int32 → Int32 → (Nat → Int32) → (Int32 → Int32 → (Nat → Int32) → Prop) → Prop} {R1 : Int32 → Int32 → Int32 → Int32 → Int32 → Int32 → Int32 → (Nat → Int32) → (Int32 → Int32 → (Nat → Int32) → Prop) → Prop} {x dd k num m s : Int32} {it : Nat → Int32} {Q : Int32 → Int32 → (Nat → Int32) → Prop} (h : R0 1 3 x dd k num m s it (fun r o o2 => R1 0 2 dd k num m o o2 (fun r2 o3 o4 => Q (r - r2) o3 o4))) : wp_X6_work R0 R1 50 x dd k num m s it Q := by
  unfold wp_X6_work
  simp +decide only [forall_eq, false_implies, true_implies, not_true_eq_false, not_false_eq_true, true_and, and_true]
  exact h
theorem s_w60 {R0 : Int32 → Int32 → Int32 → Int32 → Int32 → Int32 → Int32 → Int32 → (Nat → Int32) → (Int32 → Int32 → (Nat → Int32) → Prop) → Prop} {R1 : Int32 → Int32 → Int32 → Int32 → Int32 → Int32 → Int32 → (Nat → Int32) → (Int32 → Int32 → (Nat → Int32) → Prop) → Prop} {x dd k num m s : Int32} {it : Nat → Int32} {Q : Int32 → Int32 → (Nat → Int32) → Prop} (h : R0 2 1 (x + 1) dd k num m s it (fun r o o2 => Q r o o2)) : wp_X6_work R0 R1 60 x dd k num m s it Q := by
  unfold wp_X6_work
  simp +decide only [forall_eq, false_implies, true_implies, not_true_eq_false, not_false_eq_true, true_and, and_true]
  exact h
theorem s_w70 {R0 : Int32 → Int32 → Int32 → Int32 → Int32 → Int32 → Int32 → Int32 → (Nat → Int32) → (Int32 → Int32 → (Nat → Int32) → Prop) → Prop} {R1 : Int32 → Int32 → Int32 → Int32 → Int32 → Int32 → Int32 → (Nat → Int32) → (Int32 → Int32 → (Nat → Int32) → Prop) → Prop} {x dd k num m s : Int32} {it : Nat → Int32} {Q : Int32 → Int32 → (Nat → Int32) → Prop} (h : R0 3 2 x dd k num m s it (fun r o o2 => Q (r ^^^ num) o o2)) : wp_X6_work R0 R1 70 x dd k num m s it Q := by
  unfold wp_X6_work
  simp +decide only [forall_eq, false_implies, true_implies, not_true_eq_false, not_false_eq_true, true_and, and_true]
  exact h
theorem s_w71 {R0 : Int32 → Int32 → Int32 → Int32 → Int32 → Int32 → Int32 → Int32 → (Nat → Int32) → (Int32 → Int32 → (Nat → Int32) → Prop) → Prop} {R1 : Int32 → Int32 → Int32 → Int32 → Int32 → Int32 → Int32 → (Nat → Int32) → (Int32 → Int32 → (Nat → Int32) → Prop) → Prop} {x dd k num m s : Int32} {it : Nat → Int32} {Q : Int32 → Int32 → (Nat → Int32) → Prop} (h : R1 1 x dd k num m s it (fun r o o2 => R0 3 3 x dd k num m o o2 (fun r2 o3 o4 => Q (r - r2) o3 o4))) : wp_X6_work R0 R1 71 x dd k num m s it Q := by
  unfold wp_X6_work
  simp +decide only [forall_eq, false_implies, true_implies, not_true_eq_false, not_false_eq_true, true_and, and_true]
  exact h
theorem m_ran {s : Nat} (hs : s < 40) {b : Int32} {tr : Nat → Int32} {Q : Int32 → (Nat → Int32) → Prop} (h : Q (nI (s + 1)) (upd tr s b)) : wp_X8_ran b (nI s) tr Q := by
  unfold wp_X8_ran
  refine ⟨fun c => absurd c (nI_ge hs (by decide)), fun _ => ⟨vp_in_nI hs (by decide), ?_⟩⟩
  rintro v rfl
  rw [nI_1, nI_clamp (by omega)]
  exact h
theorem rv_up {s : Nat} {A B : Nat → Int32} {b : Int32} (h : ∀ i, i < s → A i = B i) : ∀ i, i < s + 1 → upd A s b i = upd B s b i := fun i hi => by
  by_cases e : i = s
  · subst e; rw [up_s, up_s]
  · rw [up_n e, up_n e]; exact h i (by omega)
