/-! X5_ruleOf -/
abbrev rm_X5_ruleOf : Room := { frames := 0, cells := 0, slots := 0, locals := 0 }
abbrev cs_X5_ruleOf (G : Gt) (a_P : Nat) (a_P_meeting : Nat) (a_P_deed : Nat) (a_P_folk : Nat) (a_P_tape : Nat) (a_P_waiting : Nat) (P_z : Int32) : va_W := [(a_P, .inr (5, [.ref a_P_meeting, .ref a_P_deed, .ref a_P_folk, .ref a_P_tape, .ref a_P_waiting, .int P_z]))]
def wp_X5_ruleOf (x1 : Int32) (QA0 : Prop) (QA1 : Prop) : Prop := ((¬ x1 = (0) → QA1) ∧ (x1 = (0) → QA0))
set_option maxHeartbeats 4000000 in
set_option maxRecDepth 100000 in
theorem wk_X5_ruleOf (l : Launch) (G : Gt) (a_P : Nat) (a_P_meeting : Nat) (a_P_deed : Nat) (a_P_folk : Nat) (a_P_tape : Nat) (a_P_waiting : Nat) (P_z : Int32) (x1 : Int32) (QA0 : Prop) (QA1 : Prop) (hw : wp_X5_ruleOf x1 QA0 QA1) : Met l yX5_ruleOf (wc yX5_ruleOf cX5_ruleOf 2 (some (.object "ImmunityCatching$Rule"))) rm_X5_ruleOf (va_Pc [.ref a_P, .int x1] (PR G (cs_X5_ruleOf G a_P a_P_meeting a_P_deed a_P_folk a_P_tape a_P_waiting P_z))) (va_Sq (fun r => (r = some a_P_meeting ∧ QA0) ∨ (r = some a_P_deed ∧ QA1))) 0 0 (fun _ => False) := by
  refine x_start pn_X5 (Nat.le_of_ble_eq_true rfl) (fun p e s m below meth c ls C hn hl hB => ?_)
  have I := rd_start hB
  have C : Cx p s m [.ref a_P, .int x1].toArray meth c cX5_ruleOf 2 RX5 (some (.object "ImmunityCatching$Rule")) := C
  have hl : lv_has ls 2 [(0, .ref a_P), (1, .int x1)] := hl
  refine x_iload_n C hl 1 dX5_ruleOf_0 rfl ?_
  refine x_if_ne C 11 dX5_ruleOf_1 (by decide) (fun c1 => ?_) (fun c1 => ?_)
  · have hw := And.left hw c1
    refine x_aload_n C hl 0 dX5_ruleOf_11 rfl ?_
    refine x_get C I fl_X5_18 0 rfl rfl dX5_ruleOf_12 ?_
    exact x_retq C (some a_P_deed) rfl (Or.inr (⟨rfl, hw⟩)) dX5_ruleOf_15
  · have hw := And.right hw c1
    refine x_aload_n C hl 0 dX5_ruleOf_4 rfl ?_
    refine x_get C I fl_X5_12 0 rfl rfl dX5_ruleOf_5 ?_
    refine x_goto C 15 dX5_ruleOf_8 (by decide) ?_
    exact x_retq C (some a_P_meeting) rfl (Or.inl ⟨rfl, hw⟩) dX5_ruleOf_15
/-! X5_draw -/
abbrev rm_X5_draw : Room := { frames := 0, cells := 0, slots := 0, locals := 0 }
abbrev cs_X5_draw (G : Gt) (a_P : Nat) (a_P_meeting : Nat) (a_P_deed : Nat) (a_P_folk : Nat) (a_P_tape : Nat) (a_P_waiting : Nat) (P_z : Int32) : va_W := [(a_P, .inr (5, [.ref a_P_meeting, .ref a_P_deed, .ref a_P_folk, .ref a_P_tape, .ref a_P_waiting, .int P_z]))]
abbrev qc_X5_draw (G : Gt) (a_P : Nat) (a_P_meeting : Nat) (a_P_deed : Nat) (a_P_folk : Nat) (a_P_tape : Nat) (a_P_waiting : Nat) (A : Nat → Prop) (Q : Int32 → Int32 → Prop) : Array Value → State → Outcome → State → Prop := Qi1 G A (fun r (u : Int32) => Q r u) (fun u => cs_X5_draw G a_P a_P_meeting a_P_deed a_P_folk a_P_tape a_P_waiting u)
def wp_X5_draw (P_z : Int32) (Q : Int32 → Int32 → Prop) : Prop := (∀ v1 : Int32, v1 = ((P_z * (1103515245 : Int32)) + (12345 : Int32)) → (Q (jushr v1 (8 : Int32)) v1))
set_option maxHeartbeats 4000000 in
set_option maxRecDepth 100000 in
theorem wk_X5_draw (l : Launch) (G : Gt) (a_P : Nat) (a_P_meeting : Nat) (a_P_deed : Nat) (a_P_folk : Nat) (a_P_tape : Nat) (a_P_waiting : Nat) (sz : Nat) (P_z : Int32) (Q : Int32 → Int32 → Prop) (hw : wp_X5_draw P_z Q) : Met l yX5_draw (wc yX5_draw cX5_draw 1 (some .int)) rm_X5_draw (va_Pc [.ref a_P] (PB G (cs_X5_draw G a_P a_P_meeting a_P_deed a_P_folk a_P_tape a_P_waiting P_z) sz)) (qc_X5_draw G a_P a_P_meeting a_P_deed a_P_folk a_P_tape a_P_waiting (va_A (cs_X5_draw G a_P a_P_meeting a_P_deed a_P_folk a_P_tape a_P_waiting P_z) sz) Q) 0 0 (va_A (cs_X5_draw G a_P a_P_meeting a_P_deed a_P_folk a_P_tape a_P_waiting P_z) sz) := by
  refine x_start pn_X5 (Nat.le_of_ble_eq_true rfl) (fun p e s m below meth c ls C hn hl hB => ?_)
  have I := iv_start hB
  generalize va_A (cs_X5_draw G a_P a_P_meeting a_P_deed a_P_folk a_P_tape a_P_waiting P_z) sz = A at I ⊢
  have C : Cx p s m [.ref a_P].toArray meth c cX5_draw 1 RX5 (some .int) := C
  have hl : lv_has ls 1 [(0, .ref a_P)] := hl
  refine x_aload_n C hl 0 dX5_draw_0 rfl ?_
  refine x_aload_n C hl 0 dX5_draw_1 rfl ?_
  refine x_get C I.1 fl_X5_42 0 rfl rfl dX5_draw_2 ?_
  refine x_ldc C wd_621 dX5_draw_5 ?_
  refine x_imul C dX5_draw_7 ?_
  refine x_sipush C dX5_draw_8 sp_12345 ?_
  refine x_iadd C dX5_draw_11 ?_
  refine lv_topi (fun v1 ev1 => ?_)
  have hw := hw v1 ev1
  refine x_put C I fl_X5_42 tyX5 tyX5_ok nmX5 rfl 0 (cs_X5_draw G a_P a_P_meeting a_P_deed a_P_folk a_P_tape a_P_waiting v1) rfl rfl rfl (Nat.le_of_ble_eq_true rfl) rfl dX5_draw_12 (fun Hx lx I => ?_)
  refine x_aload_n C hl 0 dX5_draw_15 rfl ?_
  refine x_get C I.1 fl_X5_42 0 rfl rfl dX5_draw_16 ?_
  refine x_bipush C dX5_draw_19 bp_8 ?_
  refine x_iushr C dX5_draw_21 ?_
  exact x_ret1 C I v1 rfl hw dX5_draw_22
/-! X7_seed -/
abbrev rm_X7_seed : Room := { frames := 0, cells := 0, slots := 0, locals := 0 }
abbrev cs_X7_seed (G : Gt) (a_T : Nat) (a_T_now : Nat) (a_T_kept : Nat) (a_T_thought : Nat) (a_T_reader : Nat) (a_T_voices : Nat) (a_T_rows : Nat) (a_T_refused : Nat) (a_T_timesFree : Nat) (a_T_now_meeting : Nat) (a_T_now_deed : Nat) (a_T_now_folk : Nat) (a_T_now_tape : Nat) (a_T_now_waiting : Nat) (T_images : Int32) (T_now_z : Int32) : va_W := [(a_T, .inr (7, [.ref a_T_now, .ref a_T_kept, .ref a_T_thought, .ref a_T_reader, .ref a_T_voices, .ref a_T_rows, .ref a_T_refused, .ref a_T_timesFree, .int T_images])), (a_T_now, .inr (5, [.ref a_T_now_meeting, .ref a_T_now_deed, .ref a_T_now_folk, .ref a_T_now_tape, .ref a_T_now_waiting, .int T_now_z]))]
abbrev qc_X7_seed (G : Gt) (a_T : Nat) (a_T_now : Nat) (a_T_kept : Nat) (a_T_thought : Nat) (a_T_reader : Nat) (a_T_voices : Nat) (a_T_rows : Nat) (a_T_refused : Nat) (a_T_timesFree : Nat) (a_T_now_meeting : Nat) (a_T_now_deed : Nat) (a_T_now_folk : Nat) (a_T_now_tape : Nat) (a_T_now_waiting : Nat) (T_images : Int32) (A : Nat → Prop) (Q : Int32 → Int32 → Prop) : Array Value → State → Outcome → State → Prop := Qi1 G A (fun r (u : Int32) => Q r u) (fun u => cs_X7_seed G a_T a_T_now a_T_kept a_T_thought a_T_reader a_T_voices a_T_rows a_T_refused a_T_timesFree a_T_now_meeting a_T_now_deed a_T_now_folk a_T_now_tape a_T_now_waiting T_images u)
def wp_X7_seed (x1 : Int32) (T_now_z : Int32) (Q : Int32 → Int32 → Prop) : Prop := (Q T_now_z x1)
set_option maxHeartbeats 4000000 in
set_option maxRecDepth 100000 in
theorem wk_X7_seed (l : Launch) (G : Gt) (a_T : Nat) (a_T_now : Nat) (a_T_kept : Nat) (a_T_thought : Nat) (a_T_reader : Nat) (a_T_voices : Nat) (a_T_rows : Nat) (a_T_refused : Nat) (a_T_timesFree : Nat) (a_T_now_meeting : Nat) (a_T_now_deed : Nat) (a_T_now_folk : Nat) (a_T_now_tape : Nat) (a_T_now_waiting : Nat) (sz : Nat) (T_images : Int32) (T_now_z : Int32) (x1 : Int32) (Q : Int32 → Int32 → Prop) (hw : wp_X7_seed x1 T_now_z Q) : Met l yX7_seed (wc yX7_seed cX7_seed 3 (some .int)) rm_X7_seed (va_Pc [.ref a_T, .int x1] (PB G (cs_X7_seed G a_T a_T_now a_T_kept a_T_thought a_T_reader a_T_voices a_T_rows a_T_refused a_T_timesFree a_T_now_meeting a_T_now_deed a_T_now_folk a_T_now_tape a_T_now_waiting T_images T_now_z) sz)) (qc_X7_seed G a_T a_T_now a_T_kept a_T_thought a_T_reader a_T_voices a_T_rows a_T_refused a_T_timesFree a_T_now_meeting a_T_now_deed a_T_now_folk a_T_now_tape a_T_now_waiting T_images (va_A (cs_X7_seed G a_T a_T_now a_T_kept a_T_thought a_T_reader a_T_voices a_T_rows a_T_refused a_T_timesFree a_T_now_meeting a_T_now_deed a_T_now_folk a_T_now_tape a_T_now_waiting T_images T_now_z) sz) Q) 0 0 (va_A (cs_X7_seed G a_T a_T_now a_T_kept a_T_thought a_T_reader a_T_voices a_T_rows a_T_refused a_T_timesFree a_T_now_meeting a_T_now_deed a_T_now_folk a_T_now_tape a_T_now_waiting T_images T_now_z) sz) := by
  refine x_start pn_X7 (Nat.le_of_ble_eq_true rfl) (fun p e s m below meth c ls C hn hl hB => ?_)
  have I := iv_start hB
  generalize va_A (cs_X7_seed G a_T a_T_now a_T_kept a_T_thought a_T_reader a_T_voices a_T_rows a_T_refused a_T_timesFree a_T_now_meeting a_T_now_deed a_T_now_folk a_T_now_tape a_T_now_waiting T_images T_now_z) sz = A at I ⊢
  have C : Cx p s m [.ref a_T, .int x1].toArray meth c cX7_seed 3 RX7 (some .int) := C
  have hl : lv_has ls 3 [(0, .ref a_T), (1, .int x1)] := hl
  refine x_aload_n C hl 0 dX7_seed_0 rfl ?_
  refine x_get C I.1 fl_X7_10 0 rfl rfl dX7_seed_1 ?_
  refine x_get C I.1 fl_X7_252 1 rfl rfl dX7_seed_4 ?_
  refine x_istore_n C hl [(2, .int T_now_z), (0, .ref a_T), (1, .int x1)] dX7_seed_7 (Nat.le_of_ble_eq_true rfl) rfl (fun ls hl => ?_)
  refine x_aload_n C hl 1 dX7_seed_8 rfl ?_
  refine x_get C I.1 fl_X7_10 0 rfl rfl dX7_seed_9 ?_
  refine x_iload_n C hl 2 dX7_seed_12 rfl ?_
  refine x_put C I fl_X7_252 tyX5 tyX5_ok nmX5 rfl 1 (cs_X7_seed G a_T a_T_now a_T_kept a_T_thought a_T_reader a_T_voices a_T_rows a_T_refused a_T_timesFree a_T_now_meeting a_T_now_deed a_T_now_folk a_T_now_tape a_T_now_waiting T_images x1) rfl rfl rfl (Nat.le_of_ble_eq_true rfl) rfl dX7_seed_13 (fun Hx lx I => ?_)
  refine x_iload_n C hl 0 dX7_seed_16 rfl ?_
  exact x_ret1 C I x1 rfl hw dX7_seed_17
/-! X7_image -/
abbrev rm_X7_image : Room := { frames := 3, cells := 0, slots := 0, locals := 82 }
abbrev cs_X7_image (G : Gt) (a_T : Nat) (a_T_now : Nat) (a_T_kept : Nat) (a_T_thought : Nat) (a_T_reader : Nat) (a_T_voices : Nat) (a_T_rows : Nat) (a_T_refused : Nat) (a_T_timesFree : Nat) (a_T_kept_meeting : Nat) (a_T_kept_deed : Nat) (a_T_kept_folk : Nat) (a_T_kept_tape : Nat) (a_T_kept_waiting : Nat) (a_T_now_meeting : Nat) (a_T_now_deed : Nat) (a_T_now_folk : Nat) (a_T_now_tape : Nat) (a_T_now_waiting : Nat) (a_T_now_meeting_signs : Nat) (a_T_now_meeting_numbers : Nat) (a_T_now_meeting_pile : Nat) (a_T_kept_meeting_signs : Nat) (a_T_kept_meeting_numbers : Nat) (a_T_kept_meeting_pile : Nat) (a_T_now_deed_signs : Nat) (a_T_now_deed_numbers : Nat) (a_T_now_deed_pile : Nat) (a_T_kept_deed_signs : Nat) (a_T_kept_deed_numbers : Nat) (a_T_kept_deed_pile : Nat) (a_T_now_folk_kind : Nat) (a_T_now_folk_m : Nat) (a_T_now_folk_at : Nat) (a_T_now_folk_free : Nat) (a_T_now_folk_gloved : Nat) (a_T_now_folk_deeds : Nat) (a_T_now_folk_handed : Nat) (a_T_now_folk_crowd : Nat) (a_T_kept_folk_kind : Nat) (a_T_kept_folk_m : Nat) (a_T_kept_folk_at : Nat) (a_T_kept_folk_free : Nat) (a_T_kept_folk_gloved : Nat) (a_T_kept_folk_deeds : Nat) (a_T_kept_folk_handed : Nat) (a_T_kept_folk_crowd : Nat) (a_T_kept_tape_items : Nat) (a_T_now_tape_items : Nat) (a_T_kept_waiting_items : Nat) (a_T_now_waiting_items : Nat) (T_images : Int32) (T_kept_z : Int32) (T_now_z : Int32) (T_now_meeting_size : Int32) (T_kept_meeting_size : Int32) (T_now_meeting_signs : Nat → Int32) (T_kept_meeting_signs : Nat → Int32) (T_now_meeting_numbers : Nat → Int32) (T_kept_meeting_numbers : Nat → Int32) (T_now_deed_size : Int32) (T_kept_deed_size : Int32) (T_now_deed_signs : Nat → Int32) (T_kept_deed_signs : Nat → Int32) (T_now_deed_numbers : Nat → Int32) (T_kept_deed_numbers : Nat → Int32) (T_now_folk_size : Int32) (T_now_folk_step : Int32) (T_now_folk_loss : Int32) (T_kept_folk_size : Int32) (T_kept_folk_step : Int32) (T_kept_folk_loss : Int32) (T_now_folk_kind : Nat → Int32) (T_kept_folk_kind : Nat → Int32) (T_now_folk_m : Nat → Int32) (T_kept_folk_m : Nat → Int32) (T_now_folk_at : Nat → Int32) (T_kept_folk_at : Nat → Int32) (T_now_folk_free : Nat → Int32) (T_kept_folk_free : Nat → Int32) (T_now_folk_gloved : Nat → Int32) (T_kept_folk_gloved : Nat → Int32) (T_now_folk_deeds : Nat → Int32) (T_kept_folk_deeds : Nat → Int32) (T_kept_tape_size : Int32) (T_kept_tape_items : Nat → Int32) (T_now_tape_size : Int32) (T_now_tape_items : Nat → Int32) (T_kept_waiting_size : Int32) (T_kept_waiting_items : Nat → Int32) (T_now_waiting_size : Int32) (T_now_waiting_items : Nat → Int32) : va_W := [(a_T, .inr (7, [.ref a_T_now, .ref a_T_kept, .ref a_T_thought, .ref a_T_reader, .ref a_T_voices, .ref a_T_rows, .ref a_T_refused, .ref a_T_timesFree, .int T_images])), (a_T_kept, .inr (5, [.ref a_T_kept_meeting, .ref a_T_kept_deed, .ref a_T_kept_folk, .ref a_T_kept_tape, .ref a_T_kept_waiting, .int T_kept_z])), (a_T_now, .inr (5, [.ref a_T_now_meeting, .ref a_T_now_deed, .ref a_T_now_folk, .ref a_T_now_tape, .ref a_T_now_waiting, .int T_now_z])), (a_T_now_meeting, .inr (3, [.ref a_T_now_meeting_signs, .ref a_T_now_meeting_numbers, .ref a_T_now_meeting_pile, .int T_now_meeting_size])), (a_T_kept_meeting, .inr (3, [.ref a_T_kept_meeting_signs, .ref a_T_kept_meeting_numbers, .ref a_T_kept_meeting_pile, .int T_kept_meeting_size])), (a_T_now_meeting_signs, .inl (cI G, 50, .inl T_now_meeting_signs)), (a_T_kept_meeting_signs, .inl (cI G, 50, .inl T_kept_meeting_signs)), (a_T_now_meeting_numbers, .inl (cI G, 50, .inl T_now_meeting_numbers)), (a_T_kept_meeting_numbers, .inl (cI G, 50, .inl T_kept_meeting_numbers)), (a_T_now_deed, .inr (3, [.ref a_T_now_deed_signs, .ref a_T_now_deed_numbers, .ref a_T_now_deed_pile, .int T_now_deed_size])), (a_T_kept_deed, .inr (3, [.ref a_T_kept_deed_signs, .ref a_T_kept_deed_numbers, .ref a_T_kept_deed_pile, .int T_kept_deed_size])), (a_T_now_deed_signs, .inl (cI G, 50, .inl T_now_deed_signs)), (a_T_kept_deed_signs, .inl (cI G, 50, .inl T_kept_deed_signs)), (a_T_now_deed_numbers, .inl (cI G, 50, .inl T_now_deed_numbers)), (a_T_kept_deed_numbers, .inl (cI G, 50, .inl T_kept_deed_numbers)), (a_T_now_folk, .inr (0, [.ref a_T_now_meeting, .ref a_T_now_deed, .ref a_T_now_folk_kind, .ref a_T_now_folk_m, .ref a_T_now_folk_at, .ref a_T_now_folk_free, .ref a_T_now_folk_gloved, .ref a_T_now_folk_deeds, .ref a_T_now_folk_handed, .ref a_T_now_folk_crowd, .int T_now_folk_size, .int T_now_folk_step, .int T_now_folk_loss])), (a_T_kept_folk, .inr (0, [.ref a_T_kept_meeting, .ref a_T_kept_deed, .ref a_T_kept_folk_kind, .ref a_T_kept_folk_m, .ref a_T_kept_folk_at, .ref a_T_kept_folk_free, .ref a_T_kept_folk_gloved, .ref a_T_kept_folk_deeds, .ref a_T_kept_folk_handed, .ref a_T_kept_folk_crowd, .int T_kept_folk_size, .int T_kept_folk_step, .int T_kept_folk_loss])), (a_T_now_folk_kind, .inl (cI G, 8, .inl T_now_folk_kind)), (a_T_kept_folk_kind, .inl (cI G, 8, .inl T_kept_folk_kind)), (a_T_now_folk_m, .inl (cI G, 8, .inl T_now_folk_m)), (a_T_kept_folk_m, .inl (cI G, 8, .inl T_kept_folk_m)), (a_T_now_folk_at, .inl (cI G, 8, .inl T_now_folk_at)), (a_T_kept_folk_at, .inl (cI G, 8, .inl T_kept_folk_at)), (a_T_now_folk_free, .inl (cI G, 8, .inl T_now_folk_free)), (a_T_kept_folk_free, .inl (cI G, 8, .inl T_kept_folk_free)), (a_T_now_folk_gloved, .inl (cI G, 8, .inl T_now_folk_gloved)), (a_T_kept_folk_gloved, .inl (cI G, 8, .inl T_kept_folk_gloved)), (a_T_now_folk_deeds, .inl (cI G, 8, .inl T_now_folk_deeds)), (a_T_kept_folk_deeds, .inl (cI G, 8, .inl T_kept_folk_deeds)), (a_T_kept_tape, .inr (4, [.ref a_T_kept_tape_items, .int T_kept_tape_size])), (a_T_kept_tape_items, .inl (cI G, 50, .inl T_kept_tape_items)), (a_T_now_tape, .inr (4, [.ref a_T_now_tape_items, .int T_now_tape_size])), (a_T_now_tape_items, .inl (cI G, 50, .inl T_now_tape_items)), (a_T_kept_waiting, .inr (4, [.ref a_T_kept_waiting_items, .int T_kept_waiting_size])), (a_T_kept_waiting_items, .inl (cI G, 20, .inl T_kept_waiting_items)), (a_T_now_waiting, .inr (4, [.ref a_T_now_waiting_items, .int T_now_waiting_size])), (a_T_now_waiting_items, .inl (cI G, 20, .inl T_now_waiting_items))]
abbrev qc_X7_image (G : Gt) (a_T : Nat) (a_T_now : Nat) (a_T_kept : Nat) (a_T_thought : Nat) (a_T_reader : Nat) (a_T_voices : Nat) (a_T_rows : Nat) (a_T_refused : Nat) (a_T_timesFree : Nat) (a_T_kept_meeting : Nat) (a_T_kept_deed : Nat) (a_T_kept_folk : Nat) (a_T_kept_tape : Nat) (a_T_kept_waiting : Nat) (a_T_now_meeting : Nat) (a_T_now_deed : Nat) (a_T_now_folk : Nat) (a_T_now_tape : Nat) (a_T_now_waiting : Nat) (a_T_now_meeting_signs : Nat) (a_T_now_meeting_numbers : Nat) (a_T_now_meeting_pile : Nat) (a_T_kept_meeting_signs : Nat) (a_T_kept_meeting_numbers : Nat) (a_T_kept_meeting_pile : Nat) (a_T_now_deed_signs : Nat) (a_T_now_deed_numbers : Nat) (a_T_now_deed_pile : Nat) (a_T_kept_deed_signs : Nat) (a_T_kept_deed_numbers : Nat) (a_T_kept_deed_pile : Nat) (a_T_now_folk_kind : Nat) (a_T_now_folk_m : Nat) (a_T_now_folk_at : Nat) (a_T_now_folk_free : Nat) (a_T_now_folk_gloved : Nat) (a_T_now_folk_deeds : Nat) (a_T_now_folk_handed : Nat) (a_T_now_folk_crowd : Nat) (a_T_kept_folk_kind : Nat) (a_T_kept_folk_m : Nat) (a_T_kept_folk_at : Nat) (a_T_kept_folk_free : Nat) (a_T_kept_folk_gloved : Nat) (a_T_kept_folk_deeds : Nat) (a_T_kept_folk_handed : Nat) (a_T_kept_folk_crowd : Nat) (a_T_kept_tape_items : Nat) (a_T_now_tape_items : Nat) (a_T_kept_waiting_items : Nat) (a_T_now_waiting_items : Nat) (T_now_z : Int32) (T_now_meeting_size : Int32) (T_now_meeting_signs : Nat → Int32) (T_now_meeting_numbers : Nat → Int32) (T_now_deed_size : Int32) (T_now_deed_signs : Nat → Int32) (T_now_deed_numbers : Nat → Int32) (T_now_folk_size : Int32) (T_now_folk_step : Int32) (T_now_folk_loss : Int32) (T_now_folk_kind : Nat → Int32) (T_now_folk_m : Nat → Int32) (T_now_folk_at : Nat → Int32) (T_now_folk_free : Nat → Int32) (T_now_folk_gloved : Nat → Int32) (T_now_folk_deeds : Nat → Int32) (T_now_tape_size : Int32) (T_now_tape_items : Nat → Int32) (T_now_waiting_size : Int32) (T_now_waiting_items : Nat → Int32) (A : Nat → Prop) (Q : Int32 → Int32 → Int32 → Int32 → (Nat → Int32) → (Nat → Int32) → Int32 → (Nat → Int32) → (Nat → Int32) → Int32 → Int32 → Int32 → (Nat → Int32) → (Nat → Int32) → (Nat → Int32) → (Nat → Int32) → (Nat → Int32) → (Nat → Int32) → Int32 → (Nat → Int32) → Int32 → (Nat → Int32) → Prop) : Array Value → State → Outcome → State → Prop := Qi1 G A (fun r (u : Int32 × Int32 × Int32 × (Nat → Int32) × (Nat → Int32) × Int32 × (Nat → Int32) × (Nat → Int32) × Int32 × Int32 × Int32 × (Nat → Int32) × (Nat → Int32) × (Nat → Int32) × (Nat → Int32) × (Nat → Int32) × (Nat → Int32) × Int32 × (Nat → Int32) × Int32 × (Nat → Int32)) => Q r u.1 u.2.1 u.2.2.1 u.2.2.2.1 u.2.2.2.2.1 u.2.2.2.2.2.1 u.2.2.2.2.2.2.1 u.2.2.2.2.2.2.2.1 u.2.2.2.2.2.2.2.2.1 u.2.2.2.2.2.2.2.2.2.1 u.2.2.2.2.2.2.2.2.2.2.1 u.2.2.2.2.2.2.2.2.2.2.2.1 u.2.2.2.2.2.2.2.2.2.2.2.2.1 u.2.2.2.2.2.2.2.2.2.2.2.2.2.1 u.2.2.2.2.2.2.2.2.2.2.2.2.2.2.1 u.2.2.2.2.2.2.2.2.2.2.2.2.2.2.2.1 u.2.2.2.2.2.2.2.2.2.2.2.2.2.2.2.2.1 u.2.2.2.2.2.2.2.2.2.2.2.2.2.2.2.2.2.1 u.2.2.2.2.2.2.2.2.2.2.2.2.2.2.2.2.2.2.1 u.2.2.2.2.2.2.2.2.2.2.2.2.2.2.2.2.2.2.2.1 u.2.2.2.2.2.2.2.2.2.2.2.2.2.2.2.2.2.2.2.2) (fun u => cs_X7_image G a_T a_T_now a_T_kept a_T_thought a_T_reader a_T_voices a_T_rows a_T_refused a_T_timesFree a_T_kept_meeting a_T_kept_deed a_T_kept_folk a_T_kept_tape a_T_kept_waiting a_T_now_meeting a_T_now_deed a_T_now_folk a_T_now_tape a_T_now_waiting a_T_now_meeting_signs a_T_now_meeting_numbers a_T_now_meeting_pile a_T_kept_meeting_signs a_T_kept_meeting_numbers a_T_kept_meeting_pile a_T_now_deed_signs a_T_now_deed_numbers a_T_now_deed_pile a_T_kept_deed_signs a_T_kept_deed_numbers a_T_kept_deed_pile a_T_now_folk_kind a_T_now_folk_m a_T_now_folk_at a_T_now_folk_free a_T_now_folk_gloved a_T_now_folk_deeds a_T_now_folk_handed a_T_now_folk_crowd a_T_kept_folk_kind a_T_kept_folk_m a_T_kept_folk_at a_T_kept_folk_free a_T_kept_folk_gloved a_T_kept_folk_deeds a_T_kept_folk_handed a_T_kept_folk_crowd a_T_kept_tape_items a_T_now_tape_items a_T_kept_waiting_items a_T_now_waiting_items u.1 u.2.1 T_now_z T_now_meeting_size u.2.2.1 T_now_meeting_signs u.2.2.2.1 T_now_meeting_numbers u.2.2.2.2.1 T_now_deed_size u.2.2.2.2.2.1 T_now_deed_signs u.2.2.2.2.2.2.1 T_now_deed_numbers u.2.2.2.2.2.2.2.1 T_now_folk_size T_now_folk_step T_now_folk_loss u.2.2.2.2.2.2.2.2.1 u.2.2.2.2.2.2.2.2.2.1 u.2.2.2.2.2.2.2.2.2.2.1 T_now_folk_kind u.2.2.2.2.2.2.2.2.2.2.2.1 T_now_folk_m u.2.2.2.2.2.2.2.2.2.2.2.2.1 T_now_folk_at u.2.2.2.2.2.2.2.2.2.2.2.2.2.1 T_now_folk_free u.2.2.2.2.2.2.2.2.2.2.2.2.2.2.1 T_now_folk_gloved u.2.2.2.2.2.2.2.2.2.2.2.2.2.2.2.1 T_now_folk_deeds u.2.2.2.2.2.2.2.2.2.2.2.2.2.2.2.2.1 u.2.2.2.2.2.2.2.2.2.2.2.2.2.2.2.2.2.1 u.2.2.2.2.2.2.2.2.2.2.2.2.2.2.2.2.2.2.1 T_now_tape_size T_now_tape_items u.2.2.2.2.2.2.2.2.2.2.2.2.2.2.2.2.2.2.2.1 u.2.2.2.2.2.2.2.2.2.2.2.2.2.2.2.2.2.2.2.2 T_now_waiting_size T_now_waiting_items)
def wp_X7_image (T_images : Int32) (T_kept_z : Int32) (T_now_z : Int32) (T_now_meeting_size : Int32) (T_kept_meeting_size : Int32) (T_now_meeting_signs : Nat → Int32) (T_kept_meeting_signs : Nat → Int32) (T_now_meeting_numbers : Nat → Int32) (T_kept_meeting_numbers : Nat → Int32) (T_now_deed_size : Int32) (T_kept_deed_size : Int32) (T_now_deed_signs : Nat → Int32) (T_kept_deed_signs : Nat → Int32) (T_now_deed_numbers : Nat → Int32) (T_kept_deed_numbers : Nat → Int32) (T_now_folk_size : Int32) (T_now_folk_step : Int32) (T_now_folk_loss : Int32) (T_kept_folk_size : Int32) (T_kept_folk_step : Int32) (T_kept_folk_loss : Int32) (T_now_folk_kind : Nat → Int32) (T_kept_folk_kind : Nat → Int32) (T_now_folk_m : Nat → Int32) (T_kept_folk_m : Nat → Int32) (T_now_folk_at : Nat → Int32) (T_kept_folk_at : Nat → Int32) (T_now_folk_free : Nat → Int32) (T_kept_folk_free : Nat → Int32) (T_now_folk_gloved : Nat → Int32) (T_kept_folk_gloved : Nat → Int32) (T_now_folk_deeds : Nat → Int32) (T_kept_folk_deeds : Nat → Int32) (T_kept_tape_size : Int32) (T_kept_tape_items : Nat → Int32) (T_now_tape_size : Int32) (T_now_tape_items : Nat → Int32) (T_kept_waiting_size : Int32) (T_kept_waiting_items : Nat → Int32) (T_now_waiting_size : Int32) (T_now_waiting_items : Nat → Int32) (Q : Int32 → Int32 → Int32 → Int32 → (Nat → Int32) → (Nat → Int32) → Int32 → (Nat → Int32) → (Nat → Int32) → Int32 → Int32 → Int32 → (Nat → Int32) → (Nat → Int32) → (Nat → Int32) → (Nat → Int32) → (Nat → Int32) → (Nat → Int32) → Int32 → (Nat → Int32) → Int32 → (Nat → Int32) → Prop) : Prop := (wp_X5_copy T_kept_z T_now_z T_now_meeting_size T_kept_meeting_size T_now_meeting_signs T_kept_meeting_signs T_now_meeting_numbers T_kept_meeting_numbers T_now_deed_size T_kept_deed_size T_now_deed_signs T_kept_deed_signs T_now_deed_numbers T_kept_deed_numbers T_now_folk_size T_now_folk_step T_now_folk_loss T_kept_folk_size T_kept_folk_step T_kept_folk_loss T_now_folk_kind T_kept_folk_kind T_now_folk_m T_kept_folk_m T_now_folk_at T_kept_folk_at T_now_folk_free T_kept_folk_free T_now_folk_gloved T_kept_folk_gloved T_now_folk_deeds T_kept_folk_deeds T_kept_tape_size T_kept_tape_items T_now_tape_size T_now_tape_items T_kept_waiting_size T_kept_waiting_items T_now_waiting_size T_now_waiting_items (fun o1 o2 o3 o4 o5 o6 o7 o8 o9 o10 o11 o12 o13 o14 o15 o16 o17 o18 o19 o20 => (∀ v21 : Int32, v21 = (T_images + (1 : Int32)) → (Q v21 v21 o1 o2 o3 o4 o5 o6 o7 o8 o9 o10 o11 o12 o13 o14 o15 o16 o17 o18 o19 o20))))
set_option maxHeartbeats 4000000 in
set_option maxRecDepth 100000 in
theorem wk_X7_image (l : Launch) (G : Gt) (a_T : Nat) (a_T_now : Nat) (a_T_kept : Nat) (a_T_thought : Nat) (a_T_reader : Nat) (a_T_voices : Nat) (a_T_rows : Nat) (a_T_refused : Nat) (a_T_timesFree : Nat) (a_T_kept_meeting : Nat) (a_T_kept_deed : Nat) (a_T_kept_folk : Nat) (a_T_kept_tape : Nat) (a_T_kept_waiting : Nat) (a_T_now_meeting : Nat) (a_T_now_deed : Nat) (a_T_now_folk : Nat) (a_T_now_tape : Nat) (a_T_now_waiting : Nat) (a_T_now_meeting_signs : Nat) (a_T_now_meeting_numbers : Nat) (a_T_now_meeting_pile : Nat) (a_T_kept_meeting_signs : Nat) (a_T_kept_meeting_numbers : Nat) (a_T_kept_meeting_pile : Nat) (a_T_now_deed_signs : Nat) (a_T_now_deed_numbers : Nat) (a_T_now_deed_pile : Nat) (a_T_kept_deed_signs : Nat) (a_T_kept_deed_numbers : Nat) (a_T_kept_deed_pile : Nat) (a_T_now_folk_kind : Nat) (a_T_now_folk_m : Nat) (a_T_now_folk_at : Nat) (a_T_now_folk_free : Nat) (a_T_now_folk_gloved : Nat) (a_T_now_folk_deeds : Nat) (a_T_now_folk_handed : Nat) (a_T_now_folk_crowd : Nat) (a_T_kept_folk_kind : Nat) (a_T_kept_folk_m : Nat) (a_T_kept_folk_at : Nat) (a_T_kept_folk_free : Nat) (a_T_kept_folk_gloved : Nat) (a_T_kept_folk_deeds : Nat) (a_T_kept_folk_handed : Nat) (a_T_kept_folk_crowd : Nat) (a_T_kept_tape_items : Nat) (a_T_now_tape_items : Nat) (a_T_kept_waiting_items : Nat) (a_T_now_waiting_items : Nat) (sz : Nat) (T_images : Int32) (T_kept_z : Int32) (T_now_z : Int32) (T_now_meeting_size : Int32) (T_kept_meeting_size : Int32) (T_now_meeting_signs : Nat → Int32) (T_kept_meeting_signs : Nat → Int32) (T_now_meeting_numbers : Nat → Int32) (T_kept_meeting_numbers : Nat → Int32) (T_now_deed_size : Int32) (T_kept_deed_size : Int32) (T_now_deed_signs : Nat → Int32) (T_kept_deed_signs : Nat → Int32) (T_now_deed_numbers : Nat → Int32) (T_kept_deed_numbers : Nat → Int32) (T_now_folk_size : Int32) (T_now_folk_step : Int32) (T_now_folk_loss : Int32) (T_kept_folk_size : Int32) (T_kept_folk_step : Int32) (T_kept_folk_loss : Int32) (T_now_folk_kind : Nat → Int32) (T_kept_folk_kind : Nat → Int32) (T_now_folk_m : Nat → Int32) (T_kept_folk_m : Nat → Int32) (T_now_folk_at : Nat → Int32) (T_kept_folk_at : Nat → Int32) (T_now_folk_free : Nat → Int32) (T_kept_folk_free : Nat → Int32) (T_now_folk_gloved : Nat → Int32) (T_kept_folk_gloved : Nat → Int32) (T_now_folk_deeds : Nat → Int32) (T_kept_folk_deeds : Nat → Int32) (T_kept_tape_size : Int32) (T_kept_tape_items : Nat → Int32) (T_now_tape_size : Int32) (T_now_tape_items : Nat → Int32) (T_kept_waiting_size : Int32) (T_kept_waiting_items : Nat → Int32) (T_now_waiting_size : Int32) (T_now_waiting_items : Nat → Int32) (Q : Int32 → Int32 → Int32 → Int32 → (Nat → Int32) → (Nat → Int32) → Int32 → (Nat → Int32) → (Nat → Int32) → Int32 → Int32 → Int32 → (Nat → Int32) → (Nat → Int32) → (Nat → Int32) → (Nat → Int32) → (Nat → Int32) → (Nat → Int32) → Int32 → (Nat → Int32) → Int32 → (Nat → Int32) → Prop) (hw : wp_X7_image T_images T_kept_z T_now_z T_now_meeting_size T_kept_meeting_size T_now_meeting_signs T_kept_meeting_signs T_now_meeting_numbers T_kept_meeting_numbers T_now_deed_size T_kept_deed_size T_now_deed_signs T_kept_deed_signs T_now_deed_numbers T_kept_deed_numbers T_now_folk_size T_now_folk_step T_now_folk_loss T_kept_folk_size T_kept_folk_step T_kept_folk_loss T_now_folk_kind T_kept_folk_kind T_now_folk_m T_kept_folk_m T_now_folk_at T_kept_folk_at T_now_folk_free T_kept_folk_free T_now_folk_gloved T_kept_folk_gloved T_now_folk_deeds T_kept_folk_deeds T_kept_tape_size T_kept_tape_items T_now_tape_size T_now_tape_items T_kept_waiting_size T_kept_waiting_items T_now_waiting_size T_now_waiting_items Q) : Met l yX7_image (wc yX7_image cX7_image 1 (some .int)) rm_X7_image (va_Pc [.ref a_T] (PB G (cs_X7_image G a_T a_T_now a_T_kept a_T_thought a_T_reader a_T_voices a_T_rows a_T_refused a_T_timesFree a_T_kept_meeting a_T_kept_deed a_T_kept_folk a_T_kept_tape a_T_kept_waiting a_T_now_meeting a_T_now_deed a_T_now_folk a_T_now_tape a_T_now_waiting a_T_now_meeting_signs a_T_now_meeting_numbers a_T_now_meeting_pile a_T_kept_meeting_signs a_T_kept_meeting_numbers a_T_kept_meeting_pile a_T_now_deed_signs a_T_now_deed_numbers a_T_now_deed_pile a_T_kept_deed_signs a_T_kept_deed_numbers a_T_kept_deed_pile a_T_now_folk_kind a_T_now_folk_m a_T_now_folk_at a_T_now_folk_free a_T_now_folk_gloved a_T_now_folk_deeds a_T_now_folk_handed a_T_now_folk_crowd a_T_kept_folk_kind a_T_kept_folk_m a_T_kept_folk_at a_T_kept_folk_free a_T_kept_folk_gloved a_T_kept_folk_deeds a_T_kept_folk_handed a_T_kept_folk_crowd a_T_kept_tape_items a_T_now_tape_items a_T_kept_waiting_items a_T_now_waiting_items T_images T_kept_z T_now_z T_now_meeting_size T_kept_meeting_size T_now_meeting_signs T_kept_meeting_signs T_now_meeting_numbers T_kept_meeting_numbers T_now_deed_size T_kept_deed_size T_now_deed_signs T_kept_deed_signs T_now_deed_numbers T_kept_deed_numbers T_now_folk_size T_now_folk_step T_now_folk_loss T_kept_folk_size T_kept_folk_step T_kept_folk_loss T_now_folk_kind T_kept_folk_kind T_now_folk_m T_kept_folk_m T_now_folk_at T_kept_folk_at T_now_folk_free T_kept_folk_free T_now_folk_gloved T_kept_folk_gloved T_now_folk_deeds T_kept_folk_deeds T_kept_tape_size T_kept_tape_items T_now_tape_size T_now_tape_items T_kept_waiting_size T_kept_waiting_items T_now_waiting_size T_now_waiting_items) sz)) (qc_X7_image G a_T a_T_now a_T_kept a_T_thought a_T_reader a_T_voices a_T_rows a_T_refused a_T_timesFree a_T_kept_meeting a_T_kept_deed a_T_kept_folk a_T_kept_tape a_T_kept_waiting a_T_now_meeting a_T_now_deed a_T_now_folk a_T_now_tape a_T_now_waiting a_T_now_meeting_signs a_T_now_meeting_numbers a_T_now_meeting_pile a_T_kept_meeting_signs a_T_kept_meeting_numbers a_T_kept_meeting_pile a_T_now_deed_signs a_T_now_deed_numbers a_T_now_deed_pile a_T_kept_deed_signs a_T_kept_deed_numbers a_T_kept_deed_pile a_T_now_folk_kind a_T_now_folk_m a_T_now_folk_at a_T_now_folk_free a_T_now_folk_gloved a_T_now_folk_deeds a_T_now_folk_handed a_T_now_folk_crowd a_T_kept_folk_kind a_T_kept_folk_m a_T_kept_folk_at a_T_kept_folk_free a_T_kept_folk_gloved a_T_kept_folk_deeds a_T_kept_folk_handed a_T_kept_folk_crowd a_T_kept_tape_items a_T_now_tape_items a_T_kept_waiting_items a_T_now_waiting_items T_now_z T_now_meeting_size T_now_meeting_signs T_now_meeting_numbers T_now_deed_size T_now_deed_signs T_now_deed_numbers T_now_folk_size T_now_folk_step T_now_folk_loss T_now_folk_kind T_now_folk_m T_now_folk_at T_now_folk_free T_now_folk_gloved T_now_folk_deeds T_now_tape_size T_now_tape_items T_now_waiting_size T_now_waiting_items (va_A (cs_X7_image G a_T a_T_now a_T_kept a_T_thought a_T_reader a_T_voices a_T_rows a_T_refused a_T_timesFree a_T_kept_meeting a_T_kept_deed a_T_kept_folk a_T_kept_tape a_T_kept_waiting a_T_now_meeting a_T_now_deed a_T_now_folk a_T_now_tape a_T_now_waiting a_T_now_meeting_signs a_T_now_meeting_numbers a_T_now_meeting_pile a_T_kept_meeting_signs a_T_kept_meeting_numbers a_T_kept_meeting_pile a_T_now_deed_signs a_T_now_deed_numbers a_T_now_deed_pile a_T_kept_deed_signs a_T_kept_deed_numbers a_T_kept_deed_pile a_T_now_folk_kind a_T_now_folk_m a_T_now_folk_at a_T_now_folk_free a_T_now_folk_gloved a_T_now_folk_deeds a_T_now_folk_handed a_T_now_folk_crowd a_T_kept_folk_kind a_T_kept_folk_m a_T_kept_folk_at a_T_kept_folk_free a_T_kept_folk_gloved a_T_kept_folk_deeds a_T_kept_folk_handed a_T_kept_folk_crowd a_T_kept_tape_items a_T_now_tape_items a_T_kept_waiting_items a_T_now_waiting_items T_images T_kept_z T_now_z T_now_meeting_size T_kept_meeting_size T_now_meeting_signs T_kept_meeting_signs T_now_meeting_numbers T_kept_meeting_numbers T_now_deed_size T_kept_deed_size T_now_deed_signs T_kept_deed_signs T_now_deed_numbers T_kept_deed_numbers T_now_folk_size T_now_folk_step T_now_folk_loss T_kept_folk_size T_kept_folk_step T_kept_folk_loss T_now_folk_kind T_kept_folk_kind T_now_folk_m T_kept_folk_m T_now_folk_at T_kept_folk_at T_now_folk_free T_kept_folk_free T_now_folk_gloved T_kept_folk_gloved T_now_folk_deeds T_kept_folk_deeds T_kept_tape_size T_kept_tape_items T_now_tape_size T_now_tape_items T_kept_waiting_size T_kept_waiting_items T_now_waiting_size T_now_waiting_items) sz) Q) 0 0 (va_A (cs_X7_image G a_T a_T_now a_T_kept a_T_thought a_T_reader a_T_voices a_T_rows a_T_refused a_T_timesFree a_T_kept_meeting a_T_kept_deed a_T_kept_folk a_T_kept_tape a_T_kept_waiting a_T_now_meeting a_T_now_deed a_T_now_folk a_T_now_tape a_T_now_waiting a_T_now_meeting_signs a_T_now_meeting_numbers a_T_now_meeting_pile a_T_kept_meeting_signs a_T_kept_meeting_numbers a_T_kept_meeting_pile a_T_now_deed_signs a_T_now_deed_numbers a_T_now_deed_pile a_T_kept_deed_signs a_T_kept_deed_numbers a_T_kept_deed_pile a_T_now_folk_kind a_T_now_folk_m a_T_now_folk_at a_T_now_folk_free a_T_now_folk_gloved a_T_now_folk_deeds a_T_now_folk_handed a_T_now_folk_crowd a_T_kept_folk_kind a_T_kept_folk_m a_T_kept_folk_at a_T_kept_folk_free a_T_kept_folk_gloved a_T_kept_folk_deeds a_T_kept_folk_handed a_T_kept_folk_crowd a_T_kept_tape_items a_T_now_tape_items a_T_kept_waiting_items a_T_now_waiting_items T_images T_kept_z T_now_z T_now_meeting_size T_kept_meeting_size T_now_meeting_signs T_kept_meeting_signs T_now_meeting_numbers T_kept_meeting_numbers T_now_deed_size T_kept_deed_size T_now_deed_signs T_kept_deed_signs T_now_deed_numbers T_kept_deed_numbers T_now_folk_size T_now_folk_step T_now_folk_loss T_kept_folk_size T_kept_folk_step T_kept_folk_loss T_now_folk_kind T_kept_folk_kind T_now_folk_m T_kept_folk_m T_now_folk_at T_kept_folk_at T_now_folk_free T_kept_folk_free T_now_folk_gloved T_kept_folk_gloved T_now_folk_deeds T_kept_folk_deeds T_kept_tape_size T_kept_tape_items T_now_tape_size T_now_tape_items T_kept_waiting_size T_kept_waiting_items T_now_waiting_size T_now_waiting_items) sz) := by
  refine x_start pn_X7 (Nat.le_of_ble_eq_true rfl) (fun p e s m below meth c ls C hn hl hB => ?_)
  have I := iv_start hB
  generalize va_A (cs_X7_image G a_T a_T_now a_T_kept a_T_thought a_T_reader a_T_voices a_T_rows a_T_refused a_T_timesFree a_T_kept_meeting a_T_kept_deed a_T_kept_folk a_T_kept_tape a_T_kept_waiting a_T_now_meeting a_T_now_deed a_T_now_folk a_T_now_tape a_T_now_waiting a_T_now_meeting_signs a_T_now_meeting_numbers a_T_now_meeting_pile a_T_kept_meeting_signs a_T_kept_meeting_numbers a_T_kept_meeting_pile a_T_now_deed_signs a_T_now_deed_numbers a_T_now_deed_pile a_T_kept_deed_signs a_T_kept_deed_numbers a_T_kept_deed_pile a_T_now_folk_kind a_T_now_folk_m a_T_now_folk_at a_T_now_folk_free a_T_now_folk_gloved a_T_now_folk_deeds a_T_now_folk_handed a_T_now_folk_crowd a_T_kept_folk_kind a_T_kept_folk_m a_T_kept_folk_at a_T_kept_folk_free a_T_kept_folk_gloved a_T_kept_folk_deeds a_T_kept_folk_handed a_T_kept_folk_crowd a_T_kept_tape_items a_T_now_tape_items a_T_kept_waiting_items a_T_now_waiting_items T_images T_kept_z T_now_z T_now_meeting_size T_kept_meeting_size T_now_meeting_signs T_kept_meeting_signs T_now_meeting_numbers T_kept_meeting_numbers T_now_deed_size T_kept_deed_size T_now_deed_signs T_kept_deed_signs T_now_deed_numbers T_kept_deed_numbers T_now_folk_size T_now_folk_step T_now_folk_loss T_kept_folk_size T_kept_folk_step T_kept_folk_loss T_now_folk_kind T_kept_folk_kind T_now_folk_m T_kept_folk_m T_now_folk_at T_kept_folk_at T_now_folk_free T_kept_folk_free T_now_folk_gloved T_kept_folk_gloved T_now_folk_deeds T_kept_folk_deeds T_kept_tape_size T_kept_tape_items T_now_tape_size T_now_tape_items T_kept_waiting_size T_kept_waiting_items T_now_waiting_size T_now_waiting_items) sz = A at I ⊢
  have C : Cx p s m [.ref a_T].toArray meth c cX7_image 1 RX7 (some .int) := C
  have hl : lv_has ls 1 [(0, .ref a_T)] := hl
  refine x_aload_n C hl 0 dX7_image_0 rfl ?_
  refine x_get C I.1 fl_X7_16 0 rfl rfl dX7_image_1 ?_
  refine x_aload_n C hl 0 dX7_image_4 rfl ?_
  refine x_get C I.1 fl_X7_10 0 rfl rfl dX7_image_5 ?_
  refine x_muv (wk := cs_X5_copy G a_T_kept a_T_kept_meeting a_T_kept_deed a_T_kept_folk a_T_kept_tape a_T_kept_waiting a_T_now a_T_now_meeting a_T_now_deed a_T_now_folk a_T_now_tape a_T_now_waiting a_T_now_meeting_signs a_T_now_meeting_numbers a_T_now_meeting_pile a_T_kept_meeting_signs a_T_kept_meeting_numbers a_T_kept_meeting_pile a_T_now_deed_signs a_T_now_deed_numbers a_T_now_deed_pile a_T_kept_deed_signs a_T_kept_deed_numbers a_T_kept_deed_pile a_T_now_folk_kind a_T_now_folk_m a_T_now_folk_at a_T_now_folk_free a_T_now_folk_gloved a_T_now_folk_deeds a_T_now_folk_handed a_T_now_folk_crowd a_T_kept_folk_kind a_T_kept_folk_m a_T_kept_folk_at a_T_kept_folk_free a_T_kept_folk_gloved a_T_kept_folk_deeds a_T_kept_folk_handed a_T_kept_folk_crowd a_T_kept_tape_items a_T_now_tape_items a_T_kept_waiting_items a_T_now_waiting_items T_kept_z T_now_z T_now_meeting_size T_kept_meeting_size T_now_meeting_signs T_kept_meeting_signs T_now_meeting_numbers T_kept_meeting_numbers T_now_deed_size T_kept_deed_size T_now_deed_signs T_kept_deed_signs T_now_deed_numbers T_kept_deed_numbers T_now_folk_size T_now_folk_step T_now_folk_loss T_kept_folk_size T_kept_folk_step T_kept_folk_loss T_now_folk_kind T_kept_folk_kind T_now_folk_m T_kept_folk_m T_now_folk_at T_kept_folk_at T_now_folk_free T_kept_folk_free T_now_folk_gloved T_kept_folk_gloved T_now_folk_deeds T_kept_folk_deeds T_kept_tape_size T_kept_tape_items T_now_tape_size T_now_tape_items T_kept_waiting_size T_kept_waiting_items T_now_waiting_size T_now_waiting_items) (wr := [(a_T, .inr (7, [.ref a_T_now, .ref a_T_kept, .ref a_T_thought, .ref a_T_reader, .ref a_T_voices, .ref a_T_rows, .ref a_T_refused, .ref a_T_timesFree, .int T_images]))]) (isC := [1, 2, 3, 4, 5, 6, 7, 8, 9, 10, 11, 12, 13, 14, 15, 16, 17, 18, 19, 20, 21, 22, 23, 24, 25, 26, 27, 28, 29, 30, 31, 32, 33, 34, 35, 36]) (isR := [0]) I ⟨⟨rfl, rfl⟩, rfl, rfl, rfl⟩ [0, 1, 2, 3, 4, 5, 6, 7, 8, 9, 10, 11, 12, 13, 14, 15, 16, 17, 18, 19, 20, 21, 22, 23, 24, 25, 26, 27, 28, 29, 30, 31, 32, 33, 34, 35, 36] (fun u => cs_X7_image G a_T a_T_now a_T_kept a_T_thought a_T_reader a_T_voices a_T_rows a_T_refused a_T_timesFree a_T_kept_meeting a_T_kept_deed a_T_kept_folk a_T_kept_tape a_T_kept_waiting a_T_now_meeting a_T_now_deed a_T_now_folk a_T_now_tape a_T_now_waiting a_T_now_meeting_signs a_T_now_meeting_numbers a_T_now_meeting_pile a_T_kept_meeting_signs a_T_kept_meeting_numbers a_T_kept_meeting_pile a_T_now_deed_signs a_T_now_deed_numbers a_T_now_deed_pile a_T_kept_deed_signs a_T_kept_deed_numbers a_T_kept_deed_pile a_T_now_folk_kind a_T_now_folk_m a_T_now_folk_at a_T_now_folk_free a_T_now_folk_gloved a_T_now_folk_deeds a_T_now_folk_handed a_T_now_folk_crowd a_T_kept_folk_kind a_T_kept_folk_m a_T_kept_folk_at a_T_kept_folk_free a_T_kept_folk_gloved a_T_kept_folk_deeds a_T_kept_folk_handed a_T_kept_folk_crowd a_T_kept_tape_items a_T_now_tape_items a_T_kept_waiting_items a_T_now_waiting_items T_images u.1 T_now_z T_now_meeting_size u.2.1 T_now_meeting_signs u.2.2.1 T_now_meeting_numbers u.2.2.2.1 T_now_deed_size u.2.2.2.2.1 T_now_deed_signs u.2.2.2.2.2.1 T_now_deed_numbers u.2.2.2.2.2.2.1 T_now_folk_size T_now_folk_step T_now_folk_loss u.2.2.2.2.2.2.2.1 u.2.2.2.2.2.2.2.2.1 u.2.2.2.2.2.2.2.2.2.1 T_now_folk_kind u.2.2.2.2.2.2.2.2.2.2.1 T_now_folk_m u.2.2.2.2.2.2.2.2.2.2.2.1 T_now_folk_at u.2.2.2.2.2.2.2.2.2.2.2.2.1 T_now_folk_free u.2.2.2.2.2.2.2.2.2.2.2.2.2.1 T_now_folk_gloved u.2.2.2.2.2.2.2.2.2.2.2.2.2.2.1 T_now_folk_deeds u.2.2.2.2.2.2.2.2.2.2.2.2.2.2.2.1 u.2.2.2.2.2.2.2.2.2.2.2.2.2.2.2.2.1 u.2.2.2.2.2.2.2.2.2.2.2.2.2.2.2.2.2.1 T_now_tape_size T_now_tape_items u.2.2.2.2.2.2.2.2.2.2.2.2.2.2.2.2.2.2.1 u.2.2.2.2.2.2.2.2.2.2.2.2.2.2.2.2.2.2.2 T_now_waiting_size T_now_waiting_items) (fun _ => rfl) rfl (run_V (As := [.ref a_T_now]) (rest := []) C hl (wk_X5_copy l G a_T_kept a_T_kept_meeting a_T_kept_deed a_T_kept_folk a_T_kept_tape a_T_kept_waiting a_T_now a_T_now_meeting a_T_now_deed a_T_now_folk a_T_now_tape a_T_now_waiting a_T_now_meeting_signs a_T_now_meeting_numbers a_T_now_meeting_pile a_T_kept_meeting_signs a_T_kept_meeting_numbers a_T_kept_meeting_pile a_T_now_deed_signs a_T_now_deed_numbers a_T_now_deed_pile a_T_kept_deed_signs a_T_kept_deed_numbers a_T_kept_deed_pile a_T_now_folk_kind a_T_now_folk_m a_T_now_folk_at a_T_now_folk_free a_T_now_folk_gloved a_T_now_folk_deeds a_T_now_folk_handed a_T_now_folk_crowd a_T_kept_folk_kind a_T_kept_folk_m a_T_kept_folk_at a_T_kept_folk_free a_T_kept_folk_gloved a_T_kept_folk_deeds a_T_kept_folk_handed a_T_kept_folk_crowd a_T_kept_tape_items a_T_now_tape_items a_T_kept_waiting_items a_T_now_waiting_items s.heap.size T_kept_z T_now_z T_now_meeting_size T_kept_meeting_size T_now_meeting_signs T_kept_meeting_signs T_now_meeting_numbers T_kept_meeting_numbers T_now_deed_size T_kept_deed_size T_now_deed_signs T_kept_deed_signs T_now_deed_numbers T_kept_deed_numbers T_now_folk_size T_now_folk_step T_now_folk_loss T_kept_folk_size T_kept_folk_step T_kept_folk_loss T_now_folk_kind T_kept_folk_kind T_now_folk_m T_kept_folk_m T_now_folk_at T_kept_folk_at T_now_folk_free T_kept_folk_free T_now_folk_gloved T_kept_folk_gloved T_now_folk_deeds T_kept_folk_deeds T_kept_tape_size T_kept_tape_items T_now_tape_size T_now_tape_items T_kept_waiting_size T_kept_waiting_items T_now_waiting_size T_now_waiting_items _ hw) gm_X7_288 ⟨⟨rfl, rfl⟩, cn_X5_copy, ⟨(Nat.le_of_ble_eq_true rfl), (Nat.le_of_ble_eq_true rfl)⟩⟩ (pb_blind _ _ _ _) (x_recv I.1 1 rfl rfl) (pb_of I [1, 2, 3, 4, 5, 6, 7, 8, 9, 10, 11, 12, 13, 14, 15, 16, 17, 18, 19, 20, 21, 22, 23, 24, 25, 26, 27, 28, 29, 30, 31, 32, 33, 34, 35, 36] rfl rfl) rfl rfl (Nat.le_of_ble_eq_true rfl) ⟨Nat.le_of_ble_eq_true rfl, Nat.le_of_ble_eq_true rfl⟩ dX7_image_8) (fun u Hx lx hw I => ?_)
  obtain ⟨o1, o2, o3, o4, o5, o6, o7, o8, o9, o10, o11, o12, o13, o14, o15, o16, o17, o18, o19, o20⟩ := u
  have I : Iv G A s (cs_X7_image G a_T a_T_now a_T_kept a_T_thought a_T_reader a_T_voices a_T_rows a_T_refused a_T_timesFree a_T_kept_meeting a_T_kept_deed a_T_kept_folk a_T_kept_tape a_T_kept_waiting a_T_now_meeting a_T_now_deed a_T_now_folk a_T_now_tape a_T_now_waiting a_T_now_meeting_signs a_T_now_meeting_numbers a_T_now_meeting_pile a_T_kept_meeting_signs a_T_kept_meeting_numbers a_T_kept_meeting_pile a_T_now_deed_signs a_T_now_deed_numbers a_T_now_deed_pile a_T_kept_deed_signs a_T_kept_deed_numbers a_T_kept_deed_pile a_T_now_folk_kind a_T_now_folk_m a_T_now_folk_at a_T_now_folk_free a_T_now_folk_gloved a_T_now_folk_deeds a_T_now_folk_handed a_T_now_folk_crowd a_T_kept_folk_kind a_T_kept_folk_m a_T_kept_folk_at a_T_kept_folk_free a_T_kept_folk_gloved a_T_kept_folk_deeds a_T_kept_folk_handed a_T_kept_folk_crowd a_T_kept_tape_items a_T_now_tape_items a_T_kept_waiting_items a_T_now_waiting_items T_images o1 T_now_z T_now_meeting_size o2 T_now_meeting_signs o3 T_now_meeting_numbers o4 T_now_deed_size o5 T_now_deed_signs o6 T_now_deed_numbers o7 T_now_folk_size T_now_folk_step T_now_folk_loss o8 o9 o10 T_now_folk_kind o11 T_now_folk_m o12 T_now_folk_at o13 T_now_folk_free o14 T_now_folk_gloved o15 T_now_folk_deeds o16 o17 o18 T_now_tape_size T_now_tape_items o19 o20 T_now_waiting_size T_now_waiting_items) Hx lx := I
  refine x_aload_n C hl 0 dX7_image_11 rfl ?_
  refine x_dup C dX7_image_12 rfl ?_
  refine x_get C I.1 fl_X7_63 0 rfl rfl dX7_image_13 ?_
  refine x_iconst C dX7_image_16 ic_1 ?_
  refine x_iadd C dX7_image_17 ?_
  refine lv_topi (fun v21 ev21 => ?_)
  have hw := hw v21 ev21
  refine x_put C I fl_X7_63 tyX7 tyX7_ok nmX7 rfl 0 (cs_X7_image G a_T a_T_now a_T_kept a_T_thought a_T_reader a_T_voices a_T_rows a_T_refused a_T_timesFree a_T_kept_meeting a_T_kept_deed a_T_kept_folk a_T_kept_tape a_T_kept_waiting a_T_now_meeting a_T_now_deed a_T_now_folk a_T_now_tape a_T_now_waiting a_T_now_meeting_signs a_T_now_meeting_numbers a_T_now_meeting_pile a_T_kept_meeting_signs a_T_kept_meeting_numbers a_T_kept_meeting_pile a_T_now_deed_signs a_T_now_deed_numbers a_T_now_deed_pile a_T_kept_deed_signs a_T_kept_deed_numbers a_T_kept_deed_pile a_T_now_folk_kind a_T_now_folk_m a_T_now_folk_at a_T_now_folk_free a_T_now_folk_gloved a_T_now_folk_deeds a_T_now_folk_handed a_T_now_folk_crowd a_T_kept_folk_kind a_T_kept_folk_m a_T_kept_folk_at a_T_kept_folk_free a_T_kept_folk_gloved a_T_kept_folk_deeds a_T_kept_folk_handed a_T_kept_folk_crowd a_T_kept_tape_items a_T_now_tape_items a_T_kept_waiting_items a_T_now_waiting_items v21 o1 T_now_z T_now_meeting_size o2 T_now_meeting_signs o3 T_now_meeting_numbers o4 T_now_deed_size o5 T_now_deed_signs o6 T_now_deed_numbers o7 T_now_folk_size T_now_folk_step T_now_folk_loss o8 o9 o10 T_now_folk_kind o11 T_now_folk_m o12 T_now_folk_at o13 T_now_folk_free o14 T_now_folk_gloved o15 T_now_folk_deeds o16 o17 o18 T_now_tape_size T_now_tape_items o19 o20 T_now_waiting_size T_now_waiting_items) rfl rfl rfl (Nat.le_of_ble_eq_true rfl) rfl dX7_image_18 (fun Hx lx I => ?_)
  refine x_aload_n C hl 0 dX7_image_21 rfl ?_
  refine x_get C I.1 fl_X7_63 0 rfl rfl dX7_image_22 ?_
  exact x_ret1 C I (v21, o1, o2, o3, o4, o5, o6, o7, o8, o9, o10, o11, o12, o13, o14, o15, o16, o17, o18, o19, o20) rfl hw dX7_image_25
/-! X7_think -/
abbrev rm_X7_think : Room := { frames := 2, cells := 0, slots := 0, locals := 61 }
abbrev cs_X7_think (G : Gt) (a_T : Nat) (a_T_now : Nat) (a_T_kept : Nat) (a_T_thought : Nat) (a_T_reader : Nat) (a_T_voices : Nat) (a_T_rows : Nat) (a_T_refused : Nat) (a_T_timesFree : Nat) (a_T_now_meeting : Nat) (a_T_now_deed : Nat) (a_T_now_folk : Nat) (a_T_now_tape : Nat) (a_T_now_waiting : Nat) (a_T_now_folk_kind : Nat) (a_T_now_folk_m : Nat) (a_T_now_folk_at : Nat) (a_T_now_folk_free : Nat) (a_T_now_folk_gloved : Nat) (a_T_now_folk_deeds : Nat) (a_T_now_folk_handed : Nat) (a_T_now_folk_crowd : Nat) (a_T_thought_kind : Nat) (a_T_thought_m : Nat) (a_T_thought_at : Nat) (a_T_thought_free : Nat) (a_T_thought_gloved : Nat) (a_T_thought_deeds : Nat) (a_T_thought_handed : Nat) (a_T_thought_crowd : Nat) (T_images : Int32) (T_now_z : Int32) (T_now_folk_size : Int32) (T_now_folk_step : Int32) (T_now_folk_loss : Int32) (T_thought_size : Int32) (T_thought_step : Int32) (T_thought_loss : Int32) (T_now_folk_kind : Nat → Int32) (T_thought_kind : Nat → Int32) (T_now_folk_m : Nat → Int32) (T_thought_m : Nat → Int32) (T_now_folk_at : Nat → Int32) (T_thought_at : Nat → Int32) (T_now_folk_free : Nat → Int32) (T_thought_free : Nat → Int32) (T_now_folk_gloved : Nat → Int32) (T_thought_gloved : Nat → Int32) (T_now_folk_deeds : Nat → Int32) (T_thought_deeds : Nat → Int32) : va_W := [(a_T, .inr (7, [.ref a_T_now, .ref a_T_kept, .ref a_T_thought, .ref a_T_reader, .ref a_T_voices, .ref a_T_rows, .ref a_T_refused, .ref a_T_timesFree, .int T_images])), (a_T_now, .inr (5, [.ref a_T_now_meeting, .ref a_T_now_deed, .ref a_T_now_folk, .ref a_T_now_tape, .ref a_T_now_waiting, .int T_now_z])), (a_T_now_folk, .inr (0, [.ref a_T_now_meeting, .ref a_T_now_deed, .ref a_T_now_folk_kind, .ref a_T_now_folk_m, .ref a_T_now_folk_at, .ref a_T_now_folk_free, .ref a_T_now_folk_gloved, .ref a_T_now_folk_deeds, .ref a_T_now_folk_handed, .ref a_T_now_folk_crowd, .int T_now_folk_size, .int T_now_folk_step, .int T_now_folk_loss])), (a_T_thought, .inr (0, [.ref a_T_now_meeting, .ref a_T_now_deed, .ref a_T_thought_kind, .ref a_T_thought_m, .ref a_T_thought_at, .ref a_T_thought_free, .ref a_T_thought_gloved, .ref a_T_thought_deeds, .ref a_T_thought_handed, .ref a_T_thought_crowd, .int T_thought_size, .int T_thought_step, .int T_thought_loss])), (a_T_now_folk_kind, .inl (cI G, 8, .inl T_now_folk_kind)), (a_T_thought_kind, .inl (cI G, 8, .inl T_thought_kind)), (a_T_now_folk_m, .inl (cI G, 8, .inl T_now_folk_m)), (a_T_thought_m, .inl (cI G, 8, .inl T_thought_m)), (a_T_now_folk_at, .inl (cI G, 8, .inl T_now_folk_at)), (a_T_thought_at, .inl (cI G, 8, .inl T_thought_at)), (a_T_now_folk_free, .inl (cI G, 8, .inl T_now_folk_free)), (a_T_thought_free, .inl (cI G, 8, .inl T_thought_free)), (a_T_now_folk_gloved, .inl (cI G, 8, .inl T_now_folk_gloved)), (a_T_thought_gloved, .inl (cI G, 8, .inl T_thought_gloved)), (a_T_now_folk_deeds, .inl (cI G, 8, .inl T_now_folk_deeds)), (a_T_thought_deeds, .inl (cI G, 8, .inl T_thought_deeds))]
abbrev qc_X7_think (G : Gt) (a_T : Nat) (a_T_now : Nat) (a_T_kept : Nat) (a_T_thought : Nat) (a_T_reader : Nat) (a_T_voices : Nat) (a_T_rows : Nat) (a_T_refused : Nat) (a_T_timesFree : Nat) (a_T_now_meeting : Nat) (a_T_now_deed : Nat) (a_T_now_folk : Nat) (a_T_now_tape : Nat) (a_T_now_waiting : Nat) (a_T_now_folk_kind : Nat) (a_T_now_folk_m : Nat) (a_T_now_folk_at : Nat) (a_T_now_folk_free : Nat) (a_T_now_folk_gloved : Nat) (a_T_now_folk_deeds : Nat) (a_T_now_folk_handed : Nat) (a_T_now_folk_crowd : Nat) (a_T_thought_kind : Nat) (a_T_thought_m : Nat) (a_T_thought_at : Nat) (a_T_thought_free : Nat) (a_T_thought_gloved : Nat) (a_T_thought_deeds : Nat) (a_T_thought_handed : Nat) (a_T_thought_crowd : Nat) (T_images : Int32) (T_now_z : Int32) (T_now_folk_size : Int32) (T_now_folk_step : Int32) (T_now_folk_loss : Int32) (T_now_folk_kind : Nat → Int32) (T_now_folk_m : Nat → Int32) (T_now_folk_at : Nat → Int32) (T_now_folk_free : Nat → Int32) (T_now_folk_gloved : Nat → Int32) (T_now_folk_deeds : Nat → Int32) (A : Nat → Prop) (Q : Int32 → Int32 → Int32 → (Nat → Int32) → (Nat → Int32) → (Nat → Int32) → (Nat → Int32) → (Nat → Int32) → (Nat → Int32) → Prop) : Array Value → State → Outcome → State → Prop := Qv1 G A (fun (u : Int32 × Int32 × Int32 × (Nat → Int32) × (Nat → Int32) × (Nat → Int32) × (Nat → Int32) × (Nat → Int32) × (Nat → Int32)) => Q u.1 u.2.1 u.2.2.1 u.2.2.2.1 u.2.2.2.2.1 u.2.2.2.2.2.1 u.2.2.2.2.2.2.1 u.2.2.2.2.2.2.2.1 u.2.2.2.2.2.2.2.2) (fun u => cs_X7_think G a_T a_T_now a_T_kept a_T_thought a_T_reader a_T_voices a_T_rows a_T_refused a_T_timesFree a_T_now_meeting a_T_now_deed a_T_now_folk a_T_now_tape a_T_now_waiting a_T_now_folk_kind a_T_now_folk_m a_T_now_folk_at a_T_now_folk_free a_T_now_folk_gloved a_T_now_folk_deeds a_T_now_folk_handed a_T_now_folk_crowd a_T_thought_kind a_T_thought_m a_T_thought_at a_T_thought_free a_T_thought_gloved a_T_thought_deeds a_T_thought_handed a_T_thought_crowd T_images T_now_z T_now_folk_size T_now_folk_step T_now_folk_loss u.1 u.2.1 u.2.2.1 T_now_folk_kind u.2.2.2.1 T_now_folk_m u.2.2.2.2.1 T_now_folk_at u.2.2.2.2.2.1 T_now_folk_free u.2.2.2.2.2.2.1 T_now_folk_gloved u.2.2.2.2.2.2.2.1 T_now_folk_deeds u.2.2.2.2.2.2.2.2)
def wp_X7_think (T_now_folk_size : Int32) (T_now_folk_step : Int32) (T_now_folk_loss : Int32) (T_thought_size : Int32) (T_thought_step : Int32) (T_thought_loss : Int32) (T_now_folk_kind : Nat → Int32) (T_thought_kind : Nat → Int32) (T_now_folk_m : Nat → Int32) (T_thought_m : Nat → Int32) (T_now_folk_at : Nat → Int32) (T_thought_at : Nat → Int32) (T_now_folk_free : Nat → Int32) (T_thought_free : Nat → Int32) (T_now_folk_gloved : Nat → Int32) (T_thought_gloved : Nat → Int32) (T_now_folk_deeds : Nat → Int32) (T_thought_deeds : Nat → Int32) (Q : Int32 → Int32 → Int32 → (Nat → Int32) → (Nat → Int32) → (Nat → Int32) → (Nat → Int32) → (Nat → Int32) → (Nat → Int32) → Prop) : Prop := (wp_X0_copy T_now_folk_size T_now_folk_step T_now_folk_loss T_thought_size T_thought_step T_thought_loss T_now_folk_kind T_thought_kind T_now_folk_m T_thought_m T_now_folk_at T_thought_at T_now_folk_free T_thought_free T_now_folk_gloved T_thought_gloved T_now_folk_deeds T_thought_deeds (fun o1 o2 o3 o4 o5 o6 o7 o8 o9 => (Q o1 o2 o3 o4 o5 o6 o7 o8 o9)))
set_option maxHeartbeats 4000000 in
set_option maxRecDepth 100000 in
theorem wk_X7_think (l : Launch) (G : Gt) (a_T : Nat) (a_T_now : Nat) (a_T_kept : Nat) (a_T_thought : Nat) (a_T_reader : Nat) (a_T_voices : Nat) (a_T_rows : Nat) (a_T_refused : Nat) (a_T_timesFree : Nat) (a_T_now_meeting : Nat) (a_T_now_deed : Nat) (a_T_now_folk : Nat) (a_T_now_tape : Nat) (a_T_now_waiting : Nat) (a_T_now_folk_kind : Nat) (a_T_now_folk_m : Nat) (a_T_now_folk_at : Nat) (a_T_now_folk_free : Nat) (a_T_now_folk_gloved : Nat) (a_T_now_folk_deeds : Nat) (a_T_now_folk_handed : Nat) (a_T_now_folk_crowd : Nat) (a_T_thought_kind : Nat) (a_T_thought_m : Nat) (a_T_thought_at : Nat) (a_T_thought_free : Nat) (a_T_thought_gloved : Nat) (a_T_thought_deeds : Nat) (a_T_thought_handed : Nat) (a_T_thought_crowd : Nat) (sz : Nat) (T_images : Int32) (T_now_z : Int32) (T_now_folk_size : Int32) (T_now_folk_step : Int32) (T_now_folk_loss : Int32) (T_thought_size : Int32) (T_thought_step : Int32) (T_thought_loss : Int32) (T_now_folk_kind : Nat → Int32) (T_thought_kind : Nat → Int32) (T_now_folk_m : Nat → Int32) (T_thought_m : Nat → Int32) (T_now_folk_at : Nat → Int32) (T_thought_at : Nat → Int32) (T_now_folk_free : Nat → Int32) (T_thought_free : Nat → Int32) (T_now_folk_gloved : Nat → Int32) (T_thought_gloved : Nat → Int32) (T_now_folk_deeds : Nat → Int32) (T_thought_deeds : Nat → Int32) (Q : Int32 → Int32 → Int32 → (Nat → Int32) → (Nat → Int32) → (Nat → Int32) → (Nat → Int32) → (Nat → Int32) → (Nat → Int32) → Prop) (hw : wp_X7_think T_now_folk_size T_now_folk_step T_now_folk_loss T_thought_size T_thought_step T_thought_loss T_now_folk_kind T_thought_kind T_now_folk_m T_thought_m T_now_folk_at T_thought_at T_now_folk_free T_thought_free T_now_folk_gloved T_thought_gloved T_now_folk_deeds T_thought_deeds Q) : Met l yX7_think (wc yX7_think cX7_think 1 none) rm_X7_think (va_Pc [.ref a_T] (PB G (cs_X7_think G a_T a_T_now a_T_kept a_T_thought a_T_reader a_T_voices a_T_rows a_T_refused a_T_timesFree a_T_now_meeting a_T_now_deed a_T_now_folk a_T_now_tape a_T_now_waiting a_T_now_folk_kind a_T_now_folk_m a_T_now_folk_at a_T_now_folk_free a_T_now_folk_gloved a_T_now_folk_deeds a_T_now_folk_handed a_T_now_folk_crowd a_T_thought_kind a_T_thought_m a_T_thought_at a_T_thought_free a_T_thought_gloved a_T_thought_deeds a_T_thought_handed a_T_thought_crowd T_images T_now_z T_now_folk_size T_now_folk_step T_now_folk_loss T_thought_size T_thought_step T_thought_loss T_now_folk_kind T_thought_kind T_now_folk_m T_thought_m T_now_folk_at T_thought_at T_now_folk_free T_thought_free T_now_folk_gloved T_thought_gloved T_now_folk_deeds T_thought_deeds) sz)) (qc_X7_think G a_T a_T_now a_T_kept a_T_thought a_T_reader a_T_voices a_T_rows a_T_refused a_T_timesFree a_T_now_meeting a_T_now_deed a_T_now_folk a_T_now_tape a_T_now_waiting a_T_now_folk_kind a_T_now_folk_m a_T_now_folk_at a_T_now_folk_free a_T_now_folk_gloved a_T_now_folk_deeds a_T_now_folk_handed a_T_now_folk_crowd a_T_thought_kind a_T_thought_m a_T_thought_at a_T_thought_free a_T_thought_gloved a_T_thought_deeds a_T_thought_handed a_T_thought_crowd T_images T_now_z T_now_folk_size T_now_folk_step T_now_folk_loss T_now_folk_kind T_now_folk_m T_now_folk_at T_now_folk_free T_now_folk_gloved T_now_folk_deeds (va_A (cs_X7_think G a_T a_T_now a_T_kept a_T_thought a_T_reader a_T_voices a_T_rows a_T_refused a_T_timesFree a_T_now_meeting a_T_now_deed a_T_now_folk a_T_now_tape a_T_now_waiting a_T_now_folk_kind a_T_now_folk_m a_T_now_folk_at a_T_now_folk_free a_T_now_folk_gloved a_T_now_folk_deeds a_T_now_folk_handed a_T_now_folk_crowd a_T_thought_kind a_T_thought_m a_T_thought_at a_T_thought_free a_T_thought_gloved a_T_thought_deeds a_T_thought_handed a_T_thought_crowd T_images T_now_z T_now_folk_size T_now_folk_step T_now_folk_loss T_thought_size T_thought_step T_thought_loss T_now_folk_kind T_thought_kind T_now_folk_m T_thought_m T_now_folk_at T_thought_at T_now_folk_free T_thought_free T_now_folk_gloved T_thought_gloved T_now_folk_deeds T_thought_deeds) sz) Q) 0 0 (va_A (cs_X7_think G a_T a_T_now a_T_kept a_T_thought a_T_reader a_T_voices a_T_rows a_T_refused a_T_timesFree a_T_now_meeting a_T_now_deed a_T_now_folk a_T_now_tape a_T_now_waiting a_T_now_folk_kind a_T_now_folk_m a_T_now_folk_at a_T_now_folk_free a_T_now_folk_gloved a_T_now_folk_deeds a_T_now_folk_handed a_T_now_folk_crowd a_T_thought_kind a_T_thought_m a_T_thought_at a_T_thought_free a_T_thought_gloved a_T_thought_deeds a_T_thought_handed a_T_thought_crowd T_images T_now_z T_now_folk_size T_now_folk_step T_now_folk_loss T_thought_size T_thought_step T_thought_loss T_now_folk_kind T_thought_kind T_now_folk_m T_thought_m T_now_folk_at T_thought_at T_now_folk_free T_thought_free T_now_folk_gloved T_thought_gloved T_now_folk_deeds T_thought_deeds) sz) := by
  refine x_start pn_X7 (Nat.le_of_ble_eq_true rfl) (fun p e s m below meth c ls C hn hl hB => ?_)
  have I := iv_start hB
  generalize va_A (cs_X7_think G a_T a_T_now a_T_kept a_T_thought a_T_reader a_T_voices a_T_rows a_T_refused a_T_timesFree a_T_now_meeting a_T_now_deed a_T_now_folk a_T_now_tape a_T_now_waiting a_T_now_folk_kind a_T_now_folk_m a_T_now_folk_at a_T_now_folk_free a_T_now_folk_gloved a_T_now_folk_deeds a_T_now_folk_handed a_T_now_folk_crowd a_T_thought_kind a_T_thought_m a_T_thought_at a_T_thought_free a_T_thought_gloved a_T_thought_deeds a_T_thought_handed a_T_thought_crowd T_images T_now_z T_now_folk_size T_now_folk_step T_now_folk_loss T_thought_size T_thought_step T_thought_loss T_now_folk_kind T_thought_kind T_now_folk_m T_thought_m T_now_folk_at T_thought_at T_now_folk_free T_thought_free T_now_folk_gloved T_thought_gloved T_now_folk_deeds T_thought_deeds) sz = A at I ⊢
  have C : Cx p s m [.ref a_T].toArray meth c cX7_think 1 RX7 none := C
  have hl : lv_has ls 1 [(0, .ref a_T)] := hl
  refine x_aload_n C hl 0 dX7_think_0 rfl ?_
  refine x_get C I.1 fl_X7_31 0 rfl rfl dX7_think_1 ?_
  refine x_aload_n C hl 0 dX7_think_4 rfl ?_
  refine x_get C I.1 fl_X7_10 0 rfl rfl dX7_think_5 ?_
  refine x_get C I.1 fl_X7_78 1 rfl rfl dX7_think_8 ?_
  refine x_muv (wk := cs_X0_copy G a_T_now_folk a_T_now_meeting a_T_now_deed a_T_now_folk_kind a_T_now_folk_m a_T_now_folk_at a_T_now_folk_free a_T_now_folk_gloved a_T_now_folk_deeds a_T_now_folk_handed a_T_now_folk_crowd a_T_thought a_T_now_meeting a_T_now_deed a_T_thought_kind a_T_thought_m a_T_thought_at a_T_thought_free a_T_thought_gloved a_T_thought_deeds a_T_thought_handed a_T_thought_crowd T_now_folk_size T_now_folk_step T_now_folk_loss T_thought_size T_thought_step T_thought_loss T_now_folk_kind T_thought_kind T_now_folk_m T_thought_m T_now_folk_at T_thought_at T_now_folk_free T_thought_free T_now_folk_gloved T_thought_gloved T_now_folk_deeds T_thought_deeds) (wr := [(a_T, .inr (7, [.ref a_T_now, .ref a_T_kept, .ref a_T_thought, .ref a_T_reader, .ref a_T_voices, .ref a_T_rows, .ref a_T_refused, .ref a_T_timesFree, .int T_images])), (a_T_now, .inr (5, [.ref a_T_now_meeting, .ref a_T_now_deed, .ref a_T_now_folk, .ref a_T_now_tape, .ref a_T_now_waiting, .int T_now_z]))]) (isC := [2, 3, 4, 5, 6, 7, 8, 9, 10, 11, 12, 13, 14, 15]) (isR := [0, 1]) I ⟨⟨rfl, rfl⟩, rfl, rfl, rfl⟩ [0, 1, 2, 3, 4, 5, 6, 7, 8, 9, 10, 11, 12, 13, 14, 15] (fun u => cs_X7_think G a_T a_T_now a_T_kept a_T_thought a_T_reader a_T_voices a_T_rows a_T_refused a_T_timesFree a_T_now_meeting a_T_now_deed a_T_now_folk a_T_now_tape a_T_now_waiting a_T_now_folk_kind a_T_now_folk_m a_T_now_folk_at a_T_now_folk_free a_T_now_folk_gloved a_T_now_folk_deeds a_T_now_folk_handed a_T_now_folk_crowd a_T_thought_kind a_T_thought_m a_T_thought_at a_T_thought_free a_T_thought_gloved a_T_thought_deeds a_T_thought_handed a_T_thought_crowd T_images T_now_z T_now_folk_size T_now_folk_step T_now_folk_loss u.1 u.2.1 u.2.2.1 T_now_folk_kind u.2.2.2.1 T_now_folk_m u.2.2.2.2.1 T_now_folk_at u.2.2.2.2.2.1 T_now_folk_free u.2.2.2.2.2.2.1 T_now_folk_gloved u.2.2.2.2.2.2.2.1 T_now_folk_deeds u.2.2.2.2.2.2.2.2) (fun _ => rfl) rfl (run_V (As := [.ref a_T_now_folk]) (rest := []) C hl (wk_X0_copy l G a_T_now_folk a_T_now_meeting a_T_now_deed a_T_now_folk_kind a_T_now_folk_m a_T_now_folk_at a_T_now_folk_free a_T_now_folk_gloved a_T_now_folk_deeds a_T_now_folk_handed a_T_now_folk_crowd a_T_thought a_T_now_meeting a_T_now_deed a_T_thought_kind a_T_thought_m a_T_thought_at a_T_thought_free a_T_thought_gloved a_T_thought_deeds a_T_thought_handed a_T_thought_crowd s.heap.size T_now_folk_size T_now_folk_step T_now_folk_loss T_thought_size T_thought_step T_thought_loss T_now_folk_kind T_thought_kind T_now_folk_m T_thought_m T_now_folk_at T_thought_at T_now_folk_free T_thought_free T_now_folk_gloved T_thought_gloved T_now_folk_deeds T_thought_deeds _ hw) gm_X7_301 ⟨⟨rfl, rfl⟩, cn_X0_copy, ⟨(Nat.le_of_ble_eq_true rfl), (Nat.le_of_ble_eq_true rfl)⟩⟩ (pb_blind _ _ _ _) (x_recv I.1 3 rfl rfl) (pb_of I [2, 3, 4, 5, 6, 7, 8, 9, 10, 11, 12, 13, 14, 15] rfl rfl) rfl rfl (Nat.le_of_ble_eq_true rfl) ⟨Nat.le_of_ble_eq_true rfl, Nat.le_of_ble_eq_true rfl⟩ dX7_think_11) (fun u Hx lx hw I => ?_)
  obtain ⟨o1, o2, o3, o4, o5, o6, o7, o8, o9⟩ := u
  have I : Iv G A s (cs_X7_think G a_T a_T_now a_T_kept a_T_thought a_T_reader a_T_voices a_T_rows a_T_refused a_T_timesFree a_T_now_meeting a_T_now_deed a_T_now_folk a_T_now_tape a_T_now_waiting a_T_now_folk_kind a_T_now_folk_m a_T_now_folk_at a_T_now_folk_free a_T_now_folk_gloved a_T_now_folk_deeds a_T_now_folk_handed a_T_now_folk_crowd a_T_thought_kind a_T_thought_m a_T_thought_at a_T_thought_free a_T_thought_gloved a_T_thought_deeds a_T_thought_handed a_T_thought_crowd T_images T_now_z T_now_folk_size T_now_folk_step T_now_folk_loss o1 o2 o3 T_now_folk_kind o4 T_now_folk_m o5 T_now_folk_at o6 T_now_folk_free o7 T_now_folk_gloved o8 T_now_folk_deeds o9) Hx lx := I
  exact x_retv C I (o1, o2, o3, o4, o5, o6, o7, o8, o9) rfl hw dX7_think_14
/-! X7_within -/
abbrev rm_X7_within : Room := { frames := 0, cells := 0, slots := 0, locals := 0 }
abbrev cs_X7_within (G : Gt) : va_W := []
def wp_X7_within (x0 : Int32) (x1 : Int32) (x2 : Int32) (Q : Int32 → Prop) : Prop := ((x0 < x1 → (Q (0 : Int32))) ∧ (¬ x0 < x1 → ((x2 < x0 → (Q (0 : Int32))) ∧ (¬ x2 < x0 → (Q (1 : Int32))))))
set_option maxHeartbeats 4000000 in
set_option maxRecDepth 100000 in
theorem wk_X7_within (l : Launch) (G : Gt) (x0 : Int32) (x1 : Int32) (x2 : Int32) (Q : Int32 → Prop) (hw : wp_X7_within x0 x1 x2 Q) : Met l yX7_within (wc yX7_within cX7_within 3 (some .boolean)) rm_X7_within (va_Pc [.int x0, .int x1, .int x2] (PR G (cs_X7_within G ))) (vp_Si Q) 0 0 (fun _ => False) := by
  refine x_start pn_X7 (Nat.le_of_ble_eq_true rfl) (fun p e s m below meth c ls C hn hl hB => ?_)
  have I := rd_start hB
  have C : Cx p s m [.int x0, .int x1, .int x2].toArray meth c cX7_within 3 RX7 (some .boolean) := C
  have hl : lv_has ls 3 [(0, .int x0), (1, .int x1), (2, .int x2)] := hl
  refine x_iload_n C hl 0 dX7_within_0 rfl ?_
  refine x_iload_n C hl 1 dX7_within_1 rfl ?_
  refine x_icmp_lt C 14 dX7_within_2 (by decide) (fun c1 => ?_) (fun c1 => ?_)
  · have hw := And.left hw c1
    refine x_iconst C dX7_within_14 ic_0 ?_
    exact x_ret0z C bz_0 hw dX7_within_15
  · have hw := And.right hw c1
    refine x_iload_n C hl 0 dX7_within_5 rfl ?_
    refine x_iload_n C hl 2 dX7_within_6 rfl ?_
    refine x_icmp_gt C 14 dX7_within_7 (by decide) (fun c2 => ?_) (fun c2 => ?_)
    · have hw := And.left hw c2
      refine x_iconst C dX7_within_14 ic_0 ?_
      exact x_ret0z C bz_0 hw dX7_within_15
    · have hw := And.right hw c2
      refine x_iconst C dX7_within_10 ic_1 ?_
      refine x_goto C 15 dX7_within_11 (by decide) ?_
      exact x_ret0z C bz_1 hw dX7_within_15
/-! X7_held -/
abbrev rm_X7_held : Room := { frames := 1, cells := 0, slots := 0, locals := 21 }
abbrev cs_X7_held (G : Gt) : va_W := []
def wp_X7_held (x0 : Int32) (x1 : Int32) (x2 : Int32) (Q : Int32 → Prop) : Prop := (Q (jmax x1 (jmin x2 x0)))
set_option maxHeartbeats 4000000 in
set_option maxRecDepth 100000 in
theorem wk_X7_held (l : Launch) (G : Gt) (x0 : Int32) (x1 : Int32) (x2 : Int32) (Q : Int32 → Prop) (hw : wp_X7_held x0 x1 x2 Q) : Met l yX7_held (wc yX7_held cX7_held 3 (some .int)) rm_X7_held (va_Pc [.int x0, .int x1, .int x2] (PR G (cs_X7_held G ))) (vp_Si Q) 0 0 (fun _ => False) := by
  refine x_start pn_X7 (Nat.le_of_ble_eq_true rfl) (fun p e s m below meth c ls C hn hl hB => ?_)
  have I := rd_start hB
  have C : Cx p s m [.int x0, .int x1, .int x2].toArray meth c cX7_held 3 RX7 (some .int) := C
  have hl : lv_has ls 3 [(0, .int x0), (1, .int x1), (2, .int x2)] := hl
  refine x_iload_n C hl 1 dX7_held_0 rfl ?_
  refine x_iload_n C hl 2 dX7_held_1 rfl ?_
  refine x_iload_n C hl 0 dX7_held_2 rfl ?_
  refine x_mmin C hl wd_373 (Nat.le_of_ble_eq_true rfl) (Nat.le_of_ble_eq_true rfl) (Nat.le_of_ble_eq_true rfl) (Nat.le_of_ble_eq_true rfl) wd_374 wd_80 wd_375 dX7_held_3 ?_
  refine x_mmax C hl wd_376 (Nat.le_of_ble_eq_true rfl) (Nat.le_of_ble_eq_true rfl) (Nat.le_of_ble_eq_true rfl) (Nat.le_of_ble_eq_true rfl) wd_189 wd_80 wd_190 dX7_held_6 ?_
  exact x_ret0 C hw dX7_held_9
/-! X7_isStreet -/
abbrev rm_X7_isStreet : Room := { frames := 1, cells := 0, slots := 0, locals := 22 }
abbrev cs_X7_isStreet (G : Gt) : va_W := []
def wp_X7_isStreet (x0 : Int32) (Q : Int32 → Prop) : Prop := (wp_X7_within x0 (0 : Int32) (7 : Int32) (fun r1 => ((r1 &&& 1 = r1) ∧ (Q r1))))
set_option maxHeartbeats 4000000 in
set_option maxRecDepth 100000 in
theorem wk_X7_isStreet (l : Launch) (G : Gt) (x0 : Int32) (Q : Int32 → Prop) (hw : wp_X7_isStreet x0 Q) : Met l yX7_isStreet (wc yX7_isStreet cX7_isStreet 1 (some .boolean)) rm_X7_isStreet (va_Pc [.int x0] (PR G (cs_X7_isStreet G ))) (vp_Si Q) 0 0 (fun _ => False) := by
  refine x_start pn_X7 (Nat.le_of_ble_eq_true rfl) (fun p e s m below meth c ls C hn hl hB => ?_)
  have I := rd_start hB
  have C : Cx p s m [.int x0].toArray meth c cX7_isStreet 1 RX7 (some .boolean) := C
  have hl : lv_has ls 1 [(0, .int x0)] := hl
  refine x_iload_n C hl 0 dX7_isStreet_0 rfl ?_
  refine x_iconst C dX7_isStreet_1 ic_0 ?_
  refine x_bipush C dX7_isStreet_2 bp_7 ?_
  refine x_ro (run_S (As := [.int x0, .int (0 : Int32), .int (7 : Int32)]) (rest := []) C hl (wk_X7_within l G x0 (0 : Int32) (7 : Int32) _ hw) gm_X7_126 ⟨⟨rfl, rfl⟩, cn_X7_within, ⟨(Nat.le_of_ble_eq_true rfl), (Nat.le_of_ble_eq_true rfl)⟩⟩ (pr_blind _ _ _) (pr_of I [] rfl) rfl rfl (Nat.le_of_ble_eq_true rfl) ⟨Nat.le_of_ble_eq_true rfl, Nat.le_of_ble_eq_true rfl⟩ dX7_isStreet_4) (fun r1 hw => ?_)
  exact x_ret0z C (And.left hw) (And.right hw) dX7_isStreet_7
/-! X7_isKindAndNumber -/
abbrev rm_X7_isKindAndNumber : Room := { frames := 1, cells := 0, slots := 0, locals := 22 }
abbrev cs_X7_isKindAndNumber (G : Gt) : va_W := []
def wp_X7_isKindAndNumber (x0 : Int32) (Q : Int32 → Prop) : Prop := (wp_X7_within x0 (0 : Int32) (69 : Int32) (fun r1 => ((r1 &&& 1 = r1) ∧ (Q r1))))
set_option maxHeartbeats 4000000 in
set_option maxRecDepth 100000 in
theorem wk_X7_isKindAndNumber (l : Launch) (G : Gt) (x0 : Int32) (Q : Int32 → Prop) (hw : wp_X7_isKindAndNumber x0 Q) : Met l yX7_isKindAndNumber (wc yX7_isKindAndNumber cX7_isKindAndNumber 1 (some .boolean)) rm_X7_isKindAndNumber (va_Pc [.int x0] (PR G (cs_X7_isKindAndNumber G ))) (vp_Si Q) 0 0 (fun _ => False) := by
  refine x_start pn_X7 (Nat.le_of_ble_eq_true rfl) (fun p e s m below meth c ls C hn hl hB => ?_)
  have I := rd_start hB
  have C : Cx p s m [.int x0].toArray meth c cX7_isKindAndNumber 1 RX7 (some .boolean) := C
  have hl : lv_has ls 1 [(0, .int x0)] := hl
  refine x_iload_n C hl 0 dX7_isKindAndNumber_0 rfl ?_
  refine x_iconst C dX7_isKindAndNumber_1 ic_0 ?_
  refine x_bipush C dX7_isKindAndNumber_2 bp_69 ?_
  refine x_ro (run_S (As := [.int x0, .int (0 : Int32), .int (69 : Int32)]) (rest := []) C hl (wk_X7_within l G x0 (0 : Int32) (69 : Int32) _ hw) gm_X7_126 ⟨⟨rfl, rfl⟩, cn_X7_within, ⟨(Nat.le_of_ble_eq_true rfl), (Nat.le_of_ble_eq_true rfl)⟩⟩ (pr_blind _ _ _) (pr_of I [] rfl) rfl rfl (Nat.le_of_ble_eq_true rfl) ⟨Nat.le_of_ble_eq_true rfl, Nat.le_of_ble_eq_true rfl⟩ dX7_isKindAndNumber_4) (fun r1 hw => ?_)
  exact x_ret0z C (And.left hw) (And.right hw) dX7_isKindAndNumber_7
/-! X7_isUse -/
abbrev rm_X7_isUse : Room := { frames := 1, cells := 0, slots := 0, locals := 22 }
abbrev cs_X7_isUse (G : Gt) : va_W := []
def wp_X7_isUse (x0 : Int32) (Q : Int32 → Prop) : Prop := (wp_X7_within x0 (0 : Int32) (1 : Int32) (fun r1 => ((r1 &&& 1 = r1) ∧ (Q r1))))
set_option maxHeartbeats 4000000 in
set_option maxRecDepth 100000 in
theorem wk_X7_isUse (l : Launch) (G : Gt) (x0 : Int32) (Q : Int32 → Prop) (hw : wp_X7_isUse x0 Q) : Met l yX7_isUse (wc yX7_isUse cX7_isUse 1 (some .boolean)) rm_X7_isUse (va_Pc [.int x0] (PR G (cs_X7_isUse G ))) (vp_Si Q) 0 0 (fun _ => False) := by
  refine x_start pn_X7 (Nat.le_of_ble_eq_true rfl) (fun p e s m below meth c ls C hn hl hB => ?_)
  have I := rd_start hB
  have C : Cx p s m [.int x0].toArray meth c cX7_isUse 1 RX7 (some .boolean) := C
  have hl : lv_has ls 1 [(0, .int x0)] := hl
  refine x_iload_n C hl 0 dX7_isUse_0 rfl ?_
  refine x_iconst C dX7_isUse_1 ic_0 ?_
  refine x_iconst C dX7_isUse_2 ic_1 ?_
  refine x_ro (run_S (As := [.int x0, .int (0 : Int32), .int (1 : Int32)]) (rest := []) C hl (wk_X7_within l G x0 (0 : Int32) (1 : Int32) _ hw) gm_X7_126 ⟨⟨rfl, rfl⟩, cn_X7_within, ⟨(Nat.le_of_ble_eq_true rfl), (Nat.le_of_ble_eq_true rfl)⟩⟩ (pr_blind _ _ _) (pr_of I [] rfl) rfl rfl (Nat.le_of_ble_eq_true rfl) ⟨Nat.le_of_ble_eq_true rfl, Nat.le_of_ble_eq_true rfl⟩ dX7_isUse_3) (fun r1 hw => ?_)
  exact x_ret0z C (And.left hw) (And.right hw) dX7_isUse_6
/-! X7_isEither -/
abbrev rm_X7_isEither : Room := { frames := 0, cells := 0, slots := 0, locals := 0 }
abbrev cs_X7_isEither (G : Gt) : va_W := []
def wp_X7_isEither (x0 : Int32) (Q : Int32 → Prop) : Prop := ((x0 = (0) → (Q (1 : Int32))) ∧ (¬ x0 = (0) → ((¬ x0 = (1 : Int32) → (Q (0 : Int32))) ∧ (x0 = (1 : Int32) → (Q (1 : Int32))))))
set_option maxHeartbeats 4000000 in
set_option maxRecDepth 100000 in
theorem wk_X7_isEither (l : Launch) (G : Gt) (x0 : Int32) (Q : Int32 → Prop) (hw : wp_X7_isEither x0 Q) : Met l yX7_isEither (wc yX7_isEither cX7_isEither 1 (some .boolean)) rm_X7_isEither (va_Pc [.int x0] (PR G (cs_X7_isEither G ))) (vp_Si Q) 0 0 (fun _ => False) := by
  refine x_start pn_X7 (Nat.le_of_ble_eq_true rfl) (fun p e s m below meth c ls C hn hl hB => ?_)
  have I := rd_start hB
  have C : Cx p s m [.int x0].toArray meth c cX7_isEither 1 RX7 (some .boolean) := C
  have hl : lv_has ls 1 [(0, .int x0)] := hl
  refine x_iload_n C hl 0 dX7_isEither_0 rfl ?_
  refine x_if_eq C 9 dX7_isEither_1 (by decide) (fun c1 => ?_) (fun c1 => ?_)
  · have hw := And.left hw c1
    refine x_iconst C dX7_isEither_9 ic_1 ?_
    refine x_goto C 14 dX7_isEither_10 (by decide) ?_
    exact x_ret0z C bz_1 hw dX7_isEither_14
  · have hw := And.right hw c1
    refine x_iload_n C hl 0 dX7_isEither_4 rfl ?_
    refine x_iconst C dX7_isEither_5 ic_1 ?_
    refine x_icmp_ne C 13 dX7_isEither_6 (by decide) (fun c2 => ?_) (fun c2 => ?_)
    · have hw := And.left hw c2
      refine x_iconst C dX7_isEither_13 ic_0 ?_
      exact x_ret0z C bz_0 hw dX7_isEither_14
    · have hw := And.right hw c2
      refine x_iconst C dX7_isEither_9 ic_1 ?_
      refine x_goto C 14 dX7_isEither_10 (by decide) ?_
      exact x_ret0z C bz_1 hw dX7_isEither_14
/-! X7_isUnder -/
abbrev rm_X7_isUnder : Room := { frames := 1, cells := 0, slots := 0, locals := 22 }
abbrev cs_X7_isUnder (G : Gt) : va_W := []
def lb_X7_isUnder_4 (x0 : Int32) (x1 : Int32) (Q : Int32 → Prop) : Nat → Int32 → Int32 → Prop
  | 0 => fun _ _ => False
  | k + 1 => fun (y2 : Int32) (y3 : Int32) => (((3 : Int32) ≤ y3 → (Q (0 : Int32))) ∧ (¬ (3 : Int32) ≤ y3 → (wp_X7_within y2 (0 : Int32) (6 : Int32) (fun r2 => ((r2 = (0) → (Q (0 : Int32))) ∧ (¬ r2 = (0) → ((¬ y2 = x1 → (vp_in y2 7 ∧ (∀ v5 : Int32, v5 = (kK (y2).toNatClampNeg) → (lb_X7_isUnder_4 x0 x1 Q k v5 (y3 + (1 : Int32)))))) ∧ (y2 = x1 → (Q (1 : Int32))))))))))
set_option maxHeartbeats 4000000 in
set_option maxRecDepth 100000 in
theorem lk_X7_isUnder_4 {p : Program} {l : Launch} {e : Env} {s : State} {m : MethodId} {args : Array Value} {below : List Frame} {meth : Method} {c : Code} (G : Gt) (C : Cx p s m args meth c cX7_isUnder 4 RX7 (some .boolean)) (x0 : Int32) (x1 : Int32) (Q : Int32 → Prop) : ∀ (n : Nat) (y2 : Int32) (y3 : Int32) (ls : Array Slot), lb_X7_isUnder_4 x0 x1 Q n y2 y3 → Rd G (fun _ => False) s (cs_X7_isUnder G ) s.heap [] → lv_has ls 4 [(1, .int x1), (2, .int y2), (3, .int y3)] → W p l e rm_X7_isUnder s m args below meth c s.heap [] 0 0 (MQ below (vp_Si Q) args s 0 0 (fun _ => False)) (F0 m 4 ls []) := by
  intro n
  induction n with
  | zero => intro y2 y3  ls hw I hl; exact False.elim hw
  | succ k ih =>
    intro y2 y3  ls hw I hl
    refine x_iload_n C hl 2 dX7_isUnder_4 rfl ?_
    refine x_iconst C dX7_isUnder_5 ic_3 ?_
    refine x_icmp_ge C 38 dX7_isUnder_6 (by decide) (fun c1 => ?_) (fun c1 => ?_)
    · have hw := And.left hw c1
      refine x_iconst C dX7_isUnder_38 ic_0 ?_
      exact x_ret0z C bz_0 hw dX7_isUnder_39
    · have hw := And.right hw c1
      refine x_iload_n C hl 1 dX7_isUnder_9 rfl ?_
      refine x_iconst C dX7_isUnder_10 ic_0 ?_
      refine x_bipush C dX7_isUnder_11 bp_6 ?_
      refine x_ro (run_S (As := [.int y2, .int (0 : Int32), .int (6 : Int32)]) (rest := []) C hl (wk_X7_within l G y2 (0 : Int32) (6 : Int32) _ hw) gm_X7_126 ⟨⟨rfl, rfl⟩, cn_X7_within, ⟨(Nat.le_of_ble_eq_true rfl), (Nat.le_of_ble_eq_true rfl)⟩⟩ (pr_blind _ _ _) (pr_of I [] rfl) rfl rfl (Nat.le_of_ble_eq_true rfl) ⟨Nat.le_of_ble_eq_true rfl, Nat.le_of_ble_eq_true rfl⟩ dX7_isUnder_13) (fun r2 hw => ?_)
      refine x_if_eq C 38 dX7_isUnder_16 (by decide) (fun c3 => ?_) (fun c3 => ?_)
      · have hw := And.left hw c3
        refine x_iconst C dX7_isUnder_38 ic_0 ?_
        exact x_ret0z C bz_0 hw dX7_isUnder_39
      · have hw := And.right hw c3
        refine x_iload_n C hl 1 dX7_isUnder_19 rfl ?_
        refine x_iload_n C hl 0 dX7_isUnder_20 rfl ?_
        refine x_icmp_ne C 26 dX7_isUnder_21 (by decide) (fun c4 => ?_) (fun c4 => ?_)
        · have hw := And.left hw c4
          refine x_getsK C I wd_364 dX7_isUnder_26 ?_
          refine x_iload_n C hl 1 dX7_isUnder_29 rfl ?_
          refine x_ldK C I (And.left hw) dX7_isUnder_30 ?_
          have hw := And.right hw
          refine lv_topi (fun v5 ev5 => ?_)
          have hw := hw v5 ev5
          refine x_istore_n C hl [(2, .int v5), (1, .int x1), (3, .int y3)] dX7_isUnder_31 (Nat.le_of_ble_eq_true rfl) rfl (fun ls hl => ?_)
          refine x_iinc C hl 2 [(3, .int (y3 + (1 : Int32))), (2, .int v5), (1, .int x1)] (y3 + (1 : Int32)) dX7_isUnder_32 rfl (congrArg _ ic_1) (Nat.le_of_ble_eq_true rfl) rfl (fun ls hl => ?_)
          refine x_goto C 4 dX7_isUnder_35 (by decide) ?_
          exact ih v5 (y3 + (1 : Int32)) ls hw I (lv_sub hl [2, 1, 0] rfl)
        · have hw := And.right hw c4
          refine x_iconst C dX7_isUnder_24 ic_1 ?_
          exact x_ret0z C bz_1 hw dX7_isUnder_25
def wp_X7_isUnder (x0 : Int32) (x1 : Int32) (Q : Int32 → Prop) : Prop := (∃ n, lb_X7_isUnder_4 x0 x1 Q n x0 (0 : Int32))
set_option maxHeartbeats 4000000 in
set_option maxRecDepth 100000 in
theorem wk_X7_isUnder (l : Launch) (G : Gt) (x0 : Int32) (x1 : Int32) (Q : Int32 → Prop) (hw : wp_X7_isUnder x0 x1 Q) : Met l yX7_isUnder (wc yX7_isUnder cX7_isUnder 4 (some .boolean)) rm_X7_isUnder (va_Pc [.int x0, .int x1] (PR G (cs_X7_isUnder G ))) (vp_Si Q) 0 0 (fun _ => False) := by
  refine x_start pn_X7 (Nat.le_of_ble_eq_true rfl) (fun p e s m below meth c ls C hn hl hB => ?_)
  have I := rd_start hB
  have C : Cx p s m [.int x0, .int x1].toArray meth c cX7_isUnder 4 RX7 (some .boolean) := C
  have hl : lv_has ls 4 [(0, .int x0), (1, .int x1)] := hl
  refine x_iload_n C hl 0 dX7_isUnder_0 rfl ?_
  refine x_istore_n C hl [(2, .int x0), (0, .int x0), (1, .int x1)] dX7_isUnder_1 (Nat.le_of_ble_eq_true rfl) rfl (fun ls hl => ?_)
  refine x_iconst C dX7_isUnder_2 ic_0 ?_
  refine x_istore_n C hl [(3, .int (0 : Int32)), (2, .int x0), (0, .int x0), (1, .int x1)] dX7_isUnder_3 (Nat.le_of_ble_eq_true rfl) rfl (fun ls hl => ?_)
  obtain ⟨n, hw⟩ := hw
  exact lk_X7_isUnder_4 G  C x0 x1  Q n x0 (0 : Int32) ls hw I (lv_sub hl [3, 1, 0] rfl)
/-! X7_commonDivisor -/
abbrev rm_X7_commonDivisor : Room := { frames := 1, cells := 0, slots := 0, locals := 21 }
abbrev cs_X7_commonDivisor (G : Gt) : va_W := []
def lb_X7_commonDivisor_7 (x0 : Int32) (x1 : Int32) (Q : Int32 → Prop) : Nat → Int32 → Int32 → Int32 → Prop
  | 0 => fun _ _ _ => False
  | k + 1 => fun (y2 : Int32) (y3 : Int32) (y4 : Int32) => (((60 : Int32) ≤ y4 → (Q (jmax (1 : Int32) y2))) ∧ (¬ (60 : Int32) ≤ y4 → ((y3 ≤ (0) → (Q (jmax (1 : Int32) y2))) ∧ (¬ y3 ≤ (0) → ((¬ y3 = 0) ∧ (∀ v3 : Int32, v3 = (jrem y2 y3) → (lb_X7_commonDivisor_7 x0 x1 Q k y3 v3 (y4 + (1 : Int32)))))))))
set_option maxHeartbeats 4000000 in
set_option maxRecDepth 100000 in
theorem lk_X7_commonDivisor_7 {p : Program} {l : Launch} {e : Env} {s : State} {m : MethodId} {args : Array Value} {below : List Frame} {meth : Method} {c : Code} (G : Gt) (C : Cx p s m args meth c cX7_commonDivisor 6 RX7 (some .int)) (x0 : Int32) (x1 : Int32) (Q : Int32 → Prop) : ∀ (n : Nat) (y2 : Int32) (y3 : Int32) (y4 : Int32) (ls : Array Slot), lb_X7_commonDivisor_7 x0 x1 Q n y2 y3 y4 → Rd G (fun _ => False) s (cs_X7_commonDivisor G ) s.heap [] → lv_has ls 6 [(2, .int y2), (3, .int y3), (4, .int y4)] → W p l e rm_X7_commonDivisor s m args below meth c s.heap [] 0 0 (MQ below (vp_Si Q) args s 0 0 (fun _ => False)) (F0 m 7 ls []) := by
  intro n
  induction n with
  | zero => intro y2 y3 y4  ls hw I hl; exact False.elim hw
  | succ k ih =>
    intro y2 y3 y4  ls hw I hl
    refine x_iload C hl 2 dX7_commonDivisor_7 rfl ?_
    refine x_bipush C dX7_commonDivisor_9 bp_60 ?_
    refine x_icmp_ge C 34 dX7_commonDivisor_11 (by decide) (fun c1 => ?_) (fun c1 => ?_)
    · have hw := And.left hw c1
      refine x_iconst C dX7_commonDivisor_34 ic_1 ?_
      refine x_iload_n C hl 0 dX7_commonDivisor_35 rfl ?_
      refine x_mmax C hl wd_376 (Nat.le_of_ble_eq_true rfl) (Nat.le_of_ble_eq_true rfl) (Nat.le_of_ble_eq_true rfl) (Nat.le_of_ble_eq_true rfl) wd_189 wd_80 wd_190 dX7_commonDivisor_36 ?_
      exact x_ret0 C hw dX7_commonDivisor_39
    · have hw := And.right hw c1
      refine x_iload_n C hl 1 dX7_commonDivisor_14 rfl ?_
      refine x_if_le C 34 dX7_commonDivisor_15 (by decide) (fun c2 => ?_) (fun c2 => ?_)
      · have hw := And.left hw c2
        refine x_iconst C dX7_commonDivisor_34 ic_1 ?_
        refine x_iload_n C hl 0 dX7_commonDivisor_35 rfl ?_
        refine x_mmax C hl wd_376 (Nat.le_of_ble_eq_true rfl) (Nat.le_of_ble_eq_true rfl) (Nat.le_of_ble_eq_true rfl) (Nat.le_of_ble_eq_true rfl) wd_189 wd_80 wd_190 dX7_commonDivisor_36 ?_
        exact x_ret0 C hw dX7_commonDivisor_39
      · have hw := And.right hw c2
        refine x_iload_n C hl 0 dX7_commonDivisor_18 rfl ?_
        refine x_iload_n C hl 1 dX7_commonDivisor_19 rfl ?_
        refine x_irem C (And.left hw) dX7_commonDivisor_20 ?_
        have hw := And.right hw
        refine lv_topi (fun v3 ev3 => ?_)
        have hw := hw v3 ev3
        refine x_istore C hl [(5, .int v3), (2, .int y2), (3, .int y3), (4, .int y4)] dX7_commonDivisor_21 (Nat.le_of_ble_eq_true rfl) rfl (fun ls hl => ?_)
        refine x_iload_n C hl 2 dX7_commonDivisor_23 rfl ?_
        refine x_istore_n C hl [(2, .int y3), (5, .int v3), (3, .int y3), (4, .int y4)] dX7_commonDivisor_24 (Nat.le_of_ble_eq_true rfl) rfl (fun ls hl => ?_)
        refine x_iload C hl 1 dX7_commonDivisor_25 rfl ?_
        refine x_istore_n C hl [(3, .int v3), (2, .int y3), (5, .int v3), (4, .int y4)] dX7_commonDivisor_27 (Nat.le_of_ble_eq_true rfl) rfl (fun ls hl => ?_)
        refine x_iinc C hl 3 [(4, .int (y4 + (1 : Int32))), (3, .int v3), (2, .int y3), (5, .int v3)] (y4 + (1 : Int32)) dX7_commonDivisor_28 rfl (congrArg _ ic_1) (Nat.le_of_ble_eq_true rfl) rfl (fun ls hl => ?_)
        refine x_goto C 7 dX7_commonDivisor_31 (by decide) ?_
        exact ih y3 v3 (y4 + (1 : Int32)) ls hw I (lv_sub hl [2, 1, 0] rfl)
def wp_X7_commonDivisor (x0 : Int32) (x1 : Int32) (Q : Int32 → Prop) : Prop := (∃ n, lb_X7_commonDivisor_7 x0 x1 Q n x1 x0 (0 : Int32))
set_option maxHeartbeats 4000000 in
set_option maxRecDepth 100000 in
theorem wk_X7_commonDivisor (l : Launch) (G : Gt) (x0 : Int32) (x1 : Int32) (Q : Int32 → Prop) (hw : wp_X7_commonDivisor x0 x1 Q) : Met l yX7_commonDivisor (wc yX7_commonDivisor cX7_commonDivisor 6 (some .int)) rm_X7_commonDivisor (va_Pc [.int x0, .int x1] (PR G (cs_X7_commonDivisor G ))) (vp_Si Q) 0 0 (fun _ => False) := by
  refine x_start pn_X7 (Nat.le_of_ble_eq_true rfl) (fun p e s m below meth c ls C hn hl hB => ?_)
  have I := rd_start hB
  have C : Cx p s m [.int x0, .int x1].toArray meth c cX7_commonDivisor 6 RX7 (some .int) := C
  have hl : lv_has ls 6 [(0, .int x0), (1, .int x1)] := hl
  refine x_iload_n C hl 1 dX7_commonDivisor_0 rfl ?_
  refine x_istore_n C hl [(2, .int x1), (0, .int x0), (1, .int x1)] dX7_commonDivisor_1 (Nat.le_of_ble_eq_true rfl) rfl (fun ls hl => ?_)
  refine x_iload_n C hl 1 dX7_commonDivisor_2 rfl ?_
  refine x_istore_n C hl [(3, .int x0), (2, .int x1), (0, .int x0), (1, .int x1)] dX7_commonDivisor_3 (Nat.le_of_ble_eq_true rfl) rfl (fun ls hl => ?_)
  refine x_iconst C dX7_commonDivisor_4 ic_0 ?_
  refine x_istore C hl [(4, .int (0 : Int32)), (3, .int x0), (2, .int x1), (0, .int x0), (1, .int x1)] dX7_commonDivisor_5 (Nat.le_of_ble_eq_true rfl) rfl (fun ls hl => ?_)
  obtain ⟨n, hw⟩ := hw
  exact lk_X7_commonDivisor_7 G  C x0 x1  Q n x1 x0 (0 : Int32) ls hw I (lv_sub hl [2, 1, 0] rfl)
/-! X8_finding -/
abbrev rm_X8_finding : Room := { frames := 0, cells := 0, slots := 0, locals := 0 }
abbrev cs_X8_finding (G : Gt) (a_M : Nat) (a_M_now : Nat) (a_M_kept : Nat) (a_M_aside : Nat) (a_M_errors : Nat) (a_M_meetsFound : Nat) (a_M_deedsFound : Nat) (a_M_ahead : Nat) (a_M_NAMED : Nat) (a_M_code : Nat) (a_M_named : Nat) (a_M_pile : Nat) (a_M_often : Nat) (a_M_trace : Nat) (a_M_widths : Nat) (a_M_sizes : Nat) (a_M_numbers : Nat) (a_M_carried : Nat) (M_images : Int32) (M_at : Int32) (M_open : Int32) (M_use : Int32) (M_isWrong : Int32) (M_coded : Int32) (M_traced : Int32) (M_kind : Int32) (M_number : Int32) (M_told : Int32) (M_errors : Nat → Int32) : va_W := [(a_M, .inr (8, [.ref a_M_now, .ref a_M_kept, .ref a_M_aside, .int M_images, .ref a_M_errors, .ref a_M_meetsFound, .ref a_M_deedsFound, .ref a_M_ahead, .ref a_M_NAMED, .int M_at, .int M_open, .int M_use, .int M_isWrong, .ref a_M_code, .int M_coded, .ref a_M_named, .ref a_M_pile, .ref a_M_often, .ref a_M_trace, .int M_traced, .int M_kind, .int M_number, .int M_told, .ref a_M_widths, .ref a_M_sizes, .ref a_M_numbers, .ref a_M_carried])), (a_M_errors, .inl (cI G, 6, .inl M_errors))]
abbrev qc_X8_finding (G : Gt) (a_M : Nat) (a_M_now : Nat) (a_M_kept : Nat) (a_M_aside : Nat) (a_M_errors : Nat) (a_M_meetsFound : Nat) (a_M_deedsFound : Nat) (a_M_ahead : Nat) (a_M_NAMED : Nat) (a_M_code : Nat) (a_M_named : Nat) (a_M_pile : Nat) (a_M_often : Nat) (a_M_trace : Nat) (a_M_widths : Nat) (a_M_sizes : Nat) (a_M_numbers : Nat) (a_M_carried : Nat) (M_images : Int32) (M_at : Int32) (M_open : Int32) (M_use : Int32) (M_isWrong : Int32) (M_coded : Int32) (M_traced : Int32) (M_kind : Int32) (M_number : Int32) (M_told : Int32) (A : Nat → Prop) (Q : Int32 → (Nat → Int32) → Prop) : Array Value → State → Outcome → State → Prop := Qi1 G A (fun r (u : (Nat → Int32)) => Q r u) (fun u => cs_X8_finding G a_M a_M_now a_M_kept a_M_aside a_M_errors a_M_meetsFound a_M_deedsFound a_M_ahead a_M_NAMED a_M_code a_M_named a_M_pile a_M_often a_M_trace a_M_widths a_M_sizes a_M_numbers a_M_carried M_images M_at M_open M_use M_isWrong M_coded M_traced M_kind M_number M_told u)
def wp_X8_finding (x1 : Int32) (M_errors : Nat → Int32) (Q : Int32 → (Nat → Int32) → Prop) : Prop := (vp_in ((-1000000000 : Int32) - x1) 6 ∧ (∀ v1 : Int32, v1 = ((M_errors (((-1000000000 : Int32) - x1)).toNatClampNeg) + (1 : Int32)) → (vp_in ((-1000000000 : Int32) - x1) 6 ∧ (Q x1 (upd M_errors (((-1000000000 : Int32) - x1)).toNatClampNeg v1)))))
set_option maxHeartbeats 4000000 in
set_option maxRecDepth 100000 in
theorem wk_X8_finding (l : Launch) (G : Gt) (a_M : Nat) (a_M_now : Nat) (a_M_kept : Nat) (a_M_aside : Nat) (a_M_errors : Nat) (a_M_meetsFound : Nat) (a_M_deedsFound : Nat) (a_M_ahead : Nat) (a_M_NAMED : Nat) (a_M_code : Nat) (a_M_named : Nat) (a_M_pile : Nat) (a_M_often : Nat) (a_M_trace : Nat) (a_M_widths : Nat) (a_M_sizes : Nat) (a_M_numbers : Nat) (a_M_carried : Nat) (sz : Nat) (M_images : Int32) (M_at : Int32) (M_open : Int32) (M_use : Int32) (M_isWrong : Int32) (M_coded : Int32) (M_traced : Int32) (M_kind : Int32) (M_number : Int32) (M_told : Int32) (M_errors : Nat → Int32) (x1 : Int32) (Q : Int32 → (Nat → Int32) → Prop) (hw : wp_X8_finding x1 M_errors Q) : Met l yX8_finding (wc yX8_finding cX8_finding 2 (some .int)) rm_X8_finding (va_Pc [.ref a_M, .int x1] (PB G (cs_X8_finding G a_M a_M_now a_M_kept a_M_aside a_M_errors a_M_meetsFound a_M_deedsFound a_M_ahead a_M_NAMED a_M_code a_M_named a_M_pile a_M_often a_M_trace a_M_widths a_M_sizes a_M_numbers a_M_carried M_images M_at M_open M_use M_isWrong M_coded M_traced M_kind M_number M_told M_errors) sz)) (qc_X8_finding G a_M a_M_now a_M_kept a_M_aside a_M_errors a_M_meetsFound a_M_deedsFound a_M_ahead a_M_NAMED a_M_code a_M_named a_M_pile a_M_often a_M_trace a_M_widths a_M_sizes a_M_numbers a_M_carried M_images M_at M_open M_use M_isWrong M_coded M_traced M_kind M_number M_told (va_A (cs_X8_finding G a_M a_M_now a_M_kept a_M_aside a_M_errors a_M_meetsFound a_M_deedsFound a_M_ahead a_M_NAMED a_M_code a_M_named a_M_pile a_M_often a_M_trace a_M_widths a_M_sizes a_M_numbers a_M_carried M_images M_at M_open M_use M_isWrong M_coded M_traced M_kind M_number M_told M_errors) sz) Q) 0 0 (va_A (cs_X8_finding G a_M a_M_now a_M_kept a_M_aside a_M_errors a_M_meetsFound a_M_deedsFound a_M_ahead a_M_NAMED a_M_code a_M_named a_M_pile a_M_often a_M_trace a_M_widths a_M_sizes a_M_numbers a_M_carried M_images M_at M_open M_use M_isWrong M_coded M_traced M_kind M_number M_told M_errors) sz) := by
  refine x_start pn_X8 (Nat.le_of_ble_eq_true rfl) (fun p e s m below meth c ls C hn hl hB => ?_)
  have I := iv_start hB
  generalize va_A (cs_X8_finding G a_M a_M_now a_M_kept a_M_aside a_M_errors a_M_meetsFound a_M_deedsFound a_M_ahead a_M_NAMED a_M_code a_M_named a_M_pile a_M_often a_M_trace a_M_widths a_M_sizes a_M_numbers a_M_carried M_images M_at M_open M_use M_isWrong M_coded M_traced M_kind M_number M_told M_errors) sz = A at I ⊢
  have C : Cx p s m [.ref a_M, .int x1].toArray meth c cX8_finding 2 RX8 (some .int) := C
  have hl : lv_has ls 2 [(0, .ref a_M), (1, .int x1)] := hl
  refine x_aload_n C hl 0 dX8_finding_0 rfl ?_
  refine x_get C I.1 fl_X8_19 0 rfl rfl dX8_finding_1 ?_
  refine x_ldc C wd_936 dX8_finding_4 ?_
  refine x_iload_n C hl 1 dX8_finding_6 rfl ?_
  refine x_isub C dX8_finding_7 ?_
  refine x_dup2 C dX8_finding_8 rfl rfl ?_
  refine x_iald C I.1 1 rfl (And.left hw) dX8_finding_9 ?_
  have hw := And.right hw
  refine x_iconst C dX8_finding_10 ic_1 ?_
  refine x_iadd C dX8_finding_11 ?_
  refine lv_topi (fun v1 ev1 => ?_)
  have hw := hw v1 ev1
  refine x_iast C I 1 (cs_X8_finding G a_M a_M_now a_M_kept a_M_aside a_M_errors a_M_meetsFound a_M_deedsFound a_M_ahead a_M_NAMED a_M_code a_M_named a_M_pile a_M_often a_M_trace a_M_widths a_M_sizes a_M_numbers a_M_carried M_images M_at M_open M_use M_isWrong M_coded M_traced M_kind M_number M_told (upd M_errors (((-1000000000 : Int32) - x1)).toNatClampNeg v1)) rfl (And.left hw) rfl dX8_finding_12 (fun Hx lx I => ?_)
  have hw := And.right hw
  refine x_iload_n C hl 1 dX8_finding_13 rfl ?_
  exact x_ret1 C I (upd M_errors (((-1000000000 : Int32) - x1)).toNatClampNeg v1) rfl hw dX8_finding_14
/-! X8_within -/
abbrev rm_X8_within : Room := { frames := 0, cells := 0, slots := 0, locals := 0 }
abbrev cs_X8_within (G : Gt) : va_W := []
def wp_X8_within (x0 : Int32) (x1 : Int32) (x2 : Int32) (Q : Int32 → Prop) : Prop := ((x0 < x1 → (Q (0 : Int32))) ∧ (¬ x0 < x1 → ((x2 < x0 → (Q (0 : Int32))) ∧ (¬ x2 < x0 → (Q (1 : Int32))))))
set_option maxHeartbeats 4000000 in
set_option maxRecDepth 100000 in
theorem wk_X8_within (l : Launch) (G : Gt) (x0 : Int32) (x1 : Int32) (x2 : Int32) (Q : Int32 → Prop) (hw : wp_X8_within x0 x1 x2 Q) : Met l yX8_within (wc yX8_within cX8_within 3 (some .boolean)) rm_X8_within (va_Pc [.int x0, .int x1, .int x2] (PR G (cs_X8_within G ))) (vp_Si Q) 0 0 (fun _ => False) := by
  refine x_start pn_X8 (Nat.le_of_ble_eq_true rfl) (fun p e s m below meth c ls C hn hl hB => ?_)
  have I := rd_start hB
  have C : Cx p s m [.int x0, .int x1, .int x2].toArray meth c cX8_within 3 RX8 (some .boolean) := C
  have hl : lv_has ls 3 [(0, .int x0), (1, .int x1), (2, .int x2)] := hl
  refine x_iload_n C hl 0 dX8_within_0 rfl ?_
  refine x_iload_n C hl 1 dX8_within_1 rfl ?_
  refine x_icmp_lt C 14 dX8_within_2 (by decide) (fun c1 => ?_) (fun c1 => ?_)
  · have hw := And.left hw c1
    refine x_iconst C dX8_within_14 ic_0 ?_
    exact x_ret0z C bz_0 hw dX8_within_15
  · have hw := And.right hw c1
    refine x_iload_n C hl 0 dX8_within_5 rfl ?_
    refine x_iload_n C hl 2 dX8_within_6 rfl ?_
    refine x_icmp_gt C 14 dX8_within_7 (by decide) (fun c2 => ?_) (fun c2 => ?_)
    · have hw := And.left hw c2
      refine x_iconst C dX8_within_14 ic_0 ?_
      exact x_ret0z C bz_0 hw dX8_within_15
    · have hw := And.right hw c2
      refine x_iconst C dX8_within_10 ic_1 ?_
      refine x_goto C 15 dX8_within_11 (by decide) ?_
      exact x_ret0z C bz_1 hw dX8_within_15
/-! X8_held -/
abbrev rm_X8_held : Room := { frames := 1, cells := 0, slots := 0, locals := 21 }
abbrev cs_X8_held (G : Gt) : va_W := []
def wp_X8_held (x0 : Int32) (x1 : Int32) (x2 : Int32) (Q : Int32 → Prop) : Prop := (Q (jmax x1 (jmin x2 x0)))
set_option maxHeartbeats 4000000 in
set_option maxRecDepth 100000 in
theorem wk_X8_held (l : Launch) (G : Gt) (x0 : Int32) (x1 : Int32) (x2 : Int32) (Q : Int32 → Prop) (hw : wp_X8_held x0 x1 x2 Q) : Met l yX8_held (wc yX8_held cX8_held 3 (some .int)) rm_X8_held (va_Pc [.int x0, .int x1, .int x2] (PR G (cs_X8_held G ))) (vp_Si Q) 0 0 (fun _ => False) := by
  refine x_start pn_X8 (Nat.le_of_ble_eq_true rfl) (fun p e s m below meth c ls C hn hl hB => ?_)
  have I := rd_start hB
  have C : Cx p s m [.int x0, .int x1, .int x2].toArray meth c cX8_held 3 RX8 (some .int) := C
  have hl : lv_has ls 3 [(0, .int x0), (1, .int x1), (2, .int x2)] := hl
  refine x_iload_n C hl 1 dX8_held_0 rfl ?_
  refine x_iload_n C hl 2 dX8_held_1 rfl ?_
  refine x_iload_n C hl 0 dX8_held_2 rfl ?_
  refine x_mmin C hl wd_1057 (Nat.le_of_ble_eq_true rfl) (Nat.le_of_ble_eq_true rfl) (Nat.le_of_ble_eq_true rfl) (Nat.le_of_ble_eq_true rfl) wd_374 wd_80 wd_375 dX8_held_3 ?_
  refine x_mmax C hl wd_1058 (Nat.le_of_ble_eq_true rfl) (Nat.le_of_ble_eq_true rfl) (Nat.le_of_ble_eq_true rfl) (Nat.le_of_ble_eq_true rfl) wd_189 wd_80 wd_190 dX8_held_6 ?_
  exact x_ret0 C hw dX8_held_9
/-! X8_copy -/
abbrev rm_X8_copy : Room := { frames := 0, cells := 0, slots := 0, locals := 0 }
abbrev cs_X8_copy (G : Gt) (a_f : Nat) (a_g : Nat) (f : Nat → Int32) (g : Nat → Int32) : va_W := [(a_f, .inl (cI G, 228, .inl f)), (a_g, .inl (cI G, 228, .inl g))]
abbrev qc_X8_copy (G : Gt) (a_f : Nat) (a_g : Nat) (f : Nat → Int32) (A : Nat → Prop) (Q : (Nat → Int32) → Prop) : Array Value → State → Outcome → State → Prop := Qv1 G A (fun (u : (Nat → Int32)) => Q u) (fun u => cs_X8_copy G a_f a_g f u)
def lb_X8_copy_2 (f : Nat → Int32) (Q : (Nat → Int32) → Prop) : Nat → Int32 → (Nat → Int32) → Prop
  | 0 => fun _ _ => False
  | k + 1 => fun (y2 : Int32) (w_g : Nat → Int32) => (((228 : Int32) ≤ y2 → (Q w_g)) ∧ (¬ (228 : Int32) ≤ y2 → (vp_in y2 228 ∧ (∀ v2 : Int32, v2 = (f (y2).toNatClampNeg) → (vp_in y2 228 ∧ (lb_X8_copy_2 f Q k (y2 + (1 : Int32)) (upd w_g (y2).toNatClampNeg v2)))))))
set_option maxHeartbeats 4000000 in
set_option maxRecDepth 100000 in
theorem lk_X8_copy_2 {p : Program} {l : Launch} {e : Env} {s : State} {m : MethodId} {args : Array Value} {below : List Frame} {meth : Method} {c : Code} {A : Nat → Prop} (G : Gt) (a_f : Nat) (a_g : Nat) (C : Cx p s m args meth c cX8_copy 3 RX8 none) (f : Nat → Int32) (Q : (Nat → Int32) → Prop) : ∀ (n : Nat) (y2 : Int32) (w_g : Nat → Int32) (Hx : Heap) (lx : List Loc) (ls : Array Slot), lb_X8_copy_2 f Q n y2 w_g → Iv G A s (cs_X8_copy G a_f a_g f w_g) Hx lx → lv_has ls 3 [(0, .ref a_f), (1, .ref a_g), (2, .int y2)] → W p l e rm_X8_copy s m args below meth c Hx lx 0 0 (MQ below (qc_X8_copy G a_f a_g f A Q) args s 0 0 A) (F0 m 2 ls []) := by
  intro n
  induction n with
  | zero => intro y2 w_g Hx lx  ls hw I hl; exact False.elim hw
  | succ k ih =>
    intro y2 w_g Hx lx  ls hw I hl
    refine x_iload_n C hl 2 dX8_copy_2 rfl ?_
    refine x_sipush C dX8_copy_3 sp_228 ?_
    refine x_icmp_ge C 21 dX8_copy_6 (by decide) (fun c1 => ?_) (fun c1 => ?_)
    · have hw := And.left hw c1
      exact x_retv C I w_g rfl hw dX8_copy_21
    · have hw := And.right hw c1
      refine x_aload_n C hl 1 dX8_copy_9 rfl ?_
      refine x_iload_n C hl 2 dX8_copy_10 rfl ?_
      refine x_aload_n C hl 0 dX8_copy_11 rfl ?_
      refine x_iload_n C hl 2 dX8_copy_12 rfl ?_
      refine x_iald C I.1 0 rfl (And.left hw) dX8_copy_13 ?_
      have hw := And.right hw
      refine lv_topi (fun v2 ev2 => ?_)
      have hw := hw v2 ev2
      refine x_iast C I 1 (cs_X8_copy G a_f a_g f (upd w_g (y2).toNatClampNeg v2)) rfl (And.left hw) rfl dX8_copy_14 (fun Hx lx I => ?_)
      have hw := And.right hw
      refine x_iinc C hl 2 [(2, .int (y2 + (1 : Int32))), (0, .ref a_f), (1, .ref a_g)] (y2 + (1 : Int32)) dX8_copy_15 rfl (congrArg _ ic_1) (Nat.le_of_ble_eq_true rfl) rfl (fun ls hl => ?_)
      refine x_goto C 2 dX8_copy_18 (by decide) ?_
      exact ih (y2 + (1 : Int32)) (upd w_g (y2).toNatClampNeg v2) Hx lx ls hw I (lv_sub hl [1, 2, 0] rfl)
def wp_X8_copy (f : Nat → Int32) (g : Nat → Int32) (Q : (Nat → Int32) → Prop) : Prop := (∃ n, lb_X8_copy_2 f Q n (0 : Int32) g)
set_option maxHeartbeats 4000000 in
set_option maxRecDepth 100000 in
theorem wk_X8_copy (l : Launch) (G : Gt) (a_f : Nat) (a_g : Nat) (sz : Nat) (f : Nat → Int32) (g : Nat → Int32) (Q : (Nat → Int32) → Prop) (hw : wp_X8_copy f g Q) : Met l yX8_copy (wc yX8_copy cX8_copy 3 none) rm_X8_copy (va_Pc [.ref a_f, .ref a_g] (PB G (cs_X8_copy G a_f a_g f g) sz)) (qc_X8_copy G a_f a_g f (va_A (cs_X8_copy G a_f a_g f g) sz) Q) 0 0 (va_A (cs_X8_copy G a_f a_g f g) sz) := by
  refine x_start pn_X8 (Nat.le_of_ble_eq_true rfl) (fun p e s m below meth c ls C hn hl hB => ?_)
  have I := iv_start hB
  generalize va_A (cs_X8_copy G a_f a_g f g) sz = A at I ⊢
  have C : Cx p s m [.ref a_f, .ref a_g].toArray meth c cX8_copy 3 RX8 none := C
  have hl : lv_has ls 3 [(0, .ref a_f), (1, .ref a_g)] := hl
  refine x_iconst C dX8_copy_0 ic_0 ?_
  refine x_istore_n C hl [(2, .int (0 : Int32)), (0, .ref a_f), (1, .ref a_g)] dX8_copy_1 (Nat.le_of_ble_eq_true rfl) rfl (fun ls hl => ?_)
  obtain ⟨n, hw⟩ := hw
  exact lk_X8_copy_2 G a_f a_g C f  Q n (0 : Int32) g s.heap [] ls hw I (lv_sub hl [1, 2, 0] rfl)
