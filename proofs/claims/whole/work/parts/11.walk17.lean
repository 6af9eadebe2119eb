/-! X8_gloved -/
abbrev rm_X8_gloved : Room := { frames := 2, cells := 0, slots := 0, locals := 43 }
abbrev cs_X8_gloved (G : Gt) (a_M : Nat) (a_M_now : Nat) (a_M_kept : Nat) (a_M_aside : Nat) (a_M_errors : Nat) (a_M_meetsFound : Nat) (a_M_deedsFound : Nat) (a_M_ahead : Nat) (a_M_NAMED : Nat) (a_M_code : Nat) (a_M_named : Nat) (a_M_pile : Nat) (a_M_often : Nat) (a_M_trace : Nat) (a_M_widths : Nat) (a_M_sizes : Nat) (a_M_numbers : Nat) (a_M_carried : Nat) (M_images : Int32) (M_at : Int32) (M_open : Int32) (M_use : Int32) (M_isWrong : Int32) (M_coded : Int32) (M_traced : Int32) (M_kind : Int32) (M_number : Int32) (M_told : Int32) (M_now : Nat → Int32) : va_W := [(a_M, .inr (8, [.ref a_M_now, .ref a_M_kept, .ref a_M_aside, .int M_images, .ref a_M_errors, .ref a_M_meetsFound, .ref a_M_deedsFound, .ref a_M_ahead, .ref a_M_NAMED, .int M_at, .int M_open, .int M_use, .int M_isWrong, .ref a_M_code, .int M_coded, .ref a_M_named, .ref a_M_pile, .ref a_M_often, .ref a_M_trace, .int M_traced, .int M_kind, .int M_number, .int M_told, .ref a_M_widths, .ref a_M_sizes, .ref a_M_numbers, .ref a_M_carried])), (a_M_now, .inl (cI G, 228, .inl M_now))]
def lb_X8_gloved_4 (M_now : Nat → Int32) (Q : Int32 → Prop) : Nat → Int32 → Int32 → Prop
  | 0 => fun _ _ => False
  | k + 1 => fun (y1 : Int32) (y2 : Int32) => (((M_now 1) ≤ y2 → (Q y1)) ∧ (¬ (M_now 1) ≤ y2 → (wp_X8_soulIs y2 (4 : Int32) M_now (fun r2 => (∀ v3 : Int32, v3 = (y1 ||| (jshl r2 y2)) → (lb_X8_gloved_4 M_now Q k v3 (y2 + (1 : Int32))))))))
set_option maxHeartbeats 4000000 in
set_option maxRecDepth 100000 in
theorem lk_X8_gloved_4 {p : Program} {l : Launch} {e : Env} {s : State} {m : MethodId} {args : Array Value} {below : List Frame} {meth : Method} {c : Code} (G : Gt) (a_M : Nat) (a_M_now : Nat) (a_M_kept : Nat) (a_M_aside : Nat) (a_M_errors : Nat) (a_M_meetsFound : Nat) (a_M_deedsFound : Nat) (a_M_ahead : Nat) (a_M_NAMED : Nat) (a_M_code : Nat) (a_M_named : Nat) (a_M_pile : Nat) (a_M_often : Nat) (a_M_trace : Nat) (a_M_widths : Nat) (a_M_sizes : Nat) (a_M_numbers : Nat) (a_M_carried : Nat) (C : Cx p s m args meth c cX8_gloved 3 RX8 (some .int)) (M_now : Nat → Int32) (M_images : Int32) (M_at : Int32) (M_open : Int32) (M_use : Int32) (M_isWrong : Int32) (M_coded : Int32) (M_traced : Int32) (M_kind : Int32) (M_number : Int32) (M_told : Int32) (Q : Int32 → Prop) : ∀ (n : Nat) (y1 : Int32) (y2 : Int32) (ls : Array Slot), lb_X8_gloved_4 M_now Q n y1 y2 → Rd G (fun _ => False) s (cs_X8_gloved G a_M a_M_now a_M_kept a_M_aside a_M_errors a_M_meetsFound a_M_deedsFound a_M_ahead a_M_NAMED a_M_code a_M_named a_M_pile a_M_often a_M_trace a_M_widths a_M_sizes a_M_numbers a_M_carried M_images M_at M_open M_use M_isWrong M_coded M_traced M_kind M_number M_told M_now) s.heap [] → lv_has ls 3 [(0, .ref a_M), (1, .int y1), (2, .int y2)] → W p l e rm_X8_gloved s m args below meth c s.heap [] 0 0 (MQ below (vp_Si Q) args s 0 0 (fun _ => False)) (F0 m 4 ls []) := by
  intro n
  induction n with
  | zero => intro y1 y2  ls hw I hl; exact False.elim hw
  | succ k ih =>
    intro y1 y2  ls hw I hl
    refine x_iload_n C hl 2 dX8_gloved_4 rfl ?_
    refine x_aload_n C hl 0 dX8_gloved_5 rfl ?_
    refine x_get C I fl_X8_9 0 rfl rfl dX8_gloved_6 ?_
    refine x_iconst C dX8_gloved_9 ic_1 ?_
    refine x_ialdL C I 1 1 rfl vi_1_228 vl_1 dX8_gloved_10 ?_
    refine x_icmp_ge C 31 dX8_gloved_11 (by decide) (fun c1 => ?_) (fun c1 => ?_)
    · have hw := And.left hw c1
      refine x_iload_n C hl 1 dX8_gloved_31 rfl ?_
      exact x_ret0 C hw dX8_gloved_32
    · have hw := And.right hw c1
      refine x_iload_n C hl 1 dX8_gloved_14 rfl ?_
      refine x_aload_n C hl 0 dX8_gloved_15 rfl ?_
      refine x_iload_n C hl 2 dX8_gloved_16 rfl ?_
      refine x_iconst C dX8_gloved_17 ic_4 ?_
      refine x_ro (run_V (As := [.int y2, .int (4 : Int32)]) (rest := [.int y1]) C hl (wk_X8_soulIs l G a_M a_M_now a_M_kept a_M_aside a_M_errors a_M_meetsFound a_M_deedsFound a_M_ahead a_M_NAMED a_M_code a_M_named a_M_pile a_M_often a_M_trace a_M_widths a_M_sizes a_M_numbers a_M_carried M_images M_at M_open M_use M_isWrong M_coded M_traced M_kind M_number M_told M_now y2 (4 : Int32) _ hw) gm_X8_186 ⟨⟨rfl, rfl⟩, cn_X8_soulIs, ⟨(Nat.le_of_ble_eq_true rfl), (Nat.le_of_ble_eq_true rfl)⟩⟩ (pr_blind _ _ _) (x_recv I 0 rfl rfl) (pr_of I [0, 1] rfl) rfl rfl (Nat.le_of_ble_eq_true rfl) ⟨Nat.le_of_ble_eq_true rfl, Nat.le_of_ble_eq_true rfl⟩ dX8_gloved_18) (fun r2 hw => ?_)
      refine x_iload_n C hl 2 dX8_gloved_21 rfl ?_
      refine x_ishl C dX8_gloved_22 ?_
      refine x_ior C dX8_gloved_23 ?_
      refine lv_topi (fun v3 ev3 => ?_)
      have hw := hw v3 ev3
      refine x_istore_n C hl [(1, .int v3), (0, .ref a_M), (2, .int y2)] dX8_gloved_24 (Nat.le_of_ble_eq_true rfl) rfl (fun ls hl => ?_)
      refine x_iinc C hl 2 [(2, .int (y2 + (1 : Int32))), (1, .int v3), (0, .ref a_M)] (y2 + (1 : Int32)) dX8_gloved_25 rfl (congrArg _ ic_1) (Nat.le_of_ble_eq_true rfl) rfl (fun ls hl => ?_)
      refine x_goto C 4 dX8_gloved_28 (by decide) ?_
      exact ih v3 (y2 + (1 : Int32)) ls hw I (lv_sub hl [2, 1, 0] rfl)
def wp_X8_gloved (M_now : Nat → Int32) (Q : Int32 → Prop) : Prop := (∃ n, lb_X8_gloved_4 M_now Q n (0 : Int32) (0 : Int32))
set_option maxHeartbeats 4000000 in
set_option maxRecDepth 100000 in
theorem wk_X8_gloved (l : Launch) (G : Gt) (a_M : Nat) (a_M_now : Nat) (a_M_kept : Nat) (a_M_aside : Nat) (a_M_errors : Nat) (a_M_meetsFound : Nat) (a_M_deedsFound : Nat) (a_M_ahead : Nat) (a_M_NAMED : Nat) (a_M_code : Nat) (a_M_named : Nat) (a_M_pile : Nat) (a_M_often : Nat) (a_M_trace : Nat) (a_M_widths : Nat) (a_M_sizes : Nat) (a_M_numbers : Nat) (a_M_carried : Nat) (M_images : Int32) (M_at : Int32) (M_open : Int32) (M_use : Int32) (M_isWrong : Int32) (M_coded : Int32) (M_traced : Int32) (M_kind : Int32) (M_number : Int32) (M_told : Int32) (M_now : Nat → Int32) (Q : Int32 → Prop) (hw : wp_X8_gloved M_now Q) : Met l yX8_gloved (wc yX8_gloved cX8_gloved 3 (some .int)) rm_X8_gloved (va_Pc [.ref a_M] (PR G (cs_X8_gloved G a_M a_M_now a_M_kept a_M_aside a_M_errors a_M_meetsFound a_M_deedsFound a_M_ahead a_M_NAMED a_M_code a_M_named a_M_pile a_M_often a_M_trace a_M_widths a_M_sizes a_M_numbers a_M_carried M_images M_at M_open M_use M_isWrong M_coded M_traced M_kind M_number M_told M_now))) (vp_Si Q) 0 0 (fun _ => False) := by
  refine x_start pn_X8 (Nat.le_of_ble_eq_true rfl) (fun p e s m below meth c ls C hn hl hB => ?_)
  have I := rd_start hB
  have C : Cx p s m [.ref a_M].toArray meth c cX8_gloved 3 RX8 (some .int) := C
  have hl : lv_has ls 3 [(0, .ref a_M)] := hl
  refine x_iconst C dX8_gloved_0 ic_0 ?_
  refine x_istore_n C hl [(1, .int (0 : Int32)), (0, .ref a_M)] dX8_gloved_1 (Nat.le_of_ble_eq_true rfl) rfl (fun ls hl => ?_)
  refine x_iconst C dX8_gloved_2 ic_0 ?_
  refine x_istore_n C hl [(2, .int (0 : Int32)), (1, .int (0 : Int32)), (0, .ref a_M)] dX8_gloved_3 (Nat.le_of_ble_eq_true rfl) rfl (fun ls hl => ?_)
  obtain ⟨n, hw⟩ := hw
  exact lk_X8_gloved_4 G a_M a_M_now a_M_kept a_M_aside a_M_errors a_M_meetsFound a_M_deedsFound a_M_ahead a_M_NAMED a_M_code a_M_named a_M_pile a_M_often a_M_trace a_M_widths a_M_sizes a_M_numbers a_M_carried C M_now M_images M_at M_open M_use M_isWrong M_coded M_traced M_kind M_number M_told Q n (0 : Int32) (0 : Int32) ls hw I (lv_sub hl [2, 1, 0] rfl)
/-! X8_count -/
abbrev rm_X8_count : Room := { frames := 3, cells := 0, slots := 0, locals := 66 }
abbrev cs_X8_count (G : Gt) (a_M : Nat) (a_M_now : Nat) (a_M_kept : Nat) (a_M_aside : Nat) (a_M_errors : Nat) (a_M_meetsFound : Nat) (a_M_deedsFound : Nat) (a_M_ahead : Nat) (a_M_NAMED : Nat) (a_M_code : Nat) (a_M_named : Nat) (a_M_pile : Nat) (a_M_often : Nat) (a_M_trace : Nat) (a_M_widths : Nat) (a_M_sizes : Nat) (a_M_numbers : Nat) (a_M_carried : Nat) (M_images : Int32) (M_at : Int32) (M_open : Int32) (M_use : Int32) (M_isWrong : Int32) (M_coded : Int32) (M_traced : Int32) (M_kind : Int32) (M_number : Int32) (M_told : Int32) (M_errors : Nat → Int32) (M_now : Nat → Int32) : va_W := [(a_M, .inr (8, [.ref a_M_now, .ref a_M_kept, .ref a_M_aside, .int M_images, .ref a_M_errors, .ref a_M_meetsFound, .ref a_M_deedsFound, .ref a_M_ahead, .ref a_M_NAMED, .int M_at, .int M_open, .int M_use, .int M_isWrong, .ref a_M_code, .int M_coded, .ref a_M_named, .ref a_M_pile, .ref a_M_often, .ref a_M_trace, .int M_traced, .int M_kind, .int M_number, .int M_told, .ref a_M_widths, .ref a_M_sizes, .ref a_M_numbers, .ref a_M_carried])), (a_M_errors, .inl (cI G, 6, .inl M_errors)), (a_M_now, .inl (cI G, 228, .inl M_now))]
abbrev qc_X8_count (G : Gt) (a_M : Nat) (a_M_now : Nat) (a_M_kept : Nat) (a_M_aside : Nat) (a_M_errors : Nat) (a_M_meetsFound : Nat) (a_M_deedsFound : Nat) (a_M_ahead : Nat) (a_M_NAMED : Nat) (a_M_code : Nat) (a_M_named : Nat) (a_M_pile : Nat) (a_M_often : Nat) (a_M_trace : Nat) (a_M_widths : Nat) (a_M_sizes : Nat) (a_M_numbers : Nat) (a_M_carried : Nat) (M_images : Int32) (M_at : Int32) (M_open : Int32) (M_use : Int32) (M_isWrong : Int32) (M_coded : Int32) (M_traced : Int32) (M_kind : Int32) (M_number : Int32) (M_told : Int32) (M_now : Nat → Int32) (A : Nat → Prop) (Q : Int32 → (Nat → Int32) → Prop) : Array Value → State → Outcome → State → Prop := Qi1 G A (fun r (u : (Nat → Int32)) => Q r u) (fun u => cs_X8_count G a_M a_M_now a_M_kept a_M_aside a_M_errors a_M_meetsFound a_M_deedsFound a_M_ahead a_M_NAMED a_M_code a_M_named a_M_pile a_M_often a_M_trace a_M_widths a_M_sizes a_M_numbers a_M_carried M_images M_at M_open M_use M_isWrong M_coded M_traced M_kind M_number M_told u M_now)
def wp_X8_count (x1 : Int32) (M_traced : Int32) (M_errors : Nat → Int32) (M_now : Nat → Int32) (Q : Int32 → (Nat → Int32) → Prop) : Prop := ((x1 = (0 : Int32) → (Q (M_now 1) M_errors)) ∧ (x1 = (1 : Int32) → (Q (M_now 0) M_errors)) ∧ (x1 = (2 : Int32) → (Q (M_now 2) M_errors)) ∧ (x1 = (3 : Int32) → (wp_X8_sumOf (3 : Int32) M_now (fun r5 => (Q r5 M_errors)))) ∧ (x1 = (4 : Int32) → (wp_X8_freeNow M_now (fun r7 => (wp_X8_bits r7 (fun r8 => (Q r8 M_errors)))))) ∧ (x1 = (5 : Int32) → (wp_X8_sumOf (5 : Int32) M_now (fun r10 => (Q r10 M_errors)))) ∧ (x1 = (6 : Int32) → (wp_X8_gloved M_now (fun r12 => (Q r12 M_errors)))) ∧ (x1 = (7 : Int32) → (Q (M_now 4) M_errors)) ∧ (x1 = (8 : Int32) → (Q (M_now 5) M_errors)) ∧ (x1 = (9 : Int32) → (Q M_traced M_errors)) ∧ (x1 = (10 : Int32) → (Q (M_now 3) M_errors)) ∧ (¬ x1 = (0 : Int32) → ¬ x1 = (1 : Int32) → ¬ x1 = (2 : Int32) → ¬ x1 = (3 : Int32) → ¬ x1 = (4 : Int32) → ¬ x1 = (5 : Int32) → ¬ x1 = (6 : Int32) → ¬ x1 = (7 : Int32) → ¬ x1 = (8 : Int32) → ¬ x1 = (9 : Int32) → ¬ x1 = (10 : Int32) → (wp_X8_finding (-1000000001 : Int32) M_errors (fun r18 o17 => (Q r18 o17)))))
set_option maxHeartbeats 4000000 in
set_option maxRecDepth 100000 in
theorem wk_X8_count (l : Launch) (G : Gt) (a_M : Nat) (a_M_now : Nat) (a_M_kept : Nat) (a_M_aside : Nat) (a_M_errors : Nat) (a_M_meetsFound : Nat) (a_M_deedsFound : Nat) (a_M_ahead : Nat) (a_M_NAMED : Nat) (a_M_code : Nat) (a_M_named : Nat) (a_M_pile : Nat) (a_M_often : Nat) (a_M_trace : Nat) (a_M_widths : Nat) (a_M_sizes : Nat) (a_M_numbers : Nat) (a_M_carried : Nat) (sz : Nat) (M_images : Int32) (M_at : Int32) (M_open : Int32) (M_use : Int32) (M_isWrong : Int32) (M_coded : Int32) (M_traced : Int32) (M_kind : Int32) (M_number : Int32) (M_told : Int32) (M_errors : Nat → Int32) (M_now : Nat → Int32) (x1 : Int32) (Q : Int32 → (Nat → Int32) → Prop) (hw : wp_X8_count x1 M_traced M_errors M_now Q) : Met l yX8_count (wc yX8_count cX8_count 2 (some .int)) rm_X8_count (va_Pc [.ref a_M, .int x1] (PB G (cs_X8_count G a_M a_M_now a_M_kept a_M_aside a_M_errors a_M_meetsFound a_M_deedsFound a_M_ahead a_M_NAMED a_M_code a_M_named a_M_pile a_M_often a_M_trace a_M_widths a_M_sizes a_M_numbers a_M_carried M_images M_at M_open M_use M_isWrong M_coded M_traced M_kind M_number M_told M_errors M_now) sz)) (qc_X8_count G a_M a_M_now a_M_kept a_M_aside a_M_errors a_M_meetsFound a_M_deedsFound a_M_ahead a_M_NAMED a_M_code a_M_named a_M_pile a_M_often a_M_trace a_M_widths a_M_sizes a_M_numbers a_M_carried M_images M_at M_open M_use M_isWrong M_coded M_traced M_kind M_number M_told M_now (va_A (cs_X8_count G a_M a_M_now a_M_kept a_M_aside a_M_errors a_M_meetsFound a_M_deedsFound a_M_ahead a_M_NAMED a_M_code a_M_named a_M_pile a_M_often a_M_trace a_M_widths a_M_sizes a_M_numbers a_M_carried M_images M_at M_open M_use M_isWrong M_coded M_traced M_kind M_number M_told M_errors M_now) sz) Q) 0 0 (va_A (cs_X8_count G a_M a_M_now a_M_kept a_M_aside a_M_errors a_M_meetsFound a_M_deedsFound a_M_ahead a_M_NAMED a_M_code a_M_named a_M_pile a_M_often a_M_trace a_M_widths a_M_sizes a_M_numbers a_M_carried M_images M_at M_open M_use M_isWrong M_coded M_traced M_kind M_number M_told M_errors M_now) sz) := by
  refine x_start pn_X8 (Nat.le_of_ble_eq_true rfl) (fun p e s m below meth c ls C hn hl hB => ?_)
  have I := iv_start hB
  generalize va_A (cs_X8_count G a_M a_M_now a_M_kept a_M_aside a_M_errors a_M_meetsFound a_M_deedsFound a_M_ahead a_M_NAMED a_M_code a_M_named a_M_pile a_M_often a_M_trace a_M_widths a_M_sizes a_M_numbers a_M_carried M_images M_at M_open M_use M_isWrong M_coded M_traced M_kind M_number M_told M_errors M_now) sz = A at I ⊢
  have C : Cx p s m [.ref a_M, .int x1].toArray meth c cX8_count 2 RX8 (some .int) := C
  have hl : lv_has ls 2 [(0, .ref a_M), (1, .int x1)] := hl
  refine x_iload_n C hl 1 dX8_count_0 rfl ?_
  by_cases c1 : x1 = (0 : Int32)
  · have hw := (And.left (hw)) c1
    refine x_table C (0 : Int32) 60 dX8_count_1 c1 (by decide) (by decide) rfl (by decide) ?_
    refine x_aload_n C hl 0 dX8_count_60 rfl ?_
    refine x_get C I.1 fl_X8_9 0 rfl rfl dX8_count_61 ?_
    refine x_iconst C dX8_count_64 ic_1 ?_
    refine x_ialdL C I.1 2 1 rfl vi_1_228 vl_1 dX8_count_65 ?_
    exact x_ret1 C I M_errors rfl hw dX8_count_66
  by_cases c2 : x1 = (1 : Int32)
  · have hw := (And.left (And.right (hw))) c2
    refine x_table C (1 : Int32) 67 dX8_count_1 c2 (by decide) (by decide) rfl (by decide) ?_
    refine x_aload_n C hl 0 dX8_count_67 rfl ?_
    refine x_get C I.1 fl_X8_9 0 rfl rfl dX8_count_68 ?_
    refine x_iconst C dX8_count_71 ic_0 ?_
    refine x_ialdL C I.1 2 0 rfl vi_0_228 vl_0 dX8_count_72 ?_
    exact x_ret1 C I M_errors rfl hw dX8_count_73
  by_cases c3 : x1 = (2 : Int32)
  · have hw := (And.left (And.right (And.right (hw)))) c3
    refine x_table C (2 : Int32) 74 dX8_count_1 c3 (by decide) (by decide) rfl (by decide) ?_
    refine x_aload_n C hl 0 dX8_count_74 rfl ?_
    refine x_get C I.1 fl_X8_9 0 rfl rfl dX8_count_75 ?_
    refine x_iconst C dX8_count_78 ic_2 ?_
    refine x_ialdL C I.1 2 2 rfl vi_2_228 vl_2 dX8_count_79 ?_
    exact x_ret1 C I M_errors rfl hw dX8_count_80
  by_cases c4 : x1 = (3 : Int32)
  · have hw := (And.left (And.right (And.right (And.right (hw))))) c4
    refine x_table C (3 : Int32) 81 dX8_count_1 c4 (by decide) (by decide) rfl (by decide) ?_
    refine x_aload_n C hl 0 dX8_count_81 rfl ?_
    refine x_iconst C dX8_count_82 ic_3 ?_
    refine x_ro (run_V (As := [.int (3 : Int32)]) (rest := []) C hl (wk_X8_sumOf l G a_M a_M_now a_M_kept a_M_aside a_M_errors a_M_meetsFound a_M_deedsFound a_M_ahead a_M_NAMED a_M_code a_M_named a_M_pile a_M_often a_M_trace a_M_widths a_M_sizes a_M_numbers a_M_carried M_images M_at M_open M_use M_isWrong M_coded M_traced M_kind M_number M_told M_now (3 : Int32) _ hw) gm_X8_240 ⟨⟨rfl, rfl⟩, cn_X8_sumOf, ⟨(Nat.le_of_ble_eq_true rfl), (Nat.le_of_ble_eq_true rfl)⟩⟩ (pr_blind _ _ _) (x_recv I.1 0 rfl rfl) (pr_of I.1 [0, 2] rfl) rfl rfl (Nat.le_of_ble_eq_true rfl) ⟨Nat.le_of_ble_eq_true rfl, Nat.le_of_ble_eq_true rfl⟩ dX8_count_83) (fun r5 hw => ?_)
    exact x_ret1 C I M_errors rfl hw dX8_count_86
  by_cases c6 : x1 = (4 : Int32)
  · have hw := (And.left (And.right (And.right (And.right (And.right (hw)))))) c6
    refine x_table C (4 : Int32) 87 dX8_count_1 c6 (by decide) (by decide) rfl (by decide) ?_
    refine x_aload_n C hl 0 dX8_count_87 rfl ?_
    refine x_ro (run_V (As := []) (rest := []) C hl (wk_X8_freeNow l G a_M a_M_now a_M_kept a_M_aside a_M_errors a_M_meetsFound a_M_deedsFound a_M_ahead a_M_NAMED a_M_code a_M_named a_M_pile a_M_often a_M_trace a_M_widths a_M_sizes a_M_numbers a_M_carried M_images M_at M_open M_use M_isWrong M_coded M_traced M_kind M_number M_told M_now _ hw) gm_X8_215 ⟨⟨rfl, rfl⟩, cn_X8_freeNow, ⟨(Nat.le_of_ble_eq_true rfl), (Nat.le_of_ble_eq_true rfl)⟩⟩ (pr_blind _ _ _) (x_recv I.1 0 rfl rfl) (pr_of I.1 [0, 2] rfl) rfl rfl (Nat.le_of_ble_eq_true rfl) ⟨Nat.le_of_ble_eq_true rfl, Nat.le_of_ble_eq_true rfl⟩ dX8_count_88) (fun r7 hw => ?_)
    refine x_ro (run_S (As := [.int r7]) (rest := []) C hl (wk_X8_bits l G r7 _ hw) gm_X8_218 ⟨⟨rfl, rfl⟩, cn_X8_bits, ⟨(Nat.le_of_ble_eq_true rfl), (Nat.le_of_ble_eq_true rfl)⟩⟩ (pr_blind _ _ _) (pr_of I.1 [] rfl) rfl rfl (Nat.le_of_ble_eq_true rfl) ⟨Nat.le_of_ble_eq_true rfl, Nat.le_of_ble_eq_true rfl⟩ dX8_count_91) (fun r8 hw => ?_)
    exact x_ret1 C I M_errors rfl hw dX8_count_94
  by_cases c9 : x1 = (5 : Int32)
  · have hw := (And.left (And.right (And.right (And.right (And.right (And.right (hw))))))) c9
    refine x_table C (5 : Int32) 95 dX8_count_1 c9 (by decide) (by decide) rfl (by decide) ?_
    refine x_aload_n C hl 0 dX8_count_95 rfl ?_
    refine x_iconst C dX8_count_96 ic_5 ?_
    refine x_ro (run_V (As := [.int (5 : Int32)]) (rest := []) C hl (wk_X8_sumOf l G a_M a_M_now a_M_kept a_M_aside a_M_errors a_M_meetsFound a_M_deedsFound a_M_ahead a_M_NAMED a_M_code a_M_named a_M_pile a_M_often a_M_trace a_M_widths a_M_sizes a_M_numbers a_M_carried M_images M_at M_open M_use M_isWrong M_coded M_traced M_kind M_number M_told M_now (5 : Int32) _ hw) gm_X8_240 ⟨⟨rfl, rfl⟩, cn_X8_sumOf, ⟨(Nat.le_of_ble_eq_true rfl), (Nat.le_of_ble_eq_true rfl)⟩⟩ (pr_blind _ _ _) (x_recv I.1 0 rfl rfl) (pr_of I.1 [0, 2] rfl) rfl rfl (Nat.le_of_ble_eq_true rfl) ⟨Nat.le_of_ble_eq_true rfl, Nat.le_of_ble_eq_true rfl⟩ dX8_count_97) (fun r10 hw => ?_)
    exact x_ret1 C I M_errors rfl hw dX8_count_100
  by_cases c11 : x1 = (6 : Int32)
  · have hw := (And.left (And.right (And.right (And.right (And.right (And.right (And.right (hw)))))))) c11
    refine x_table C (6 : Int32) 101 dX8_count_1 c11 (by decide) (by decide) rfl (by decide) ?_
    refine x_aload_n C hl 0 dX8_count_101 rfl ?_
    refine x_ro (run_V (As := []) (rest := []) C hl (wk_X8_gloved l G a_M a_M_now a_M_kept a_M_aside a_M_errors a_M_meetsFound a_M_deedsFound a_M_ahead a_M_NAMED a_M_code a_M_named a_M_pile a_M_often a_M_trace a_M_widths a_M_sizes a_M_numbers a_M_carried M_images M_at M_open M_use M_isWrong M_coded M_traced M_kind M_number M_told M_now _ hw) gm_X8_305 ⟨⟨rfl, rfl⟩, cn_X8_gloved, ⟨(Nat.le_of_ble_eq_true rfl), (Nat.le_of_ble_eq_true rfl)⟩⟩ (pr_blind _ _ _) (x_recv I.1 0 rfl rfl) (pr_of I.1 [0, 2] rfl) rfl rfl (Nat.le_of_ble_eq_true rfl) ⟨Nat.le_of_ble_eq_true rfl, Nat.le_of_ble_eq_true rfl⟩ dX8_count_102) (fun r12 hw => ?_)
    exact x_ret1 C I M_errors rfl hw dX8_count_105
  by_cases c13 : x1 = (7 : Int32)
  · have hw := (And.left (And.right (And.right (And.right (And.right (And.right (And.right (And.right (hw))))))))) c13
    refine x_table C (7 : Int32) 106 dX8_count_1 c13 (by decide) (by decide) rfl (by decide) ?_
    refine x_aload_n C hl 0 dX8_count_106 rfl ?_
    refine x_get C I.1 fl_X8_9 0 rfl rfl dX8_count_107 ?_
    refine x_iconst C dX8_count_110 ic_4 ?_
    refine x_ialdL C I.1 2 4 rfl vi_4_228 vl_4 dX8_count_111 ?_
    exact x_ret1 C I M_errors rfl hw dX8_count_112
  by_cases c14 : x1 = (8 : Int32)
  · have hw := (And.left (And.right (And.right (And.right (And.right (And.right (And.right (And.right (And.right (hw)))))))))) c14
    refine x_table C (8 : Int32) 113 dX8_count_1 c14 (by decide) (by decide) rfl (by decide) ?_
    refine x_aload_n C hl 0 dX8_count_113 rfl ?_
    refine x_get C I.1 fl_X8_9 0 rfl rfl dX8_count_114 ?_
    refine x_iconst C dX8_count_117 ic_5 ?_
    refine x_ialdL C I.1 2 5 rfl vi_5_228 vl_5 dX8_count_118 ?_
    exact x_ret1 C I M_errors rfl hw dX8_count_119
  by_cases c15 : x1 = (9 : Int32)
  · have hw := (And.left (And.right (And.right (And.right (And.right (And.right (And.right (And.right (And.right (And.right (hw))))))))))) c15
    refine x_table C (9 : Int32) 120 dX8_count_1 c15 (by decide) (by decide) rfl (by decide) ?_
    refine x_aload_n C hl 0 dX8_count_120 rfl ?_
    refine x_get C I.1 fl_X8_272 0 rfl rfl dX8_count_121 ?_
    exact x_ret1 C I M_errors rfl hw dX8_count_124
  by_cases c16 : x1 = (10 : Int32)
  · have hw := (And.left (And.right (And.right (And.right (And.right (And.right (And.right (And.right (And.right (And.right (And.right (hw)))))))))))) c16
    refine x_table C (10 : Int32) 125 dX8_count_1 c16 (by decide) (by decide) rfl (by decide) ?_
    refine x_aload_n C hl 0 dX8_count_125 rfl ?_
    refine x_get C I.1 fl_X8_9 0 rfl rfl dX8_count_126 ?_
    refine x_iconst C dX8_count_129 ic_3 ?_
    refine x_ialdL C I.1 2 3 rfl vi_3_228 vl_3 dX8_count_130 ?_
    exact x_ret1 C I M_errors rfl hw dX8_count_131
  have hw := (And.right (And.right (And.right (And.right (And.right (And.right (And.right (And.right (And.right (And.right (And.right (hw)))))))))))) c1 c2 c3 c4 c6 c9 c11 c13 c14 c15 c16
  refine x_tableO C 132 dX8_count_1 (tb_out (lo := 0) (n := 11) ⟨c1, c2, c3, c4, c6, c9, c11, c13, c14, c15, c16, trivial⟩) (by decide) ?_
  refine x_aload_n C hl 0 dX8_count_132 rfl ?_
  refine x_ldc C wd_931 dX8_count_133 ?_
  refine x_mui (wk := cs_X8_finding G a_M a_M_now a_M_kept a_M_aside a_M_errors a_M_meetsFound a_M_deedsFound a_M_ahead a_M_NAMED a_M_code a_M_named a_M_pile a_M_often a_M_trace a_M_widths a_M_sizes a_M_numbers a_M_carried M_images M_at M_open M_use M_isWrong M_coded M_traced M_kind M_number M_told M_errors) (wr := [(a_M_now, .inl (cI G, 228, .inl M_now))]) (isC := [0, 1]) (isR := [2]) I ⟨⟨rfl, rfl⟩, rfl, rfl, rfl⟩ [1, 2, 0] (fun u => cs_X8_count G a_M a_M_now a_M_kept a_M_aside a_M_errors a_M_meetsFound a_M_deedsFound a_M_ahead a_M_NAMED a_M_code a_M_named a_M_pile a_M_often a_M_trace a_M_widths a_M_sizes a_M_numbers a_M_carried M_images M_at M_open M_use M_isWrong M_coded M_traced M_kind M_number M_told u M_now) (fun _ => rfl) rfl (run_V (As := [.int (-1000000001 : Int32)]) (rest := []) C hl (wk_X8_finding l G a_M a_M_now a_M_kept a_M_aside a_M_errors a_M_meetsFound a_M_deedsFound a_M_ahead a_M_NAMED a_M_code a_M_named a_M_pile a_M_often a_M_trace a_M_widths a_M_sizes a_M_numbers a_M_carried s.heap.size M_images M_at M_open M_use M_isWrong M_coded M_traced M_kind M_number M_told M_errors (-1000000001 : Int32) _ hw) gm_X8_87 ⟨⟨rfl, rfl⟩, cn_X8_finding, ⟨(Nat.le_of_ble_eq_true rfl), (Nat.le_of_ble_eq_true rfl)⟩⟩ (pb_blind _ _ _ _) (x_recv I.1 0 rfl rfl) (pb_of I [0, 1] rfl rfl) rfl rfl (Nat.le_of_ble_eq_true rfl) ⟨Nat.le_of_ble_eq_true rfl, Nat.le_of_ble_eq_true rfl⟩ dX8_count_135) (fun r18 u Hx lx hw I => ?_)
  obtain ⟨o17, eo17⟩ : ∃ z, z = u := ⟨_, rfl⟩
  subst eo17
  have I : Iv G A s (cs_X8_count G a_M a_M_now a_M_kept a_M_aside a_M_errors a_M_meetsFound a_M_deedsFound a_M_ahead a_M_NAMED a_M_code a_M_named a_M_pile a_M_often a_M_trace a_M_widths a_M_sizes a_M_numbers a_M_carried M_images M_at M_open M_use M_isWrong M_coded M_traced M_kind M_number M_told o17 M_now) Hx lx := I
  exact x_ret1 C I o17 rfl hw dX8_count_138
/-! X8_told -/
abbrev rm_X8_told : Room := { frames := 1, cells := 0, slots := 0, locals := 22 }
abbrev cs_X8_told (G : Gt) (a_M : Nat) (a_M_now : Nat) (a_M_kept : Nat) (a_M_aside : Nat) (a_M_errors : Nat) (a_M_meetsFound : Nat) (a_M_deedsFound : Nat) (a_M_ahead : Nat) (a_M_NAMED : Nat) (a_M_code : Nat) (a_M_named : Nat) (a_M_pile : Nat) (a_M_often : Nat) (a_M_trace : Nat) (a_M_widths : Nat) (a_M_sizes : Nat) (a_M_numbers : Nat) (a_M_carried : Nat) (M_images : Int32) (M_at : Int32) (M_open : Int32) (M_use : Int32) (M_isWrong : Int32) (M_coded : Int32) (M_traced : Int32) (M_kind : Int32) (M_number : Int32) (M_told : Int32) (M_errors : Nat → Int32) : va_W := [(a_M, .inr (8, [.ref a_M_now, .ref a_M_kept, .ref a_M_aside, .int M_images, .ref a_M_errors, .ref a_M_meetsFound, .ref a_M_deedsFound, .ref a_M_ahead, .ref a_M_NAMED, .int M_at, .int M_open, .int M_use, .int M_isWrong, .ref a_M_code, .int M_coded, .ref a_M_named, .ref a_M_pile, .ref a_M_often, .ref a_M_trace, .int M_traced, .int M_kind, .int M_number, .int M_told, .ref a_M_widths, .ref a_M_sizes, .ref a_M_numbers, .ref a_M_carried])), (a_M_errors, .inl (cI G, 6, .inl M_errors))]
abbrev qc_X8_told (G : Gt) (a_M : Nat) (a_M_now : Nat) (a_M_kept : Nat) (a_M_aside : Nat) (a_M_errors : Nat) (a_M_meetsFound : Nat) (a_M_deedsFound : Nat) (a_M_ahead : Nat) (a_M_NAMED : Nat) (a_M_code : Nat) (a_M_named : Nat) (a_M_pile : Nat) (a_M_often : Nat) (a_M_trace : Nat) (a_M_widths : Nat) (a_M_sizes : Nat) (a_M_numbers : Nat) (a_M_carried : Nat) (M_images : Int32) (M_at : Int32) (M_open : Int32) (M_use : Int32) (M_isWrong : Int32) (M_coded : Int32) (M_traced : Int32) (M_kind : Int32) (M_number : Int32) (M_told : Int32) (A : Nat → Prop) (Q : Int32 → (Nat → Int32) → Prop) : Array Value → State → Outcome → State → Prop := Qi1 G A (fun r (u : (Nat → Int32)) => Q r u) (fun u => cs_X8_told G a_M a_M_now a_M_kept a_M_aside a_M_errors a_M_meetsFound a_M_deedsFound a_M_ahead a_M_NAMED a_M_code a_M_named a_M_pile a_M_often a_M_trace a_M_widths a_M_sizes a_M_numbers a_M_carried M_images M_at M_open M_use M_isWrong M_coded M_traced M_kind M_number M_told u)
def wp_X8_told (x1 : Int32) (M_errors : Nat → Int32) (Q : Int32 → (Nat → Int32) → Prop) : Prop := (wp_X8_within x1 (1 : Int32) (5 : Int32) (fun r1 => ((r1 = (0) → (wp_X8_finding (-1000000001 : Int32) M_errors (fun r4 o3 => (Q r4 o3)))) ∧ (¬ r1 = (0) → (vp_in x1 6 ∧ (Q (M_errors (x1).toNatClampNeg) M_errors))))))
set_option maxHeartbeats 4000000 in
set_option maxRecDepth 100000 in
theorem wk_X8_told (l : Launch) (G : Gt) (a_M : Nat) (a_M_now : Nat) (a_M_kept : Nat) (a_M_aside : Nat) (a_M_errors : Nat) (a_M_meetsFound : Nat) (a_M_deedsFound : Nat) (a_M_ahead : Nat) (a_M_NAMED : Nat) (a_M_code : Nat) (a_M_named : Nat) (a_M_pile : Nat) (a_M_often : Nat) (a_M_trace : Nat) (a_M_widths : Nat) (a_M_sizes : Nat) (a_M_numbers : Nat) (a_M_carried : Nat) (sz : Nat) (M_images : Int32) (M_at : Int32) (M_open : Int32) (M_use : Int32) (M_isWrong : Int32) (M_coded : Int32) (M_traced : Int32) (M_kind : Int32) (M_number : Int32) (M_told : Int32) (M_errors : Nat → Int32) (x1 : Int32) (Q : Int32 → (Nat → Int32) → Prop) (hw : wp_X8_told x1 M_errors Q) : Met l yX8_told (wc yX8_told cX8_told 2 (some .int)) rm_X8_told (va_Pc [.ref a_M, .int x1] (PB G (cs_X8_told G a_M a_M_now a_M_kept a_M_aside a_M_errors a_M_meetsFound a_M_deedsFound a_M_ahead a_M_NAMED a_M_code a_M_named a_M_pile a_M_often a_M_trace a_M_widths a_M_sizes a_M_numbers a_M_carried M_images M_at M_open M_use M_isWrong M_coded M_traced M_kind M_number M_told M_errors) sz)) (qc_X8_told G a_M a_M_now a_M_kept a_M_aside a_M_errors a_M_meetsFound a_M_deedsFound a_M_ahead a_M_NAMED a_M_code a_M_named a_M_pile a_M_often a_M_trace a_M_widths a_M_sizes a_M_numbers a_M_carried M_images M_at M_open M_use M_isWrong M_coded M_traced M_kind M_number M_told (va_A (cs_X8_told G a_M a_M_now a_M_kept a_M_aside a_M_errors a_M_meetsFound a_M_deedsFound a_M_ahead a_M_NAMED a_M_code a_M_named a_M_pile a_M_often a_M_trace a_M_widths a_M_sizes a_M_numbers a_M_carried M_images M_at M_open M_use M_isWrong M_coded M_traced M_kind M_number M_told M_errors) sz) Q) 0 0 (va_A (cs_X8_told G a_M a_M_now a_M_kept a_M_aside a_M_errors a_M_meetsFound a_M_deedsFound a_M_ahead a_M_NAMED a_M_code a_M_named a_M_pile a_M_often a_M_trace a_M_widths a_M_sizes a_M_numbers a_M_carried M_images M_at M_open M_use M_isWrong M_coded M_traced M_kind M_number M_told M_errors) sz) := by
  refine x_start pn_X8 (Nat.le_of_ble_eq_true rfl) (fun p e s m below meth c ls C hn hl hB => ?_)
  have I := iv_start hB
  generalize va_A (cs_X8_told G a_M a_M_now a_M_kept a_M_aside a_M_errors a_M_meetsFound a_M_deedsFound a_M_ahead a_M_NAMED a_M_code a_M_named a_M_pile a_M_often a_M_trace a_M_widths a_M_sizes a_M_numbers a_M_carried M_images M_at M_open M_use M_isWrong M_coded M_traced M_kind M_number M_told M_errors) sz = A at I ⊢
  have C : Cx p s m [.ref a_M, .int x1].toArray meth c cX8_told 2 RX8 (some .int) := C
  have hl : lv_has ls 2 [(0, .ref a_M), (1, .int x1)] := hl
  refine x_iload_n C hl 1 dX8_told_0 rfl ?_
  refine x_iconst C dX8_told_1 ic_1 ?_
  refine x_iconst C dX8_told_2 ic_5 ?_
  refine x_ro (run_S (As := [.int x1, .int (1 : Int32), .int (5 : Int32)]) (rest := []) C hl (wk_X8_within l G x1 (1 : Int32) (5 : Int32) _ hw) gm_X8_82 ⟨⟨rfl, rfl⟩, cn_X8_within, ⟨(Nat.le_of_ble_eq_true rfl), (Nat.le_of_ble_eq_true rfl)⟩⟩ (pr_blind _ _ _) (pr_of I.1 [] rfl) rfl rfl (Nat.le_of_ble_eq_true rfl) ⟨Nat.le_of_ble_eq_true rfl, Nat.le_of_ble_eq_true rfl⟩ dX8_told_3) (fun r1 hw => ?_)
  refine x_if_eq C 18 dX8_told_6 (by decide) (fun c2 => ?_) (fun c2 => ?_)
  · have hw := And.left hw c2
    refine x_aload_n C hl 0 dX8_told_18 rfl ?_
    refine x_ldc C wd_931 dX8_told_19 ?_
    refine x_mui (wk := cs_X8_finding G a_M a_M_now a_M_kept a_M_aside a_M_errors a_M_meetsFound a_M_deedsFound a_M_ahead a_M_NAMED a_M_code a_M_named a_M_pile a_M_often a_M_trace a_M_widths a_M_sizes a_M_numbers a_M_carried M_images M_at M_open M_use M_isWrong M_coded M_traced M_kind M_number M_told M_errors) (wr := []) (isC := [0, 1]) (isR := []) I ⟨⟨rfl, rfl⟩, rfl, rfl, rfl⟩ [0, 1] (fun u => cs_X8_told G a_M a_M_now a_M_kept a_M_aside a_M_errors a_M_meetsFound a_M_deedsFound a_M_ahead a_M_NAMED a_M_code a_M_named a_M_pile a_M_often a_M_trace a_M_widths a_M_sizes a_M_numbers a_M_carried M_images M_at M_open M_use M_isWrong M_coded M_traced M_kind M_number M_told u) (fun _ => rfl) rfl (run_V (As := [.int (-1000000001 : Int32)]) (rest := []) C hl (wk_X8_finding l G a_M a_M_now a_M_kept a_M_aside a_M_errors a_M_meetsFound a_M_deedsFound a_M_ahead a_M_NAMED a_M_code a_M_named a_M_pile a_M_often a_M_trace a_M_widths a_M_sizes a_M_numbers a_M_carried s.heap.size M_images M_at M_open M_use M_isWrong M_coded M_traced M_kind M_number M_told M_errors (-1000000001 : Int32) _ hw) gm_X8_87 ⟨⟨rfl, rfl⟩, cn_X8_finding, ⟨(Nat.le_of_ble_eq_true rfl), (Nat.le_of_ble_eq_true rfl)⟩⟩ (pb_blind _ _ _ _) (x_recv I.1 0 rfl rfl) (pb_of I [0, 1] rfl rfl) rfl rfl (Nat.le_of_ble_eq_true rfl) ⟨Nat.le_of_ble_eq_true rfl, Nat.le_of_ble_eq_true rfl⟩ dX8_told_21) (fun r4 u Hx lx hw I => ?_)
    obtain ⟨o3, eo3⟩ : ∃ z, z = u := ⟨_, rfl⟩
    subst eo3
    have I : Iv G A s (cs_X8_told G a_M a_M_now a_M_kept a_M_aside a_M_errors a_M_meetsFound a_M_deedsFound a_M_ahead a_M_NAMED a_M_code a_M_named a_M_pile a_M_often a_M_trace a_M_widths a_M_sizes a_M_numbers a_M_carried M_images M_at M_open M_use M_isWrong M_coded M_traced M_kind M_number M_told o3) Hx lx := I
    exact x_ret1 C I o3 rfl hw dX8_told_24
  · have hw := And.right hw c2
    refine x_aload_n C hl 0 dX8_told_9 rfl ?_
    refine x_get C I.1 fl_X8_19 0 rfl rfl dX8_told_10 ?_
    refine x_iload_n C hl 1 dX8_told_13 rfl ?_
    refine x_iald C I.1 1 rfl (And.left hw) dX8_told_14 ?_
    have hw := And.right hw
    refine x_goto C 24 dX8_told_15 (by decide) ?_
    exact x_ret1 C I M_errors rfl hw dX8_told_24
/-! X0_join -/
abbrev rm_X0_join : Room := { frames := 1, cells := 0, slots := 0, locals := 22 }
abbrev cs_X0_join (G : Gt) (a_F : Nat) (a_F_meeting : Nat) (a_F_deed : Nat) (a_F_kind : Nat) (a_F_m : Nat) (a_F_at : Nat) (a_F_free : Nat) (a_F_gloved : Nat) (a_F_deeds : Nat) (a_F_handed : Nat) (a_F_crowd : Nat) (F_size : Int32) (F_step : Int32) (F_loss : Int32) (F_kind : Nat → Int32) (F_m : Nat → Int32) (F_at : Nat → Int32) (F_free : Nat → Int32) (F_gloved : Nat → Int32) (F_deeds : Nat → Int32) : va_W := [(a_F, .inr (0, [.ref a_F_meeting, .ref a_F_deed, .ref a_F_kind, .ref a_F_m, .ref a_F_at, .ref a_F_free, .ref a_F_gloved, .ref a_F_deeds, .ref a_F_handed, .ref a_F_crowd, .int F_size, .int F_step, .int F_loss])), (a_F_kind, .inl (cI G, 8, .inl F_kind)), (a_F_m, .inl (cI G, 8, .inl F_m)), (a_F_at, .inl (cI G, 8, .inl F_at)), (a_F_free, .inl (cI G, 8, .inl F_free)), (a_F_gloved, .inl (cI G, 8, .inl F_gloved)), (a_F_deeds, .inl (cI G, 8, .inl F_deeds))]
abbrev qc_X0_join (G : Gt) (a_F : Nat) (a_F_meeting : Nat) (a_F_deed : Nat) (a_F_kind : Nat) (a_F_m : Nat) (a_F_at : Nat) (a_F_free : Nat) (a_F_gloved : Nat) (a_F_deeds : Nat) (a_F_handed : Nat) (a_F_crowd : Nat) (F_step : Int32) (F_loss : Int32) (A : Nat → Prop) (Q : Int32 → Int32 → (Nat → Int32) → (Nat → Int32) → (Nat → Int32) → (Nat → Int32) → (Nat → Int32) → (Nat → Int32) → Prop) : Array Value → State → Outcome → State → Prop := Qi1 G A (fun r (u : Int32 × (Nat → Int32) × (Nat → Int32) × (Nat → Int32) × (Nat → Int32) × (Nat → Int32) × (Nat → Int32)) => Q r u.1 u.2.1 u.2.2.1 u.2.2.2.1 u.2.2.2.2.1 u.2.2.2.2.2.1 u.2.2.2.2.2.2) (fun u => cs_X0_join G a_F a_F_meeting a_F_deed a_F_kind a_F_m a_F_at a_F_free a_F_gloved a_F_deeds a_F_handed a_F_crowd u.1 F_step F_loss u.2.1 u.2.2.1 u.2.2.2.1 u.2.2.2.2.1 u.2.2.2.2.2.1 u.2.2.2.2.2.2)
def wp_X0_join (x1 : Int32) (x2 : Int32) (F_size : Int32) (F_kind : Nat → Int32) (F_m : Nat → Int32) (F_at : Nat → Int32) (F_free : Nat → Int32) (F_gloved : Nat → Int32) (F_deeds : Nat → Int32) (Q : Int32 → Int32 → (Nat → Int32) → (Nat → Int32) → (Nat → Int32) → (Nat → Int32) → (Nat → Int32) → (Nat → Int32) → Prop) : Prop := (∀ v1 : Int32, v1 = (F_size + (1 : Int32)) → (wp_X0_turnInto F_size x1 F_kind F_m (fun o2 o3 => (vp_in F_size 8 ∧ (vp_in F_size 8 ∧ (vp_in F_size 8 ∧ (vp_in F_size 8 ∧ (Q F_size v1 o2 o3 (upd F_at (F_size).toNatClampNeg x2) (upd F_free (F_size).toNatClampNeg (0 : Int32)) (upd F_gloved (F_size).toNatClampNeg (0 : Int32)) (upd F_deeds (F_size).toNatClampNeg (0 : Int32))))))))))
set_option maxHeartbeats 4000000 in
set_option maxRecDepth 100000 in
theorem wk_X0_join (l : Launch) (G : Gt) (a_F : Nat) (a_F_meeting : Nat) (a_F_deed : Nat) (a_F_kind : Nat) (a_F_m : Nat) (a_F_at : Nat) (a_F_free : Nat) (a_F_gloved : Nat) (a_F_deeds : Nat) (a_F_handed : Nat) (a_F_crowd : Nat) (sz : Nat) (F_size : Int32) (F_step : Int32) (F_loss : Int32) (F_kind : Nat → Int32) (F_m : Nat → Int32) (F_at : Nat → Int32) (F_free : Nat → Int32) (F_gloved : Nat → Int32) (F_deeds : Nat → Int32) (x1 : Int32) (x2 : Int32) (Q : Int32 → Int32 → (Nat → Int32) → (Nat → Int32) → (Nat → Int32) → (Nat → Int32) → (Nat → Int32) → (Nat → Int32) → Prop) (hw : wp_X0_join x1 x2 F_size F_kind F_m F_at F_free F_gloved F_deeds Q) : Met l yX0_join (wc yX0_join cX0_join 4 (some .int)) rm_X0_join (va_Pc [.ref a_F, .int x1, .int x2] (PB G (cs_X0_join G a_F a_F_meeting a_F_deed a_F_kind a_F_m a_F_at a_F_free a_F_gloved a_F_deeds a_F_handed a_F_crowd F_size F_step F_loss F_kind F_m F_at F_free F_gloved F_deeds) sz)) (qc_X0_join G a_F a_F_meeting a_F_deed a_F_kind a_F_m a_F_at a_F_free a_F_gloved a_F_deeds a_F_handed a_F_crowd F_step F_loss (va_A (cs_X0_join G a_F a_F_meeting a_F_deed a_F_kind a_F_m a_F_at a_F_free a_F_gloved a_F_deeds a_F_handed a_F_crowd F_size F_step F_loss F_kind F_m F_at F_free F_gloved F_deeds) sz) Q) 0 0 (va_A (cs_X0_join G a_F a_F_meeting a_F_deed a_F_kind a_F_m a_F_at a_F_free a_F_gloved a_F_deeds a_F_handed a_F_crowd F_size F_step F_loss F_kind F_m F_at F_free F_gloved F_deeds) sz) := by
  refine x_start pn_X0 (Nat.le_of_ble_eq_true rfl) (fun p e s m below meth c ls C hn hl hB => ?_)
  have I := iv_start hB
  generalize va_A (cs_X0_join G a_F a_F_meeting a_F_deed a_F_kind a_F_m a_F_at a_F_free a_F_gloved a_F_deeds a_F_handed a_F_crowd F_size F_step F_loss F_kind F_m F_at F_free F_gloved F_deeds) sz = A at I ⊢
  have C : Cx p s m [.ref a_F, .int x1, .int x2].toArray meth c cX0_join 4 RX0 (some .int) := C
  have hl : lv_has ls 4 [(0, .ref a_F), (1, .int x1), (2, .int x2)] := hl
  refine x_aload_n C hl 0 dX0_join_0 rfl ?_
  refine x_get C I.1 fl_X0_43 0 rfl rfl dX0_join_1 ?_
  refine x_istore_n C hl [(3, .int F_size), (0, .ref a_F), (1, .int x1), (2, .int x2)] dX0_join_4 (Nat.le_of_ble_eq_true rfl) rfl (fun ls hl => ?_)
  refine x_aload_n C hl 1 dX0_join_5 rfl ?_
  refine x_dup C dX0_join_6 rfl ?_
  refine x_get C I.1 fl_X0_43 0 rfl rfl dX0_join_7 ?_
  refine x_iconst C dX0_join_10 ic_1 ?_
  refine x_iadd C dX0_join_11 ?_
  refine lv_topi (fun v1 ev1 => ?_)
  have hw := hw v1 ev1
  refine x_put C I fl_X0_43 tyX0 tyX0_ok nmX0 rfl 0 (cs_X0_join G a_F a_F_meeting a_F_deed a_F_kind a_F_m a_F_at a_F_free a_F_gloved a_F_deeds a_F_handed a_F_crowd v1 F_step F_loss F_kind F_m F_at F_free F_gloved F_deeds) rfl rfl rfl (Nat.le_of_ble_eq_true rfl) rfl dX0_join_12 (fun Hx lx I => ?_)
  refine x_aload_n C hl 1 dX0_join_15 rfl ?_
  refine x_iload_n C hl 0 dX0_join_16 rfl ?_
  refine x_iload_n C hl 2 dX0_join_17 rfl ?_
  refine x_muv (wk := cs_X0_turnInto G a_F a_F_meeting a_F_deed a_F_kind a_F_m a_F_at a_F_free a_F_gloved a_F_deeds a_F_handed a_F_crowd v1 F_step F_loss F_kind F_m) (wr := [(a_F_at, .inl (cI G, 8, .inl F_at)), (a_F_free, .inl (cI G, 8, .inl F_free)), (a_F_gloved, .inl (cI G, 8, .inl F_gloved)), (a_F_deeds, .inl (cI G, 8, .inl F_deeds))]) (isC := [0, 1, 2]) (isR := [3, 4, 5, 6]) I ⟨⟨rfl, rfl⟩, rfl, rfl, rfl⟩ [4, 5, 6, 0, 1, 2, 3] (fun u => cs_X0_join G a_F a_F_meeting a_F_deed a_F_kind a_F_m a_F_at a_F_free a_F_gloved a_F_deeds a_F_handed a_F_crowd v1 F_step F_loss u.1 u.2 F_at F_free F_gloved F_deeds) (fun _ => rfl) rfl (run_V (As := [.int F_size, .int x1]) (rest := []) C hl (wk_X0_turnInto l G a_F a_F_meeting a_F_deed a_F_kind a_F_m a_F_at a_F_free a_F_gloved a_F_deeds a_F_handed a_F_crowd Hx.size v1 F_step F_loss F_kind F_m F_size x1 _ hw) gm_X0_59 ⟨⟨rfl, rfl⟩, cn_X0_turnInto, ⟨(Nat.le_of_ble_eq_true rfl), (Nat.le_of_ble_eq_true rfl)⟩⟩ (pb_blind _ _ _ _) (x_recv I.1 0 rfl rfl) (pb_of I [0, 1, 2] rfl rfl) rfl rfl (Nat.le_of_ble_eq_true rfl) ⟨Nat.le_of_ble_eq_true rfl, Nat.le_of_ble_eq_true rfl⟩ dX0_join_18) (fun u Hx lx hw I => ?_)
  obtain ⟨o2, o3⟩ := u
  have I : Iv G A s (cs_X0_join G a_F a_F_meeting a_F_deed a_F_kind a_F_m a_F_at a_F_free a_F_gloved a_F_deeds a_F_handed a_F_crowd v1 F_step F_loss o2 o3 F_at F_free F_gloved F_deeds) Hx lx := I
  refine x_aload_n C hl 1 dX0_join_21 rfl ?_
  refine x_get C I.1 fl_X0_18 0 rfl rfl dX0_join_22 ?_
  refine x_iload_n C hl 0 dX0_join_25 rfl ?_
  refine x_iload_n C hl 3 dX0_join_26 rfl ?_
  refine x_iast C I 3 (cs_X0_join G a_F a_F_meeting a_F_deed a_F_kind a_F_m a_F_at a_F_free a_F_gloved a_F_deeds a_F_handed a_F_crowd v1 F_step F_loss o2 o3 (upd F_at (F_size).toNatClampNeg x2) F_free F_gloved F_deeds) rfl (And.left hw) rfl dX0_join_27 (fun Hx lx I => ?_)
  have hw := And.right hw
  refine x_aload_n C hl 1 dX0_join_28 rfl ?_
  refine x_get C I.1 fl_X0_21 0 rfl rfl dX0_join_29 ?_
  refine x_iload_n C hl 0 dX0_join_32 rfl ?_
  refine x_iconst C dX0_join_33 ic_0 ?_
  refine x_iast C I 4 (cs_X0_join G a_F a_F_meeting a_F_deed a_F_kind a_F_m a_F_at a_F_free a_F_gloved a_F_deeds a_F_handed a_F_crowd v1 F_step F_loss o2 o3 (upd F_at (F_size).toNatClampNeg x2) (upd F_free (F_size).toNatClampNeg (0 : Int32)) F_gloved F_deeds) rfl (And.left hw) rfl dX0_join_34 (fun Hx lx I => ?_)
  have hw := And.right hw
  refine x_aload_n C hl 1 dX0_join_35 rfl ?_
  refine x_get C I.1 fl_X0_24 0 rfl rfl dX0_join_36 ?_
  refine x_iload_n C hl 0 dX0_join_39 rfl ?_
  refine x_iconst C dX0_join_40 ic_0 ?_
  refine x_iast C I 5 (cs_X0_join G a_F a_F_meeting a_F_deed a_F_kind a_F_m a_F_at a_F_free a_F_gloved a_F_deeds a_F_handed a_F_crowd v1 F_step F_loss o2 o3 (upd F_at (F_size).toNatClampNeg x2) (upd F_free (F_size).toNatClampNeg (0 : Int32)) (upd F_gloved (F_size).toNatClampNeg (0 : Int32)) F_deeds) rfl (And.left hw) rfl dX0_join_41 (fun Hx lx I => ?_)
  have hw := And.right hw
  refine x_aload_n C hl 1 dX0_join_42 rfl ?_
  refine x_get C I.1 fl_X0_27 0 rfl rfl dX0_join_43 ?_
  refine x_iload_n C hl 0 dX0_join_46 rfl ?_
  refine x_iconst C dX0_join_47 ic_0 ?_
  refine x_iast C I 6 (cs_X0_join G a_F a_F_meeting a_F_deed a_F_kind a_F_m a_F_at a_F_free a_F_gloved a_F_deeds a_F_handed a_F_crowd v1 F_step F_loss o2 o3 (upd F_at (F_size).toNatClampNeg x2) (upd F_free (F_size).toNatClampNeg (0 : Int32)) (upd F_gloved (F_size).toNatClampNeg (0 : Int32)) (upd F_deeds (F_size).toNatClampNeg (0 : Int32))) rfl (And.left hw) rfl dX0_join_48 (fun Hx lx I => ?_)
  have hw := And.right hw
  refine x_iload_n C hl 0 dX0_join_49 rfl ?_
  exact x_ret1 C I (v1, o2, o3, (upd F_at (F_size).toNatClampNeg x2), (upd F_free (F_size).toNatClampNeg (0 : Int32)), (upd F_gloved (F_size).toNatClampNeg (0 : Int32)), (upd F_deeds (F_size).toNatClampNeg (0 : Int32))) rfl hw dX0_join_50
/-! X0_keepsOf -/
abbrev rm_X0_keepsOf : Room := { frames := 2, cells := 0, slots := 0, locals := 45 }
abbrev cs_X0_keepsOf (G : Gt) (a_F : Nat) (a_F_meeting : Nat) (a_F_deed : Nat) (a_F_kind : Nat) (a_F_m : Nat) (a_F_at : Nat) (a_F_free : Nat) (a_F_gloved : Nat) (a_F_deeds : Nat) (a_F_handed : Nat) (a_F_crowd : Nat) (F_size : Int32) (F_step : Int32) (F_loss : Int32) (F_kind : Nat → Int32) (F_m : Nat → Int32) : va_W := [(a_F, .inr (0, [.ref a_F_meeting, .ref a_F_deed, .ref a_F_kind, .ref a_F_m, .ref a_F_at, .ref a_F_free, .ref a_F_gloved, .ref a_F_deeds, .ref a_F_handed, .ref a_F_crowd, .int F_size, .int F_step, .int F_loss])), (a_F_kind, .inl (cI G, 8, .inl F_kind)), (a_F_m, .inl (cI G, 8, .inl F_m))]
def lb_X0_keepsOf_26 (x1 : Int32) (F_step : Int32) (F_kind : Nat → Int32) (F_m : Nat → Int32) (Q : Int32 → Prop) (z0 : Int32) : Prop := (vp_in x1 8 ∧ ((¬ (F_kind (x1).toNatClampNeg) = (4 : Int32) → (Q z0)) ∧ ((F_kind (x1).toNatClampNeg) = (4 : Int32) → ((¬ (jrem F_step (7 : Int32)) = (0) → (Q z0)) ∧ ((jrem F_step (7 : Int32)) = (0) → (Q (z0 + (20 : Int32))))))))
set_option maxHeartbeats 4000000 in
set_option maxRecDepth 100000 in
theorem lk_X0_keepsOf_26 {p : Program} {l : Launch} {e : Env} {s : State} {m : MethodId} {args : Array Value} {below : List Frame} {meth : Method} {c : Code} (G : Gt) (a_F : Nat) (a_F_meeting : Nat) (a_F_deed : Nat) (a_F_kind : Nat) (a_F_m : Nat) (a_F_at : Nat) (a_F_free : Nat) (a_F_gloved : Nat) (a_F_deeds : Nat) (a_F_handed : Nat) (a_F_crowd : Nat) (C : Cx p s m args meth c cX0_keepsOf 3 RX0 (some .int)) (x1 : Int32) (F_step : Int32) (F_kind : Nat → Int32) (F_m : Nat → Int32) (F_size : Int32) (F_loss : Int32) (Q : Int32 → Prop) : ∀ (z0 : Int32) (ls : Array Slot), lb_X0_keepsOf_26 x1 F_step F_kind F_m Q z0 → Rd G (fun _ => False) s (cs_X0_keepsOf G a_F a_F_meeting a_F_deed a_F_kind a_F_m a_F_at a_F_free a_F_gloved a_F_deeds a_F_handed a_F_crowd F_size F_step F_loss F_kind F_m) s.heap [] → lv_has ls 3 [(0, .ref a_F), (1, .int x1)] → W p l e rm_X0_keepsOf s m args below meth c s.heap [] 0 0 (MQ below (vp_Si Q) args s 0 0 (fun _ => False)) (F0 m 26 ls [.int z0]) := by
  intro z0  ls hw I hl
  refine x_istore_n C hl [(2, .int z0), (0, .ref a_F), (1, .int x1)] dX0_keepsOf_26 (Nat.le_of_ble_eq_true rfl) rfl (fun ls hl => ?_)
  refine x_aload_n C hl 1 dX0_keepsOf_27 rfl ?_
  refine x_get C I fl_X0_9 0 rfl rfl dX0_keepsOf_28 ?_
  refine x_iload_n C hl 2 dX0_keepsOf_31 rfl ?_
  refine x_iald C I 1 rfl (And.left hw) dX0_keepsOf_32 ?_
  have hw := And.right hw
  refine x_iconst C dX0_keepsOf_33 ic_4 ?_
  refine x_icmp_ne C 54 dX0_keepsOf_34 (by decide) (fun c3 => ?_) (fun c3 => ?_)
  · have hw := And.left hw c3
    refine x_iload_n C hl 0 dX0_keepsOf_54 rfl ?_
    exact x_ret0 C hw dX0_keepsOf_55
  · have hw := And.right hw c3
    refine x_aload_n C hl 1 dX0_keepsOf_37 rfl ?_
    refine x_get C I fl_X0_47 0 rfl rfl dX0_keepsOf_38 ?_
    refine x_bipush C dX0_keepsOf_41 bp_7 ?_
    refine x_irem C nz_7 dX0_keepsOf_43 ?_
    refine x_if_ne C 54 dX0_keepsOf_44 (by decide) (fun c4 => ?_) (fun c4 => ?_)
    · have hw := And.left hw c4
      refine x_iload_n C hl 0 dX0_keepsOf_54 rfl ?_
      exact x_ret0 C hw dX0_keepsOf_55
    · have hw := And.right hw c4
      refine x_iload_n C hl 0 dX0_keepsOf_47 rfl ?_
      refine x_bipush C dX0_keepsOf_48 bp_20 ?_
      refine x_iadd C dX0_keepsOf_50 ?_
      refine x_goto C 55 dX0_keepsOf_51 (by decide) ?_
      exact x_ret0 C hw dX0_keepsOf_55
def wp_X0_keepsOf (x1 : Int32) (F_step : Int32) (F_kind : Nat → Int32) (F_m : Nat → Int32) (Q : Int32 → Prop) : Prop := (vp_in x1 8 ∧ (wp_X7_isUnder (F_kind (x1).toNatClampNeg) (1 : Int32) (fun r1 => ((r1 = (0) → (lb_X0_keepsOf_26 x1 F_step F_kind F_m Q (0 : Int32))) ∧ (¬ r1 = (0) → (vp_in x1 8 ∧ (lb_X0_keepsOf_26 x1 F_step F_kind F_m Q ((10 : Int32) + (F_m (x1).toNatClampNeg)))))))))
set_option maxHeartbeats 4000000 in
set_option maxRecDepth 100000 in
theorem wk_X0_keepsOf (l : Launch) (G : Gt) (a_F : Nat) (a_F_meeting : Nat) (a_F_deed : Nat) (a_F_kind : Nat) (a_F_m : Nat) (a_F_at : Nat) (a_F_free : Nat) (a_F_gloved : Nat) (a_F_deeds : Nat) (a_F_handed : Nat) (a_F_crowd : Nat) (F_size : Int32) (F_step : Int32) (F_loss : Int32) (F_kind : Nat → Int32) (F_m : Nat → Int32) (x1 : Int32) (Q : Int32 → Prop) (hw : wp_X0_keepsOf x1 F_step F_kind F_m Q) : Met l yX0_keepsOf (wc yX0_keepsOf cX0_keepsOf 3 (some .int)) rm_X0_keepsOf (va_Pc [.ref a_F, .int x1] (PR G (cs_X0_keepsOf G a_F a_F_meeting a_F_deed a_F_kind a_F_m a_F_at a_F_free a_F_gloved a_F_deeds a_F_handed a_F_crowd F_size F_step F_loss F_kind F_m))) (vp_Si Q) 0 0 (fun _ => False) := by
  refine x_start pn_X0 (Nat.le_of_ble_eq_true rfl) (fun p e s m below meth c ls C hn hl hB => ?_)
  have I := rd_start hB
  have C : Cx p s m [.ref a_F, .int x1].toArray meth c cX0_keepsOf 3 RX0 (some .int) := C
  have hl : lv_has ls 3 [(0, .ref a_F), (1, .int x1)] := hl
  refine x_aload_n C hl 0 dX0_keepsOf_0 rfl ?_
  refine x_get C I fl_X0_9 0 rfl rfl dX0_keepsOf_1 ?_
  refine x_iload_n C hl 1 dX0_keepsOf_4 rfl ?_
  refine x_iald C I 1 rfl (And.left hw) dX0_keepsOf_5 ?_
  have hw := And.right hw
  refine x_iconst C dX0_keepsOf_6 ic_1 ?_
  refine x_ro (run_SN (As := [.int (F_kind (x1).toNatClampNeg), .int (1 : Int32)]) (rest := []) C hl (wk_X7_isUnder l G (F_kind (x1).toNatClampNeg) (1 : Int32) _ hw) gc_X7_isUnder I.2.2.2.2.1 wd_75 wd_362 ⟨⟨rfl, rfl⟩, cn_X7_isUnder, ⟨(Nat.le_of_ble_eq_true rfl), (Nat.le_of_ble_eq_true rfl)⟩⟩ (pr_blind _ _ _) (pr_of I [] rfl) rfl rfl (Nat.le_of_ble_eq_true rfl) ⟨Nat.le_of_ble_eq_true rfl, Nat.le_of_ble_eq_true rfl⟩ dX0_keepsOf_7) (fun r1 hw => ?_)
  refine x_if_eq C 25 dX0_keepsOf_10 (by decide) (fun c2 => ?_) (fun c2 => ?_)
  · have hw := And.left hw c2
    refine x_iconst C dX0_keepsOf_25 ic_0 ?_
    exact lk_X0_keepsOf_26 G a_F a_F_meeting a_F_deed a_F_kind a_F_m a_F_at a_F_free a_F_gloved a_F_deeds a_F_handed a_F_crowd C x1 F_step F_kind F_m F_size F_loss Q (0 : Int32) ls hw I (lv_sub hl [0, 1] rfl)
  · have hw := And.right hw c2
    refine x_bipush C dX0_keepsOf_13 bp_10 ?_
    refine x_aload_n C hl 0 dX0_keepsOf_15 rfl ?_
    refine x_get C I fl_X0_15 0 rfl rfl dX0_keepsOf_16 ?_
    refine x_iload_n C hl 1 dX0_keepsOf_19 rfl ?_
    refine x_iald C I 2 rfl (And.left hw) dX0_keepsOf_20 ?_
    have hw := And.right hw
    refine x_iadd C dX0_keepsOf_21 ?_
    refine x_goto C 26 dX0_keepsOf_22 (by decide) ?_
    exact lk_X0_keepsOf_26 G a_F a_F_meeting a_F_deed a_F_kind a_F_m a_F_at a_F_free a_F_gloved a_F_deeds a_F_handed a_F_crowd C x1 F_step F_kind F_m F_size F_loss Q ((10 : Int32) + (F_m (x1).toNatClampNeg)) ls hw I (lv_sub hl [0, 1] rfl)
/-! X0_handsOf -/
abbrev rm_X0_handsOf : Room := { frames := 2, cells := 0, slots := 0, locals := 43 }
abbrev cs_X0_handsOf (G : Gt) (a_F : Nat) (a_F_meeting : Nat) (a_F_deed : Nat) (a_F_kind : Nat) (a_F_m : Nat) (a_F_at : Nat) (a_F_free : Nat) (a_F_gloved : Nat) (a_F_deeds : Nat) (a_F_handed : Nat) (a_F_crowd : Nat) (F_size : Int32) (F_step : Int32) (F_loss : Int32) (F_free : Nat → Int32) (F_kind : Nat → Int32) (F_m : Nat → Int32) : va_W := [(a_F, .inr (0, [.ref a_F_meeting, .ref a_F_deed, .ref a_F_kind, .ref a_F_m, .ref a_F_at, .ref a_F_free, .ref a_F_gloved, .ref a_F_deeds, .ref a_F_handed, .ref a_F_crowd, .int F_size, .int F_step, .int F_loss])), (a_F_free, .inl (cI G, 8, .inl F_free)), (a_F_kind, .inl (cI G, 8, .inl F_kind)), (a_F_m, .inl (cI G, 8, .inl F_m))]
def wp_X0_handsOf (x1 : Int32) (F_loss : Int32) (F_free : Nat → Int32) (F_kind : Nat → Int32) (F_m : Nat → Int32) (Q : Int32 → Prop) : Prop := (vp_in x1 8 ∧ (∀ v1 : Int32, v1 = ((F_free (x1).toNatClampNeg) - F_loss) → (vp_in x1 8 ∧ (((F_kind (x1).toNatClampNeg) = (2 : Int32) → (wp_X7_held (v1 / (2 : Int32)) (0 : Int32) (99 : Int32) (fun r3 => (Q r3)))) ∧ ((F_kind (x1).toNatClampNeg) = (3 : Int32) → (vp_in x1 8 ∧ (vp_in x1 8 ∧ (wp_X7_held (jmin (v1 + (F_m (x1).toNatClampNeg)) (F_free (x1).toNatClampNeg)) (0 : Int32) (99 : Int32) (fun r5 => (Q r5)))))) ∧ ((F_kind (x1).toNatClampNeg) = (4 : Int32) → (wp_X7_held v1 (0 : Int32) (99 : Int32) (fun r7 => (Q r7)))) ∧ ((F_kind (x1).toNatClampNeg) = (5 : Int32) → (Q (0 : Int32))) ∧ ((F_kind (x1).toNatClampNeg) = (6 : Int32) → (vp_in x1 8 ∧ (vp_in x1 8 ∧ (wp_X7_held ((jmin (v1 + (F_m (x1).toNatClampNeg)) (F_free (x1).toNatClampNeg)) + (1 : Int32)) (0 : Int32) (99 : Int32) (fun r10 => (Q r10)))))) ∧ (¬ (F_kind (x1).toNatClampNeg) = (2 : Int32) → ¬ (F_kind (x1).toNatClampNeg) = (3 : Int32) → ¬ (F_kind (x1).toNatClampNeg) = (4 : Int32) → ¬ (F_kind (x1).toNatClampNeg) = (5 : Int32) → ¬ (F_kind (x1).toNatClampNeg) = (6 : Int32) → (wp_X7_held v1 (0 : Int32) (99 : Int32) (fun r11 => (Q r11))))))))
set_option maxHeartbeats 4000000 in
set_option maxRecDepth 100000 in
theorem wk_X0_handsOf (l : Launch) (G : Gt) (a_F : Nat) (a_F_meeting : Nat) (a_F_deed : Nat) (a_F_kind : Nat) (a_F_m : Nat) (a_F_at : Nat) (a_F_free : Nat) (a_F_gloved : Nat) (a_F_deeds : Nat) (a_F_handed : Nat) (a_F_crowd : Nat) (F_size : Int32) (F_step : Int32) (F_loss : Int32) (F_free : Nat → Int32) (F_kind : Nat → Int32) (F_m : Nat → Int32) (x1 : Int32) (Q : Int32 → Prop) (hw : wp_X0_handsOf x1 F_loss F_free F_kind F_m Q) : Met l yX0_handsOf (wc yX0_handsOf cX0_handsOf 3 (some .int)) rm_X0_handsOf (va_Pc [.ref a_F, .int x1] (PR G (cs_X0_handsOf G a_F a_F_meeting a_F_deed a_F_kind a_F_m a_F_at a_F_free a_F_gloved a_F_deeds a_F_handed a_F_crowd F_size F_step F_loss F_free F_kind F_m))) (vp_Si Q) 0 0 (fun _ => False) := by
  refine x_start pn_X0 (Nat.le_of_ble_eq_true rfl) (fun p e s m below meth c ls C hn hl hB => ?_)
  have I := rd_start hB
  have C : Cx p s m [.ref a_F, .int x1].toArray meth c cX0_handsOf 3 RX0 (some .int) := C
  have hl : lv_has ls 3 [(0, .ref a_F), (1, .int x1)] := hl
  refine x_aload_n C hl 0 dX0_handsOf_0 rfl ?_
  refine x_get C I fl_X0_21 0 rfl rfl dX0_handsOf_1 ?_
  refine x_iload_n C hl 1 dX0_handsOf_4 rfl ?_
  refine x_iald C I 1 rfl (And.left hw) dX0_handsOf_5 ?_
  have hw := And.right hw
  refine x_aload_n C hl 0 dX0_handsOf_6 rfl ?_
  refine x_get C I fl_X0_50 0 rfl rfl dX0_handsOf_7 ?_
  refine x_isub C dX0_handsOf_10 ?_
  refine lv_topi (fun v1 ev1 => ?_)
  have hw := hw v1 ev1
  refine x_istore_n C hl [(2, .int v1), (0, .ref a_F), (1, .int x1)] dX0_handsOf_11 (Nat.le_of_ble_eq_true rfl) rfl (fun ls hl => ?_)
  refine x_aload_n C hl 1 dX0_handsOf_12 rfl ?_
  refine x_get C I fl_X0_9 0 rfl rfl dX0_handsOf_13 ?_
  refine x_iload_n C hl 2 dX0_handsOf_16 rfl ?_
  refine x_iald C I 2 rfl (And.left hw) dX0_handsOf_17 ?_
  have hw := And.right hw
  by_cases c2 : (F_kind (x1).toNatClampNeg) = (2 : Int32)
  · have hw := (And.left (hw)) c2
    refine x_table C (2 : Int32) 52 dX0_handsOf_18 c2 (by decide) (by decide) rfl (by decide) ?_
    refine x_iload_n C hl 0 dX0_handsOf_52 rfl ?_
    refine x_iconst C dX0_handsOf_53 ic_2 ?_
    refine x_idiv C nz_2 dX0_handsOf_54 ?_
    refine x_iconst C dX0_handsOf_55 ic_0 ?_
    refine x_bipush C dX0_handsOf_56 bp_99 ?_
    refine x_ro (run_SN (As := [.int (v1 / (2 : Int32)), .int (0 : Int32), .int (99 : Int32)]) (rest := []) C hl (wk_X7_held l G (v1 / (2 : Int32)) (0 : Int32) (99 : Int32) _ hw) gc_X7_held I.2.2.2.2.2.1 wd_75 wd_371 ⟨⟨rfl, rfl⟩, cn_X7_held, ⟨(Nat.le_of_ble_eq_true rfl), (Nat.le_of_ble_eq_true rfl)⟩⟩ (pr_blind _ _ _) (pr_of I [] rfl) rfl rfl (Nat.le_of_ble_eq_true rfl) ⟨Nat.le_of_ble_eq_true rfl, Nat.le_of_ble_eq_true rfl⟩ dX0_handsOf_58) (fun r3 hw => ?_)
    exact x_ret0 C hw dX0_handsOf_61
  by_cases c4 : (F_kind (x1).toNatClampNeg) = (3 : Int32)
  · have hw := (And.left (And.right (hw))) c4
    refine x_table C (3 : Int32) 64 dX0_handsOf_18 c4 (by decide) (by decide) rfl (by decide) ?_
    refine x_iload_n C hl 0 dX0_handsOf_64 rfl ?_
    refine x_aload_n C hl 1 dX0_handsOf_65 rfl ?_
    refine x_get C I fl_X0_15 0 rfl rfl dX0_handsOf_66 ?_
    refine x_iload_n C hl 2 dX0_handsOf_69 rfl ?_
    refine x_iald C I 3 rfl (And.left hw) dX0_handsOf_70 ?_
    have hw := And.right hw
    refine x_iadd C dX0_handsOf_71 ?_
    refine x_aload_n C hl 1 dX0_handsOf_72 rfl ?_
    refine x_get C I fl_X0_21 0 rfl rfl dX0_handsOf_73 ?_
    refine x_iload_n C hl 2 dX0_handsOf_76 rfl ?_
    refine x_iald C I 1 rfl (And.left hw) dX0_handsOf_77 ?_
    have hw := And.right hw
    refine x_mmin C hl wd_377 (Nat.le_of_ble_eq_true rfl) (Nat.le_of_ble_eq_true rfl) (Nat.le_of_ble_eq_true rfl) (Nat.le_of_ble_eq_true rfl) wd_374 wd_80 wd_375 dX0_handsOf_78 ?_
    refine x_iconst C dX0_handsOf_81 ic_0 ?_
    refine x_bipush C dX0_handsOf_82 bp_99 ?_
    refine x_ro (run_SN (As := [.int (jmin (v1 + (F_m (x1).toNatClampNeg)) (F_free (x1).toNatClampNeg)), .int (0 : Int32), .int (99 : Int32)]) (rest := []) C hl (wk_X7_held l G (jmin (v1 + (F_m (x1).toNatClampNeg)) (F_free (x1).toNatClampNeg)) (0 : Int32) (99 : Int32) _ hw) gc_X7_held I.2.2.2.2.2.1 wd_75 wd_371 ⟨⟨rfl, rfl⟩, cn_X7_held, ⟨(Nat.le_of_ble_eq_true rfl), (Nat.le_of_ble_eq_true rfl)⟩⟩ (pr_blind _ _ _) (pr_of I [] rfl) rfl rfl (Nat.le_of_ble_eq_true rfl) ⟨Nat.le_of_ble_eq_true rfl, Nat.le_of_ble_eq_true rfl⟩ dX0_handsOf_84) (fun r5 hw => ?_)
    exact x_ret0 C hw dX0_handsOf_87
  by_cases c6 : (F_kind (x1).toNatClampNeg) = (4 : Int32)
  · have hw := (And.left (And.right (And.right (hw)))) c6
    refine x_table C (4 : Int32) 114 dX0_handsOf_18 c6 (by decide) (by decide) rfl (by decide) ?_
    refine x_iload_n C hl 0 dX0_handsOf_114 rfl ?_
    refine x_iconst C dX0_handsOf_115 ic_0 ?_
    refine x_bipush C dX0_handsOf_116 bp_99 ?_
    refine x_ro (run_SN (As := [.int v1, .int (0 : Int32), .int (99 : Int32)]) (rest := []) C hl (wk_X7_held l G v1 (0 : Int32) (99 : Int32) _ hw) gc_X7_held I.2.2.2.2.2.1 wd_75 wd_371 ⟨⟨rfl, rfl⟩, cn_X7_held, ⟨(Nat.le_of_ble_eq_true rfl), (Nat.le_of_ble_eq_true rfl)⟩⟩ (pr_blind _ _ _) (pr_of I [] rfl) rfl rfl (Nat.le_of_ble_eq_true rfl) ⟨Nat.le_of_ble_eq_true rfl, Nat.le_of_ble_eq_true rfl⟩ dX0_handsOf_118) (fun r7 hw => ?_)
    exact x_ret0 C hw dX0_handsOf_121
  by_cases c8 : (F_kind (x1).toNatClampNeg) = (5 : Int32)
  · have hw := (And.left (And.right (And.right (And.right (hw))))) c8
    refine x_table C (5 : Int32) 62 dX0_handsOf_18 c8 (by decide) (by decide) rfl (by decide) ?_
    refine x_iconst C dX0_handsOf_62 ic_0 ?_
    exact x_ret0 C hw dX0_handsOf_63
  by_cases c9 : (F_kind (x1).toNatClampNeg) = (6 : Int32)
  · have hw := (And.left (And.right (And.right (And.right (And.right (hw)))))) c9
    refine x_table C (6 : Int32) 88 dX0_handsOf_18 c9 (by decide) (by decide) rfl (by decide) ?_
    refine x_iload_n C hl 0 dX0_handsOf_88 rfl ?_
    refine x_aload_n C hl 1 dX0_handsOf_89 rfl ?_
    refine x_get C I fl_X0_15 0 rfl rfl dX0_handsOf_90 ?_
    refine x_iload_n C hl 2 dX0_handsOf_93 rfl ?_
    refine x_iald C I 3 rfl (And.left hw) dX0_handsOf_94 ?_
    have hw := And.right hw
    refine x_iadd C dX0_handsOf_95 ?_
    refine x_aload_n C hl 1 dX0_handsOf_96 rfl ?_
    refine x_get C I fl_X0_21 0 rfl rfl dX0_handsOf_97 ?_
    refine x_iload_n C hl 2 dX0_handsOf_100 rfl ?_
    refine x_iald C I 1 rfl (And.left hw) dX0_handsOf_101 ?_
    have hw := And.right hw
    refine x_mmin C hl wd_377 (Nat.le_of_ble_eq_true rfl) (Nat.le_of_ble_eq_true rfl) (Nat.le_of_ble_eq_true rfl) (Nat.le_of_ble_eq_true rfl) wd_374 wd_80 wd_375 dX0_handsOf_102 ?_
    refine x_iconst C dX0_handsOf_105 ic_1 ?_
    refine x_iadd C dX0_handsOf_106 ?_
    refine x_iconst C dX0_handsOf_107 ic_0 ?_
    refine x_bipush C dX0_handsOf_108 bp_99 ?_
    refine x_ro (run_SN (As := [.int ((jmin (v1 + (F_m (x1).toNatClampNeg)) (F_free (x1).toNatClampNeg)) + (1 : Int32)), .int (0 : Int32), .int (99 : Int32)]) (rest := []) C hl (wk_X7_held l G ((jmin (v1 + (F_m (x1).toNatClampNeg)) (F_free (x1).toNatClampNeg)) + (1 : Int32)) (0 : Int32) (99 : Int32) _ hw) gc_X7_held I.2.2.2.2.2.1 wd_75 wd_371 ⟨⟨rfl, rfl⟩, cn_X7_held, ⟨(Nat.le_of_ble_eq_true rfl), (Nat.le_of_ble_eq_true rfl)⟩⟩ (pr_blind _ _ _) (pr_of I [] rfl) rfl rfl (Nat.le_of_ble_eq_true rfl) ⟨Nat.le_of_ble_eq_true rfl, Nat.le_of_ble_eq_true rfl⟩ dX0_handsOf_110) (fun r10 hw => ?_)
    exact x_ret0 C hw dX0_handsOf_113
  have hw := (And.right (And.right (And.right (And.right (And.right (hw)))))) c2 c4 c6 c8 c9
  refine x_tableO C 114 dX0_handsOf_18 (tb_out (lo := 2) (n := 5) ⟨c2, c4, c6, c8, c9, trivial⟩) (by decide) ?_
  refine x_iload_n C hl 0 dX0_handsOf_114 rfl ?_
  refine x_iconst C dX0_handsOf_115 ic_0 ?_
  refine x_bipush C dX0_handsOf_116 bp_99 ?_
  refine x_ro (run_SN (As := [.int v1, .int (0 : Int32), .int (99 : Int32)]) (rest := []) C hl (wk_X7_held l G v1 (0 : Int32) (99 : Int32) _ hw) gc_X7_held I.2.2.2.2.2.1 wd_75 wd_371 ⟨⟨rfl, rfl⟩, cn_X7_held, ⟨(Nat.le_of_ble_eq_true rfl), (Nat.le_of_ble_eq_true rfl)⟩⟩ (pr_blind _ _ _) (pr_of I [] rfl) rfl rfl (Nat.le_of_ble_eq_true rfl) ⟨Nat.le_of_ble_eq_true rfl, Nat.le_of_ble_eq_true rfl⟩ dX0_handsOf_118) (fun r11 hw => ?_)
  exact x_ret0 C hw dX0_handsOf_121
/-! X0_haveOwn -/
abbrev rm_X0_haveOwn : Room := { frames := 3, cells := 0, slots := 0, locals := 67 }
abbrev cs_X0_haveOwn (G : Gt) (a_F : Nat) (a_F_meeting : Nat) (a_F_deed : Nat) (a_F_kind : Nat) (a_F_m : Nat) (a_F_at : Nat) (a_F_free : Nat) (a_F_gloved : Nat) (a_F_deeds : Nat) (a_F_handed : Nat) (a_F_crowd : Nat) (F_size : Int32) (F_step : Int32) (F_loss : Int32) (F_free : Nat → Int32) (F_kind : Nat → Int32) (F_m : Nat → Int32) : va_W := [(a_F, .inr (0, [.ref a_F_meeting, .ref a_F_deed, .ref a_F_kind, .ref a_F_m, .ref a_F_at, .ref a_F_free, .ref a_F_gloved, .ref a_F_deeds, .ref a_F_handed, .ref a_F_crowd, .int F_size, .int F_step, .int F_loss])), (a_F_free, .inl (cI G, 8, .inl F_free)), (a_F_kind, .inl (cI G, 8, .inl F_kind)), (a_F_m, .inl (cI G, 8, .inl F_m))]
abbrev qc_X0_haveOwn (G : Gt) (a_F : Nat) (a_F_meeting : Nat) (a_F_deed : Nat) (a_F_kind : Nat) (a_F_m : Nat) (a_F_at : Nat) (a_F_free : Nat) (a_F_gloved : Nat) (a_F_deeds : Nat) (a_F_handed : Nat) (a_F_crowd : Nat) (F_size : Int32) (F_step : Int32) (F_loss : Int32) (F_kind : Nat → Int32) (F_m : Nat → Int32) (A : Nat → Prop) (Q : (Nat → Int32) → Prop) : Array Value → State → Outcome → State → Prop := Qv1 G A (fun (u : (Nat → Int32)) => Q u) (fun u => cs_X0_haveOwn G a_F a_F_meeting a_F_deed a_F_kind a_F_m a_F_at a_F_free a_F_gloved a_F_deeds a_F_handed a_F_crowd F_size F_step F_loss u F_kind F_m)
def lb_X0_haveOwn_2 (F_size : Int32) (F_step : Int32) (F_kind : Nat → Int32) (F_m : Nat → Int32) (Q : (Nat → Int32) → Prop) : Nat → Int32 → (Nat → Int32) → Prop
  | 0 => fun _ _ => False
  | k + 1 => fun (y1 : Int32) (w_F_free : Nat → Int32) => ((F_size ≤ y1 → (Q w_F_free)) ∧ (¬ F_size ≤ y1 → (vp_in y1 8 ∧ (wp_X0_keepsOf y1 F_step F_kind F_m (fun r2 => (∀ v3 : Int32, v3 = (jmax (w_F_free (y1).toNatClampNeg) r2) → (vp_in y1 8 ∧ (lb_X0_haveOwn_2 F_size F_step F_kind F_m Q k (y1 + (1 : Int32)) (upd w_F_free (y1).toNatClampNeg v3)))))))))
set_option maxHeartbeats 4000000 in
set_option maxRecDepth 100000 in
theorem lk_X0_haveOwn_2 {p : Program} {l : Launch} {e : Env} {s : State} {m : MethodId} {args : Array Value} {below : List Frame} {meth : Method} {c : Code} {A : Nat → Prop} (G : Gt) (a_F : Nat) (a_F_meeting : Nat) (a_F_deed : Nat) (a_F_kind : Nat) (a_F_m : Nat) (a_F_at : Nat) (a_F_free : Nat) (a_F_gloved : Nat) (a_F_deeds : Nat) (a_F_handed : Nat) (a_F_crowd : Nat) (C : Cx p s m args meth c cX0_haveOwn 2 RX0 none) (F_size : Int32) (F_step : Int32) (F_kind : Nat → Int32) (F_m : Nat → Int32) (F_loss : Int32) (Q : (Nat → Int32) → Prop) : ∀ (n : Nat) (y1 : Int32) (w_F_free : Nat → Int32) (Hx : Heap) (lx : List Loc) (ls : Array Slot), lb_X0_haveOwn_2 F_size F_step F_kind F_m Q n y1 w_F_free → Iv G A s (cs_X0_haveOwn G a_F a_F_meeting a_F_deed a_F_kind a_F_m a_F_at a_F_free a_F_gloved a_F_deeds a_F_handed a_F_crowd F_size F_step F_loss w_F_free F_kind F_m) Hx lx → lv_has ls 2 [(0, .ref a_F), (1, .int y1)] → W p l e rm_X0_haveOwn s m args below meth c Hx lx 0 0 (MQ below (qc_X0_haveOwn G a_F a_F_meeting a_F_deed a_F_kind a_F_m a_F_at a_F_free a_F_gloved a_F_deeds a_F_handed a_F_crowd F_size F_step F_loss F_kind F_m A Q) args s 0 0 A) (F0 m 2 ls []) := by
  intro n
  induction n with
  | zero => intro y1 w_F_free Hx lx  ls hw I hl; exact False.elim hw
  | succ k ih =>
    intro y1 w_F_free Hx lx  ls hw I hl
    refine x_iload_n C hl 1 dX0_haveOwn_2 rfl ?_
    refine x_aload_n C hl 0 dX0_haveOwn_3 rfl ?_
    refine x_get C I.1 fl_X0_43 0 rfl rfl dX0_haveOwn_4 ?_
    refine x_icmp_ge C 36 dX0_haveOwn_7 (by decide) (fun c1 => ?_) (fun c1 => ?_)
    · have hw := And.left hw c1
      exact x_retv C I w_F_free rfl hw dX0_haveOwn_36
    · have hw := And.right hw c1
      refine x_aload_n C hl 0 dX0_haveOwn_10 rfl ?_
      refine x_get C I.1 fl_X0_21 0 rfl rfl dX0_haveOwn_11 ?_
      refine x_iload_n C hl 1 dX0_haveOwn_14 rfl ?_
      refine x_aload_n C hl 0 dX0_haveOwn_15 rfl ?_
      refine x_get C I.1 fl_X0_21 0 rfl rfl dX0_haveOwn_16 ?_
      refine x_iload_n C hl 1 dX0_haveOwn_19 rfl ?_
      refine x_iald C I.1 1 rfl (And.left hw) dX0_haveOwn_20 ?_
      have hw := And.right hw
      refine x_aload_n C hl 0 dX0_haveOwn_21 rfl ?_
      refine x_iload_n C hl 1 dX0_haveOwn_22 rfl ?_
      refine x_ro (run_V (As := [.int y1]) (rest := [.int (w_F_free (y1).toNatClampNeg), .int y1, .ref a_F_free]) C hl (wk_X0_keepsOf l G a_F a_F_meeting a_F_deed a_F_kind a_F_m a_F_at a_F_free a_F_gloved a_F_deeds a_F_handed a_F_crowd F_size F_step F_loss F_kind F_m y1 _ hw) gm_X0_116 ⟨⟨rfl, rfl⟩, cn_X0_keepsOf, ⟨(Nat.le_of_ble_eq_true rfl), (Nat.le_of_ble_eq_true rfl)⟩⟩ (pr_blind _ _ _) (x_recv I.1 0 rfl rfl) (pr_of I.1 [0, 2, 3] rfl) rfl rfl (Nat.le_of_ble_eq_true rfl) ⟨Nat.le_of_ble_eq_true rfl, Nat.le_of_ble_eq_true rfl⟩ dX0_haveOwn_23) (fun r2 hw => ?_)
      refine x_mmax C hl wd_575 (Nat.le_of_ble_eq_true rfl) (Nat.le_of_ble_eq_true rfl) (Nat.le_of_ble_eq_true rfl) (Nat.le_of_ble_eq_true rfl) wd_189 wd_80 wd_190 dX0_haveOwn_26 ?_
      refine lv_topi (fun v3 ev3 => ?_)
      have hw := hw v3 ev3
      refine x_iast C I 1 (cs_X0_haveOwn G a_F a_F_meeting a_F_deed a_F_kind a_F_m a_F_at a_F_free a_F_gloved a_F_deeds a_F_handed a_F_crowd F_size F_step F_loss (upd w_F_free (y1).toNatClampNeg v3) F_kind F_m) rfl (And.left hw) rfl dX0_haveOwn_29 (fun Hx lx I => ?_)
      have hw := And.right hw
      refine x_iinc C hl 1 [(1, .int (y1 + (1 : Int32))), (0, .ref a_F)] (y1 + (1 : Int32)) dX0_haveOwn_30 rfl (congrArg _ ic_1) (Nat.le_of_ble_eq_true rfl) rfl (fun ls hl => ?_)
      refine x_goto C 2 dX0_haveOwn_33 (by decide) ?_
      exact ih (y1 + (1 : Int32)) (upd w_F_free (y1).toNatClampNeg v3) Hx lx ls hw I (lv_sub hl [1, 0] rfl)
def wp_X0_haveOwn (F_size : Int32) (F_step : Int32) (F_free : Nat → Int32) (F_kind : Nat → Int32) (F_m : Nat → Int32) (Q : (Nat → Int32) → Prop) : Prop := (∃ n, lb_X0_haveOwn_2 F_size F_step F_kind F_m Q n (0 : Int32) F_free)
set_option maxHeartbeats 4000000 in
set_option maxRecDepth 100000 in
theorem wk_X0_haveOwn (l : Launch) (G : Gt) (a_F : Nat) (a_F_meeting : Nat) (a_F_deed : Nat) (a_F_kind : Nat) (a_F_m : Nat) (a_F_at : Nat) (a_F_free : Nat) (a_F_gloved : Nat) (a_F_deeds : Nat) (a_F_handed : Nat) (a_F_crowd : Nat) (sz : Nat) (F_size : Int32) (F_step : Int32) (F_loss : Int32) (F_free : Nat → Int32) (F_kind : Nat → Int32) (F_m : Nat → Int32) (Q : (Nat → Int32) → Prop) (hw : wp_X0_haveOwn F_size F_step F_free F_kind F_m Q) : Met l yX0_haveOwn (wc yX0_haveOwn cX0_haveOwn 2 none) rm_X0_haveOwn (va_Pc [.ref a_F] (PB G (cs_X0_haveOwn G a_F a_F_meeting a_F_deed a_F_kind a_F_m a_F_at a_F_free a_F_gloved a_F_deeds a_F_handed a_F_crowd F_size F_step F_loss F_free F_kind F_m) sz)) (qc_X0_haveOwn G a_F a_F_meeting a_F_deed a_F_kind a_F_m a_F_at a_F_free a_F_gloved a_F_deeds a_F_handed a_F_crowd F_size F_step F_loss F_kind F_m (va_A (cs_X0_haveOwn G a_F a_F_meeting a_F_deed a_F_kind a_F_m a_F_at a_F_free a_F_gloved a_F_deeds a_F_handed a_F_crowd F_size F_step F_loss F_free F_kind F_m) sz) Q) 0 0 (va_A (cs_X0_haveOwn G a_F a_F_meeting a_F_deed a_F_kind a_F_m a_F_at a_F_free a_F_gloved a_F_deeds a_F_handed a_F_crowd F_size F_step F_loss F_free F_kind F_m) sz) := by
  refine x_start pn_X0 (Nat.le_of_ble_eq_true rfl) (fun p e s m below meth c ls C hn hl hB => ?_)
  have I := iv_start hB
  generalize va_A (cs_X0_haveOwn G a_F a_F_meeting a_F_deed a_F_kind a_F_m a_F_at a_F_free a_F_gloved a_F_deeds a_F_handed a_F_crowd F_size F_step F_loss F_free F_kind F_m) sz = A at I ⊢
  have C : Cx p s m [.ref a_F].toArray meth c cX0_haveOwn 2 RX0 none := C
  have hl : lv_has ls 2 [(0, .ref a_F)] := hl
  refine x_iconst C dX0_haveOwn_0 ic_0 ?_
  refine x_istore_n C hl [(1, .int (0 : Int32)), (0, .ref a_F)] dX0_haveOwn_1 (Nat.le_of_ble_eq_true rfl) rfl (fun ls hl => ?_)
  obtain ⟨n, hw⟩ := hw
  exact lk_X0_haveOwn_2 G a_F a_F_meeting a_F_deed a_F_kind a_F_m a_F_at a_F_free a_F_gloved a_F_deeds a_F_handed a_F_crowd C F_size F_step F_kind F_m F_loss Q n (0 : Int32) F_free s.heap [] ls hw I (lv_sub hl [1, 0] rfl)
/-! X0_countCrowds -/
abbrev rm_X0_countCrowds : Room := { frames := 2, cells := 0, slots := 0, locals := 42 }
abbrev cs_X0_countCrowds (G : Gt) (a_F : Nat) (a_F_meeting : Nat) (a_F_deed : Nat) (a_F_kind : Nat) (a_F_m : Nat) (a_F_at : Nat) (a_F_free : Nat) (a_F_gloved : Nat) (a_F_deeds : Nat) (a_F_handed : Nat) (a_F_crowd : Nat) (F_size : Int32) (F_step : Int32) (F_loss : Int32) (F_crowd : Nat → Int32) (F_at : Nat → Int32) : va_W := [(a_F, .inr (0, [.ref a_F_meeting, .ref a_F_deed, .ref a_F_kind, .ref a_F_m, .ref a_F_at, .ref a_F_free, .ref a_F_gloved, .ref a_F_deeds, .ref a_F_handed, .ref a_F_crowd, .int F_size, .int F_step, .int F_loss])), (a_F_crowd, .inl (cI G, 8, .inl F_crowd)), (a_F_at, .inl (cI G, 8, .inl F_at))]
abbrev qc_X0_countCrowds (G : Gt) (a_F : Nat) (a_F_meeting : Nat) (a_F_deed : Nat) (a_F_kind : Nat) (a_F_m : Nat) (a_F_at : Nat) (a_F_free : Nat) (a_F_gloved : Nat) (a_F_deeds : Nat) (a_F_handed : Nat) (a_F_crowd : Nat) (F_size : Int32) (F_step : Int32) (F_loss : Int32) (F_at : Nat → Int32) (A : Nat → Prop) (Q : (Nat → Int32) → Prop) : Array Value → State → Outcome → State → Prop := Qv1 G A (fun (u : (Nat → Int32)) => Q u) (fun u => cs_X0_countCrowds G a_F a_F_meeting a_F_deed a_F_kind a_F_m a_F_at a_F_free a_F_gloved a_F_deeds a_F_handed a_F_crowd F_size F_step F_loss u F_at)
def lb_X0_countCrowds_23 (F_size : Int32) (F_at : Nat → Int32) (Q : (Nat → Int32) → Prop) : Nat → Int32 → (Nat → Int32) → Prop
  | 0 => fun _ _ => False
  | k + 1 => fun (y1 : Int32) (w_F_crowd : Nat → Int32) => ((F_size ≤ y1 → (Q w_F_crowd)) ∧ (¬ F_size ≤ y1 → (vp_in y1 8 ∧ (wp_X7_isStreet (F_at (y1).toNatClampNeg) (fun r3 => ((r3 = (0) → (lb_X0_countCrowds_23 F_size F_at Q k (y1 + (1 : Int32)) w_F_crowd)) ∧ (¬ r3 = (0) → (vp_in y1 8 ∧ (vp_in (F_at (y1).toNatClampNeg) 8 ∧ (∀ v5 : Int32, v5 = ((w_F_crowd ((F_at (y1).toNatClampNeg)).toNatClampNeg) + (1 : Int32)) → (vp_in (F_at (y1).toNatClampNeg) 8 ∧ (lb_X0_countCrowds_23 F_size F_at Q k (y1 + (1 : Int32)) (upd w_F_crowd ((F_at (y1).toNatClampNeg)).toNatClampNeg v5)))))))))))))
set_option maxHeartbeats 4000000 in
set_option maxRecDepth 100000 in
theorem lk_X0_countCrowds_23 {p : Program} {l : Launch} {e : Env} {s : State} {m : MethodId} {args : Array Value} {below : List Frame} {meth : Method} {c : Code} {A : Nat → Prop} (G : Gt) (a_F : Nat) (a_F_meeting : Nat) (a_F_deed : Nat) (a_F_kind : Nat) (a_F_m : Nat) (a_F_at : Nat) (a_F_free : Nat) (a_F_gloved : Nat) (a_F_deeds : Nat) (a_F_handed : Nat) (a_F_crowd : Nat) (C : Cx p s m args meth c cX0_countCrowds 2 RX0 none) (F_size : Int32) (F_at : Nat → Int32) (F_step : Int32) (F_loss : Int32) (Q : (Nat → Int32) → Prop) : ∀ (n : Nat) (y1 : Int32) (w_F_crowd : Nat → Int32) (Hx : Heap) (lx : List Loc) (ls : Array Slot), lb_X0_countCrowds_23 F_size F_at Q n y1 w_F_crowd → Iv G A s (cs_X0_countCrowds G a_F a_F_meeting a_F_deed a_F_kind a_F_m a_F_at a_F_free a_F_gloved a_F_deeds a_F_handed a_F_crowd F_size F_step F_loss w_F_crowd F_at) Hx lx → lv_has ls 2 [(0, .ref a_F), (1, .int y1)] → W p l e rm_X0_countCrowds s m args below meth c Hx lx 0 0 (MQ below (qc_X0_countCrowds G a_F a_F_meeting a_F_deed a_F_kind a_F_m a_F_at a_F_free a_F_gloved a_F_deeds a_F_handed a_F_crowd F_size F_step F_loss F_at A Q) args s 0 0 A) (F0 m 23 ls []) := by
  intro n
  induction n with
  | zero => intro y1 w_F_crowd Hx lx  ls hw I hl; exact False.elim hw
  | succ k ih =>
    intro y1 w_F_crowd Hx lx  ls hw I hl
    refine x_iload_n C hl 1 dX0_countCrowds_23 rfl ?_
    refine x_aload_n C hl 0 dX0_countCrowds_24 rfl ?_
    refine x_get C I.1 fl_X0_43 0 rfl rfl dX0_countCrowds_25 ?_
    refine x_icmp_ge C 64 dX0_countCrowds_28 (by decide) (fun c2 => ?_) (fun c2 => ?_)
    · have hw := And.left hw c2
      exact x_retv C I w_F_crowd rfl hw dX0_countCrowds_64
    · have hw := And.right hw c2
      refine x_aload_n C hl 0 dX0_countCrowds_31 rfl ?_
      refine x_get C I.1 fl_X0_18 0 rfl rfl dX0_countCrowds_32 ?_
      refine x_iload_n C hl 1 dX0_countCrowds_35 rfl ?_
      refine x_iald C I.1 2 rfl (And.left hw) dX0_countCrowds_36 ?_
      have hw := And.right hw
      refine x_ro (run_SN (As := [.int (F_at (y1).toNatClampNeg)]) (rest := []) C hl (wk_X7_isStreet l G (F_at (y1).toNatClampNeg) _ hw) gc_X7_isStreet I.1.2.2.2.2.2.2.1 wd_75 wd_334 ⟨⟨rfl, rfl⟩, cn_X7_isStreet, ⟨(Nat.le_of_ble_eq_true rfl), (Nat.le_of_ble_eq_true rfl)⟩⟩ (pr_blind _ _ _) (pr_of I.1 [] rfl) rfl rfl (Nat.le_of_ble_eq_true rfl) ⟨Nat.le_of_ble_eq_true rfl, Nat.le_of_ble_eq_true rfl⟩ dX0_countCrowds_37) (fun r3 hw => ?_)
      refine x_if_eq C 58 dX0_countCrowds_40 (by decide) (fun c4 => ?_) (fun c4 => ?_)
      · have hw := And.left hw c4
        refine x_iinc C hl 1 [(1, .int (y1 + (1 : Int32))), (0, .ref a_F)] (y1 + (1 : Int32)) dX0_countCrowds_58 rfl (congrArg _ ic_1) (Nat.le_of_ble_eq_true rfl) rfl (fun ls hl => ?_)
        refine x_goto C 23 dX0_countCrowds_61 (by decide) ?_
        exact ih (y1 + (1 : Int32)) w_F_crowd Hx lx ls hw I (lv_sub hl [1, 0] rfl)
      · have hw := And.right hw c4
        refine x_aload_n C hl 0 dX0_countCrowds_43 rfl ?_
        refine x_get C I.1 fl_X0_33 0 rfl rfl dX0_countCrowds_44 ?_
        refine x_aload_n C hl 0 dX0_countCrowds_47 rfl ?_
        refine x_get C I.1 fl_X0_18 0 rfl rfl dX0_countCrowds_48 ?_
        refine x_iload_n C hl 1 dX0_countCrowds_51 rfl ?_
        refine x_iald C I.1 2 rfl (And.left hw) dX0_countCrowds_52 ?_
        have hw := And.right hw
        refine x_dup2 C dX0_countCrowds_53 rfl rfl ?_
        refine x_iald C I.1 1 rfl (And.left hw) dX0_countCrowds_54 ?_
        have hw := And.right hw
        refine x_iconst C dX0_countCrowds_55 ic_1 ?_
        refine x_iadd C dX0_countCrowds_56 ?_
        refine lv_topi (fun v5 ev5 => ?_)
        have hw := hw v5 ev5
        refine x_iast C I 1 (cs_X0_countCrowds G a_F a_F_meeting a_F_deed a_F_kind a_F_m a_F_at a_F_free a_F_gloved a_F_deeds a_F_handed a_F_crowd F_size F_step F_loss (upd w_F_crowd ((F_at (y1).toNatClampNeg)).toNatClampNeg v5) F_at) rfl (And.left hw) rfl dX0_countCrowds_57 (fun Hx lx I => ?_)
        have hw := And.right hw
        refine x_iinc C hl 1 [(1, .int (y1 + (1 : Int32))), (0, .ref a_F)] (y1 + (1 : Int32)) dX0_countCrowds_58 rfl (congrArg _ ic_1) (Nat.le_of_ble_eq_true rfl) rfl (fun ls hl => ?_)
        refine x_goto C 23 dX0_countCrowds_61 (by decide) ?_
        exact ih (y1 + (1 : Int32)) (upd w_F_crowd ((F_at (y1).toNatClampNeg)).toNatClampNeg v5) Hx lx ls hw I (lv_sub hl [1, 0] rfl)
def lb_X0_countCrowds_2 (F_size : Int32) (F_at : Nat → Int32) (Q : (Nat → Int32) → Prop) : Nat → Int32 → (Nat → Int32) → Prop
  | 0 => fun _ _ => False
  | k + 1 => fun (y1 : Int32) (w_F_crowd : Nat → Int32) => (((8 : Int32) ≤ y1 → (∃ n, lb_X0_countCrowds_23 F_size F_at Q n (0 : Int32) w_F_crowd)) ∧ (¬ (8 : Int32) ≤ y1 → (vp_in y1 8 ∧ (lb_X0_countCrowds_2 F_size F_at Q k (y1 + (1 : Int32)) (upd w_F_crowd (y1).toNatClampNeg (0 : Int32))))))
set_option maxHeartbeats 4000000 in
set_option maxRecDepth 100000 in
theorem lk_X0_countCrowds_2 {p : Program} {l : Launch} {e : Env} {s : State} {m : MethodId} {args : Array Value} {below : List Frame} {meth : Method} {c : Code} {A : Nat → Prop} (G : Gt) (a_F : Nat) (a_F_meeting : Nat) (a_F_deed : Nat) (a_F_kind : Nat) (a_F_m : Nat) (a_F_at : Nat) (a_F_free : Nat) (a_F_gloved : Nat) (a_F_deeds : Nat) (a_F_handed : Nat) (a_F_crowd : Nat) (C : Cx p s m args meth c cX0_countCrowds 2 RX0 none) (F_size : Int32) (F_at : Nat → Int32) (F_step : Int32) (F_loss : Int32) (Q : (Nat → Int32) → Prop) : ∀ (n : Nat) (y1 : Int32) (w_F_crowd : Nat → Int32) (Hx : Heap) (lx : List Loc) (ls : Array Slot), lb_X0_countCrowds_2 F_size F_at Q n y1 w_F_crowd → Iv G A s (cs_X0_countCrowds G a_F a_F_meeting a_F_deed a_F_kind a_F_m a_F_at a_F_free a_F_gloved a_F_deeds a_F_handed a_F_crowd F_size F_step F_loss w_F_crowd F_at) Hx lx → lv_has ls 2 [(0, .ref a_F), (1, .int y1)] → W p l e rm_X0_countCrowds s m args below meth c Hx lx 0 0 (MQ below (qc_X0_countCrowds G a_F a_F_meeting a_F_deed a_F_kind a_F_m a_F_at a_F_free a_F_gloved a_F_deeds a_F_handed a_F_crowd F_size F_step F_loss F_at A Q) args s 0 0 A) (F0 m 2 ls []) := by
  intro n
  induction n with
  | zero => intro y1 w_F_crowd Hx lx  ls hw I hl; exact False.elim hw
  | succ k ih =>
    intro y1 w_F_crowd Hx lx  ls hw I hl
    refine x_iload_n C hl 1 dX0_countCrowds_2 rfl ?_
    refine x_bipush C dX0_countCrowds_3 bp_8 ?_
    refine x_icmp_ge C 21 dX0_countCrowds_5 (by decide) (fun c1 => ?_) (fun c1 => ?_)
    · have hw := And.left hw c1
      refine x_iconst C dX0_countCrowds_21 ic_0 ?_
      refine x_istore_n C hl [(1, .int (0 : Int32)), (0, .ref a_F)] dX0_countCrowds_22 (Nat.le_of_ble_eq_true rfl) rfl (fun ls hl => ?_)
      obtain ⟨n, hw⟩ := hw
      exact lk_X0_countCrowds_23 G a_F a_F_meeting a_F_deed a_F_kind a_F_m a_F_at a_F_free a_F_gloved a_F_deeds a_F_handed a_F_crowd C F_size F_at F_step F_loss Q n (0 : Int32) w_F_crowd Hx lx ls hw I (lv_sub hl [1, 0] rfl)
    · have hw := And.right hw c1
      refine x_aload_n C hl 0 dX0_countCrowds_8 rfl ?_
      refine x_get C I.1 fl_X0_33 0 rfl rfl dX0_countCrowds_9 ?_
      refine x_iload_n C hl 1 dX0_countCrowds_12 rfl ?_
      refine x_iconst C dX0_countCrowds_13 ic_0 ?_
      refine x_iast C I 1 (cs_X0_countCrowds G a_F a_F_meeting a_F_deed a_F_kind a_F_m a_F_at a_F_free a_F_gloved a_F_deeds a_F_handed a_F_crowd F_size F_step F_loss (upd w_F_crowd (y1).toNatClampNeg (0 : Int32)) F_at) rfl (And.left hw) rfl dX0_countCrowds_14 (fun Hx lx I => ?_)
      have hw := And.right hw
      refine x_iinc C hl 1 [(1, .int (y1 + (1 : Int32))), (0, .ref a_F)] (y1 + (1 : Int32)) dX0_countCrowds_15 rfl (congrArg _ ic_1) (Nat.le_of_ble_eq_true rfl) rfl (fun ls hl => ?_)
      refine x_goto C 2 dX0_countCrowds_18 (by decide) ?_
      exact ih (y1 + (1 : Int32)) (upd w_F_crowd (y1).toNatClampNeg (0 : Int32)) Hx lx ls hw I (lv_sub hl [1, 0] rfl)
def wp_X0_countCrowds (F_size : Int32) (F_crowd : Nat → Int32) (F_at : Nat → Int32) (Q : (Nat → Int32) → Prop) : Prop := (∃ n, lb_X0_countCrowds_2 F_size F_at Q n (0 : Int32) F_crowd)
set_option maxHeartbeats 4000000 in
set_option maxRecDepth 100000 in
theorem wk_X0_countCrowds (l : Launch) (G : Gt) (a_F : Nat) (a_F_meeting : Nat) (a_F_deed : Nat) (a_F_kind : Nat) (a_F_m : Nat) (a_F_at : Nat) (a_F_free : Nat) (a_F_gloved : Nat) (a_F_deeds : Nat) (a_F_handed : Nat) (a_F_crowd : Nat) (sz : Nat) (F_size : Int32) (F_step : Int32) (F_loss : Int32) (F_crowd : Nat → Int32) (F_at : Nat → Int32) (Q : (Nat → Int32) → Prop) (hw : wp_X0_countCrowds F_size F_crowd F_at Q) : Met l yX0_countCrowds (wc yX0_countCrowds cX0_countCrowds 2 none) rm_X0_countCrowds (va_Pc [.ref a_F] (PB G (cs_X0_countCrowds G a_F a_F_meeting a_F_deed a_F_kind a_F_m a_F_at a_F_free a_F_gloved a_F_deeds a_F_handed a_F_crowd F_size F_step F_loss F_crowd F_at) sz)) (qc_X0_countCrowds G a_F a_F_meeting a_F_deed a_F_kind a_F_m a_F_at a_F_free a_F_gloved a_F_deeds a_F_handed a_F_crowd F_size F_step F_loss F_at (va_A (cs_X0_countCrowds G a_F a_F_meeting a_F_deed a_F_kind a_F_m a_F_at a_F_free a_F_gloved a_F_deeds a_F_handed a_F_crowd F_size F_step F_loss F_crowd F_at) sz) Q) 0 0 (va_A (cs_X0_countCrowds G a_F a_F_meeting a_F_deed a_F_kind a_F_m a_F_at a_F_free a_F_gloved a_F_deeds a_F_handed a_F_crowd F_size F_step F_loss F_crowd F_at) sz) := by
  refine x_start pn_X0 (Nat.le_of_ble_eq_true rfl) (fun p e s m below meth c ls C hn hl hB => ?_)
  have I := iv_start hB
  generalize va_A (cs_X0_countCrowds G a_F a_F_meeting a_F_deed a_F_kind a_F_m a_F_at a_F_free a_F_gloved a_F_deeds a_F_handed a_F_crowd F_size F_step F_loss F_crowd F_at) sz = A at I ⊢
  have C : Cx p s m [.ref a_F].toArray meth c cX0_countCrowds 2 RX0 none := C
  have hl : lv_has ls 2 [(0, .ref a_F)] := hl
  refine x_iconst C dX0_countCrowds_0 ic_0 ?_
  refine x_istore_n C hl [(1, .int (0 : Int32)), (0, .ref a_F)] dX0_countCrowds_1 (Nat.le_of_ble_eq_true rfl) rfl (fun ls hl => ?_)
  obtain ⟨n, hw⟩ := hw
  exact lk_X0_countCrowds_2 G a_F a_F_meeting a_F_deed a_F_kind a_F_m a_F_at a_F_free a_F_gloved a_F_deeds a_F_handed a_F_crowd C F_size F_at F_step F_loss Q n (0 : Int32) F_crowd s.heap [] ls hw I (lv_sub hl [1, 0] rfl)
/-! X0_steal -/
abbrev rm_X0_steal : Room := { frames := 2, cells := 0, slots := 0, locals := 45 }
abbrev cs_X0_steal (G : Gt) (a_F : Nat) (a_F_meeting : Nat) (a_F_deed : Nat) (a_F_kind : Nat) (a_F_m : Nat) (a_F_at : Nat) (a_F_free : Nat) (a_F_gloved : Nat) (a_F_deeds : Nat) (a_F_handed : Nat) (a_F_crowd : Nat) (F_size : Int32) (F_step : Int32) (F_loss : Int32) (F_gloved : Nat → Int32) (F_kind : Nat → Int32) (F_at : Nat → Int32) (F_m : Nat → Int32) : va_W := [(a_F, .inr (0, [.ref a_F_meeting, .ref a_F_deed, .ref a_F_kind, .ref a_F_m, .ref a_F_at, .ref a_F_free, .ref a_F_gloved, .ref a_F_deeds, .ref a_F_handed, .ref a_F_crowd, .int F_size, .int F_step, .int F_loss])), (a_F_gloved, .inl (cI G, 8, .inl F_gloved)), (a_F_kind, .inl (cI G, 8, .inl F_kind)), (a_F_at, .inl (cI G, 8, .inl F_at)), (a_F_m, .inl (cI G, 8, .inl F_m))]
abbrev qc_X0_steal (G : Gt) (a_F : Nat) (a_F_meeting : Nat) (a_F_deed : Nat) (a_F_kind : Nat) (a_F_m : Nat) (a_F_at : Nat) (a_F_free : Nat) (a_F_gloved : Nat) (a_F_deeds : Nat) (a_F_handed : Nat) (a_F_crowd : Nat) (F_size : Int32) (F_step : Int32) (F_loss : Int32) (F_gloved : Nat → Int32) (F_kind : Nat → Int32) (F_m : Nat → Int32) (A : Nat → Prop) (Q : (Nat → Int32) → Prop) : Array Value → State → Outcome → State → Prop := Qv1 G A (fun (u : (Nat → Int32)) => Q u) (fun u => cs_X0_steal G a_F a_F_meeting a_F_deed a_F_kind a_F_m a_F_at a_F_free a_F_gloved a_F_deeds a_F_handed a_F_crowd F_size F_step F_loss F_gloved F_kind u F_m)
def lb_X0_steal_2 (F_size : Int32) (F_gloved : Nat → Int32) (F_kind : Nat → Int32) (F_m : Nat → Int32) (Q : (Nat → Int32) → Prop) : Nat → Int32 → (Nat → Int32) → Prop
  | 0 => fun _ _ => False
  | k + 1 => fun (y1 : Int32) (w_F_at : Nat → Int32) => ((F_size ≤ y1 → (Q w_F_at)) ∧ (¬ F_size ≤ y1 → (vp_in y1 8 ∧ ((¬ (F_gloved (y1).toNatClampNeg) = (0) → (lb_X0_steal_2 F_size F_gloved F_kind F_m Q k (y1 + (1 : Int32)) w_F_at)) ∧ ((F_gloved (y1).toNatClampNeg) = (0) → (vp_in y1 8 ∧ (wp_X7_isUnder (F_kind (y1).toNatClampNeg) (3 : Int32) (fun r3 => ((r3 = (0) → (lb_X0_steal_2 F_size F_gloved F_kind F_m Q k (y1 + (1 : Int32)) w_F_at)) ∧ (¬ r3 = (0) → (vp_in y1 8 ∧ (vp_in y1 8 ∧ (∀ v5 : Int32, v5 = (jrem ((w_F_at (y1).toNatClampNeg) + (F_m (y1).toNatClampNeg)) (8 : Int32)) → (vp_in y1 8 ∧ (lb_X0_steal_2 F_size F_gloved F_kind F_m Q k (y1 + (1 : Int32)) (upd w_F_at (y1).toNatClampNeg v5))))))))))))))))
set_option maxHeartbeats 4000000 in
set_option maxRecDepth 100000 in
theorem lk_X0_steal_2 {p : Program} {l : Launch} {e : Env} {s : State} {m : MethodId} {args : Array Value} {below : List Frame} {meth : Method} {c : Code} {A : Nat → Prop} (G : Gt) (a_F : Nat) (a_F_meeting : Nat) (a_F_deed : Nat) (a_F_kind : Nat) (a_F_m : Nat) (a_F_at : Nat) (a_F_free : Nat) (a_F_gloved : Nat) (a_F_deeds : Nat) (a_F_handed : Nat) (a_F_crowd : Nat) (C : Cx p s m args meth c cX0_steal 2 RX0 none) (F_size : Int32) (F_gloved : Nat → Int32) (F_kind : Nat → Int32) (F_m : Nat → Int32) (F_step : Int32) (F_loss : Int32) (Q : (Nat → Int32) → Prop) : ∀ (n : Nat) (y1 : Int32) (w_F_at : Nat → Int32) (Hx : Heap) (lx : List Loc) (ls : Array Slot), lb_X0_steal_2 F_size F_gloved F_kind F_m Q n y1 w_F_at → Iv G A s (cs_X0_steal G a_F a_F_meeting a_F_deed a_F_kind a_F_m a_F_at a_F_free a_F_gloved a_F_deeds a_F_handed a_F_crowd F_size F_step F_loss F_gloved F_kind w_F_at F_m) Hx lx → lv_has ls 2 [(0, .ref a_F), (1, .int y1)] → W p l e rm_X0_steal s m args below meth c Hx lx 0 0 (MQ below (qc_X0_steal G a_F a_F_meeting a_F_deed a_F_kind a_F_m a_F_at a_F_free a_F_gloved a_F_deeds a_F_handed a_F_crowd F_size F_step F_loss F_gloved F_kind F_m A Q) args s 0 0 A) (F0 m 2 ls []) := by
  intro n
  induction n with
  | zero => intro y1 w_F_at Hx lx  ls hw I hl; exact False.elim hw
  | succ k ih =>
    intro y1 w_F_at Hx lx  ls hw I hl
    refine x_iload_n C hl 1 dX0_steal_2 rfl ?_
    refine x_aload_n C hl 0 dX0_steal_3 rfl ?_
    refine x_get C I.1 fl_X0_43 0 rfl rfl dX0_steal_4 ?_
    refine x_icmp_ge C 60 dX0_steal_7 (by decide) (fun c1 => ?_) (fun c1 => ?_)
    · have hw := And.left hw c1
      exact x_retv C I w_F_at rfl hw dX0_steal_60
    · have hw := And.right hw c1
      refine x_aload_n C hl 0 dX0_steal_10 rfl ?_
      refine x_get C I.1 fl_X0_24 0 rfl rfl dX0_steal_11 ?_
      refine x_iload_n C hl 1 dX0_steal_14 rfl ?_
      refine x_iald C I.1 1 rfl (And.left hw) dX0_steal_15 ?_
      have hw := And.right hw
      refine x_if_ne C 54 dX0_steal_16 (by decide) (fun c2 => ?_) (fun c2 => ?_)
      · have hw := And.left hw c2
        refine x_iinc C hl 1 [(1, .int (y1 + (1 : Int32))), (0, .ref a_F)] (y1 + (1 : Int32)) dX0_steal_54 rfl (congrArg _ ic_1) (Nat.le_of_ble_eq_true rfl) rfl (fun ls hl => ?_)
        refine x_goto C 2 dX0_steal_57 (by decide) ?_
        exact ih (y1 + (1 : Int32)) w_F_at Hx lx ls hw I (lv_sub hl [1, 0] rfl)
      · have hw := And.right hw c2
        refine x_aload_n C hl 0 dX0_steal_19 rfl ?_
        refine x_get C I.1 fl_X0_9 0 rfl rfl dX0_steal_20 ?_
        refine x_iload_n C hl 1 dX0_steal_23 rfl ?_
        refine x_iald C I.1 2 rfl (And.left hw) dX0_steal_24 ?_
        have hw := And.right hw
        refine x_iconst C dX0_steal_25 ic_3 ?_
        refine x_ro (run_SN (As := [.int (F_kind (y1).toNatClampNeg), .int (3 : Int32)]) (rest := []) C hl (wk_X7_isUnder l G (F_kind (y1).toNatClampNeg) (3 : Int32) _ hw) gc_X7_isUnder I.1.2.2.2.2.1 wd_75 wd_362 ⟨⟨rfl, rfl⟩, cn_X7_isUnder, ⟨(Nat.le_of_ble_eq_true rfl), (Nat.le_of_ble_eq_true rfl)⟩⟩ (pr_blind _ _ _) (pr_of I.1 [] rfl) rfl rfl (Nat.le_of_ble_eq_true rfl) ⟨Nat.le_of_ble_eq_true rfl, Nat.le_of_ble_eq_true rfl⟩ dX0_steal_26) (fun r3 hw => ?_)
        refine x_if_eq C 54 dX0_steal_29 (by decide) (fun c4 => ?_) (fun c4 => ?_)
        · have hw := And.left hw c4
          refine x_iinc C hl 1 [(1, .int (y1 + (1 : Int32))), (0, .ref a_F)] (y1 + (1 : Int32)) dX0_steal_54 rfl (congrArg _ ic_1) (Nat.le_of_ble_eq_true rfl) rfl (fun ls hl => ?_)
          refine x_goto C 2 dX0_steal_57 (by decide) ?_
          exact ih (y1 + (1 : Int32)) w_F_at Hx lx ls hw I (lv_sub hl [1, 0] rfl)
        · have hw := And.right hw c4
          refine x_aload_n C hl 0 dX0_steal_32 rfl ?_
          refine x_get C I.1 fl_X0_18 0 rfl rfl dX0_steal_33 ?_
          refine x_iload_n C hl 1 dX0_steal_36 rfl ?_
          refine x_aload_n C hl 0 dX0_steal_37 rfl ?_
          refine x_get C I.1 fl_X0_18 0 rfl rfl dX0_steal_38 ?_
          refine x_iload_n C hl 1 dX0_steal_41 rfl ?_
          refine x_iald C I.1 3 rfl (And.left hw) dX0_steal_42 ?_
          have hw := And.right hw
          refine x_aload_n C hl 0 dX0_steal_43 rfl ?_
          refine x_get C I.1 fl_X0_15 0 rfl rfl dX0_steal_44 ?_
          refine x_iload_n C hl 1 dX0_steal_47 rfl ?_
          refine x_iald C I.1 4 rfl (And.left hw) dX0_steal_48 ?_
          have hw := And.right hw
          refine x_iadd C dX0_steal_49 ?_
          refine x_bipush C dX0_steal_50 bp_8 ?_
          refine x_irem C nz_8 dX0_steal_52 ?_
          refine lv_topi (fun v5 ev5 => ?_)
          have hw := hw v5 ev5
          refine x_iast C I 3 (cs_X0_steal G a_F a_F_meeting a_F_deed a_F_kind a_F_m a_F_at a_F_free a_F_gloved a_F_deeds a_F_handed a_F_crowd F_size F_step F_loss F_gloved F_kind (upd w_F_at (y1).toNatClampNeg v5) F_m) rfl (And.left hw) rfl dX0_steal_53 (fun Hx lx I => ?_)
          have hw := And.right hw
          refine x_iinc C hl 1 [(1, .int (y1 + (1 : Int32))), (0, .ref a_F)] (y1 + (1 : Int32)) dX0_steal_54 rfl (congrArg _ ic_1) (Nat.le_of_ble_eq_true rfl) rfl (fun ls hl => ?_)
          refine x_goto C 2 dX0_steal_57 (by decide) ?_
          exact ih (y1 + (1 : Int32)) (upd w_F_at (y1).toNatClampNeg v5) Hx lx ls hw I (lv_sub hl [1, 0] rfl)
def wp_X0_steal (F_size : Int32) (F_gloved : Nat → Int32) (F_kind : Nat → Int32) (F_at : Nat → Int32) (F_m : Nat → Int32) (Q : (Nat → Int32) → Prop) : Prop := (∃ n, lb_X0_steal_2 F_size F_gloved F_kind F_m Q n (0 : Int32) F_at)
set_option maxHeartbeats 4000000 in
set_option maxRecDepth 100000 in
theorem wk_X0_steal (l : Launch) (G : Gt) (a_F : Nat) (a_F_meeting : Nat) (a_F_deed : Nat) (a_F_kind : Nat) (a_F_m : Nat) (a_F_at : Nat) (a_F_free : Nat) (a_F_gloved : Nat) (a_F_deeds : Nat) (a_F_handed : Nat) (a_F_crowd : Nat) (sz : Nat) (F_size : Int32) (F_step : Int32) (F_loss : Int32) (F_gloved : Nat → Int32) (F_kind : Nat → Int32) (F_at : Nat → Int32) (F_m : Nat → Int32) (Q : (Nat → Int32) → Prop) (hw : wp_X0_steal F_size F_gloved F_kind F_at F_m Q) : Met l yX0_steal (wc yX0_steal cX0_steal 2 none) rm_X0_steal (va_Pc [.ref a_F] (PB G (cs_X0_steal G a_F a_F_meeting a_F_deed a_F_kind a_F_m a_F_at a_F_free a_F_gloved a_F_deeds a_F_handed a_F_crowd F_size F_step F_loss F_gloved F_kind F_at F_m) sz)) (qc_X0_steal G a_F a_F_meeting a_F_deed a_F_kind a_F_m a_F_at a_F_free a_F_gloved a_F_deeds a_F_handed a_F_crowd F_size F_step F_loss F_gloved F_kind F_m (va_A (cs_X0_steal G a_F a_F_meeting a_F_deed a_F_kind a_F_m a_F_at a_F_free a_F_gloved a_F_deeds a_F_handed a_F_crowd F_size F_step F_loss F_gloved F_kind F_at F_m) sz) Q) 0 0 (va_A (cs_X0_steal G a_F a_F_meeting a_F_deed a_F_kind a_F_m a_F_at a_F_free a_F_gloved a_F_deeds a_F_handed a_F_crowd F_size F_step F_loss F_gloved F_kind F_at F_m) sz) := by
  refine x_start pn_X0 (Nat.le_of_ble_eq_true rfl) (fun p e s m below meth c ls C hn hl hB => ?_)
  have I := iv_start hB
  generalize va_A (cs_X0_steal G a_F a_F_meeting a_F_deed a_F_kind a_F_m a_F_at a_F_free a_F_gloved a_F_deeds a_F_handed a_F_crowd F_size F_step F_loss F_gloved F_kind F_at F_m) sz = A at I ⊢
  have C : Cx p s m [.ref a_F].toArray meth c cX0_steal 2 RX0 none := C
  have hl : lv_has ls 2 [(0, .ref a_F)] := hl
  refine x_iconst C dX0_steal_0 ic_0 ?_
  refine x_istore_n C hl [(1, .int (0 : Int32)), (0, .ref a_F)] dX0_steal_1 (Nat.le_of_ble_eq_true rfl) rfl (fun ls hl => ?_)
  obtain ⟨n, hw⟩ := hw
  exact lk_X0_steal_2 G a_F a_F_meeting a_F_deed a_F_kind a_F_m a_F_at a_F_free a_F_gloved a_F_deeds a_F_handed a_F_crowd C F_size F_gloved F_kind F_m F_step F_loss Q n (0 : Int32) F_at s.heap [] ls hw I (lv_sub hl [1, 0] rfl)
/-! X1_readNumber -/
abbrev rm_X1_readNumber : Room := { frames := 1, cells := 0, slots := 0, locals := 22 }
abbrev cs_X1_readNumber (G : Gt) (a_D : Nat) (a_D_rule : Nat) (a_D_bytes : Nat) (a_D_bytes_items : Nat) (a_D_rule_signs : Nat) (a_D_rule_numbers : Nat) (a_D_rule_pile : Nat) (D_firstName : Int32) (D_place : Int32) (D_bytes_size : Int32) (D_bytes_items : Nat → Int32) (D_rule_size : Int32) (D_rule_signs : Nat → Int32) (D_rule_numbers : Nat → Int32) : va_W := [(a_D, .inr (1, [.ref a_D_rule, .ref a_D_bytes, .int D_firstName, .int D_place])), (a_D_bytes, .inr (4, [.ref a_D_bytes_items, .int D_bytes_size])), (a_D_bytes_items, .inl (cI G, 50, .inl D_bytes_items)), (a_D_rule, .inr (3, [.ref a_D_rule_signs, .ref a_D_rule_numbers, .ref a_D_rule_pile, .int D_rule_size])), (a_D_rule_signs, .inl (cI G, 50, .inl D_rule_signs)), (a_D_rule_numbers, .inl (cI G, 50, .inl D_rule_numbers))]
abbrev qc_X1_readNumber (G : Gt) (a_D : Nat) (a_D_rule : Nat) (a_D_bytes : Nat) (a_D_bytes_items : Nat) (a_D_rule_signs : Nat) (a_D_rule_numbers : Nat) (a_D_rule_pile : Nat) (D_firstName : Int32) (D_bytes_size : Int32) (D_bytes_items : Nat → Int32) (A : Nat → Prop) (Q : Int32 → Int32 → Int32 → (Nat → Int32) → (Nat → Int32) → Prop) : Array Value → State → Outcome → State → Prop := Qi1 G A (fun r (u : Int32 × Int32 × (Nat → Int32) × (Nat → Int32)) => Q r u.1 u.2.1 u.2.2.1 u.2.2.2) (fun u => cs_X1_readNumber G a_D a_D_rule a_D_bytes a_D_bytes_items a_D_rule_signs a_D_rule_numbers a_D_rule_pile D_firstName u.1 D_bytes_size D_bytes_items u.2.1 u.2.2.1 u.2.2.2)
def lb_X1_readNumber_48 (D_bytes_size : Int32) (D_bytes_items : Nat → Int32) (Q : Int32 → Int32 → Int32 → (Nat → Int32) → (Nat → Int32) → Prop) (y1 : Int32) (w_D_place : Int32) (w_D_rule_size : Int32) (w_D_rule_signs : Nat → Int32) (w_D_rule_numbers : Nat → Int32) : Prop := (wp_X3_add (0 : Int32) y1 w_D_rule_size w_D_rule_signs w_D_rule_numbers (fun o2 o3 o4 => (Q (1 : Int32) w_D_place o2 o3 o4)))
set_option maxHeartbeats 4000000 in
set_option maxRecDepth 100000 in
theorem lk_X1_readNumber_48 {p : Program} {l : Launch} {e : Env} {s : State} {m : MethodId} {args : Array Value} {below : List Frame} {meth : Method} {c : Code} {A : Nat → Prop} (G : Gt) (a_D : Nat) (a_D_rule : Nat) (a_D_bytes : Nat) (a_D_bytes_items : Nat) (a_D_rule_signs : Nat) (a_D_rule_numbers : Nat) (a_D_rule_pile : Nat) (C : Cx p s m args meth c cX1_readNumber 3 RX1 (some .boolean)) (D_bytes_size : Int32) (D_bytes_items : Nat → Int32) (D_firstName : Int32) (Q : Int32 → Int32 → Int32 → (Nat → Int32) → (Nat → Int32) → Prop) : ∀ (y1 : Int32) (w_D_place : Int32) (w_D_rule_size : Int32) (w_D_rule_signs : Nat → Int32) (w_D_rule_numbers : Nat → Int32) (Hx : Heap) (lx : List Loc) (ls : Array Slot), lb_X1_readNumber_48 D_bytes_size D_bytes_items Q y1 w_D_place w_D_rule_size w_D_rule_signs w_D_rule_numbers → Iv G A s (cs_X1_readNumber G a_D a_D_rule a_D_bytes a_D_bytes_items a_D_rule_signs a_D_rule_numbers a_D_rule_pile D_firstName w_D_place D_bytes_size D_bytes_items w_D_rule_size w_D_rule_signs w_D_rule_numbers) Hx lx → lv_has ls 3 [(0, .ref a_D), (1, .int y1)] → W p l e rm_X1_readNumber s m args below meth c Hx lx 0 0 (MQ below (qc_X1_readNumber G a_D a_D_rule a_D_bytes a_D_bytes_items a_D_rule_signs a_D_rule_numbers a_D_rule_pile D_firstName D_bytes_size D_bytes_items A Q) args s 0 0 A) (F0 m 48 ls []) := by
  intro y1 w_D_place w_D_rule_size w_D_rule_signs w_D_rule_numbers Hx lx  ls hw I hl
  refine x_aload_n C hl 0 dX1_readNumber_48 rfl ?_
  refine x_get C I.1 fl_X1_12 0 rfl rfl dX1_readNumber_49 ?_
  refine x_iconst C dX1_readNumber_52 ic_0 ?_
  refine x_iload_n C hl 1 dX1_readNumber_53 rfl ?_
  refine x_muv (wk := cs_X3_add G a_D_rule a_D_rule_signs a_D_rule_numbers a_D_rule_pile w_D_rule_size w_D_rule_signs w_D_rule_numbers) (wr := [(a_D, .inr (1, [.ref a_D_rule, .ref a_D_bytes, .int D_firstName, .int w_D_place])), (a_D_bytes, .inr (4, [.ref a_D_bytes_items, .int D_bytes_size])), (a_D_bytes_items, .inl (cI G, 50, .inl D_bytes_items))]) (isC := [3, 4, 5]) (isR := [0, 1, 2]) I ⟨⟨rfl, rfl⟩, rfl, rfl, rfl⟩ [0, 1, 2, 3, 4, 5] (fun u => cs_X1_readNumber G a_D a_D_rule a_D_bytes a_D_bytes_items a_D_rule_signs a_D_rule_numbers a_D_rule_pile D_firstName w_D_place D_bytes_size D_bytes_items u.1 u.2.1 u.2.2) (fun _ => rfl) rfl (run_V (As := [.int (0 : Int32), .int y1]) (rest := []) C hl (wk_X3_add l G a_D_rule a_D_rule_signs a_D_rule_numbers a_D_rule_pile Hx.size w_D_rule_size w_D_rule_signs w_D_rule_numbers (0 : Int32) y1 _ hw) gm_X1_59 ⟨⟨rfl, rfl⟩, cn_X3_add, ⟨(Nat.le_of_ble_eq_true rfl), (Nat.le_of_ble_eq_true rfl)⟩⟩ (pb_blind _ _ _ _) (x_recv I.1 3 rfl rfl) (pb_of I [3, 4, 5] rfl rfl) rfl rfl (Nat.le_of_ble_eq_true rfl) ⟨Nat.le_of_ble_eq_true rfl, Nat.le_of_ble_eq_true rfl⟩ dX1_readNumber_54) (fun u Hx lx hw I => ?_)
  obtain ⟨o2, o3, o4⟩ := u
  have I : Iv G A s (cs_X1_readNumber G a_D a_D_rule a_D_bytes a_D_bytes_items a_D_rule_signs a_D_rule_numbers a_D_rule_pile D_firstName w_D_place D_bytes_size D_bytes_items o2 o3 o4) Hx lx := I
  refine x_iconst C dX1_readNumber_57 ic_1 ?_
  exact x_ret1z C I (w_D_place, o2, o3, o4) bz_1 rfl hw dX1_readNumber_58
def lb_X1_readNumber_4 (D_bytes_size : Int32) (D_bytes_items : Nat → Int32) (Q : Int32 → Int32 → Int32 → (Nat → Int32) → (Nat → Int32) → Prop) : Nat → Int32 → Int32 → Int32 → Int32 → (Nat → Int32) → (Nat → Int32) → Prop
  | 0 => fun _ _ _ _ _ _ => False
  | k + 1 => fun (y1 : Int32) (y2 : Int32) (w_D_place : Int32) (w_D_rule_size : Int32) (w_D_rule_signs : Nat → Int32) (w_D_rule_numbers : Nat → Int32) => (((4 : Int32) ≤ y2 → (lb_X1_readNumber_48 D_bytes_size D_bytes_items Q y1 w_D_place w_D_rule_size w_D_rule_signs w_D_rule_numbers)) ∧ (¬ (4 : Int32) ≤ y2 → (wp_X1_next w_D_place D_bytes_size D_bytes_items (fun r5 => (wp_X1_isDigit r5 (fun r6 => ((r6 = (0) → (lb_X1_readNumber_48 D_bytes_size D_bytes_items Q y1 w_D_place w_D_rule_size w_D_rule_signs w_D_rule_numbers)) ∧ (¬ r6 = (0) → (wp_X1_next w_D_place D_bytes_size D_bytes_items (fun r8 => (∀ v9 : Int32, v9 = (((y1 * (10 : Int32)) + r8) - (48 : Int32)) → (∀ v10 : Int32, v10 = (w_D_place + (1 : Int32)) → (lb_X1_readNumber_4 D_bytes_size D_bytes_items Q k v9 (y2 + (1 : Int32)) v10 w_D_rule_size w_D_rule_signs w_D_rule_numbers)))))))))))))
set_option maxHeartbeats 4000000 in
set_option maxRecDepth 100000 in
theorem lk_X1_readNumber_4 {p : Program} {l : Launch} {e : Env} {s : State} {m : MethodId} {args : Array Value} {below : List Frame} {meth : Method} {c : Code} {A : Nat → Prop} (G : Gt) (a_D : Nat) (a_D_rule : Nat) (a_D_bytes : Nat) (a_D_bytes_items : Nat) (a_D_rule_signs : Nat) (a_D_rule_numbers : Nat) (a_D_rule_pile : Nat) (C : Cx p s m args meth c cX1_readNumber 3 RX1 (some .boolean)) (D_bytes_size : Int32) (D_bytes_items : Nat → Int32) (D_firstName : Int32) (Q : Int32 → Int32 → Int32 → (Nat → Int32) → (Nat → Int32) → Prop) : ∀ (n : Nat) (y1 : Int32) (y2 : Int32) (w_D_place : Int32) (w_D_rule_size : Int32) (w_D_rule_signs : Nat → Int32) (w_D_rule_numbers : Nat → Int32) (Hx : Heap) (lx : List Loc) (ls : Array Slot), lb_X1_readNumber_4 D_bytes_size D_bytes_items Q n y1 y2 w_D_place w_D_rule_size w_D_rule_signs w_D_rule_numbers → Iv G A s (cs_X1_readNumber G a_D a_D_rule a_D_bytes a_D_bytes_items a_D_rule_signs a_D_rule_numbers a_D_rule_pile D_firstName w_D_place D_bytes_size D_bytes_items w_D_rule_size w_D_rule_signs w_D_rule_numbers) Hx lx → lv_has ls 3 [(0, .ref a_D), (1, .int y1), (2, .int y2)] → W p l e rm_X1_readNumber s m args below meth c Hx lx 0 0 (MQ below (qc_X1_readNumber G a_D a_D_rule a_D_bytes a_D_bytes_items a_D_rule_signs a_D_rule_numbers a_D_rule_pile D_firstName D_bytes_size D_bytes_items A Q) args s 0 0 A) (F0 m 4 ls []) := by
  intro n
  induction n with
  | zero => intro y1 y2 w_D_place w_D_rule_size w_D_rule_signs w_D_rule_numbers Hx lx  ls hw I hl; exact False.elim hw
  | succ k ih =>
    intro y1 y2 w_D_place w_D_rule_size w_D_rule_signs w_D_rule_numbers Hx lx  ls hw I hl
    refine x_iload_n C hl 2 dX1_readNumber_4 rfl ?_
    refine x_iconst C dX1_readNumber_5 ic_4 ?_
    refine x_icmp_ge C 48 dX1_readNumber_6 (by decide) (fun c1 => ?_) (fun c1 => ?_)
    · have hw := And.left hw c1
      exact lk_X1_readNumber_48 G a_D a_D_rule a_D_bytes a_D_bytes_items a_D_rule_signs a_D_rule_numbers a_D_rule_pile C D_bytes_size D_bytes_items D_firstName Q y1 w_D_place w_D_rule_size w_D_rule_signs w_D_rule_numbers Hx lx ls hw I (lv_sub hl [0, 1] rfl)
    · have hw := And.right hw c1
      refine x_aload_n C hl 0 dX1_readNumber_9 rfl ?_
      refine x_ro (run_V (As := []) (rest := []) C hl (wk_X1_next l G a_D a_D_rule a_D_bytes a_D_bytes_items D_firstName w_D_place D_bytes_size D_bytes_items _ hw) gm_X1_55 ⟨⟨rfl, rfl⟩, cn_X1_next, ⟨(Nat.le_of_ble_eq_true rfl), (Nat.le_of_ble_eq_true rfl)⟩⟩ (pr_blind _ _ _) (x_recv I.1 0 rfl rfl) (pr_of I.1 [0, 1, 2] rfl) rfl rfl (Nat.le_of_ble_eq_true rfl) ⟨Nat.le_of_ble_eq_true rfl, Nat.le_of_ble_eq_true rfl⟩ dX1_readNumber_10) (fun r5 hw => ?_)
      refine x_ro (run_S (As := [.int r5]) (rest := []) C hl (wk_X1_isDigit l G r5 _ hw) gm_X1_79 ⟨⟨rfl, rfl⟩, cn_X1_isDigit, ⟨(Nat.le_of_ble_eq_true rfl), (Nat.le_of_ble_eq_true rfl)⟩⟩ (pr_blind _ _ _) (pr_of I.1 [] rfl) rfl rfl (Nat.le_of_ble_eq_true rfl) ⟨Nat.le_of_ble_eq_true rfl, Nat.le_of_ble_eq_true rfl⟩ dX1_readNumber_13) (fun r6 hw => ?_)
      refine x_if_eq C 48 dX1_readNumber_16 (by decide) (fun c7 => ?_) (fun c7 => ?_)
      · have hw := And.left hw c7
        exact lk_X1_readNumber_48 G a_D a_D_rule a_D_bytes a_D_bytes_items a_D_rule_signs a_D_rule_numbers a_D_rule_pile C D_bytes_size D_bytes_items D_firstName Q y1 w_D_place w_D_rule_size w_D_rule_signs w_D_rule_numbers Hx lx ls hw I (lv_sub hl [0, 1] rfl)
      · have hw := And.right hw c7
        refine x_iload_n C hl 1 dX1_readNumber_19 rfl ?_
        refine x_bipush C dX1_readNumber_20 bp_10 ?_
        refine x_imul C dX1_readNumber_22 ?_
        refine x_aload_n C hl 0 dX1_readNumber_23 rfl ?_
        refine x_ro (run_V (As := []) (rest := [.int (y1 * (10 : Int32))]) C hl (wk_X1_next l G a_D a_D_rule a_D_bytes a_D_bytes_items D_firstName w_D_place D_bytes_size D_bytes_items _ hw) gm_X1_55 ⟨⟨rfl, rfl⟩, cn_X1_next, ⟨(Nat.le_of_ble_eq_true rfl), (Nat.le_of_ble_eq_true rfl)⟩⟩ (pr_blind _ _ _) (x_recv I.1 0 rfl rfl) (pr_of I.1 [0, 1, 2] rfl) rfl rfl (Nat.le_of_ble_eq_true rfl) ⟨Nat.le_of_ble_eq_true rfl, Nat.le_of_ble_eq_true rfl⟩ dX1_readNumber_24) (fun r8 hw => ?_)
        refine x_iadd C dX1_readNumber_27 ?_
        refine x_bipush C dX1_readNumber_28 bp_48 ?_
        refine x_isub C dX1_readNumber_30 ?_
        refine lv_topi (fun v9 ev9 => ?_)
        have hw := hw v9 ev9
        refine x_istore_n C hl [(1, .int v9), (0, .ref a_D), (2, .int y2)] dX1_readNumber_31 (Nat.le_of_ble_eq_true rfl) rfl (fun ls hl => ?_)
        refine x_aload_n C hl 1 dX1_readNumber_32 rfl ?_
        refine x_dup C dX1_readNumber_33 rfl ?_
        refine x_get C I.1 fl_X1_31 0 rfl rfl dX1_readNumber_34 ?_
        refine x_iconst C dX1_readNumber_37 ic_1 ?_
        refine x_iadd C dX1_readNumber_38 ?_
        refine lv_topi (fun v10 ev10 => ?_)
        have hw := hw v10 ev10
        refine x_put C I fl_X1_31 tyX1 tyX1_ok nmX1 rfl 0 (cs_X1_readNumber G a_D a_D_rule a_D_bytes a_D_bytes_items a_D_rule_signs a_D_rule_numbers a_D_rule_pile D_firstName v10 D_bytes_size D_bytes_items w_D_rule_size w_D_rule_signs w_D_rule_numbers) rfl rfl rfl (Nat.le_of_ble_eq_true rfl) rfl dX1_readNumber_39 (fun Hx lx I => ?_)
        refine x_iinc C hl 2 [(2, .int (y2 + (1 : Int32))), (1, .int v9), (0, .ref a_D)] (y2 + (1 : Int32)) dX1_readNumber_42 rfl (congrArg _ ic_1) (Nat.le_of_ble_eq_true rfl) rfl (fun ls hl => ?_)
        refine x_goto C 4 dX1_readNumber_45 (by decide) ?_
        exact ih v9 (y2 + (1 : Int32)) v10 w_D_rule_size w_D_rule_signs w_D_rule_numbers Hx lx ls hw I (lv_sub hl [2, 1, 0] rfl)
def wp_X1_readNumber (D_place : Int32) (D_bytes_size : Int32) (D_bytes_items : Nat → Int32) (D_rule_size : Int32) (D_rule_signs : Nat → Int32) (D_rule_numbers : Nat → Int32) (Q : Int32 → Int32 → Int32 → (Nat → Int32) → (Nat → Int32) → Prop) : Prop := (∃ n, lb_X1_readNumber_4 D_bytes_size D_bytes_items Q n (0 : Int32) (0 : Int32) D_place D_rule_size D_rule_signs D_rule_numbers)
set_option maxHeartbeats 4000000 in
set_option maxRecDepth 100000 in
theorem wk_X1_readNumber (l : Launch) (G : Gt) (a_D : Nat) (a_D_rule : Nat) (a_D_bytes : Nat) (a_D_bytes_items : Nat) (a_D_rule_signs : Nat) (a_D_rule_numbers : Nat) (a_D_rule_pile : Nat) (sz : Nat) (D_firstName : Int32) (D_place : Int32) (D_bytes_size : Int32) (D_bytes_items : Nat → Int32) (D_rule_size : Int32) (D_rule_signs : Nat → Int32) (D_rule_numbers : Nat → Int32) (Q : Int32 → Int32 → Int32 → (Nat → Int32) → (Nat → Int32) → Prop) (hw : wp_X1_readNumber D_place D_bytes_size D_bytes_items D_rule_size D_rule_signs D_rule_numbers Q) : Met l yX1_readNumber (wc yX1_readNumber cX1_readNumber 3 (some .boolean)) rm_X1_readNumber (va_Pc [.ref a_D] (PB G (cs_X1_readNumber G a_D a_D_rule a_D_bytes a_D_bytes_items a_D_rule_signs a_D_rule_numbers a_D_rule_pile D_firstName D_place D_bytes_size D_bytes_items D_rule_size D_rule_signs D_rule_numbers) sz)) (qc_X1_readNumber G a_D a_D_rule a_D_bytes a_D_bytes_items a_D_rule_signs a_D_rule_numbers a_D_rule_pile D_firstName D_bytes_size D_bytes_items (va_A (cs_X1_readNumber G a_D a_D_rule a_D_bytes a_D_bytes_items a_D_rule_signs a_D_rule_numbers a_D_rule_pile D_firstName D_place D_bytes_size D_bytes_items D_rule_size D_rule_signs D_rule_numbers) sz) Q) 0 0 (va_A (cs_X1_readNumber G a_D a_D_rule a_D_bytes a_D_bytes_items a_D_rule_signs a_D_rule_numbers a_D_rule_pile D_firstName D_place D_bytes_size D_bytes_items D_rule_size D_rule_signs D_rule_numbers) sz) := by
  refine x_start pn_X1 (Nat.le_of_ble_eq_true rfl) (fun p e s m below meth c ls C hn hl hB => ?_)
  have I := iv_start hB
  generalize va_A (cs_X1_readNumber G a_D a_D_rule a_D_bytes a_D_bytes_items a_D_rule_signs a_D_rule_numbers a_D_rule_pile D_firstName D_place D_bytes_size D_bytes_items D_rule_size D_rule_signs D_rule_numbers) sz = A at I ⊢
  have C : Cx p s m [.ref a_D].toArray meth c cX1_readNumber 3 RX1 (some .boolean) := C
  have hl : lv_has ls 3 [(0, .ref a_D)] := hl
  refine x_iconst C dX1_readNumber_0 ic_0 ?_
  refine x_istore_n C hl [(1, .int (0 : Int32)), (0, .ref a_D)] dX1_readNumber_1 (Nat.le_of_ble_eq_true rfl) rfl (fun ls hl => ?_)
  refine x_iconst C dX1_readNumber_2 ic_0 ?_
  refine x_istore_n C hl [(2, .int (0 : Int32)), (1, .int (0 : Int32)), (0, .ref a_D)] dX1_readNumber_3 (Nat.le_of_ble_eq_true rfl) rfl (fun ls hl => ?_)
  obtain ⟨n, hw⟩ := hw
  exact lk_X1_readNumber_4 G a_D a_D_rule a_D_bytes a_D_bytes_items a_D_rule_signs a_D_rule_numbers a_D_rule_pile C D_bytes_size D_bytes_items D_firstName Q n (0 : Int32) (0 : Int32) D_place D_rule_size D_rule_signs D_rule_numbers s.heap [] ls hw I (lv_sub hl [2, 1, 0] rfl)
