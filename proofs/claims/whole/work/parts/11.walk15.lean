/-! X8_trace -/
abbrev rm_X8_trace : Room := { frames := 1, cells := 0, slots := 0, locals := 22 }
abbrev cs_X8_trace (G : Gt) (a_M : Nat) (a_M_now : Nat) (a_M_kept : Nat) (a_M_aside : Nat) (a_M_errors : Nat) (a_M_meetsFound : Nat) (a_M_deedsFound : Nat) (a_M_ahead : Nat) (a_M_NAMED : Nat) (a_M_code : Nat) (a_M_named : Nat) (a_M_pile : Nat) (a_M_often : Nat) (a_M_trace : Nat) (a_M_widths : Nat) (a_M_sizes : Nat) (a_M_numbers : Nat) (a_M_carried : Nat) (M_images : Int32) (M_at : Int32) (M_open : Int32) (M_use : Int32) (M_isWrong : Int32) (M_coded : Int32) (M_traced : Int32) (M_kind : Int32) (M_number : Int32) (M_told : Int32) (M_trace : Nat → Int32) (M_errors : Nat → Int32) : va_W := [(a_M, .inr (8, [.ref a_M_now, .ref a_M_kept, .ref a_M_aside, .int M_images, .ref a_M_errors, .ref a_M_meetsFound, .ref a_M_deedsFound, .ref a_M_ahead, .ref a_M_NAMED, .int M_at, .int M_open, .int M_use, .int M_isWrong, .ref a_M_code, .int M_coded, .ref a_M_named, .ref a_M_pile, .ref a_M_often, .ref a_M_trace, .int M_traced, .int M_kind, .int M_number, .int M_told, .ref a_M_widths, .ref a_M_sizes, .ref a_M_numbers, .ref a_M_carried])), (a_M_trace, .inl (cI G, 40, .inl M_trace)), (a_M_errors, .inl (cI G, 6, .inl M_errors))]
abbrev qc_X8_trace (G : Gt) (a_M : Nat) (a_M_now : Nat) (a_M_kept : Nat) (a_M_aside : Nat) (a_M_errors : Nat) (a_M_meetsFound : Nat) (a_M_deedsFound : Nat) (a_M_ahead : Nat) (a_M_NAMED : Nat) (a_M_code : Nat) (a_M_named : Nat) (a_M_pile : Nat) (a_M_often : Nat) (a_M_trace : Nat) (a_M_widths : Nat) (a_M_sizes : Nat) (a_M_numbers : Nat) (a_M_carried : Nat) (M_images : Int32) (M_at : Int32) (M_open : Int32) (M_use : Int32) (M_isWrong : Int32) (M_coded : Int32) (M_traced : Int32) (M_kind : Int32) (M_number : Int32) (M_told : Int32) (M_trace : Nat → Int32) (A : Nat → Prop) (Q : Int32 → (Nat → Int32) → Prop) : Array Value → State → Outcome → State → Prop := Qi1 G A (fun r (u : (Nat → Int32)) => Q r u) (fun u => cs_X8_trace G a_M a_M_now a_M_kept a_M_aside a_M_errors a_M_meetsFound a_M_deedsFound a_M_ahead a_M_NAMED a_M_code a_M_named a_M_pile a_M_often a_M_trace a_M_widths a_M_sizes a_M_numbers a_M_carried M_images M_at M_open M_use M_isWrong M_coded M_traced M_kind M_number M_told M_trace u)
def wp_X8_trace (x1 : Int32) (M_traced : Int32) (M_trace : Nat → Int32) (M_errors : Nat → Int32) (Q : Int32 → (Nat → Int32) → Prop) : Prop := (wp_X8_within x1 (0 : Int32) (M_traced - (1 : Int32)) (fun r1 => ((r1 = (0) → (wp_X8_finding (-1000000002 : Int32) M_errors (fun r4 o3 => (Q r4 o3)))) ∧ (¬ r1 = (0) → (vp_in x1 40 ∧ (Q (M_trace (x1).toNatClampNeg) M_errors))))))
set_option maxHeartbeats 4000000 in
set_option maxRecDepth 100000 in
theorem wk_X8_trace (l : Launch) (G : Gt) (a_M : Nat) (a_M_now : Nat) (a_M_kept : Nat) (a_M_aside : Nat) (a_M_errors : Nat) (a_M_meetsFound : Nat) (a_M_deedsFound : Nat) (a_M_ahead : Nat) (a_M_NAMED : Nat) (a_M_code : Nat) (a_M_named : Nat) (a_M_pile : Nat) (a_M_often : Nat) (a_M_trace : Nat) (a_M_widths : Nat) (a_M_sizes : Nat) (a_M_numbers : Nat) (a_M_carried : Nat) (sz : Nat) (M_images : Int32) (M_at : Int32) (M_open : Int32) (M_use : Int32) (M_isWrong : Int32) (M_coded : Int32) (M_traced : Int32) (M_kind : Int32) (M_number : Int32) (M_told : Int32) (M_trace : Nat → Int32) (M_errors : Nat → Int32) (x1 : Int32) (Q : Int32 → (Nat → Int32) → Prop) (hw : wp_X8_trace x1 M_traced M_trace M_errors Q) : Met l yX8_trace (wc yX8_trace cX8_trace 2 (some .int)) rm_X8_trace (va_Pc [.ref a_M, .int x1] (PB G (cs_X8_trace G a_M a_M_now a_M_kept a_M_aside a_M_errors a_M_meetsFound a_M_deedsFound a_M_ahead a_M_NAMED a_M_code a_M_named a_M_pile a_M_often a_M_trace a_M_widths a_M_sizes a_M_numbers a_M_carried M_images M_at M_open M_use M_isWrong M_coded M_traced M_kind M_number M_told M_trace M_errors) sz)) (qc_X8_trace G a_M a_M_now a_M_kept a_M_aside a_M_errors a_M_meetsFound a_M_deedsFound a_M_ahead a_M_NAMED a_M_code a_M_named a_M_pile a_M_often a_M_trace a_M_widths a_M_sizes a_M_numbers a_M_carried M_images M_at M_open M_use M_isWrong M_coded M_traced M_kind M_number M_told M_trace (va_A (cs_X8_trace G a_M a_M_now a_M_kept a_M_aside a_M_errors a_M_meetsFound a_M_deedsFound a_M_ahead a_M_NAMED a_M_code a_M_named a_M_pile a_M_often a_M_trace a_M_widths a_M_sizes a_M_numbers a_M_carried M_images M_at M_open M_use M_isWrong M_coded M_traced M_kind M_number M_told M_trace M_errors) sz) Q) 0 0 (va_A (cs_X8_trace G a_M a_M_now a_M_kept a_M_aside a_M_errors a_M_meetsFound a_M_deedsFound a_M_ahead a_M_NAMED a_M_code a_M_named a_M_pile a_M_often a_M_trace a_M_widths a_M_sizes a_M_numbers a_M_carried M_images M_at M_open M_use M_isWrong M_coded M_traced M_kind M_number M_told M_trace M_errors) sz) := by
  refine x_start pn_X8 (Nat.le_of_ble_eq_true rfl) (fun p e s m below meth c ls C hn hl hB => ?_)
  have I := iv_start hB
  generalize va_A (cs_X8_trace G a_M a_M_now a_M_kept a_M_aside a_M_errors a_M_meetsFound a_M_deedsFound a_M_ahead a_M_NAMED a_M_code a_M_named a_M_pile a_M_often a_M_trace a_M_widths a_M_sizes a_M_numbers a_M_carried M_images M_at M_open M_use M_isWrong M_coded M_traced M_kind M_number M_told M_trace M_errors) sz = A at I ⊢
  have C : Cx p s m [.ref a_M, .int x1].toArray meth c cX8_trace 2 RX8 (some .int) := C
  have hl : lv_has ls 2 [(0, .ref a_M), (1, .int x1)] := hl
  refine x_iload_n C hl 1 dX8_trace_0 rfl ?_
  refine x_iconst C dX8_trace_1 ic_0 ?_
  refine x_aload_n C hl 0 dX8_trace_2 rfl ?_
  refine x_get C I.1 fl_X8_272 0 rfl rfl dX8_trace_3 ?_
  refine x_iconst C dX8_trace_6 ic_1 ?_
  refine x_isub C dX8_trace_7 ?_
  refine x_ro (run_S (As := [.int x1, .int (0 : Int32), .int (M_traced - (1 : Int32))]) (rest := []) C hl (wk_X8_within l G x1 (0 : Int32) (M_traced - (1 : Int32)) _ hw) gm_X8_82 ⟨⟨rfl, rfl⟩, cn_X8_within, ⟨(Nat.le_of_ble_eq_true rfl), (Nat.le_of_ble_eq_true rfl)⟩⟩ (pr_blind _ _ _) (pr_of I.1 [] rfl) rfl rfl (Nat.le_of_ble_eq_true rfl) ⟨Nat.le_of_ble_eq_true rfl, Nat.le_of_ble_eq_true rfl⟩ dX8_trace_8) (fun r1 hw => ?_)
  refine x_if_eq C 23 dX8_trace_11 (by decide) (fun c2 => ?_) (fun c2 => ?_)
  · have hw := And.left hw c2
    refine x_aload_n C hl 0 dX8_trace_23 rfl ?_
    refine x_ldc C wd_1209 dX8_trace_24 ?_
    refine x_mui (wk := cs_X8_finding G a_M a_M_now a_M_kept a_M_aside a_M_errors a_M_meetsFound a_M_deedsFound a_M_ahead a_M_NAMED a_M_code a_M_named a_M_pile a_M_often a_M_trace a_M_widths a_M_sizes a_M_numbers a_M_carried M_images M_at M_open M_use M_isWrong M_coded M_traced M_kind M_number M_told M_errors) (wr := [(a_M_trace, .inl (cI G, 40, .inl M_trace))]) (isC := [0, 2]) (isR := [1]) I ⟨⟨rfl, rfl⟩, rfl, rfl, rfl⟩ [1, 0, 2] (fun u => cs_X8_trace G a_M a_M_now a_M_kept a_M_aside a_M_errors a_M_meetsFound a_M_deedsFound a_M_ahead a_M_NAMED a_M_code a_M_named a_M_pile a_M_often a_M_trace a_M_widths a_M_sizes a_M_numbers a_M_carried M_images M_at M_open M_use M_isWrong M_coded M_traced M_kind M_number M_told M_trace u) (fun _ => rfl) rfl (run_V (As := [.int (-1000000002 : Int32)]) (rest := []) C hl (wk_X8_finding l G a_M a_M_now a_M_kept a_M_aside a_M_errors a_M_meetsFound a_M_deedsFound a_M_ahead a_M_NAMED a_M_code a_M_named a_M_pile a_M_often a_M_trace a_M_widths a_M_sizes a_M_numbers a_M_carried s.heap.size M_images M_at M_open M_use M_isWrong M_coded M_traced M_kind M_number M_told M_errors (-1000000002 : Int32) _ hw) gm_X8_87 ⟨⟨rfl, rfl⟩, cn_X8_finding, ⟨(Nat.le_of_ble_eq_true rfl), (Nat.le_of_ble_eq_true rfl)⟩⟩ (pb_blind _ _ _ _) (x_recv I.1 0 rfl rfl) (pb_of I [0, 2] rfl rfl) rfl rfl (Nat.le_of_ble_eq_true rfl) ⟨Nat.le_of_ble_eq_true rfl, Nat.le_of_ble_eq_true rfl⟩ dX8_trace_26) (fun r4 u Hx lx hw I => ?_)
    obtain ⟨o3, eo3⟩ : ∃ z, z = u := ⟨_, rfl⟩
    subst eo3
    have I : Iv G A s (cs_X8_trace G a_M a_M_now a_M_kept a_M_aside a_M_errors a_M_meetsFound a_M_deedsFound a_M_ahead a_M_NAMED a_M_code a_M_named a_M_pile a_M_often a_M_trace a_M_widths a_M_sizes a_M_numbers a_M_carried M_images M_at M_open M_use M_isWrong M_coded M_traced M_kind M_number M_told M_trace o3) Hx lx := I
    exact x_ret1 C I o3 rfl hw dX8_trace_29
  · have hw := And.right hw c2
    refine x_aload_n C hl 0 dX8_trace_14 rfl ?_
    refine x_get C I.1 fl_X8_53 0 rfl rfl dX8_trace_15 ?_
    refine x_iload_n C hl 1 dX8_trace_18 rfl ?_
    refine x_iald C I.1 1 rfl (And.left hw) dX8_trace_19 ?_
    have hw := And.right hw
    refine x_goto C 29 dX8_trace_20 (by decide) ?_
    exact x_ret1 C I M_errors rfl hw dX8_trace_29
/-! X8_isSheet -/
abbrev rm_X8_isSheet : Room := { frames := 1, cells := 0, slots := 0, locals := 22 }
abbrev cs_X8_isSheet (G : Gt) : va_W := []
def wp_X8_isSheet (x0 : Int32) (Q : Int32 → Prop) : Prop := (wp_X8_within x0 (0 : Int32) (3 : Int32) (fun r1 => ((r1 &&& 1 = r1) ∧ (Q r1))))
set_option maxHeartbeats 4000000 in
set_option maxRecDepth 100000 in
theorem wk_X8_isSheet (l : Launch) (G : Gt) (x0 : Int32) (Q : Int32 → Prop) (hw : wp_X8_isSheet x0 Q) : Met l yX8_isSheet (wc yX8_isSheet cX8_isSheet 1 (some .boolean)) rm_X8_isSheet (va_Pc [.int x0] (PR G (cs_X8_isSheet G ))) (vp_Si Q) 0 0 (fun _ => False) := by
  refine x_start pn_X8 (Nat.le_of_ble_eq_true rfl) (fun p e s m below meth c ls C hn hl hB => ?_)
  have I := rd_start hB
  have C : Cx p s m [.int x0].toArray meth c cX8_isSheet 1 RX8 (some .boolean) := C
  have hl : lv_has ls 1 [(0, .int x0)] := hl
  refine x_iload_n C hl 0 dX8_isSheet_0 rfl ?_
  refine x_iconst C dX8_isSheet_1 ic_0 ?_
  refine x_iconst C dX8_isSheet_2 ic_3 ?_
  refine x_ro (run_S (As := [.int x0, .int (0 : Int32), .int (3 : Int32)]) (rest := []) C hl (wk_X8_within l G x0 (0 : Int32) (3 : Int32) _ hw) gm_X8_82 ⟨⟨rfl, rfl⟩, cn_X8_within, ⟨(Nat.le_of_ble_eq_true rfl), (Nat.le_of_ble_eq_true rfl)⟩⟩ (pr_blind _ _ _) (pr_of I [] rfl) rfl rfl (Nat.le_of_ble_eq_true rfl) ⟨Nat.le_of_ble_eq_true rfl, Nat.le_of_ble_eq_true rfl⟩ dX8_isSheet_3) (fun r1 hw => ?_)
  exact x_ret0z C (And.left hw) (And.right hw) dX8_isSheet_6
/-! X8_sheet -/
abbrev rm_X8_sheet : Room := { frames := 2, cells := 0, slots := 0, locals := 42 }
abbrev cs_X8_sheet (G : Gt) (a_M : Nat) (a_M_now : Nat) (a_M_kept : Nat) (a_M_aside : Nat) (a_M_errors : Nat) (a_M_meetsFound : Nat) (a_M_deedsFound : Nat) (a_M_ahead : Nat) (a_M_NAMED : Nat) (a_M_code : Nat) (a_M_named : Nat) (a_M_pile : Nat) (a_M_often : Nat) (a_M_trace : Nat) (a_M_widths : Nat) (a_M_sizes : Nat) (a_M_numbers : Nat) (a_M_carried : Nat) (M_images : Int32) (M_at : Int32) (M_open : Int32) (M_use : Int32) (M_isWrong : Int32) (M_coded : Int32) (M_traced : Int32) (M_kind : Int32) (M_number : Int32) (M_told : Int32) (M_errors : Nat → Int32) (M_widths : Nat → Int32) (M_sizes : Nat → Int32) (M_numbers : Nat → Int32) : va_W := [(a_M, .inr (8, [.ref a_M_now, .ref a_M_kept, .ref a_M_aside, .int M_images, .ref a_M_errors, .ref a_M_meetsFound, .ref a_M_deedsFound, .ref a_M_ahead, .ref a_M_NAMED, .int M_at, .int M_open, .int M_use, .int M_isWrong, .ref a_M_code, .int M_coded, .ref a_M_named, .ref a_M_pile, .ref a_M_often, .ref a_M_trace, .int M_traced, .int M_kind, .int M_number, .int M_told, .ref a_M_widths, .ref a_M_sizes, .ref a_M_numbers, .ref a_M_carried])), (a_M_errors, .inl (cI G, 6, .inl M_errors)), (a_M_widths, .inl (cI G, 4, .inl M_widths)), (a_M_sizes, .inl (cI G, 4, .inl M_sizes)), (a_M_numbers, .inl (cI G, 160, .inl M_numbers))]
abbrev qc_X8_sheet (G : Gt) (a_M : Nat) (a_M_now : Nat) (a_M_kept : Nat) (a_M_aside : Nat) (a_M_errors : Nat) (a_M_meetsFound : Nat) (a_M_deedsFound : Nat) (a_M_ahead : Nat) (a_M_NAMED : Nat) (a_M_code : Nat) (a_M_named : Nat) (a_M_pile : Nat) (a_M_often : Nat) (a_M_trace : Nat) (a_M_widths : Nat) (a_M_sizes : Nat) (a_M_numbers : Nat) (a_M_carried : Nat) (M_images : Int32) (M_at : Int32) (M_open : Int32) (M_use : Int32) (M_isWrong : Int32) (M_coded : Int32) (M_traced : Int32) (M_kind : Int32) (M_number : Int32) (M_told : Int32) (A : Nat → Prop) (Q : Int32 → (Nat → Int32) → (Nat → Int32) → (Nat → Int32) → (Nat → Int32) → Prop) : Array Value → State → Outcome → State → Prop := Qi1 G A (fun r (u : (Nat → Int32) × (Nat → Int32) × (Nat → Int32) × (Nat → Int32)) => Q r u.1 u.2.1 u.2.2.1 u.2.2.2) (fun u => cs_X8_sheet G a_M a_M_now a_M_kept a_M_aside a_M_errors a_M_meetsFound a_M_deedsFound a_M_ahead a_M_NAMED a_M_code a_M_named a_M_pile a_M_often a_M_trace a_M_widths a_M_sizes a_M_numbers a_M_carried M_images M_at M_open M_use M_isWrong M_coded M_traced M_kind M_number M_told u.1 u.2.1 u.2.2.1 u.2.2.2)
def lb_X8_sheet_29 (x1 : Int32) (x2 : Int32) (x3 : Int32) (Q : Int32 → (Nat → Int32) → (Nat → Int32) → (Nat → Int32) → (Nat → Int32) → Prop) (w_M_errors : Nat → Int32) (w_M_widths : Nat → Int32) (w_M_sizes : Nat → Int32) (w_M_numbers : Nat → Int32) : Prop := (wp_X8_finding (-1000000001 : Int32) w_M_errors (fun r4 o3 => (Q r4 o3 w_M_widths w_M_sizes w_M_numbers)))
set_option maxHeartbeats 4000000 in
set_option maxRecDepth 100000 in
theorem lk_X8_sheet_29 {p : Program} {l : Launch} {e : Env} {s : State} {m : MethodId} {args : Array Value} {below : List Frame} {meth : Method} {c : Code} {A : Nat → Prop} (G : Gt) (a_M : Nat) (a_M_now : Nat) (a_M_kept : Nat) (a_M_aside : Nat) (a_M_errors : Nat) (a_M_meetsFound : Nat) (a_M_deedsFound : Nat) (a_M_ahead : Nat) (a_M_NAMED : Nat) (a_M_code : Nat) (a_M_named : Nat) (a_M_pile : Nat) (a_M_often : Nat) (a_M_trace : Nat) (a_M_widths : Nat) (a_M_sizes : Nat) (a_M_numbers : Nat) (a_M_carried : Nat) (C : Cx p s m args meth c cX8_sheet 5 RX8 (some .int)) (x1 : Int32) (x2 : Int32) (x3 : Int32) (M_images : Int32) (M_at : Int32) (M_open : Int32) (M_use : Int32) (M_isWrong : Int32) (M_coded : Int32) (M_traced : Int32) (M_kind : Int32) (M_number : Int32) (M_told : Int32) (Q : Int32 → (Nat → Int32) → (Nat → Int32) → (Nat → Int32) → (Nat → Int32) → Prop) : ∀ (w_M_errors : Nat → Int32) (w_M_widths : Nat → Int32) (w_M_sizes : Nat → Int32) (w_M_numbers : Nat → Int32) (Hx : Heap) (lx : List Loc) (ls : Array Slot), lb_X8_sheet_29 x1 x2 x3 Q w_M_errors w_M_widths w_M_sizes w_M_numbers → Iv G A s (cs_X8_sheet G a_M a_M_now a_M_kept a_M_aside a_M_errors a_M_meetsFound a_M_deedsFound a_M_ahead a_M_NAMED a_M_code a_M_named a_M_pile a_M_often a_M_trace a_M_widths a_M_sizes a_M_numbers a_M_carried M_images M_at M_open M_use M_isWrong M_coded M_traced M_kind M_number M_told w_M_errors w_M_widths w_M_sizes w_M_numbers) Hx lx → lv_has ls 5 [(0, .ref a_M)] → W p l e rm_X8_sheet s m args below meth c Hx lx 0 0 (MQ below (qc_X8_sheet G a_M a_M_now a_M_kept a_M_aside a_M_errors a_M_meetsFound a_M_deedsFound a_M_ahead a_M_NAMED a_M_code a_M_named a_M_pile a_M_often a_M_trace a_M_widths a_M_sizes a_M_numbers a_M_carried M_images M_at M_open M_use M_isWrong M_coded M_traced M_kind M_number M_told A Q) args s 0 0 A) (F0 m 29 ls []) := by
  intro w_M_errors w_M_widths w_M_sizes w_M_numbers Hx lx  ls hw I hl
  refine x_aload_n C hl 0 dX8_sheet_29 rfl ?_
  refine x_ldc C wd_931 dX8_sheet_30 ?_
  refine x_mui (wk := cs_X8_finding G a_M a_M_now a_M_kept a_M_aside a_M_errors a_M_meetsFound a_M_deedsFound a_M_ahead a_M_NAMED a_M_code a_M_named a_M_pile a_M_often a_M_trace a_M_widths a_M_sizes a_M_numbers a_M_carried M_images M_at M_open M_use M_isWrong M_coded M_traced M_kind M_number M_told w_M_errors) (wr := [(a_M_widths, .inl (cI G, 4, .inl w_M_widths)), (a_M_sizes, .inl (cI G, 4, .inl w_M_sizes)), (a_M_numbers, .inl (cI G, 160, .inl w_M_numbers))]) (isC := [0, 1]) (isR := [2, 3, 4]) I ⟨⟨rfl, rfl⟩, rfl, rfl, rfl⟩ [3, 4, 0, 1, 2] (fun u => cs_X8_sheet G a_M a_M_now a_M_kept a_M_aside a_M_errors a_M_meetsFound a_M_deedsFound a_M_ahead a_M_NAMED a_M_code a_M_named a_M_pile a_M_often a_M_trace a_M_widths a_M_sizes a_M_numbers a_M_carried M_images M_at M_open M_use M_isWrong M_coded M_traced M_kind M_number M_told u w_M_widths w_M_sizes w_M_numbers) (fun _ => rfl) rfl (run_V (As := [.int (-1000000001 : Int32)]) (rest := []) C hl (wk_X8_finding l G a_M a_M_now a_M_kept a_M_aside a_M_errors a_M_meetsFound a_M_deedsFound a_M_ahead a_M_NAMED a_M_code a_M_named a_M_pile a_M_often a_M_trace a_M_widths a_M_sizes a_M_numbers a_M_carried Hx.size M_images M_at M_open M_use M_isWrong M_coded M_traced M_kind M_number M_told w_M_errors (-1000000001 : Int32) _ hw) gm_X8_87 ⟨⟨rfl, rfl⟩, cn_X8_finding, ⟨(Nat.le_of_ble_eq_true rfl), (Nat.le_of_ble_eq_true rfl)⟩⟩ (pb_blind _ _ _ _) (x_recv I.1 0 rfl rfl) (pb_of I [0, 1] rfl rfl) rfl rfl (Nat.le_of_ble_eq_true rfl) ⟨Nat.le_of_ble_eq_true rfl, Nat.le_of_ble_eq_true rfl⟩ dX8_sheet_32) (fun r4 u Hx lx hw I => ?_)
  obtain ⟨o3, eo3⟩ : ∃ z, z = u := ⟨_, rfl⟩
  subst eo3
  have I : Iv G A s (cs_X8_sheet G a_M a_M_now a_M_kept a_M_aside a_M_errors a_M_meetsFound a_M_deedsFound a_M_ahead a_M_NAMED a_M_code a_M_named a_M_pile a_M_often a_M_trace a_M_widths a_M_sizes a_M_numbers a_M_carried M_images M_at M_open M_use M_isWrong M_coded M_traced M_kind M_number M_told o3 w_M_widths w_M_sizes w_M_numbers) Hx lx := I
  exact x_ret1 C I (o3, w_M_widths, w_M_sizes, w_M_numbers) rfl hw dX8_sheet_35
def lb_X8_sheet_93 (x1 : Int32) (x2 : Int32) (x3 : Int32) (Q : Int32 → (Nat → Int32) → (Nat → Int32) → (Nat → Int32) → (Nat → Int32) → Prop) : Nat → Int32 → (Nat → Int32) → (Nat → Int32) → (Nat → Int32) → (Nat → Int32) → Prop
  | 0 => fun _ _ _ _ _ => False
  | k + 1 => fun (y4 : Int32) (w_M_errors : Nat → Int32) (w_M_widths : Nat → Int32) (w_M_sizes : Nat → Int32) (w_M_numbers : Nat → Int32) => (((40 : Int32) ≤ y4 → (Q (1 : Int32) w_M_errors w_M_widths w_M_sizes w_M_numbers)) ∧ (¬ (40 : Int32) ≤ y4 → (vp_in (((40 : Int32) * x1) + y4) 160 ∧ (lb_X8_sheet_93 x1 x2 x3 Q k (y4 + (1 : Int32)) w_M_errors w_M_widths w_M_sizes (upd w_M_numbers ((((40 : Int32) * x1) + y4)).toNatClampNeg (0 : Int32))))))
set_option maxHeartbeats 4000000 in
set_option maxRecDepth 100000 in
theorem lk_X8_sheet_93 {p : Program} {l : Launch} {e : Env} {s : State} {m : MethodId} {args : Array Value} {below : List Frame} {meth : Method} {c : Code} {A : Nat → Prop} (G : Gt) (a_M : Nat) (a_M_now : Nat) (a_M_kept : Nat) (a_M_aside : Nat) (a_M_errors : Nat) (a_M_meetsFound : Nat) (a_M_deedsFound : Nat) (a_M_ahead : Nat) (a_M_NAMED : Nat) (a_M_code : Nat) (a_M_named : Nat) (a_M_pile : Nat) (a_M_often : Nat) (a_M_trace : Nat) (a_M_widths : Nat) (a_M_sizes : Nat) (a_M_numbers : Nat) (a_M_carried : Nat) (C : Cx p s m args meth c cX8_sheet 5 RX8 (some .int)) (x1 : Int32) (x2 : Int32) (x3 : Int32) (M_images : Int32) (M_at : Int32) (M_open : Int32) (M_use : Int32) (M_isWrong : Int32) (M_coded : Int32) (M_traced : Int32) (M_kind : Int32) (M_number : Int32) (M_told : Int32) (Q : Int32 → (Nat → Int32) → (Nat → Int32) → (Nat → Int32) → (Nat → Int32) → Prop) : ∀ (n : Nat) (y4 : Int32) (w_M_errors : Nat → Int32) (w_M_widths : Nat → Int32) (w_M_sizes : Nat → Int32) (w_M_numbers : Nat → Int32) (Hx : Heap) (lx : List Loc) (ls : Array Slot), lb_X8_sheet_93 x1 x2 x3 Q n y4 w_M_errors w_M_widths w_M_sizes w_M_numbers → Iv G A s (cs_X8_sheet G a_M a_M_now a_M_kept a_M_aside a_M_errors a_M_meetsFound a_M_deedsFound a_M_ahead a_M_NAMED a_M_code a_M_named a_M_pile a_M_often a_M_trace a_M_widths a_M_sizes a_M_numbers a_M_carried M_images M_at M_open M_use M_isWrong M_coded M_traced M_kind M_number M_told w_M_errors w_M_widths w_M_sizes w_M_numbers) Hx lx → lv_has ls 5 [(0, .ref a_M), (1, .int x1), (4, .int y4)] → W p l e rm_X8_sheet s m args below meth c Hx lx 0 0 (MQ below (qc_X8_sheet G a_M a_M_now a_M_kept a_M_aside a_M_errors a_M_meetsFound a_M_deedsFound a_M_ahead a_M_NAMED a_M_code a_M_named a_M_pile a_M_often a_M_trace a_M_widths a_M_sizes a_M_numbers a_M_carried M_images M_at M_open M_use M_isWrong M_coded M_traced M_kind M_number M_told A Q) args s 0 0 A) (F0 m 93 ls []) := by
  intro n
  induction n with
  | zero => intro y4 w_M_errors w_M_widths w_M_sizes w_M_numbers Hx lx  ls hw I hl; exact False.elim hw
  | succ k ih =>
    intro y4 w_M_errors w_M_widths w_M_sizes w_M_numbers Hx lx  ls hw I hl
    refine x_iload C hl 2 dX8_sheet_93 rfl ?_
    refine x_bipush C dX8_sheet_95 bp_40 ?_
    refine x_icmp_ge C 119 dX8_sheet_97 (by decide) (fun c9 => ?_) (fun c9 => ?_)
    · have hw := And.left hw c9
      refine x_iconst C dX8_sheet_119 ic_1 ?_
      exact x_ret1 C I (w_M_errors, w_M_widths, w_M_sizes, w_M_numbers) rfl hw dX8_sheet_120
    · have hw := And.right hw c9
      refine x_aload_n C hl 0 dX8_sheet_100 rfl ?_
      refine x_get C I.1 fl_X8_62 0 rfl rfl dX8_sheet_101 ?_
      refine x_bipush C dX8_sheet_104 bp_40 ?_
      refine x_iload_n C hl 1 dX8_sheet_106 rfl ?_
      refine x_imul C dX8_sheet_107 ?_
      refine x_iload C hl 2 dX8_sheet_108 rfl ?_
      refine x_iadd C dX8_sheet_110 ?_
      refine x_iconst C dX8_sheet_111 ic_0 ?_
      refine x_iast C I 4 (cs_X8_sheet G a_M a_M_now a_M_kept a_M_aside a_M_errors a_M_meetsFound a_M_deedsFound a_M_ahead a_M_NAMED a_M_code a_M_named a_M_pile a_M_often a_M_trace a_M_widths a_M_sizes a_M_numbers a_M_carried M_images M_at M_open M_use M_isWrong M_coded M_traced M_kind M_number M_told w_M_errors w_M_widths w_M_sizes (upd w_M_numbers ((((40 : Int32) * x1) + y4)).toNatClampNeg (0 : Int32))) rfl (And.left hw) rfl dX8_sheet_112 (fun Hx lx I => ?_)
      have hw := And.right hw
      refine x_iinc C hl 2 [(4, .int (y4 + (1 : Int32))), (0, .ref a_M), (1, .int x1)] (y4 + (1 : Int32)) dX8_sheet_113 rfl (congrArg _ ic_1) (Nat.le_of_ble_eq_true rfl) rfl (fun ls hl => ?_)
      refine x_goto C 93 dX8_sheet_116 (by decide) ?_
      exact ih (y4 + (1 : Int32)) w_M_errors w_M_widths w_M_sizes (upd w_M_numbers ((((40 : Int32) * x1) + y4)).toNatClampNeg (0 : Int32)) Hx lx ls hw I (lv_sub hl [1, 2, 0] rfl)
def lb_X8_sheet_68 (x1 : Int32) (x2 : Int32) (x3 : Int32) (Q : Int32 → (Nat → Int32) → (Nat → Int32) → (Nat → Int32) → (Nat → Int32) → Prop) (w_M_errors : Nat → Int32) (w_M_widths : Nat → Int32) (w_M_sizes : Nat → Int32) (w_M_numbers : Nat → Int32) : Prop := (vp_in x1 4 ∧ ((¬ x2 = (0) → (vp_in x1 4 ∧ (∃ n, lb_X8_sheet_93 x1 x2 x3 Q n (0 : Int32) w_M_errors (upd w_M_widths (x1).toNatClampNeg x2) (upd w_M_sizes (x1).toNatClampNeg x3) w_M_numbers))) ∧ (x2 = (0) → (vp_in x1 4 ∧ (∃ n, lb_X8_sheet_93 x1 x2 x3 Q n (0 : Int32) w_M_errors (upd w_M_widths (x1).toNatClampNeg x2) (upd w_M_sizes (x1).toNatClampNeg (0 : Int32)) w_M_numbers)))))
set_option maxHeartbeats 4000000 in
set_option maxRecDepth 100000 in
theorem lk_X8_sheet_68 {p : Program} {l : Launch} {e : Env} {s : State} {m : MethodId} {args : Array Value} {below : List Frame} {meth : Method} {c : Code} {A : Nat → Prop} (G : Gt) (a_M : Nat) (a_M_now : Nat) (a_M_kept : Nat) (a_M_aside : Nat) (a_M_errors : Nat) (a_M_meetsFound : Nat) (a_M_deedsFound : Nat) (a_M_ahead : Nat) (a_M_NAMED : Nat) (a_M_code : Nat) (a_M_named : Nat) (a_M_pile : Nat) (a_M_often : Nat) (a_M_trace : Nat) (a_M_widths : Nat) (a_M_sizes : Nat) (a_M_numbers : Nat) (a_M_carried : Nat) (C : Cx p s m args meth c cX8_sheet 5 RX8 (some .int)) (x1 : Int32) (x2 : Int32) (x3 : Int32) (M_images : Int32) (M_at : Int32) (M_open : Int32) (M_use : Int32) (M_isWrong : Int32) (M_coded : Int32) (M_traced : Int32) (M_kind : Int32) (M_number : Int32) (M_told : Int32) (Q : Int32 → (Nat → Int32) → (Nat → Int32) → (Nat → Int32) → (Nat → Int32) → Prop) : ∀ (w_M_errors : Nat → Int32) (w_M_widths : Nat → Int32) (w_M_sizes : Nat → Int32) (w_M_numbers : Nat → Int32) (Hx : Heap) (lx : List Loc) (ls : Array Slot), lb_X8_sheet_68 x1 x2 x3 Q w_M_errors w_M_widths w_M_sizes w_M_numbers → Iv G A s (cs_X8_sheet G a_M a_M_now a_M_kept a_M_aside a_M_errors a_M_meetsFound a_M_deedsFound a_M_ahead a_M_NAMED a_M_code a_M_named a_M_pile a_M_often a_M_trace a_M_widths a_M_sizes a_M_numbers a_M_carried M_images M_at M_open M_use M_isWrong M_coded M_traced M_kind M_number M_told w_M_errors w_M_widths w_M_sizes w_M_numbers) Hx lx → lv_has ls 5 [(0, .ref a_M), (1, .int x1), (2, .int x2), (3, .int x3)] → W p l e rm_X8_sheet s m args below meth c Hx lx 0 0 (MQ below (qc_X8_sheet G a_M a_M_now a_M_kept a_M_aside a_M_errors a_M_meetsFound a_M_deedsFound a_M_ahead a_M_NAMED a_M_code a_M_named a_M_pile a_M_often a_M_trace a_M_widths a_M_sizes a_M_numbers a_M_carried M_images M_at M_open M_use M_isWrong M_coded M_traced M_kind M_number M_told A Q) args s 0 0 A) (F0 m 68 ls []) := by
  intro w_M_errors w_M_widths w_M_sizes w_M_numbers Hx lx  ls hw I hl
  refine x_aload_n C hl 0 dX8_sheet_68 rfl ?_
  refine x_get C I.1 fl_X8_56 0 rfl rfl dX8_sheet_69 ?_
  refine x_iload_n C hl 1 dX8_sheet_72 rfl ?_
  refine x_iload_n C hl 2 dX8_sheet_73 rfl ?_
  refine x_iast C I 2 (cs_X8_sheet G a_M a_M_now a_M_kept a_M_aside a_M_errors a_M_meetsFound a_M_deedsFound a_M_ahead a_M_NAMED a_M_code a_M_named a_M_pile a_M_often a_M_trace a_M_widths a_M_sizes a_M_numbers a_M_carried M_images M_at M_open M_use M_isWrong M_coded M_traced M_kind M_number M_told w_M_errors (upd w_M_widths (x1).toNatClampNeg x2) w_M_sizes w_M_numbers) rfl (And.left hw) rfl dX8_sheet_74 (fun Hx lx I => ?_)
  have hw := And.right hw
  refine x_aload_n C hl 0 dX8_sheet_75 rfl ?_
  refine x_get C I.1 fl_X8_59 0 rfl rfl dX8_sheet_76 ?_
  refine x_iload_n C hl 1 dX8_sheet_79 rfl ?_
  refine x_iload_n C hl 2 dX8_sheet_80 rfl ?_
  refine x_if_ne C 88 dX8_sheet_81 (by decide) (fun c8 => ?_) (fun c8 => ?_)
  · have hw := And.left hw c8
    refine x_iload_n C hl 3 dX8_sheet_88 rfl ?_
    refine x_iast C I 3 (cs_X8_sheet G a_M a_M_now a_M_kept a_M_aside a_M_errors a_M_meetsFound a_M_deedsFound a_M_ahead a_M_NAMED a_M_code a_M_named a_M_pile a_M_often a_M_trace a_M_widths a_M_sizes a_M_numbers a_M_carried M_images M_at M_open M_use M_isWrong M_coded M_traced M_kind M_number M_told w_M_errors (upd w_M_widths (x1).toNatClampNeg x2) (upd w_M_sizes (x1).toNatClampNeg x3) w_M_numbers) rfl (And.left hw) rfl dX8_sheet_89 (fun Hx lx I => ?_)
    have hw := And.right hw
    refine x_iconst C dX8_sheet_90 ic_0 ?_
    refine x_istore C hl [(4, .int (0 : Int32)), (0, .ref a_M), (1, .int x1), (2, .int x2), (3, .int x3)] dX8_sheet_91 (Nat.le_of_ble_eq_true rfl) rfl (fun ls hl => ?_)
    obtain ⟨n, hw⟩ := hw
    exact lk_X8_sheet_93 G a_M a_M_now a_M_kept a_M_aside a_M_errors a_M_meetsFound a_M_deedsFound a_M_ahead a_M_NAMED a_M_code a_M_named a_M_pile a_M_often a_M_trace a_M_widths a_M_sizes a_M_numbers a_M_carried C x1 x2 x3 M_images M_at M_open M_use M_isWrong M_coded M_traced M_kind M_number M_told Q n (0 : Int32) w_M_errors (upd w_M_widths (x1).toNatClampNeg x2) (upd w_M_sizes (x1).toNatClampNeg x3) w_M_numbers Hx lx ls hw I (lv_sub hl [1, 2, 0] rfl)
  · have hw := And.right hw c8
    refine x_iconst C dX8_sheet_84 ic_0 ?_
    refine x_goto C 89 dX8_sheet_85 (by decide) ?_
    refine x_iast C I 3 (cs_X8_sheet G a_M a_M_now a_M_kept a_M_aside a_M_errors a_M_meetsFound a_M_deedsFound a_M_ahead a_M_NAMED a_M_code a_M_named a_M_pile a_M_often a_M_trace a_M_widths a_M_sizes a_M_numbers a_M_carried M_images M_at M_open M_use M_isWrong M_coded M_traced M_kind M_number M_told w_M_errors (upd w_M_widths (x1).toNatClampNeg x2) (upd w_M_sizes (x1).toNatClampNeg (0 : Int32)) w_M_numbers) rfl (And.left hw) rfl dX8_sheet_89 (fun Hx lx I => ?_)
    have hw := And.right hw
    refine x_iconst C dX8_sheet_90 ic_0 ?_
    refine x_istore C hl [(4, .int (0 : Int32)), (0, .ref a_M), (1, .int x1), (2, .int x2), (3, .int x3)] dX8_sheet_91 (Nat.le_of_ble_eq_true rfl) rfl (fun ls hl => ?_)
    obtain ⟨n, hw⟩ := hw
    exact lk_X8_sheet_93 G a_M a_M_now a_M_kept a_M_aside a_M_errors a_M_meetsFound a_M_deedsFound a_M_ahead a_M_NAMED a_M_code a_M_named a_M_pile a_M_often a_M_trace a_M_widths a_M_sizes a_M_numbers a_M_carried C x1 x2 x3 M_images M_at M_open M_use M_isWrong M_coded M_traced M_kind M_number M_told Q n (0 : Int32) w_M_errors (upd w_M_widths (x1).toNatClampNeg x2) (upd w_M_sizes (x1).toNatClampNeg (0 : Int32)) w_M_numbers Hx lx ls hw I (lv_sub hl [1, 2, 0] rfl)
def lb_X8_sheet_51 (x1 : Int32) (x2 : Int32) (x3 : Int32) (Q : Int32 → (Nat → Int32) → (Nat → Int32) → (Nat → Int32) → (Nat → Int32) → Prop) (w_M_errors : Nat → Int32) (w_M_widths : Nat → Int32) (w_M_sizes : Nat → Int32) (w_M_numbers : Nat → Int32) : Prop := ((x2 = (0) → (lb_X8_sheet_68 x1 x2 x3 Q w_M_errors w_M_widths w_M_sizes w_M_numbers)) ∧ (¬ x2 = (0) → ((x3 ≤ (40 : Int32) → (lb_X8_sheet_68 x1 x2 x3 Q w_M_errors w_M_widths w_M_sizes w_M_numbers)) ∧ (¬ x3 ≤ (40 : Int32) → (wp_X8_finding (-1000000001 : Int32) w_M_errors (fun r12 o11 => (Q r12 o11 w_M_widths w_M_sizes w_M_numbers)))))))
set_option maxHeartbeats 4000000 in
set_option maxRecDepth 100000 in
theorem lk_X8_sheet_51 {p : Program} {l : Launch} {e : Env} {s : State} {m : MethodId} {args : Array Value} {below : List Frame} {meth : Method} {c : Code} {A : Nat → Prop} (G : Gt) (a_M : Nat) (a_M_now : Nat) (a_M_kept : Nat) (a_M_aside : Nat) (a_M_errors : Nat) (a_M_meetsFound : Nat) (a_M_deedsFound : Nat) (a_M_ahead : Nat) (a_M_NAMED : Nat) (a_M_code : Nat) (a_M_named : Nat) (a_M_pile : Nat) (a_M_often : Nat) (a_M_trace : Nat) (a_M_widths : Nat) (a_M_sizes : Nat) (a_M_numbers : Nat) (a_M_carried : Nat) (C : Cx p s m args meth c cX8_sheet 5 RX8 (some .int)) (x1 : Int32) (x2 : Int32) (x3 : Int32) (M_images : Int32) (M_at : Int32) (M_open : Int32) (M_use : Int32) (M_isWrong : Int32) (M_coded : Int32) (M_traced : Int32) (M_kind : Int32) (M_number : Int32) (M_told : Int32) (Q : Int32 → (Nat → Int32) → (Nat → Int32) → (Nat → Int32) → (Nat → Int32) → Prop) : ∀ (w_M_errors : Nat → Int32) (w_M_widths : Nat → Int32) (w_M_sizes : Nat → Int32) (w_M_numbers : Nat → Int32) (Hx : Heap) (lx : List Loc) (ls : Array Slot), lb_X8_sheet_51 x1 x2 x3 Q w_M_errors w_M_widths w_M_sizes w_M_numbers → Iv G A s (cs_X8_sheet G a_M a_M_now a_M_kept a_M_aside a_M_errors a_M_meetsFound a_M_deedsFound a_M_ahead a_M_NAMED a_M_code a_M_named a_M_pile a_M_often a_M_trace a_M_widths a_M_sizes a_M_numbers a_M_carried M_images M_at M_open M_use M_isWrong M_coded M_traced M_kind M_number M_told w_M_errors w_M_widths w_M_sizes w_M_numbers) Hx lx → lv_has ls 5 [(0, .ref a_M), (1, .int x1), (2, .int x2), (3, .int x3)] → W p l e rm_X8_sheet s m args below meth c Hx lx 0 0 (MQ below (qc_X8_sheet G a_M a_M_now a_M_kept a_M_aside a_M_errors a_M_meetsFound a_M_deedsFound a_M_ahead a_M_NAMED a_M_code a_M_named a_M_pile a_M_often a_M_trace a_M_widths a_M_sizes a_M_numbers a_M_carried M_images M_at M_open M_use M_isWrong M_coded M_traced M_kind M_number M_told A Q) args s 0 0 A) (F0 m 51 ls []) := by
  intro w_M_errors w_M_widths w_M_sizes w_M_numbers Hx lx  ls hw I hl
  refine x_iload_n C hl 2 dX8_sheet_51 rfl ?_
  refine x_if_eq C 68 dX8_sheet_52 (by decide) (fun c7 => ?_) (fun c7 => ?_)
  · have hw := And.left hw c7
    exact lk_X8_sheet_68 G a_M a_M_now a_M_kept a_M_aside a_M_errors a_M_meetsFound a_M_deedsFound a_M_ahead a_M_NAMED a_M_code a_M_named a_M_pile a_M_often a_M_trace a_M_widths a_M_sizes a_M_numbers a_M_carried C x1 x2 x3 M_images M_at M_open M_use M_isWrong M_coded M_traced M_kind M_number M_told Q w_M_errors w_M_widths w_M_sizes w_M_numbers Hx lx ls hw I (lv_sub hl [0, 1, 2, 3] rfl)
  · have hw := And.right hw c7
    refine x_iload_n C hl 3 dX8_sheet_55 rfl ?_
    refine x_bipush C dX8_sheet_56 bp_40 ?_
    refine x_icmp_le C 68 dX8_sheet_58 (by decide) (fun c10 => ?_) (fun c10 => ?_)
    · have hw := And.left hw c10
      exact lk_X8_sheet_68 G a_M a_M_now a_M_kept a_M_aside a_M_errors a_M_meetsFound a_M_deedsFound a_M_ahead a_M_NAMED a_M_code a_M_named a_M_pile a_M_often a_M_trace a_M_widths a_M_sizes a_M_numbers a_M_carried C x1 x2 x3 M_images M_at M_open M_use M_isWrong M_coded M_traced M_kind M_number M_told Q w_M_errors w_M_widths w_M_sizes w_M_numbers Hx lx ls hw I (lv_sub hl [0, 1, 2, 3] rfl)
    · have hw := And.right hw c10
      refine x_aload_n C hl 0 dX8_sheet_61 rfl ?_
      refine x_ldc C wd_931 dX8_sheet_62 ?_
      refine x_mui (wk := cs_X8_finding G a_M a_M_now a_M_kept a_M_aside a_M_errors a_M_meetsFound a_M_deedsFound a_M_ahead a_M_NAMED a_M_code a_M_named a_M_pile a_M_often a_M_trace a_M_widths a_M_sizes a_M_numbers a_M_carried M_images M_at M_open M_use M_isWrong M_coded M_traced M_kind M_number M_told w_M_errors) (wr := [(a_M_widths, .inl (cI G, 4, .inl w_M_widths)), (a_M_sizes, .inl (cI G, 4, .inl w_M_sizes)), (a_M_numbers, .inl (cI G, 160, .inl w_M_numbers))]) (isC := [0, 1]) (isR := [2, 3, 4]) I ⟨⟨rfl, rfl⟩, rfl, rfl, rfl⟩ [3, 4, 0, 1, 2] (fun u => cs_X8_sheet G a_M a_M_now a_M_kept a_M_aside a_M_errors a_M_meetsFound a_M_deedsFound a_M_ahead a_M_NAMED a_M_code a_M_named a_M_pile a_M_often a_M_trace a_M_widths a_M_sizes a_M_numbers a_M_carried M_images M_at M_open M_use M_isWrong M_coded M_traced M_kind M_number M_told u w_M_widths w_M_sizes w_M_numbers) (fun _ => rfl) rfl (run_V (As := [.int (-1000000001 : Int32)]) (rest := []) C hl (wk_X8_finding l G a_M a_M_now a_M_kept a_M_aside a_M_errors a_M_meetsFound a_M_deedsFound a_M_ahead a_M_NAMED a_M_code a_M_named a_M_pile a_M_often a_M_trace a_M_widths a_M_sizes a_M_numbers a_M_carried Hx.size M_images M_at M_open M_use M_isWrong M_coded M_traced M_kind M_number M_told w_M_errors (-1000000001 : Int32) _ hw) gm_X8_87 ⟨⟨rfl, rfl⟩, cn_X8_finding, ⟨(Nat.le_of_ble_eq_true rfl), (Nat.le_of_ble_eq_true rfl)⟩⟩ (pb_blind _ _ _ _) (x_recv I.1 0 rfl rfl) (pb_of I [0, 1] rfl rfl) rfl rfl (Nat.le_of_ble_eq_true rfl) ⟨Nat.le_of_ble_eq_true rfl, Nat.le_of_ble_eq_true rfl⟩ dX8_sheet_64) (fun r12 u Hx lx hw I => ?_)
      obtain ⟨o11, eo11⟩ : ∃ z, z = u := ⟨_, rfl⟩
      subst eo11
      have I : Iv G A s (cs_X8_sheet G a_M a_M_now a_M_kept a_M_aside a_M_errors a_M_meetsFound a_M_deedsFound a_M_ahead a_M_NAMED a_M_code a_M_named a_M_pile a_M_often a_M_trace a_M_widths a_M_sizes a_M_numbers a_M_carried M_images M_at M_open M_use M_isWrong M_coded M_traced M_kind M_number M_told o11 w_M_widths w_M_sizes w_M_numbers) Hx lx := I
      exact x_ret1 C I (o11, w_M_widths, w_M_sizes, w_M_numbers) rfl hw dX8_sheet_67
def lb_X8_sheet_36 (x1 : Int32) (x2 : Int32) (x3 : Int32) (Q : Int32 → (Nat → Int32) → (Nat → Int32) → (Nat → Int32) → (Nat → Int32) → Prop) (w_M_errors : Nat → Int32) (w_M_widths : Nat → Int32) (w_M_sizes : Nat → Int32) (w_M_numbers : Nat → Int32) : Prop := ((x2 = (0) → (lb_X8_sheet_51 x1 x2 x3 Q w_M_errors w_M_widths w_M_sizes w_M_numbers)) ∧ (¬ x2 = (0) → (((0) ≤ x3 → (lb_X8_sheet_51 x1 x2 x3 Q w_M_errors w_M_widths w_M_sizes w_M_numbers)) ∧ (¬ (0) ≤ x3 → (wp_X8_finding (-1000000003 : Int32) w_M_errors (fun r15 o14 => (Q r15 o14 w_M_widths w_M_sizes w_M_numbers)))))))
set_option maxHeartbeats 4000000 in
set_option maxRecDepth 100000 in
theorem lk_X8_sheet_36 {p : Program} {l : Launch} {e : Env} {s : State} {m : MethodId} {args : Array Value} {below : List Frame} {meth : Method} {c : Code} {A : Nat → Prop} (G : Gt) (a_M : Nat) (a_M_now : Nat) (a_M_kept : Nat) (a_M_aside : Nat) (a_M_errors : Nat) (a_M_meetsFound : Nat) (a_M_deedsFound : Nat) (a_M_ahead : Nat) (a_M_NAMED : Nat) (a_M_code : Nat) (a_M_named : Nat) (a_M_pile : Nat) (a_M_often : Nat) (a_M_trace : Nat) (a_M_widths : Nat) (a_M_sizes : Nat) (a_M_numbers : Nat) (a_M_carried : Nat) (C : Cx p s m args meth c cX8_sheet 5 RX8 (some .int)) (x1 : Int32) (x2 : Int32) (x3 : Int32) (M_images : Int32) (M_at : Int32) (M_open : Int32) (M_use : Int32) (M_isWrong : Int32) (M_coded : Int32) (M_traced : Int32) (M_kind : Int32) (M_number : Int32) (M_told : Int32) (Q : Int32 → (Nat → Int32) → (Nat → Int32) → (Nat → Int32) → (Nat → Int32) → Prop) : ∀ (w_M_errors : Nat → Int32) (w_M_widths : Nat → Int32) (w_M_sizes : Nat → Int32) (w_M_numbers : Nat → Int32) (Hx : Heap) (lx : List Loc) (ls : Array Slot), lb_X8_sheet_36 x1 x2 x3 Q w_M_errors w_M_widths w_M_sizes w_M_numbers → Iv G A s (cs_X8_sheet G a_M a_M_now a_M_kept a_M_aside a_M_errors a_M_meetsFound a_M_deedsFound a_M_ahead a_M_NAMED a_M_code a_M_named a_M_pile a_M_often a_M_trace a_M_widths a_M_sizes a_M_numbers a_M_carried M_images M_at M_open M_use M_isWrong M_coded M_traced M_kind M_number M_told w_M_errors w_M_widths w_M_sizes w_M_numbers) Hx lx → lv_has ls 5 [(0, .ref a_M), (1, .int x1), (2, .int x2), (3, .int x3)] → W p l e rm_X8_sheet s m args below meth c Hx lx 0 0 (MQ below (qc_X8_sheet G a_M a_M_now a_M_kept a_M_aside a_M_errors a_M_meetsFound a_M_deedsFound a_M_ahead a_M_NAMED a_M_code a_M_named a_M_pile a_M_often a_M_trace a_M_widths a_M_sizes a_M_numbers a_M_carried M_images M_at M_open M_use M_isWrong M_coded M_traced M_kind M_number M_told A Q) args s 0 0 A) (F0 m 36 ls []) := by
  intro w_M_errors w_M_widths w_M_sizes w_M_numbers Hx lx  ls hw I hl
  refine x_iload_n C hl 2 dX8_sheet_36 rfl ?_
  refine x_if_eq C 51 dX8_sheet_37 (by decide) (fun c6 => ?_) (fun c6 => ?_)
  · have hw := And.left hw c6
    exact lk_X8_sheet_51 G a_M a_M_now a_M_kept a_M_aside a_M_errors a_M_meetsFound a_M_deedsFound a_M_ahead a_M_NAMED a_M_code a_M_named a_M_pile a_M_often a_M_trace a_M_widths a_M_sizes a_M_numbers a_M_carried C x1 x2 x3 M_images M_at M_open M_use M_isWrong M_coded M_traced M_kind M_number M_told Q w_M_errors w_M_widths w_M_sizes w_M_numbers Hx lx ls hw I (lv_sub hl [0, 1, 2, 3] rfl)
  · have hw := And.right hw c6
    refine x_iload_n C hl 3 dX8_sheet_40 rfl ?_
    refine x_if_ge C 51 dX8_sheet_41 (by decide) (fun c13 => ?_) (fun c13 => ?_)
    · have hw := And.left hw c13
      exact lk_X8_sheet_51 G a_M a_M_now a_M_kept a_M_aside a_M_errors a_M_meetsFound a_M_deedsFound a_M_ahead a_M_NAMED a_M_code a_M_named a_M_pile a_M_often a_M_trace a_M_widths a_M_sizes a_M_numbers a_M_carried C x1 x2 x3 M_images M_at M_open M_use M_isWrong M_coded M_traced M_kind M_number M_told Q w_M_errors w_M_widths w_M_sizes w_M_numbers Hx lx ls hw I (lv_sub hl [0, 1, 2, 3] rfl)
    · have hw := And.right hw c13
      refine x_aload_n C hl 0 dX8_sheet_44 rfl ?_
      refine x_ldc C wd_1161 dX8_sheet_45 ?_
      refine x_mui (wk := cs_X8_finding G a_M a_M_now a_M_kept a_M_aside a_M_errors a_M_meetsFound a_M_deedsFound a_M_ahead a_M_NAMED a_M_code a_M_named a_M_pile a_M_often a_M_trace a_M_widths a_M_sizes a_M_numbers a_M_carried M_images M_at M_open M_use M_isWrong M_coded M_traced M_kind M_number M_told w_M_errors) (wr := [(a_M_widths, .inl (cI G, 4, .inl w_M_widths)), (a_M_sizes, .inl (cI G, 4, .inl w_M_sizes)), (a_M_numbers, .inl (cI G, 160, .inl w_M_numbers))]) (isC := [0, 1]) (isR := [2, 3, 4]) I ⟨⟨rfl, rfl⟩, rfl, rfl, rfl⟩ [3, 4, 0, 1, 2] (fun u => cs_X8_sheet G a_M a_M_now a_M_kept a_M_aside a_M_errors a_M_meetsFound a_M_deedsFound a_M_ahead a_M_NAMED a_M_code a_M_named a_M_pile a_M_often a_M_trace a_M_widths a_M_sizes a_M_numbers a_M_carried M_images M_at M_open M_use M_isWrong M_coded M_traced M_kind M_number M_told u w_M_widths w_M_sizes w_M_numbers) (fun _ => rfl) rfl (run_V (As := [.int (-1000000003 : Int32)]) (rest := []) C hl (wk_X8_finding l G a_M a_M_now a_M_kept a_M_aside a_M_errors a_M_meetsFound a_M_deedsFound a_M_ahead a_M_NAMED a_M_code a_M_named a_M_pile a_M_often a_M_trace a_M_widths a_M_sizes a_M_numbers a_M_carried Hx.size M_images M_at M_open M_use M_isWrong M_coded M_traced M_kind M_number M_told w_M_errors (-1000000003 : Int32) _ hw) gm_X8_87 ⟨⟨rfl, rfl⟩, cn_X8_finding, ⟨(Nat.le_of_ble_eq_true rfl), (Nat.le_of_ble_eq_true rfl)⟩⟩ (pb_blind _ _ _ _) (x_recv I.1 0 rfl rfl) (pb_of I [0, 1] rfl rfl) rfl rfl (Nat.le_of_ble_eq_true rfl) ⟨Nat.le_of_ble_eq_true rfl, Nat.le_of_ble_eq_true rfl⟩ dX8_sheet_47) (fun r15 u Hx lx hw I => ?_)
      obtain ⟨o14, eo14⟩ : ∃ z, z = u := ⟨_, rfl⟩
      subst eo14
      have I : Iv G A s (cs_X8_sheet G a_M a_M_now a_M_kept a_M_aside a_M_errors a_M_meetsFound a_M_deedsFound a_M_ahead a_M_NAMED a_M_code a_M_named a_M_pile a_M_often a_M_trace a_M_widths a_M_sizes a_M_numbers a_M_carried M_images M_at M_open M_use M_isWrong M_coded M_traced M_kind M_number M_told o14 w_M_widths w_M_sizes w_M_numbers) Hx lx := I
      exact x_ret1 C I (o14, w_M_widths, w_M_sizes, w_M_numbers) rfl hw dX8_sheet_50
def wp_X8_sheet (x1 : Int32) (x2 : Int32) (x3 : Int32) (M_errors : Nat → Int32) (M_widths : Nat → Int32) (M_sizes : Nat → Int32) (M_numbers : Nat → Int32) (Q : Int32 → (Nat → Int32) → (Nat → Int32) → (Nat → Int32) → (Nat → Int32) → Prop) : Prop := (wp_X8_isSheet x1 (fun r1 => ((r1 = (0) → (lb_X8_sheet_29 x1 x2 x3 Q M_errors M_widths M_sizes M_numbers)) ∧ (¬ r1 = (0) → ((x2 = (0) → (lb_X8_sheet_36 x1 x2 x3 Q M_errors M_widths M_sizes M_numbers)) ∧ (¬ x2 = (0) → ((x2 = (8 : Int32) → (lb_X8_sheet_36 x1 x2 x3 Q M_errors M_widths M_sizes M_numbers)) ∧ (¬ x2 = (8 : Int32) → ((x2 = (16 : Int32) → (lb_X8_sheet_36 x1 x2 x3 Q M_errors M_widths M_sizes M_numbers)) ∧ (¬ x2 = (16 : Int32) → ((x2 = (32 : Int32) → (lb_X8_sheet_36 x1 x2 x3 Q M_errors M_widths M_sizes M_numbers)) ∧ (¬ x2 = (32 : Int32) → (lb_X8_sheet_29 x1 x2 x3 Q M_errors M_widths M_sizes M_numbers)))))))))))))
set_option maxHeartbeats 4000000 in
set_option maxRecDepth 100000 in
theorem wk_X8_sheet (l : Launch) (G : Gt) (a_M : Nat) (a_M_now : Nat) (a_M_kept : Nat) (a_M_aside : Nat) (a_M_errors : Nat) (a_M_meetsFound : Nat) (a_M_deedsFound : Nat) (a_M_ahead : Nat) (a_M_NAMED : Nat) (a_M_code : Nat) (a_M_named : Nat) (a_M_pile : Nat) (a_M_often : Nat) (a_M_trace : Nat) (a_M_widths : Nat) (a_M_sizes : Nat) (a_M_numbers : Nat) (a_M_carried : Nat) (sz : Nat) (M_images : Int32) (M_at : Int32) (M_open : Int32) (M_use : Int32) (M_isWrong : Int32) (M_coded : Int32) (M_traced : Int32) (M_kind : Int32) (M_number : Int32) (M_told : Int32) (M_errors : Nat → Int32) (M_widths : Nat → Int32) (M_sizes : Nat → Int32) (M_numbers : Nat → Int32) (x1 : Int32) (x2 : Int32) (x3 : Int32) (Q : Int32 → (Nat → Int32) → (Nat → Int32) → (Nat → Int32) → (Nat → Int32) → Prop) (hw : wp_X8_sheet x1 x2 x3 M_errors M_widths M_sizes M_numbers Q) : Met l yX8_sheet (wc yX8_sheet cX8_sheet 5 (some .int)) rm_X8_sheet (va_Pc [.ref a_M, .int x1, .int x2, .int x3] (PB G (cs_X8_sheet G a_M a_M_now a_M_kept a_M_aside a_M_errors a_M_meetsFound a_M_deedsFound a_M_ahead a_M_NAMED a_M_code a_M_named a_M_pile a_M_often a_M_trace a_M_widths a_M_sizes a_M_numbers a_M_carried M_images M_at M_open M_use M_isWrong M_coded M_traced M_kind M_number M_told M_errors M_widths M_sizes M_numbers) sz)) (qc_X8_sheet G a_M a_M_now a_M_kept a_M_aside a_M_errors a_M_meetsFound a_M_deedsFound a_M_ahead a_M_NAMED a_M_code a_M_named a_M_pile a_M_often a_M_trace a_M_widths a_M_sizes a_M_numbers a_M_carried M_images M_at M_open M_use M_isWrong M_coded M_traced M_kind M_number M_told (va_A (cs_X8_sheet G a_M a_M_now a_M_kept a_M_aside a_M_errors a_M_meetsFound a_M_deedsFound a_M_ahead a_M_NAMED a_M_code a_M_named a_M_pile a_M_often a_M_trace a_M_widths a_M_sizes a_M_numbers a_M_carried M_images M_at M_open M_use M_isWrong M_coded M_traced M_kind M_number M_told M_errors M_widths M_sizes M_numbers) sz) Q) 0 0 (va_A (cs_X8_sheet G a_M a_M_now a_M_kept a_M_aside a_M_errors a_M_meetsFound a_M_deedsFound a_M_ahead a_M_NAMED a_M_code a_M_named a_M_pile a_M_often a_M_trace a_M_widths a_M_sizes a_M_numbers a_M_carried M_images M_at M_open M_use M_isWrong M_coded M_traced M_kind M_number M_told M_errors M_widths M_sizes M_numbers) sz) := by
  refine x_start pn_X8 (Nat.le_of_ble_eq_true rfl) (fun p e s m below meth c ls C hn hl hB => ?_)
  have I := iv_start hB
  generalize va_A (cs_X8_sheet G a_M a_M_now a_M_kept a_M_aside a_M_errors a_M_meetsFound a_M_deedsFound a_M_ahead a_M_NAMED a_M_code a_M_named a_M_pile a_M_often a_M_trace a_M_widths a_M_sizes a_M_numbers a_M_carried M_images M_at M_open M_use M_isWrong M_coded M_traced M_kind M_number M_told M_errors M_widths M_sizes M_numbers) sz = A at I ⊢
  have C : Cx p s m [.ref a_M, .int x1, .int x2, .int x3].toArray meth c cX8_sheet 5 RX8 (some .int) := C
  have hl : lv_has ls 5 [(0, .ref a_M), (1, .int x1), (2, .int x2), (3, .int x3)] := hl
  refine x_iload_n C hl 1 dX8_sheet_0 rfl ?_
  refine x_ro (run_S (As := [.int x1]) (rest := []) C hl (wk_X8_isSheet l G x1 _ hw) gm_X8_263 ⟨⟨rfl, rfl⟩, cn_X8_isSheet, ⟨(Nat.le_of_ble_eq_true rfl), (Nat.le_of_ble_eq_true rfl)⟩⟩ (pr_blind _ _ _) (pr_of I.1 [] rfl) rfl rfl (Nat.le_of_ble_eq_true rfl) ⟨Nat.le_of_ble_eq_true rfl, Nat.le_of_ble_eq_true rfl⟩ dX8_sheet_1) (fun r1 hw => ?_)
  refine x_if_eq C 29 dX8_sheet_4 (by decide) (fun c2 => ?_) (fun c2 => ?_)
  · have hw := And.left hw c2
    exact lk_X8_sheet_29 G a_M a_M_now a_M_kept a_M_aside a_M_errors a_M_meetsFound a_M_deedsFound a_M_ahead a_M_NAMED a_M_code a_M_named a_M_pile a_M_often a_M_trace a_M_widths a_M_sizes a_M_numbers a_M_carried C x1 x2 x3 M_images M_at M_open M_use M_isWrong M_coded M_traced M_kind M_number M_told Q M_errors M_widths M_sizes M_numbers s.heap [] ls hw I (lv_sub hl [0] rfl)
  · have hw := And.right hw c2
    refine x_iload_n C hl 2 dX8_sheet_7 rfl ?_
    refine x_if_eq C 36 dX8_sheet_8 (by decide) (fun c5 => ?_) (fun c5 => ?_)
    · have hw := And.left hw c5
      exact lk_X8_sheet_36 G a_M a_M_now a_M_kept a_M_aside a_M_errors a_M_meetsFound a_M_deedsFound a_M_ahead a_M_NAMED a_M_code a_M_named a_M_pile a_M_often a_M_trace a_M_widths a_M_sizes a_M_numbers a_M_carried C x1 x2 x3 M_images M_at M_open M_use M_isWrong M_coded M_traced M_kind M_number M_told Q M_errors M_widths M_sizes M_numbers s.heap [] ls hw I (lv_sub hl [0, 1, 2, 3] rfl)
    · have hw := And.right hw c5
      refine x_iload_n C hl 2 dX8_sheet_11 rfl ?_
      refine x_bipush C dX8_sheet_12 bp_8 ?_
      refine x_icmp_eq C 36 dX8_sheet_14 (by decide) (fun c16 => ?_) (fun c16 => ?_)
      · have hw := And.left hw c16
        exact lk_X8_sheet_36 G a_M a_M_now a_M_kept a_M_aside a_M_errors a_M_meetsFound a_M_deedsFound a_M_ahead a_M_NAMED a_M_code a_M_named a_M_pile a_M_often a_M_trace a_M_widths a_M_sizes a_M_numbers a_M_carried C x1 x2 x3 M_images M_at M_open M_use M_isWrong M_coded M_traced M_kind M_number M_told Q M_errors M_widths M_sizes M_numbers s.heap [] ls hw I (lv_sub hl [0, 1, 2, 3] rfl)
      · have hw := And.right hw c16
        refine x_iload_n C hl 2 dX8_sheet_17 rfl ?_
        refine x_bipush C dX8_sheet_18 bp_16 ?_
        refine x_icmp_eq C 36 dX8_sheet_20 (by decide) (fun c17 => ?_) (fun c17 => ?_)
        · have hw := And.left hw c17
          exact lk_X8_sheet_36 G a_M a_M_now a_M_kept a_M_aside a_M_errors a_M_meetsFound a_M_deedsFound a_M_ahead a_M_NAMED a_M_code a_M_named a_M_pile a_M_often a_M_trace a_M_widths a_M_sizes a_M_numbers a_M_carried C x1 x2 x3 M_images M_at M_open M_use M_isWrong M_coded M_traced M_kind M_number M_told Q M_errors M_widths M_sizes M_numbers s.heap [] ls hw I (lv_sub hl [0, 1, 2, 3] rfl)
        · have hw := And.right hw c17
          refine x_iload_n C hl 2 dX8_sheet_23 rfl ?_
          refine x_bipush C dX8_sheet_24 bp_32 ?_
          refine x_icmp_eq C 36 dX8_sheet_26 (by decide) (fun c18 => ?_) (fun c18 => ?_)
          · have hw := And.left hw c18
            exact lk_X8_sheet_36 G a_M a_M_now a_M_kept a_M_aside a_M_errors a_M_meetsFound a_M_deedsFound a_M_ahead a_M_NAMED a_M_code a_M_named a_M_pile a_M_often a_M_trace a_M_widths a_M_sizes a_M_numbers a_M_carried C x1 x2 x3 M_images M_at M_open M_use M_isWrong M_coded M_traced M_kind M_number M_told Q M_errors M_widths M_sizes M_numbers s.heap [] ls hw I (lv_sub hl [0, 1, 2, 3] rfl)
          · have hw := And.right hw c18
            exact lk_X8_sheet_29 G a_M a_M_now a_M_kept a_M_aside a_M_errors a_M_meetsFound a_M_deedsFound a_M_ahead a_M_NAMED a_M_code a_M_named a_M_pile a_M_often a_M_trace a_M_widths a_M_sizes a_M_numbers a_M_carried C x1 x2 x3 M_images M_at M_open M_use M_isWrong M_coded M_traced M_kind M_number M_told Q M_errors M_widths M_sizes M_numbers s.heap [] ls hw I (lv_sub hl [0] rfl)
/-! X8_put -/
abbrev rm_X8_put : Room := { frames := 2, cells := 0, slots := 0, locals := 42 }
abbrev cs_X8_put (G : Gt) (a_M : Nat) (a_M_now : Nat) (a_M_kept : Nat) (a_M_aside : Nat) (a_M_errors : Nat) (a_M_meetsFound : Nat) (a_M_deedsFound : Nat) (a_M_ahead : Nat) (a_M_NAMED : Nat) (a_M_code : Nat) (a_M_named : Nat) (a_M_pile : Nat) (a_M_often : Nat) (a_M_trace : Nat) (a_M_widths : Nat) (a_M_sizes : Nat) (a_M_numbers : Nat) (a_M_carried : Nat) (M_images : Int32) (M_at : Int32) (M_open : Int32) (M_use : Int32) (M_isWrong : Int32) (M_coded : Int32) (M_traced : Int32) (M_kind : Int32) (M_number : Int32) (M_told : Int32) (M_errors : Nat → Int32) (M_widths : Nat → Int32) (M_sizes : Nat → Int32) (M_numbers : Nat → Int32) : va_W := [(a_M, .inr (8, [.ref a_M_now, .ref a_M_kept, .ref a_M_aside, .int M_images, .ref a_M_errors, .ref a_M_meetsFound, .ref a_M_deedsFound, .ref a_M_ahead, .ref a_M_NAMED, .int M_at, .int M_open, .int M_use, .int M_isWrong, .ref a_M_code, .int M_coded, .ref a_M_named, .ref a_M_pile, .ref a_M_often, .ref a_M_trace, .int M_traced, .int M_kind, .int M_number, .int M_told, .ref a_M_widths, .ref a_M_sizes, .ref a_M_numbers, .ref a_M_carried])), (a_M_errors, .inl (cI G, 6, .inl M_errors)), (a_M_widths, .inl (cI G, 4, .inl M_widths)), (a_M_sizes, .inl (cI G, 4, .inl M_sizes)), (a_M_numbers, .inl (cI G, 160, .inl M_numbers))]
abbrev qc_X8_put (G : Gt) (a_M : Nat) (a_M_now : Nat) (a_M_kept : Nat) (a_M_aside : Nat) (a_M_errors : Nat) (a_M_meetsFound : Nat) (a_M_deedsFound : Nat) (a_M_ahead : Nat) (a_M_NAMED : Nat) (a_M_code : Nat) (a_M_named : Nat) (a_M_pile : Nat) (a_M_often : Nat) (a_M_trace : Nat) (a_M_widths : Nat) (a_M_sizes : Nat) (a_M_numbers : Nat) (a_M_carried : Nat) (M_images : Int32) (M_at : Int32) (M_open : Int32) (M_use : Int32) (M_isWrong : Int32) (M_coded : Int32) (M_traced : Int32) (M_kind : Int32) (M_number : Int32) (M_told : Int32) (M_widths : Nat → Int32) (M_sizes : Nat → Int32) (A : Nat → Prop) (Q : Int32 → (Nat → Int32) → (Nat → Int32) → Prop) : Array Value → State → Outcome → State → Prop := Qi1 G A (fun r (u : (Nat → Int32) × (Nat → Int32)) => Q r u.1 u.2) (fun u => cs_X8_put G a_M a_M_now a_M_kept a_M_aside a_M_errors a_M_meetsFound a_M_deedsFound a_M_ahead a_M_NAMED a_M_code a_M_named a_M_pile a_M_often a_M_trace a_M_widths a_M_sizes a_M_numbers a_M_carried M_images M_at M_open M_use M_isWrong M_coded M_traced M_kind M_number M_told u.1 M_widths M_sizes u.2)
def wp_X8_put (x1 : Int32) (x2 : Int32) (x3 : Int32) (M_errors : Nat → Int32) (M_widths : Nat → Int32) (M_sizes : Nat → Int32) (M_numbers : Nat → Int32) (Q : Int32 → (Nat → Int32) → (Nat → Int32) → Prop) : Prop := (wp_X8_isSheet x1 (fun r1 => ((¬ r1 = (0) → (vp_in x1 4 ∧ ((¬ (M_widths (x1).toNatClampNeg) = (0) → (vp_in x1 4 ∧ (wp_X8_within x2 (0 : Int32) ((M_sizes (x1).toNatClampNeg) - (1 : Int32)) (fun r4 => ((¬ r4 = (0) → (vp_in x1 4 ∧ ((¬ (M_widths (x1).toNatClampNeg) = (8 : Int32) → (vp_in x1 4 ∧ ((¬ (M_widths (x1).toNatClampNeg) = (16 : Int32) → (vp_in (((40 : Int32) * x1) + x2) 160 ∧ (Q (1 : Int32) M_errors (upd M_numbers ((((40 : Int32) * x1) + x2)).toNatClampNeg x3)))) ∧ ((M_widths (x1).toNatClampNeg) = (16 : Int32) → (∀ v8 : Int32, v8 = (ji2s x3) → (vp_in (((40 : Int32) * x1) + x2) 160 ∧ (Q (1 : Int32) M_errors (upd M_numbers ((((40 : Int32) * x1) + x2)).toNatClampNeg v8)))))))) ∧ ((M_widths (x1).toNatClampNeg) = (8 : Int32) → (∀ v9 : Int32, v9 = (ji2b x3) → (vp_in (((40 : Int32) * x1) + x2) 160 ∧ (Q (1 : Int32) M_errors (upd M_numbers ((((40 : Int32) * x1) + x2)).toNatClampNeg v9)))))))) ∧ (r4 = (0) → (wp_X8_finding (-1000000001 : Int32) M_errors (fun r11 o10 => (Q r11 o10 M_numbers))))))))) ∧ ((M_widths (x1).toNatClampNeg) = (0) → (wp_X8_finding (-1000000002 : Int32) M_errors (fun r13 o12 => (Q r13 o12 M_numbers))))))) ∧ (r1 = (0) → (wp_X8_finding (-1000000001 : Int32) M_errors (fun r15 o14 => (Q r15 o14 M_numbers)))))))
set_option maxHeartbeats 4000000 in
set_option maxRecDepth 100000 in
theorem wk_X8_put (l : Launch) (G : Gt) (a_M : Nat) (a_M_now : Nat) (a_M_kept : Nat) (a_M_aside : Nat) (a_M_errors : Nat) (a_M_meetsFound : Nat) (a_M_deedsFound : Nat) (a_M_ahead : Nat) (a_M_NAMED : Nat) (a_M_code : Nat) (a_M_named : Nat) (a_M_pile : Nat) (a_M_often : Nat) (a_M_trace : Nat) (a_M_widths : Nat) (a_M_sizes : Nat) (a_M_numbers : Nat) (a_M_carried : Nat) (sz : Nat) (M_images : Int32) (M_at : Int32) (M_open : Int32) (M_use : Int32) (M_isWrong : Int32) (M_coded : Int32) (M_traced : Int32) (M_kind : Int32) (M_number : Int32) (M_told : Int32) (M_errors : Nat → Int32) (M_widths : Nat → Int32) (M_sizes : Nat → Int32) (M_numbers : Nat → Int32) (x1 : Int32) (x2 : Int32) (x3 : Int32) (Q : Int32 → (Nat → Int32) → (Nat → Int32) → Prop) (hw : wp_X8_put x1 x2 x3 M_errors M_widths M_sizes M_numbers Q) : Met l yX8_put (wc yX8_put cX8_put 4 (some .int)) rm_X8_put (va_Pc [.ref a_M, .int x1, .int x2, .int x3] (PB G (cs_X8_put G a_M a_M_now a_M_kept a_M_aside a_M_errors a_M_meetsFound a_M_deedsFound a_M_ahead a_M_NAMED a_M_code a_M_named a_M_pile a_M_often a_M_trace a_M_widths a_M_sizes a_M_numbers a_M_carried M_images M_at M_open M_use M_isWrong M_coded M_traced M_kind M_number M_told M_errors M_widths M_sizes M_numbers) sz)) (qc_X8_put G a_M a_M_now a_M_kept a_M_aside a_M_errors a_M_meetsFound a_M_deedsFound a_M_ahead a_M_NAMED a_M_code a_M_named a_M_pile a_M_often a_M_trace a_M_widths a_M_sizes a_M_numbers a_M_carried M_images M_at M_open M_use M_isWrong M_coded M_traced M_kind M_number M_told M_widths M_sizes (va_A (cs_X8_put G a_M a_M_now a_M_kept a_M_aside a_M_errors a_M_meetsFound a_M_deedsFound a_M_ahead a_M_NAMED a_M_code a_M_named a_M_pile a_M_often a_M_trace a_M_widths a_M_sizes a_M_numbers a_M_carried M_images M_at M_open M_use M_isWrong M_coded M_traced M_kind M_number M_told M_errors M_widths M_sizes M_numbers) sz) Q) 0 0 (va_A (cs_X8_put G a_M a_M_now a_M_kept a_M_aside a_M_errors a_M_meetsFound a_M_deedsFound a_M_ahead a_M_NAMED a_M_code a_M_named a_M_pile a_M_often a_M_trace a_M_widths a_M_sizes a_M_numbers a_M_carried M_images M_at M_open M_use M_isWrong M_coded M_traced M_kind M_number M_told M_errors M_widths M_sizes M_numbers) sz) := by
  refine x_start pn_X8 (Nat.le_of_ble_eq_true rfl) (fun p e s m below meth c ls C hn hl hB => ?_)
  have I := iv_start hB
  generalize va_A (cs_X8_put G a_M a_M_now a_M_kept a_M_aside a_M_errors a_M_meetsFound a_M_deedsFound a_M_ahead a_M_NAMED a_M_code a_M_named a_M_pile a_M_often a_M_trace a_M_widths a_M_sizes a_M_numbers a_M_carried M_images M_at M_open M_use M_isWrong M_coded M_traced M_kind M_number M_told M_errors M_widths M_sizes M_numbers) sz = A at I ⊢
  have C : Cx p s m [.ref a_M, .int x1, .int x2, .int x3].toArray meth c cX8_put 4 RX8 (some .int) := C
  have hl : lv_has ls 4 [(0, .ref a_M), (1, .int x1), (2, .int x2), (3, .int x3)] := hl
  refine x_iload_n C hl 1 dX8_put_0 rfl ?_
  refine x_ro (run_S (As := [.int x1]) (rest := []) C hl (wk_X8_isSheet l G x1 _ hw) gm_X8_263 ⟨⟨rfl, rfl⟩, cn_X8_isSheet, ⟨(Nat.le_of_ble_eq_true rfl), (Nat.le_of_ble_eq_true rfl)⟩⟩ (pr_blind _ _ _) (pr_of I.1 [] rfl) rfl rfl (Nat.le_of_ble_eq_true rfl) ⟨Nat.le_of_ble_eq_true rfl, Nat.le_of_ble_eq_true rfl⟩ dX8_put_1) (fun r1 hw => ?_)
  refine x_if_ne C 14 dX8_put_4 (by decide) (fun c2 => ?_) (fun c2 => ?_)
  · have hw := And.left hw c2
    refine x_aload_n C hl 0 dX8_put_14 rfl ?_
    refine x_get C I.1 fl_X8_56 0 rfl rfl dX8_put_15 ?_
    refine x_iload_n C hl 1 dX8_put_18 rfl ?_
    refine x_iald C I.1 2 rfl (And.left hw) dX8_put_19 ?_
    have hw := And.right hw
    refine x_if_ne C 30 dX8_put_20 (by decide) (fun c3 => ?_) (fun c3 => ?_)
    · have hw := And.left hw c3
      refine x_iload_n C hl 2 dX8_put_30 rfl ?_
      refine x_iconst C dX8_put_31 ic_0 ?_
      refine x_aload_n C hl 0 dX8_put_32 rfl ?_
      refine x_get C I.1 fl_X8_59 0 rfl rfl dX8_put_33 ?_
      refine x_iload_n C hl 1 dX8_put_36 rfl ?_
      refine x_iald C I.1 3 rfl (And.left hw) dX8_put_37 ?_
      have hw := And.right hw
      refine x_iconst C dX8_put_38 ic_1 ?_
      refine x_isub C dX8_put_39 ?_
      refine x_ro (run_S (As := [.int x2, .int (0 : Int32), .int ((M_sizes (x1).toNatClampNeg) - (1 : Int32))]) (rest := []) C hl (wk_X8_within l G x2 (0 : Int32) ((M_sizes (x1).toNatClampNeg) - (1 : Int32)) _ hw) gm_X8_82 ⟨⟨rfl, rfl⟩, cn_X8_within, ⟨(Nat.le_of_ble_eq_true rfl), (Nat.le_of_ble_eq_true rfl)⟩⟩ (pr_blind _ _ _) (pr_of I.1 [] rfl) rfl rfl (Nat.le_of_ble_eq_true rfl) ⟨Nat.le_of_ble_eq_true rfl, Nat.le_of_ble_eq_true rfl⟩ dX8_put_40) (fun r4 hw => ?_)
      refine x_if_ne C 53 dX8_put_43 (by decide) (fun c5 => ?_) (fun c5 => ?_)
      · have hw := And.left hw c5
        refine x_aload_n C hl 0 dX8_put_53 rfl ?_
        refine x_get C I.1 fl_X8_62 0 rfl rfl dX8_put_54 ?_
        refine x_bipush C dX8_put_57 bp_40 ?_
        refine x_iload_n C hl 1 dX8_put_59 rfl ?_
        refine x_imul C dX8_put_60 ?_
        refine x_iload_n C hl 2 dX8_put_61 rfl ?_
        refine x_iadd C dX8_put_62 ?_
        refine x_aload_n C hl 0 dX8_put_63 rfl ?_
        refine x_get C I.1 fl_X8_56 0 rfl rfl dX8_put_64 ?_
        refine x_iload_n C hl 1 dX8_put_67 rfl ?_
        refine x_iald C I.1 2 rfl (And.left hw) dX8_put_68 ?_
        have hw := And.right hw
        refine x_bipush C dX8_put_69 bp_8 ?_
        refine x_icmp_ne C 79 dX8_put_71 (by decide) (fun c6 => ?_) (fun c6 => ?_)
        · have hw := And.left hw c6
          refine x_aload_n C hl 0 dX8_put_79 rfl ?_
          refine x_get C I.1 fl_X8_56 0 rfl rfl dX8_put_80 ?_
          refine x_iload_n C hl 1 dX8_put_83 rfl ?_
          refine x_iald C I.1 2 rfl (And.left hw) dX8_put_84 ?_
          have hw := And.right hw
          refine x_bipush C dX8_put_85 bp_16 ?_
          refine x_icmp_ne C 95 dX8_put_87 (by decide) (fun c7 => ?_) (fun c7 => ?_)
          · have hw := And.left hw c7
            refine x_iload_n C hl 3 dX8_put_95 rfl ?_
            refine x_iast C I 4 (cs_X8_put G a_M a_M_now a_M_kept a_M_aside a_M_errors a_M_meetsFound a_M_deedsFound a_M_ahead a_M_NAMED a_M_code a_M_named a_M_pile a_M_often a_M_trace a_M_widths a_M_sizes a_M_numbers a_M_carried M_images M_at M_open M_use M_isWrong M_coded M_traced M_kind M_number M_told M_errors M_widths M_sizes (upd M_numbers ((((40 : Int32) * x1) + x2)).toNatClampNeg x3)) rfl (And.left hw) rfl dX8_put_96 (fun Hx lx I => ?_)
            have hw := And.right hw
            refine x_iconst C dX8_put_97 ic_1 ?_
            exact x_ret1 C I (M_errors, (upd M_numbers ((((40 : Int32) * x1) + x2)).toNatClampNeg x3)) rfl hw dX8_put_98
          · have hw := And.right hw c7
            refine x_iload_n C hl 3 dX8_put_90 rfl ?_
            refine x_i2s C dX8_put_91 ?_
            refine x_goto C 96 dX8_put_92 (by decide) ?_
            refine lv_topi (fun v8 ev8 => ?_)
            have hw := hw v8 ev8
            refine x_iast C I 4 (cs_X8_put G a_M a_M_now a_M_kept a_M_aside a_M_errors a_M_meetsFound a_M_deedsFound a_M_ahead a_M_NAMED a_M_code a_M_named a_M_pile a_M_often a_M_trace a_M_widths a_M_sizes a_M_numbers a_M_carried M_images M_at M_open M_use M_isWrong M_coded M_traced M_kind M_number M_told M_errors M_widths M_sizes (upd M_numbers ((((40 : Int32) * x1) + x2)).toNatClampNeg v8)) rfl (And.left hw) rfl dX8_put_96 (fun Hx lx I => ?_)
            have hw := And.right hw
            refine x_iconst C dX8_put_97 ic_1 ?_
            exact x_ret1 C I (M_errors, (upd M_numbers ((((40 : Int32) * x1) + x2)).toNatClampNeg v8)) rfl hw dX8_put_98
        · have hw := And.right hw c6
          refine x_iload_n C hl 3 dX8_put_74 rfl ?_
          refine x_i2b C dX8_put_75 ?_
          refine x_goto C 96 dX8_put_76 (by decide) ?_
          refine lv_topi (fun v9 ev9 => ?_)
          have hw := hw v9 ev9
          refine x_iast C I 4 (cs_X8_put G a_M a_M_now a_M_kept a_M_aside a_M_errors a_M_meetsFound a_M_deedsFound a_M_ahead a_M_NAMED a_M_code a_M_named a_M_pile a_M_often a_M_trace a_M_widths a_M_sizes a_M_numbers a_M_carried M_images M_at M_open M_use M_isWrong M_coded M_traced M_kind M_number M_told M_errors M_widths M_sizes (upd M_numbers ((((40 : Int32) * x1) + x2)).toNatClampNeg v9)) rfl (And.left hw) rfl dX8_put_96 (fun Hx lx I => ?_)
          have hw := And.right hw
          refine x_iconst C dX8_put_97 ic_1 ?_
          exact x_ret1 C I (M_errors, (upd M_numbers ((((40 : Int32) * x1) + x2)).toNatClampNeg v9)) rfl hw dX8_put_98
      · have hw := And.right hw c5
        refine x_aload_n C hl 0 dX8_put_46 rfl ?_
        refine x_ldc C wd_931 dX8_put_47 ?_
        refine x_mui (wk := cs_X8_finding G a_M a_M_now a_M_kept a_M_aside a_M_errors a_M_meetsFound a_M_deedsFound a_M_ahead a_M_NAMED a_M_code a_M_named a_M_pile a_M_often a_M_trace a_M_widths a_M_sizes a_M_numbers a_M_carried M_images M_at M_open M_use M_isWrong M_coded M_traced M_kind M_number M_told M_errors) (wr := [(a_M_widths, .inl (cI G, 4, .inl M_widths)), (a_M_sizes, .inl (cI G, 4, .inl M_sizes)), (a_M_numbers, .inl (cI G, 160, .inl M_numbers))]) (isC := [0, 1]) (isR := [2, 3, 4]) I ⟨⟨rfl, rfl⟩, rfl, rfl, rfl⟩ [3, 4, 0, 1, 2] (fun u => cs_X8_put G a_M a_M_now a_M_kept a_M_aside a_M_errors a_M_meetsFound a_M_deedsFound a_M_ahead a_M_NAMED a_M_code a_M_named a_M_pile a_M_often a_M_trace a_M_widths a_M_sizes a_M_numbers a_M_carried M_images M_at M_open M_use M_isWrong M_coded M_traced M_kind M_number M_told u M_widths M_sizes M_numbers) (fun _ => rfl) rfl (run_V (As := [.int (-1000000001 : Int32)]) (rest := []) C hl (wk_X8_finding l G a_M a_M_now a_M_kept a_M_aside a_M_errors a_M_meetsFound a_M_deedsFound a_M_ahead a_M_NAMED a_M_code a_M_named a_M_pile a_M_often a_M_trace a_M_widths a_M_sizes a_M_numbers a_M_carried s.heap.size M_images M_at M_open M_use M_isWrong M_coded M_traced M_kind M_number M_told M_errors (-1000000001 : Int32) _ hw) gm_X8_87 ⟨⟨rfl, rfl⟩, cn_X8_finding, ⟨(Nat.le_of_ble_eq_true rfl), (Nat.le_of_ble_eq_true rfl)⟩⟩ (pb_blind _ _ _ _) (x_recv I.1 0 rfl rfl) (pb_of I [0, 1] rfl rfl) rfl rfl (Nat.le_of_ble_eq_true rfl) ⟨Nat.le_of_ble_eq_true rfl, Nat.le_of_ble_eq_true rfl⟩ dX8_put_49) (fun r11 u Hx lx hw I => ?_)
        obtain ⟨o10, eo10⟩ : ∃ z, z = u := ⟨_, rfl⟩
        subst eo10
        have I : Iv G A s (cs_X8_put G a_M a_M_now a_M_kept a_M_aside a_M_errors a_M_meetsFound a_M_deedsFound a_M_ahead a_M_NAMED a_M_code a_M_named a_M_pile a_M_often a_M_trace a_M_widths a_M_sizes a_M_numbers a_M_carried M_images M_at M_open M_use M_isWrong M_coded M_traced M_kind M_number M_told o10 M_widths M_sizes M_numbers) Hx lx := I
        exact x_ret1 C I (o10, M_numbers) rfl hw dX8_put_52
    · have hw := And.right hw c3
      refine x_aload_n C hl 0 dX8_put_23 rfl ?_
      refine x_ldc C wd_1209 dX8_put_24 ?_
      refine x_mui (wk := cs_X8_finding G a_M a_M_now a_M_kept a_M_aside a_M_errors a_M_meetsFound a_M_deedsFound a_M_ahead a_M_NAMED a_M_code a_M_named a_M_pile a_M_often a_M_trace a_M_widths a_M_sizes a_M_numbers a_M_carried M_images M_at M_open M_use M_isWrong M_coded M_traced M_kind M_number M_told M_errors) (wr := [(a_M_widths, .inl (cI G, 4, .inl M_widths)), (a_M_sizes, .inl (cI G, 4, .inl M_sizes)), (a_M_numbers, .inl (cI G, 160, .inl M_numbers))]) (isC := [0, 1]) (isR := [2, 3, 4]) I ⟨⟨rfl, rfl⟩, rfl, rfl, rfl⟩ [3, 4, 0, 1, 2] (fun u => cs_X8_put G a_M a_M_now a_M_kept a_M_aside a_M_errors a_M_meetsFound a_M_deedsFound a_M_ahead a_M_NAMED a_M_code a_M_named a_M_pile a_M_often a_M_trace a_M_widths a_M_sizes a_M_numbers a_M_carried M_images M_at M_open M_use M_isWrong M_coded M_traced M_kind M_number M_told u M_widths M_sizes M_numbers) (fun _ => rfl) rfl (run_V (As := [.int (-1000000002 : Int32)]) (rest := []) C hl (wk_X8_finding l G a_M a_M_now a_M_kept a_M_aside a_M_errors a_M_meetsFound a_M_deedsFound a_M_ahead a_M_NAMED a_M_code a_M_named a_M_pile a_M_often a_M_trace a_M_widths a_M_sizes a_M_numbers a_M_carried s.heap.size M_images M_at M_open M_use M_isWrong M_coded M_traced M_kind M_number M_told M_errors (-1000000002 : Int32) _ hw) gm_X8_87 ⟨⟨rfl, rfl⟩, cn_X8_finding, ⟨(Nat.le_of_ble_eq_true rfl), (Nat.le_of_ble_eq_true rfl)⟩⟩ (pb_blind _ _ _ _) (x_recv I.1 0 rfl rfl) (pb_of I [0, 1] rfl rfl) rfl rfl (Nat.le_of_ble_eq_true rfl) ⟨Nat.le_of_ble_eq_true rfl, Nat.le_of_ble_eq_true rfl⟩ dX8_put_26) (fun r13 u Hx lx hw I => ?_)
      obtain ⟨o12, eo12⟩ : ∃ z, z = u := ⟨_, rfl⟩
      subst eo12
      have I : Iv G A s (cs_X8_put G a_M a_M_now a_M_kept a_M_aside a_M_errors a_M_meetsFound a_M_deedsFound a_M_ahead a_M_NAMED a_M_code a_M_named a_M_pile a_M_often a_M_trace a_M_widths a_M_sizes a_M_numbers a_M_carried M_images M_at M_open M_use M_isWrong M_coded M_traced M_kind M_number M_told o12 M_widths M_sizes M_numbers) Hx lx := I
      exact x_ret1 C I (o12, M_numbers) rfl hw dX8_put_29
  · have hw := And.right hw c2
    refine x_aload_n C hl 0 dX8_put_7 rfl ?_
    refine x_ldc C wd_931 dX8_put_8 ?_
    refine x_mui (wk := cs_X8_finding G a_M a_M_now a_M_kept a_M_aside a_M_errors a_M_meetsFound a_M_deedsFound a_M_ahead a_M_NAMED a_M_code a_M_named a_M_pile a_M_often a_M_trace a_M_widths a_M_sizes a_M_numbers a_M_carried M_images M_at M_open M_use M_isWrong M_coded M_traced M_kind M_number M_told M_errors) (wr := [(a_M_widths, .inl (cI G, 4, .inl M_widths)), (a_M_sizes, .inl (cI G, 4, .inl M_sizes)), (a_M_numbers, .inl (cI G, 160, .inl M_numbers))]) (isC := [0, 1]) (isR := [2, 3, 4]) I ⟨⟨rfl, rfl⟩, rfl, rfl, rfl⟩ [3, 4, 0, 1, 2] (fun u => cs_X8_put G a_M a_M_now a_M_kept a_M_aside a_M_errors a_M_meetsFound a_M_deedsFound a_M_ahead a_M_NAMED a_M_code a_M_named a_M_pile a_M_often a_M_trace a_M_widths a_M_sizes a_M_numbers a_M_carried M_images M_at M_open M_use M_isWrong M_coded M_traced M_kind M_number M_told u M_widths M_sizes M_numbers) (fun _ => rfl) rfl (run_V (As := [.int (-1000000001 : Int32)]) (rest := []) C hl (wk_X8_finding l G a_M a_M_now a_M_kept a_M_aside a_M_errors a_M_meetsFound a_M_deedsFound a_M_ahead a_M_NAMED a_M_code a_M_named a_M_pile a_M_often a_M_trace a_M_widths a_M_sizes a_M_numbers a_M_carried s.heap.size M_images M_at M_open M_use M_isWrong M_coded M_traced M_kind M_number M_told M_errors (-1000000001 : Int32) _ hw) gm_X8_87 ⟨⟨rfl, rfl⟩, cn_X8_finding, ⟨(Nat.le_of_ble_eq_true rfl), (Nat.le_of_ble_eq_true rfl)⟩⟩ (pb_blind _ _ _ _) (x_recv I.1 0 rfl rfl) (pb_of I [0, 1] rfl rfl) rfl rfl (Nat.le_of_ble_eq_true rfl) ⟨Nat.le_of_ble_eq_true rfl, Nat.le_of_ble_eq_true rfl⟩ dX8_put_10) (fun r15 u Hx lx hw I => ?_)
    obtain ⟨o14, eo14⟩ : ∃ z, z = u := ⟨_, rfl⟩
    subst eo14
    have I : Iv G A s (cs_X8_put G a_M a_M_now a_M_kept a_M_aside a_M_errors a_M_meetsFound a_M_deedsFound a_M_ahead a_M_NAMED a_M_code a_M_named a_M_pile a_M_often a_M_trace a_M_widths a_M_sizes a_M_numbers a_M_carried M_images M_at M_open M_use M_isWrong M_coded M_traced M_kind M_number M_told o14 M_widths M_sizes M_numbers) Hx lx := I
    exact x_ret1 C I (o14, M_numbers) rfl hw dX8_put_13
/-! X8_move -/
abbrev rm_X8_move : Room := { frames := 2, cells := 0, slots := 0, locals := 42 }
abbrev cs_X8_move (G : Gt) (a_M : Nat) (a_M_now : Nat) (a_M_kept : Nat) (a_M_aside : Nat) (a_M_errors : Nat) (a_M_meetsFound : Nat) (a_M_deedsFound : Nat) (a_M_ahead : Nat) (a_M_NAMED : Nat) (a_M_code : Nat) (a_M_named : Nat) (a_M_pile : Nat) (a_M_often : Nat) (a_M_trace : Nat) (a_M_widths : Nat) (a_M_sizes : Nat) (a_M_numbers : Nat) (a_M_carried : Nat) (M_images : Int32) (M_at : Int32) (M_open : Int32) (M_use : Int32) (M_isWrong : Int32) (M_coded : Int32) (M_traced : Int32) (M_kind : Int32) (M_number : Int32) (M_told : Int32) (M_errors : Nat → Int32) (M_widths : Nat → Int32) (M_sizes : Nat → Int32) (M_numbers : Nat → Int32) (M_carried : Nat → Int32) : va_W := [(a_M, .inr (8, [.ref a_M_now, .ref a_M_kept, .ref a_M_aside, .int M_images, .ref a_M_errors, .ref a_M_meetsFound, .ref a_M_deedsFound, .ref a_M_ahead, .ref a_M_NAMED, .int M_at, .int M_open, .int M_use, .int M_isWrong, .ref a_M_code, .int M_coded, .ref a_M_named, .ref a_M_pile, .ref a_M_often, .ref a_M_trace, .int M_traced, .int M_kind, .int M_number, .int M_told, .ref a_M_widths, .ref a_M_sizes, .ref a_M_numbers, .ref a_M_carried])), (a_M_errors, .inl (cI G, 6, .inl M_errors)), (a_M_widths, .inl (cI G, 4, .inl M_widths)), (a_M_sizes, .inl (cI G, 4, .inl M_sizes)), (a_M_numbers, .inl (cI G, 160, .inl M_numbers)), (a_M_carried, .inl (cI G, 40, .inl M_carried))]
abbrev qc_X8_move (G : Gt) (a_M : Nat) (a_M_now : Nat) (a_M_kept : Nat) (a_M_aside : Nat) (a_M_errors : Nat) (a_M_meetsFound : Nat) (a_M_deedsFound : Nat) (a_M_ahead : Nat) (a_M_NAMED : Nat) (a_M_code : Nat) (a_M_named : Nat) (a_M_pile : Nat) (a_M_often : Nat) (a_M_trace : Nat) (a_M_widths : Nat) (a_M_sizes : Nat) (a_M_numbers : Nat) (a_M_carried : Nat) (M_images : Int32) (M_at : Int32) (M_open : Int32) (M_use : Int32) (M_isWrong : Int32) (M_coded : Int32) (M_traced : Int32) (M_kind : Int32) (M_number : Int32) (M_told : Int32) (M_widths : Nat → Int32) (M_sizes : Nat → Int32) (A : Nat → Prop) (Q : Int32 → (Nat → Int32) → (Nat → Int32) → (Nat → Int32) → Prop) : Array Value → State → Outcome → State → Prop := Qi1 G A (fun r (u : (Nat → Int32) × (Nat → Int32) × (Nat → Int32)) => Q r u.1 u.2.1 u.2.2) (fun u => cs_X8_move G a_M a_M_now a_M_kept a_M_aside a_M_errors a_M_meetsFound a_M_deedsFound a_M_ahead a_M_NAMED a_M_code a_M_named a_M_pile a_M_often a_M_trace a_M_widths a_M_sizes a_M_numbers a_M_carried M_images M_at M_open M_use M_isWrong M_coded M_traced M_kind M_number M_told u.1 M_widths M_sizes u.2.1 u.2.2)
def lb_X8_move_14 (x1 : Int32) (x2 : Int32) (x3 : Int32) (x4 : Int32) (x5 : Int32) (M_widths : Nat → Int32) (M_sizes : Nat → Int32) (Q : Int32 → (Nat → Int32) → (Nat → Int32) → (Nat → Int32) → Prop) (w_M_errors : Nat → Int32) (w_M_numbers : Nat → Int32) (w_M_carried : Nat → Int32) : Prop := (wp_X8_finding (-1000000001 : Int32) w_M_errors (fun r4 o3 => (Q r4 o3 w_M_numbers w_M_carried)))
set_option maxHeartbeats 4000000 in
set_option maxRecDepth 100000 in
theorem lk_X8_move_14 {p : Program} {l : Launch} {e : Env} {s : State} {m : MethodId} {args : Array Value} {below : List Frame} {meth : Method} {c : Code} {A : Nat → Prop} (G : Gt) (a_M : Nat) (a_M_now : Nat) (a_M_kept : Nat) (a_M_aside : Nat) (a_M_errors : Nat) (a_M_meetsFound : Nat) (a_M_deedsFound : Nat) (a_M_ahead : Nat) (a_M_NAMED : Nat) (a_M_code : Nat) (a_M_named : Nat) (a_M_pile : Nat) (a_M_often : Nat) (a_M_trace : Nat) (a_M_widths : Nat) (a_M_sizes : Nat) (a_M_numbers : Nat) (a_M_carried : Nat) (C : Cx p s m args meth c cX8_move 7 RX8 (some .int)) (x1 : Int32) (x2 : Int32) (x3 : Int32) (x4 : Int32) (x5 : Int32) (M_widths : Nat → Int32) (M_sizes : Nat → Int32) (M_images : Int32) (M_at : Int32) (M_open : Int32) (M_use : Int32) (M_isWrong : Int32) (M_coded : Int32) (M_traced : Int32) (M_kind : Int32) (M_number : Int32) (M_told : Int32) (Q : Int32 → (Nat → Int32) → (Nat → Int32) → (Nat → Int32) → Prop) : ∀ (w_M_errors : Nat → Int32) (w_M_numbers : Nat → Int32) (w_M_carried : Nat → Int32) (Hx : Heap) (lx : List Loc) (ls : Array Slot), lb_X8_move_14 x1 x2 x3 x4 x5 M_widths M_sizes Q w_M_errors w_M_numbers w_M_carried → Iv G A s (cs_X8_move G a_M a_M_now a_M_kept a_M_aside a_M_errors a_M_meetsFound a_M_deedsFound a_M_ahead a_M_NAMED a_M_code a_M_named a_M_pile a_M_often a_M_trace a_M_widths a_M_sizes a_M_numbers a_M_carried M_images M_at M_open M_use M_isWrong M_coded M_traced M_kind M_number M_told w_M_errors M_widths M_sizes w_M_numbers w_M_carried) Hx lx → lv_has ls 7 [(0, .ref a_M)] → W p l e rm_X8_move s m args below meth c Hx lx 0 0 (MQ below (qc_X8_move G a_M a_M_now a_M_kept a_M_aside a_M_errors a_M_meetsFound a_M_deedsFound a_M_ahead a_M_NAMED a_M_code a_M_named a_M_pile a_M_often a_M_trace a_M_widths a_M_sizes a_M_numbers a_M_carried M_images M_at M_open M_use M_isWrong M_coded M_traced M_kind M_number M_told M_widths M_sizes A Q) args s 0 0 A) (F0 m 14 ls []) := by
  intro w_M_errors w_M_numbers w_M_carried Hx lx  ls hw I hl
  refine x_aload_n C hl 0 dX8_move_14 rfl ?_
  refine x_ldc C wd_931 dX8_move_15 ?_
  refine x_mui (wk := cs_X8_finding G a_M a_M_now a_M_kept a_M_aside a_M_errors a_M_meetsFound a_M_deedsFound a_M_ahead a_M_NAMED a_M_code a_M_named a_M_pile a_M_often a_M_trace a_M_widths a_M_sizes a_M_numbers a_M_carried M_images M_at M_open M_use M_isWrong M_coded M_traced M_kind M_number M_told w_M_errors) (wr := [(a_M_widths, .inl (cI G, 4, .inl M_widths)), (a_M_sizes, .inl (cI G, 4, .inl M_sizes)), (a_M_numbers, .inl (cI G, 160, .inl w_M_numbers)), (a_M_carried, .inl (cI G, 40, .inl w_M_carried))]) (isC := [0, 1]) (isR := [2, 3, 4, 5]) I ⟨⟨rfl, rfl⟩, rfl, rfl, rfl⟩ [4, 5, 0, 1, 2, 3] (fun u => cs_X8_move G a_M a_M_now a_M_kept a_M_aside a_M_errors a_M_meetsFound a_M_deedsFound a_M_ahead a_M_NAMED a_M_code a_M_named a_M_pile a_M_often a_M_trace a_M_widths a_M_sizes a_M_numbers a_M_carried M_images M_at M_open M_use M_isWrong M_coded M_traced M_kind M_number M_told u M_widths M_sizes w_M_numbers w_M_carried) (fun _ => rfl) rfl (run_V (As := [.int (-1000000001 : Int32)]) (rest := []) C hl (wk_X8_finding l G a_M a_M_now a_M_kept a_M_aside a_M_errors a_M_meetsFound a_M_deedsFound a_M_ahead a_M_NAMED a_M_code a_M_named a_M_pile a_M_often a_M_trace a_M_widths a_M_sizes a_M_numbers a_M_carried Hx.size M_images M_at M_open M_use M_isWrong M_coded M_traced M_kind M_number M_told w_M_errors (-1000000001 : Int32) _ hw) gm_X8_87 ⟨⟨rfl, rfl⟩, cn_X8_finding, ⟨(Nat.le_of_ble_eq_true rfl), (Nat.le_of_ble_eq_true rfl)⟩⟩ (pb_blind _ _ _ _) (x_recv I.1 0 rfl rfl) (pb_of I [0, 1] rfl rfl) rfl rfl (Nat.le_of_ble_eq_true rfl) ⟨Nat.le_of_ble_eq_true rfl, Nat.le_of_ble_eq_true rfl⟩ dX8_move_17) (fun r4 u Hx lx hw I => ?_)
  obtain ⟨o3, eo3⟩ : ∃ z, z = u := ⟨_, rfl⟩
  subst eo3
  have I : Iv G A s (cs_X8_move G a_M a_M_now a_M_kept a_M_aside a_M_errors a_M_meetsFound a_M_deedsFound a_M_ahead a_M_NAMED a_M_code a_M_named a_M_pile a_M_often a_M_trace a_M_widths a_M_sizes a_M_numbers a_M_carried M_images M_at M_open M_use M_isWrong M_coded M_traced M_kind M_number M_told o3 M_widths M_sizes w_M_numbers w_M_carried) Hx lx := I
  exact x_ret1 C I (o3, w_M_numbers, w_M_carried) rfl hw dX8_move_20
def lb_X8_move_39 (x1 : Int32) (x2 : Int32) (x3 : Int32) (x4 : Int32) (x5 : Int32) (M_widths : Nat → Int32) (M_sizes : Nat → Int32) (Q : Int32 → (Nat → Int32) → (Nat → Int32) → (Nat → Int32) → Prop) (w_M_errors : Nat → Int32) (w_M_numbers : Nat → Int32) (w_M_carried : Nat → Int32) : Prop := (wp_X8_finding (-1000000002 : Int32) w_M_errors (fun r9 o8 => (Q r9 o8 w_M_numbers w_M_carried)))
set_option maxHeartbeats 4000000 in
set_option maxRecDepth 100000 in
theorem lk_X8_move_39 {p : Program} {l : Launch} {e : Env} {s : State} {m : MethodId} {args : Array Value} {below : List Frame} {meth : Method} {c : Code} {A : Nat → Prop} (G : Gt) (a_M : Nat) (a_M_now : Nat) (a_M_kept : Nat) (a_M_aside : Nat) (a_M_errors : Nat) (a_M_meetsFound : Nat) (a_M_deedsFound : Nat) (a_M_ahead : Nat) (a_M_NAMED : Nat) (a_M_code : Nat) (a_M_named : Nat) (a_M_pile : Nat) (a_M_often : Nat) (a_M_trace : Nat) (a_M_widths : Nat) (a_M_sizes : Nat) (a_M_numbers : Nat) (a_M_carried : Nat) (C : Cx p s m args meth c cX8_move 7 RX8 (some .int)) (x1 : Int32) (x2 : Int32) (x3 : Int32) (x4 : Int32) (x5 : Int32) (M_widths : Nat → Int32) (M_sizes : Nat → Int32) (M_images : Int32) (M_at : Int32) (M_open : Int32) (M_use : Int32) (M_isWrong : Int32) (M_coded : Int32) (M_traced : Int32) (M_kind : Int32) (M_number : Int32) (M_told : Int32) (Q : Int32 → (Nat → Int32) → (Nat → Int32) → (Nat → Int32) → Prop) : ∀ (w_M_errors : Nat → Int32) (w_M_numbers : Nat → Int32) (w_M_carried : Nat → Int32) (Hx : Heap) (lx : List Loc) (ls : Array Slot), lb_X8_move_39 x1 x2 x3 x4 x5 M_widths M_sizes Q w_M_errors w_M_numbers w_M_carried → Iv G A s (cs_X8_move G a_M a_M_now a_M_kept a_M_aside a_M_errors a_M_meetsFound a_M_deedsFound a_M_ahead a_M_NAMED a_M_code a_M_named a_M_pile a_M_often a_M_trace a_M_widths a_M_sizes a_M_numbers a_M_carried M_images M_at M_open M_use M_isWrong M_coded M_traced M_kind M_number M_told w_M_errors M_widths M_sizes w_M_numbers w_M_carried) Hx lx → lv_has ls 7 [(0, .ref a_M)] → W p l e rm_X8_move s m args below meth c Hx lx 0 0 (MQ below (qc_X8_move G a_M a_M_now a_M_kept a_M_aside a_M_errors a_M_meetsFound a_M_deedsFound a_M_ahead a_M_NAMED a_M_code a_M_named a_M_pile a_M_often a_M_trace a_M_widths a_M_sizes a_M_numbers a_M_carried M_images M_at M_open M_use M_isWrong M_coded M_traced M_kind M_number M_told M_widths M_sizes A Q) args s 0 0 A) (F0 m 39 ls []) := by
  intro w_M_errors w_M_numbers w_M_carried Hx lx  ls hw I hl
  refine x_aload_n C hl 0 dX8_move_39 rfl ?_
  refine x_ldc C wd_1209 dX8_move_40 ?_
  refine x_mui (wk := cs_X8_finding G a_M a_M_now a_M_kept a_M_aside a_M_errors a_M_meetsFound a_M_deedsFound a_M_ahead a_M_NAMED a_M_code a_M_named a_M_pile a_M_often a_M_trace a_M_widths a_M_sizes a_M_numbers a_M_carried M_images M_at M_open M_use M_isWrong M_coded M_traced M_kind M_number M_told w_M_errors) (wr := [(a_M_widths, .inl (cI G, 4, .inl M_widths)), (a_M_sizes, .inl (cI G, 4, .inl M_sizes)), (a_M_numbers, .inl (cI G, 160, .inl w_M_numbers)), (a_M_carried, .inl (cI G, 40, .inl w_M_carried))]) (isC := [0, 1]) (isR := [2, 3, 4, 5]) I ⟨⟨rfl, rfl⟩, rfl, rfl, rfl⟩ [4, 5, 0, 1, 2, 3] (fun u => cs_X8_move G a_M a_M_now a_M_kept a_M_aside a_M_errors a_M_meetsFound a_M_deedsFound a_M_ahead a_M_NAMED a_M_code a_M_named a_M_pile a_M_often a_M_trace a_M_widths a_M_sizes a_M_numbers a_M_carried M_images M_at M_open M_use M_isWrong M_coded M_traced M_kind M_number M_told u M_widths M_sizes w_M_numbers w_M_carried) (fun _ => rfl) rfl (run_V (As := [.int (-1000000002 : Int32)]) (rest := []) C hl (wk_X8_finding l G a_M a_M_now a_M_kept a_M_aside a_M_errors a_M_meetsFound a_M_deedsFound a_M_ahead a_M_NAMED a_M_code a_M_named a_M_pile a_M_often a_M_trace a_M_widths a_M_sizes a_M_numbers a_M_carried Hx.size M_images M_at M_open M_use M_isWrong M_coded M_traced M_kind M_number M_told w_M_errors (-1000000002 : Int32) _ hw) gm_X8_87 ⟨⟨rfl, rfl⟩, cn_X8_finding, ⟨(Nat.le_of_ble_eq_true rfl), (Nat.le_of_ble_eq_true rfl)⟩⟩ (pb_blind _ _ _ _) (x_recv I.1 0 rfl rfl) (pb_of I [0, 1] rfl rfl) rfl rfl (Nat.le_of_ble_eq_true rfl) ⟨Nat.le_of_ble_eq_true rfl, Nat.le_of_ble_eq_true rfl⟩ dX8_move_42) (fun r9 u Hx lx hw I => ?_)
  obtain ⟨o8, eo8⟩ : ∃ z, z = u := ⟨_, rfl⟩
  subst eo8
  have I : Iv G A s (cs_X8_move G a_M a_M_now a_M_kept a_M_aside a_M_errors a_M_meetsFound a_M_deedsFound a_M_ahead a_M_NAMED a_M_code a_M_named a_M_pile a_M_often a_M_trace a_M_widths a_M_sizes a_M_numbers a_M_carried M_images M_at M_open M_use M_isWrong M_coded M_traced M_kind M_number M_told o8 M_widths M_sizes w_M_numbers w_M_carried) Hx lx := I
  exact x_ret1 C I (o8, w_M_numbers, w_M_carried) rfl hw dX8_move_45
def lb_X8_move_117 (x1 : Int32) (x2 : Int32) (x3 : Int32) (x4 : Int32) (x5 : Int32) (M_widths : Nat → Int32) (M_sizes : Nat → Int32) (Q : Int32 → (Nat → Int32) → (Nat → Int32) → (Nat → Int32) → Prop) (w_M_errors : Nat → Int32) (w_M_numbers : Nat → Int32) (w_M_carried : Nat → Int32) : Prop := (wp_X8_finding (-1000000001 : Int32) w_M_errors (fun r14 o13 => (Q r14 o13 w_M_numbers w_M_carried)))
set_option maxHeartbeats 4000000 in
set_option maxRecDepth 100000 in
theorem lk_X8_move_117 {p : Program} {l : Launch} {e : Env} {s : State} {m : MethodId} {args : Array Value} {below : List Frame} {meth : Method} {c : Code} {A : Nat → Prop} (G : Gt) (a_M : Nat) (a_M_now : Nat) (a_M_kept : Nat) (a_M_aside : Nat) (a_M_errors : Nat) (a_M_meetsFound : Nat) (a_M_deedsFound : Nat) (a_M_ahead : Nat) (a_M_NAMED : Nat) (a_M_code : Nat) (a_M_named : Nat) (a_M_pile : Nat) (a_M_often : Nat) (a_M_trace : Nat) (a_M_widths : Nat) (a_M_sizes : Nat) (a_M_numbers : Nat) (a_M_carried : Nat) (C : Cx p s m args meth c cX8_move 7 RX8 (some .int)) (x1 : Int32) (x2 : Int32) (x3 : Int32) (x4 : Int32) (x5 : Int32) (M_widths : Nat → Int32) (M_sizes : Nat → Int32) (M_images : Int32) (M_at : Int32) (M_open : Int32) (M_use : Int32) (M_isWrong : Int32) (M_coded : Int32) (M_traced : Int32) (M_kind : Int32) (M_number : Int32) (M_told : Int32) (Q : Int32 → (Nat → Int32) → (Nat → Int32) → (Nat → Int32) → Prop) : ∀ (w_M_errors : Nat → Int32) (w_M_numbers : Nat → Int32) (w_M_carried : Nat → Int32) (Hx : Heap) (lx : List Loc) (ls : Array Slot), lb_X8_move_117 x1 x2 x3 x4 x5 M_widths M_sizes Q w_M_errors w_M_numbers w_M_carried → Iv G A s (cs_X8_move G a_M a_M_now a_M_kept a_M_aside a_M_errors a_M_meetsFound a_M_deedsFound a_M_ahead a_M_NAMED a_M_code a_M_named a_M_pile a_M_often a_M_trace a_M_widths a_M_sizes a_M_numbers a_M_carried M_images M_at M_open M_use M_isWrong M_coded M_traced M_kind M_number M_told w_M_errors M_widths M_sizes w_M_numbers w_M_carried) Hx lx → lv_has ls 7 [(0, .ref a_M)] → W p l e rm_X8_move s m args below meth c Hx lx 0 0 (MQ below (qc_X8_move G a_M a_M_now a_M_kept a_M_aside a_M_errors a_M_meetsFound a_M_deedsFound a_M_ahead a_M_NAMED a_M_code a_M_named a_M_pile a_M_often a_M_trace a_M_widths a_M_sizes a_M_numbers a_M_carried M_images M_at M_open M_use M_isWrong M_coded M_traced M_kind M_number M_told M_widths M_sizes A Q) args s 0 0 A) (F0 m 117 ls []) := by
  intro w_M_errors w_M_numbers w_M_carried Hx lx  ls hw I hl
  refine x_aload_n C hl 0 dX8_move_117 rfl ?_
  refine x_ldc C wd_931 dX8_move_118 ?_
  refine x_mui (wk := cs_X8_finding G a_M a_M_now a_M_kept a_M_aside a_M_errors a_M_meetsFound a_M_deedsFound a_M_ahead a_M_NAMED a_M_code a_M_named a_M_pile a_M_often a_M_trace a_M_widths a_M_sizes a_M_numbers a_M_carried M_images M_at M_open M_use M_isWrong M_coded M_traced M_kind M_number M_told w_M_errors) (wr := [(a_M_widths, .inl (cI G, 4, .inl M_widths)), (a_M_sizes, .inl (cI G, 4, .inl M_sizes)), (a_M_numbers, .inl (cI G, 160, .inl w_M_numbers)), (a_M_carried, .inl (cI G, 40, .inl w_M_carried))]) (isC := [0, 1]) (isR := [2, 3, 4, 5]) I ⟨⟨rfl, rfl⟩, rfl, rfl, rfl⟩ [4, 5, 0, 1, 2, 3] (fun u => cs_X8_move G a_M a_M_now a_M_kept a_M_aside a_M_errors a_M_meetsFound a_M_deedsFound a_M_ahead a_M_NAMED a_M_code a_M_named a_M_pile a_M_often a_M_trace a_M_widths a_M_sizes a_M_numbers a_M_carried M_images M_at M_open M_use M_isWrong M_coded M_traced M_kind M_number M_told u M_widths M_sizes w_M_numbers w_M_carried) (fun _ => rfl) rfl (run_V (As := [.int (-1000000001 : Int32)]) (rest := []) C hl (wk_X8_finding l G a_M a_M_now a_M_kept a_M_aside a_M_errors a_M_meetsFound a_M_deedsFound a_M_ahead a_M_NAMED a_M_code a_M_named a_M_pile a_M_often a_M_trace a_M_widths a_M_sizes a_M_numbers a_M_carried Hx.size M_images M_at M_open M_use M_isWrong M_coded M_traced M_kind M_number M_told w_M_errors (-1000000001 : Int32) _ hw) gm_X8_87 ⟨⟨rfl, rfl⟩, cn_X8_finding, ⟨(Nat.le_of_ble_eq_true rfl), (Nat.le_of_ble_eq_true rfl)⟩⟩ (pb_blind _ _ _ _) (x_recv I.1 0 rfl rfl) (pb_of I [0, 1] rfl rfl) rfl rfl (Nat.le_of_ble_eq_true rfl) ⟨Nat.le_of_ble_eq_true rfl, Nat.le_of_ble_eq_true rfl⟩ dX8_move_120) (fun r14 u Hx lx hw I => ?_)
  obtain ⟨o13, eo13⟩ : ∃ z, z = u := ⟨_, rfl⟩
  subst eo13
  have I : Iv G A s (cs_X8_move G a_M a_M_now a_M_kept a_M_aside a_M_errors a_M_meetsFound a_M_deedsFound a_M_ahead a_M_NAMED a_M_code a_M_named a_M_pile a_M_often a_M_trace a_M_widths a_M_sizes a_M_numbers a_M_carried M_images M_at M_open M_use M_isWrong M_coded M_traced M_kind M_number M_told o13 M_widths M_sizes w_M_numbers w_M_carried) Hx lx := I
  exact x_ret1 C I (o13, w_M_numbers, w_M_carried) rfl hw dX8_move_123
def lb_X8_move_164 (x1 : Int32) (x2 : Int32) (x3 : Int32) (x4 : Int32) (x5 : Int32) (M_widths : Nat → Int32) (M_sizes : Nat → Int32) (Q : Int32 → (Nat → Int32) → (Nat → Int32) → (Nat → Int32) → Prop) : Nat → Int32 → (Nat → Int32) → (Nat → Int32) → (Nat → Int32) → Prop
  | 0 => fun _ _ _ _ => False
  | k + 1 => fun (y6 : Int32) (w_M_errors : Nat → Int32) (w_M_numbers : Nat → Int32) (w_M_carried : Nat → Int32) => ((x5 ≤ y6 → (Q x5 w_M_errors w_M_numbers w_M_carried)) ∧ (¬ x5 ≤ y6 → (vp_in y6 40 ∧ (∀ v21 : Int32, v21 = (w_M_carried (y6).toNatClampNeg) → (vp_in ((((40 : Int32) * x3) + x4) + y6) 160 ∧ (lb_X8_move_164 x1 x2 x3 x4 x5 M_widths M_sizes Q k (y6 + (1 : Int32)) w_M_errors (upd w_M_numbers (((((40 : Int32) * x3) + x4) + y6)).toNatClampNeg v21) w_M_carried))))))
set_option maxHeartbeats 4000000 in
set_option maxRecDepth 100000 in
theorem lk_X8_move_164 {p : Program} {l : Launch} {e : Env} {s : State} {m : MethodId} {args : Array Value} {below : List Frame} {meth : Method} {c : Code} {A : Nat → Prop} (G : Gt) (a_M : Nat) (a_M_now : Nat) (a_M_kept : Nat) (a_M_aside : Nat) (a_M_errors : Nat) (a_M_meetsFound : Nat) (a_M_deedsFound : Nat) (a_M_ahead : Nat) (a_M_NAMED : Nat) (a_M_code : Nat) (a_M_named : Nat) (a_M_pile : Nat) (a_M_often : Nat) (a_M_trace : Nat) (a_M_widths : Nat) (a_M_sizes : Nat) (a_M_numbers : Nat) (a_M_carried : Nat) (C : Cx p s m args meth c cX8_move 7 RX8 (some .int)) (x1 : Int32) (x2 : Int32) (x3 : Int32) (x4 : Int32) (x5 : Int32) (M_widths : Nat → Int32) (M_sizes : Nat → Int32) (M_images : Int32) (M_at : Int32) (M_open : Int32) (M_use : Int32) (M_isWrong : Int32) (M_coded : Int32) (M_traced : Int32) (M_kind : Int32) (M_number : Int32) (M_told : Int32) (Q : Int32 → (Nat → Int32) → (Nat → Int32) → (Nat → Int32) → Prop) : ∀ (n : Nat) (y6 : Int32) (w_M_errors : Nat → Int32) (w_M_numbers : Nat → Int32) (w_M_carried : Nat → Int32) (Hx : Heap) (lx : List Loc) (ls : Array Slot), lb_X8_move_164 x1 x2 x3 x4 x5 M_widths M_sizes Q n y6 w_M_errors w_M_numbers w_M_carried → Iv G A s (cs_X8_move G a_M a_M_now a_M_kept a_M_aside a_M_errors a_M_meetsFound a_M_deedsFound a_M_ahead a_M_NAMED a_M_code a_M_named a_M_pile a_M_often a_M_trace a_M_widths a_M_sizes a_M_numbers a_M_carried M_images M_at M_open M_use M_isWrong M_coded M_traced M_kind M_number M_told w_M_errors M_widths M_sizes w_M_numbers w_M_carried) Hx lx → lv_has ls 7 [(0, .ref a_M), (3, .int x3), (4, .int x4), (5, .int x5), (6, .int y6)] → W p l e rm_X8_move s m args below meth c Hx lx 0 0 (MQ below (qc_X8_move G a_M a_M_now a_M_kept a_M_aside a_M_errors a_M_meetsFound a_M_deedsFound a_M_ahead a_M_NAMED a_M_code a_M_named a_M_pile a_M_often a_M_trace a_M_widths a_M_sizes a_M_numbers a_M_carried M_images M_at M_open M_use M_isWrong M_coded M_traced M_kind M_number M_told M_widths M_sizes A Q) args s 0 0 A) (F0 m 164 ls []) := by
  intro n
  induction n with
  | zero => intro y6 w_M_errors w_M_numbers w_M_carried Hx lx  ls hw I hl; exact False.elim hw
  | succ k ih =>
    intro y6 w_M_errors w_M_numbers w_M_carried Hx lx  ls hw I hl
    refine x_iload C hl 4 dX8_move_164 rfl ?_
    refine x_iload C hl 3 dX8_move_166 rfl ?_
    refine x_icmp_ge C 199 dX8_move_168 (by decide) (fun c20 => ?_) (fun c20 => ?_)
    · have hw := And.left hw c20
      refine x_iload C hl 3 dX8_move_199 rfl ?_
      exact x_ret1 C I (w_M_errors, w_M_numbers, w_M_carried) rfl hw dX8_move_201
    · have hw := And.right hw c20
      refine x_aload_n C hl 0 dX8_move_171 rfl ?_
      refine x_get C I.1 fl_X8_62 0 rfl rfl dX8_move_172 ?_
      refine x_bipush C dX8_move_175 bp_40 ?_
      refine x_iload_n C hl 1 dX8_move_177 rfl ?_
      refine x_imul C dX8_move_178 ?_
      refine x_iload C hl 2 dX8_move_179 rfl ?_
      refine x_iadd C dX8_move_181 ?_
      refine x_iload C hl 4 dX8_move_182 rfl ?_
      refine x_iadd C dX8_move_184 ?_
      refine x_aload_n C hl 0 dX8_move_185 rfl ?_
      refine x_get C I.1 fl_X8_65 0 rfl rfl dX8_move_186 ?_
      refine x_iload C hl 4 dX8_move_189 rfl ?_
      refine x_iald C I.1 5 rfl (And.left hw) dX8_move_191 ?_
      have hw := And.right hw
      refine lv_topi (fun v21 ev21 => ?_)
      have hw := hw v21 ev21
      refine x_iast C I 4 (cs_X8_move G a_M a_M_now a_M_kept a_M_aside a_M_errors a_M_meetsFound a_M_deedsFound a_M_ahead a_M_NAMED a_M_code a_M_named a_M_pile a_M_often a_M_trace a_M_widths a_M_sizes a_M_numbers a_M_carried M_images M_at M_open M_use M_isWrong M_coded M_traced M_kind M_number M_told w_M_errors M_widths M_sizes (upd w_M_numbers (((((40 : Int32) * x3) + x4) + y6)).toNatClampNeg v21) w_M_carried) rfl (And.left hw) rfl dX8_move_192 (fun Hx lx I => ?_)
      have hw := And.right hw
      refine x_iinc C hl 4 [(6, .int (y6 + (1 : Int32))), (0, .ref a_M), (3, .int x3), (4, .int x4), (5, .int x5)] (y6 + (1 : Int32)) dX8_move_193 rfl (congrArg _ ic_1) (Nat.le_of_ble_eq_true rfl) rfl (fun ls hl => ?_)
      refine x_goto C 164 dX8_move_196 (by decide) ?_
      exact ih (y6 + (1 : Int32)) w_M_errors (upd w_M_numbers (((((40 : Int32) * x3) + x4) + y6)).toNatClampNeg v21) w_M_carried Hx lx ls hw I (lv_sub hl [1, 2, 3, 4, 0] rfl)
def lb_X8_move_127 (x1 : Int32) (x2 : Int32) (x3 : Int32) (x4 : Int32) (x5 : Int32) (M_widths : Nat → Int32) (M_sizes : Nat → Int32) (Q : Int32 → (Nat → Int32) → (Nat → Int32) → (Nat → Int32) → Prop) : Nat → Int32 → (Nat → Int32) → (Nat → Int32) → (Nat → Int32) → Prop
  | 0 => fun _ _ _ _ => False
  | k + 1 => fun (y6 : Int32) (w_M_errors : Nat → Int32) (w_M_numbers : Nat → Int32) (w_M_carried : Nat → Int32) => ((x5 ≤ y6 → (∃ n, lb_X8_move_164 x1 x2 x3 x4 x5 M_widths M_sizes Q n (0 : Int32) w_M_errors w_M_numbers w_M_carried)) ∧ (¬ x5 ≤ y6 → (vp_in ((((40 : Int32) * x1) + x2) + y6) 160 ∧ (∀ v22 : Int32, v22 = (w_M_numbers (((((40 : Int32) * x1) + x2) + y6)).toNatClampNeg) → (vp_in y6 40 ∧ (lb_X8_move_127 x1 x2 x3 x4 x5 M_widths M_sizes Q k (y6 + (1 : Int32)) w_M_errors w_M_numbers (upd w_M_carried (y6).toNatClampNeg v22)))))))
set_option maxHeartbeats 4000000 in
set_option maxRecDepth 100000 in
theorem lk_X8_move_127 {p : Program} {l : Launch} {e : Env} {s : State} {m : MethodId} {args : Array Value} {below : List Frame} {meth : Method} {c : Code} {A : Nat → Prop} (G : Gt) (a_M : Nat) (a_M_now : Nat) (a_M_kept : Nat) (a_M_aside : Nat) (a_M_errors : Nat) (a_M_meetsFound : Nat) (a_M_deedsFound : Nat) (a_M_ahead : Nat) (a_M_NAMED : Nat) (a_M_code : Nat) (a_M_named : Nat) (a_M_pile : Nat) (a_M_often : Nat) (a_M_trace : Nat) (a_M_widths : Nat) (a_M_sizes : Nat) (a_M_numbers : Nat) (a_M_carried : Nat) (C : Cx p s m args meth c cX8_move 7 RX8 (some .int)) (x1 : Int32) (x2 : Int32) (x3 : Int32) (x4 : Int32) (x5 : Int32) (M_widths : Nat → Int32) (M_sizes : Nat → Int32) (M_images : Int32) (M_at : Int32) (M_open : Int32) (M_use : Int32) (M_isWrong : Int32) (M_coded : Int32) (M_traced : Int32) (M_kind : Int32) (M_number : Int32) (M_told : Int32) (Q : Int32 → (Nat → Int32) → (Nat → Int32) → (Nat → Int32) → Prop) : ∀ (n : Nat) (y6 : Int32) (w_M_errors : Nat → Int32) (w_M_numbers : Nat → Int32) (w_M_carried : Nat → Int32) (Hx : Heap) (lx : List Loc) (ls : Array Slot), lb_X8_move_127 x1 x2 x3 x4 x5 M_widths M_sizes Q n y6 w_M_errors w_M_numbers w_M_carried → Iv G A s (cs_X8_move G a_M a_M_now a_M_kept a_M_aside a_M_errors a_M_meetsFound a_M_deedsFound a_M_ahead a_M_NAMED a_M_code a_M_named a_M_pile a_M_often a_M_trace a_M_widths a_M_sizes a_M_numbers a_M_carried M_images M_at M_open M_use M_isWrong M_coded M_traced M_kind M_number M_told w_M_errors M_widths M_sizes w_M_numbers w_M_carried) Hx lx → lv_has ls 7 [(0, .ref a_M), (1, .int x1), (2, .int x2), (3, .int x3), (4, .int x4), (5, .int x5), (6, .int y6)] → W p l e rm_X8_move s m args below meth c Hx lx 0 0 (MQ below (qc_X8_move G a_M a_M_now a_M_kept a_M_aside a_M_errors a_M_meetsFound a_M_deedsFound a_M_ahead a_M_NAMED a_M_code a_M_named a_M_pile a_M_often a_M_trace a_M_widths a_M_sizes a_M_numbers a_M_carried M_images M_at M_open M_use M_isWrong M_coded M_traced M_kind M_number M_told M_widths M_sizes A Q) args s 0 0 A) (F0 m 127 ls []) := by
  intro n
  induction n with
  | zero => intro y6 w_M_errors w_M_numbers w_M_carried Hx lx  ls hw I hl; exact False.elim hw
  | succ k ih =>
    intro y6 w_M_errors w_M_numbers w_M_carried Hx lx  ls hw I hl
    refine x_iload C hl 6 dX8_move_127 rfl ?_
    refine x_iload C hl 5 dX8_move_129 rfl ?_
    refine x_icmp_ge C 161 dX8_move_131 (by decide) (fun c19 => ?_) (fun c19 => ?_)
    · have hw := And.left hw c19
      refine x_iconst C dX8_move_161 ic_0 ?_
      refine x_istore C hl [(6, .int (0 : Int32)), (0, .ref a_M), (1, .int x1), (2, .int x2), (3, .int x3), (4, .int x4), (5, .int x5)] dX8_move_162 (Nat.le_of_ble_eq_true rfl) rfl (fun ls hl => ?_)
      obtain ⟨n, hw⟩ := hw
      exact lk_X8_move_164 G a_M a_M_now a_M_kept a_M_aside a_M_errors a_M_meetsFound a_M_deedsFound a_M_ahead a_M_NAMED a_M_code a_M_named a_M_pile a_M_often a_M_trace a_M_widths a_M_sizes a_M_numbers a_M_carried C x1 x2 x3 x4 x5 M_widths M_sizes M_images M_at M_open M_use M_isWrong M_coded M_traced M_kind M_number M_told Q n (0 : Int32) w_M_errors w_M_numbers w_M_carried Hx lx ls hw I (lv_sub hl [1, 4, 5, 6, 0] rfl)
    · have hw := And.right hw c19
      refine x_aload_n C hl 0 dX8_move_134 rfl ?_
      refine x_get C I.1 fl_X8_65 0 rfl rfl dX8_move_135 ?_
      refine x_iload C hl 6 dX8_move_138 rfl ?_
      refine x_aload_n C hl 0 dX8_move_140 rfl ?_
      refine x_get C I.1 fl_X8_62 0 rfl rfl dX8_move_141 ?_
      refine x_bipush C dX8_move_144 bp_40 ?_
      refine x_iload_n C hl 1 dX8_move_146 rfl ?_
      refine x_imul C dX8_move_147 ?_
      refine x_iload_n C hl 2 dX8_move_148 rfl ?_
      refine x_iadd C dX8_move_149 ?_
      refine x_iload C hl 6 dX8_move_150 rfl ?_
      refine x_iadd C dX8_move_152 ?_
      refine x_iald C I.1 4 rfl (And.left hw) dX8_move_153 ?_
      have hw := And.right hw
      refine lv_topi (fun v22 ev22 => ?_)
      have hw := hw v22 ev22
      refine x_iast C I 5 (cs_X8_move G a_M a_M_now a_M_kept a_M_aside a_M_errors a_M_meetsFound a_M_deedsFound a_M_ahead a_M_NAMED a_M_code a_M_named a_M_pile a_M_often a_M_trace a_M_widths a_M_sizes a_M_numbers a_M_carried M_images M_at M_open M_use M_isWrong M_coded M_traced M_kind M_number M_told w_M_errors M_widths M_sizes w_M_numbers (upd w_M_carried (y6).toNatClampNeg v22)) rfl (And.left hw) rfl dX8_move_154 (fun Hx lx I => ?_)
      have hw := And.right hw
      refine x_iinc C hl 6 [(6, .int (y6 + (1 : Int32))), (0, .ref a_M), (1, .int x1), (2, .int x2), (3, .int x3), (4, .int x4), (5, .int x5)] (y6 + (1 : Int32)) dX8_move_155 rfl (congrArg _ ic_1) (Nat.le_of_ble_eq_true rfl) rfl (fun ls hl => ?_)
      refine x_goto C 127 dX8_move_158 (by decide) ?_
      exact ih (y6 + (1 : Int32)) w_M_errors w_M_numbers (upd w_M_carried (y6).toNatClampNeg v22) Hx lx ls hw I (lv_sub hl [1, 2, 3, 4, 5, 6, 0] rfl)
def wp_X8_move (x1 : Int32) (x2 : Int32) (x3 : Int32) (x4 : Int32) (x5 : Int32) (M_errors : Nat → Int32) (M_widths : Nat → Int32) (M_sizes : Nat → Int32) (M_numbers : Nat → Int32) (M_carried : Nat → Int32) (Q : Int32 → (Nat → Int32) → (Nat → Int32) → (Nat → Int32) → Prop) : Prop := (wp_X8_isSheet x1 (fun r1 => ((r1 = (0) → (lb_X8_move_14 x1 x2 x3 x4 x5 M_widths M_sizes Q M_errors M_numbers M_carried)) ∧ (¬ r1 = (0) → (wp_X8_isSheet x3 (fun r5 => ((¬ r5 = (0) → (vp_in x1 4 ∧ (((M_widths (x1).toNatClampNeg) = (0) → (lb_X8_move_39 x1 x2 x3 x4 x5 M_widths M_sizes Q M_errors M_numbers M_carried)) ∧ (¬ (M_widths (x1).toNatClampNeg) = (0) → (vp_in x3 4 ∧ ((¬ (M_widths (x3).toNatClampNeg) = (0) → (vp_in x1 4 ∧ (vp_in x3 4 ∧ (((M_widths (x1).toNatClampNeg) = (M_widths (x3).toNatClampNeg) → ((x5 < (0) → (lb_X8_move_117 x1 x2 x3 x4 x5 M_widths M_sizes Q M_errors M_numbers M_carried)) ∧ (¬ x5 < (0) → ((x2 < (0) → (lb_X8_move_117 x1 x2 x3 x4 x5 M_widths M_sizes Q M_errors M_numbers M_carried)) ∧ (¬ x2 < (0) → ((x4 < (0) → (lb_X8_move_117 x1 x2 x3 x4 x5 M_widths M_sizes Q M_errors M_numbers M_carried)) ∧ (¬ x4 < (0) → (vp_in x1 4 ∧ (((0) < (lg_cmp (((x2).toInt64) + ((x5).toInt64)) (((M_sizes (x1).toNatClampNeg)).toInt64)) → (lb_X8_move_117 x1 x2 x3 x4 x5 M_widths M_sizes Q M_errors M_numbers M_carried)) ∧ (¬ (0) < (lg_cmp (((x2).toInt64) + ((x5).toInt64)) (((M_sizes (x1).toNatClampNeg)).toInt64)) → (vp_in x3 4 ∧ (((lg_cmp (((x4).toInt64) + ((x5).toInt64)) (((M_sizes (x3).toNatClampNeg)).toInt64)) ≤ (0) → (∃ n, lb_X8_move_127 x1 x2 x3 x4 x5 M_widths M_sizes Q n (0 : Int32) M_errors M_numbers M_carried)) ∧ (¬ (lg_cmp (((x4).toInt64) + ((x5).toInt64)) (((M_sizes (x3).toNatClampNeg)).toInt64)) ≤ (0) → (lb_X8_move_117 x1 x2 x3 x4 x5 M_widths M_sizes Q M_errors M_numbers M_carried)))))))))))))) ∧ (¬ (M_widths (x1).toNatClampNeg) = (M_widths (x3).toNatClampNeg) → (wp_X8_finding (-1000000005 : Int32) M_errors (fun r24 o23 => (Q r24 o23 M_numbers M_carried)))))))) ∧ ((M_widths (x3).toNatClampNeg) = (0) → (lb_X8_move_39 x1 x2 x3 x4 x5 M_widths M_sizes Q M_errors M_numbers M_carried)))))))) ∧ (r5 = (0) → (lb_X8_move_14 x1 x2 x3 x4 x5 M_widths M_sizes Q M_errors M_numbers M_carried)))))))))
set_option maxHeartbeats 4000000 in
set_option maxRecDepth 100000 in
theorem wk_X8_move (l : Launch) (G : Gt) (a_M : Nat) (a_M_now : Nat) (a_M_kept : Nat) (a_M_aside : Nat) (a_M_errors : Nat) (a_M_meetsFound : Nat) (a_M_deedsFound : Nat) (a_M_ahead : Nat) (a_M_NAMED : Nat) (a_M_code : Nat) (a_M_named : Nat) (a_M_pile : Nat) (a_M_often : Nat) (a_M_trace : Nat) (a_M_widths : Nat) (a_M_sizes : Nat) (a_M_numbers : Nat) (a_M_carried : Nat) (sz : Nat) (M_images : Int32) (M_at : Int32) (M_open : Int32) (M_use : Int32) (M_isWrong : Int32) (M_coded : Int32) (M_traced : Int32) (M_kind : Int32) (M_number : Int32) (M_told : Int32) (M_errors : Nat → Int32) (M_widths : Nat → Int32) (M_sizes : Nat → Int32) (M_numbers : Nat → Int32) (M_carried : Nat → Int32) (x1 : Int32) (x2 : Int32) (x3 : Int32) (x4 : Int32) (x5 : Int32) (Q : Int32 → (Nat → Int32) → (Nat → Int32) → (Nat → Int32) → Prop) (hw : wp_X8_move x1 x2 x3 x4 x5 M_errors M_widths M_sizes M_numbers M_carried Q) : Met l yX8_move (wc yX8_move cX8_move 7 (some .int)) rm_X8_move (va_Pc [.ref a_M, .int x1, .int x2, .int x3, .int x4, .int x5] (PB G (cs_X8_move G a_M a_M_now a_M_kept a_M_aside a_M_errors a_M_meetsFound a_M_deedsFound a_M_ahead a_M_NAMED a_M_code a_M_named a_M_pile a_M_often a_M_trace a_M_widths a_M_sizes a_M_numbers a_M_carried M_images M_at M_open M_use M_isWrong M_coded M_traced M_kind M_number M_told M_errors M_widths M_sizes M_numbers M_carried) sz)) (qc_X8_move G a_M a_M_now a_M_kept a_M_aside a_M_errors a_M_meetsFound a_M_deedsFound a_M_ahead a_M_NAMED a_M_code a_M_named a_M_pile a_M_often a_M_trace a_M_widths a_M_sizes a_M_numbers a_M_carried M_images M_at M_open M_use M_isWrong M_coded M_traced M_kind M_number M_told M_widths M_sizes (va_A (cs_X8_move G a_M a_M_now a_M_kept a_M_aside a_M_errors a_M_meetsFound a_M_deedsFound a_M_ahead a_M_NAMED a_M_code a_M_named a_M_pile a_M_often a_M_trace a_M_widths a_M_sizes a_M_numbers a_M_carried M_images M_at M_open M_use M_isWrong M_coded M_traced M_kind M_number M_told M_errors M_widths M_sizes M_numbers M_carried) sz) Q) 0 0 (va_A (cs_X8_move G a_M a_M_now a_M_kept a_M_aside a_M_errors a_M_meetsFound a_M_deedsFound a_M_ahead a_M_NAMED a_M_code a_M_named a_M_pile a_M_often a_M_trace a_M_widths a_M_sizes a_M_numbers a_M_carried M_images M_at M_open M_use M_isWrong M_coded M_traced M_kind M_number M_told M_errors M_widths M_sizes M_numbers M_carried) sz) := by
  refine x_start pn_X8 (Nat.le_of_ble_eq_true rfl) (fun p e s m below meth c ls C hn hl hB => ?_)
  have I := iv_start hB
  generalize va_A (cs_X8_move G a_M a_M_now a_M_kept a_M_aside a_M_errors a_M_meetsFound a_M_deedsFound a_M_ahead a_M_NAMED a_M_code a_M_named a_M_pile a_M_often a_M_trace a_M_widths a_M_sizes a_M_numbers a_M_carried M_images M_at M_open M_use M_isWrong M_coded M_traced M_kind M_number M_told M_errors M_widths M_sizes M_numbers M_carried) sz = A at I ⊢
  have C : Cx p s m [.ref a_M, .int x1, .int x2, .int x3, .int x4, .int x5].toArray meth c cX8_move 7 RX8 (some .int) := C
  have hl : lv_has ls 7 [(0, .ref a_M), (1, .int x1), (2, .int x2), (3, .int x3), (4, .int x4), (5, .int x5)] := hl
  refine x_iload_n C hl 1 dX8_move_0 rfl ?_
  refine x_ro (run_S (As := [.int x1]) (rest := []) C hl (wk_X8_isSheet l G x1 _ hw) gm_X8_263 ⟨⟨rfl, rfl⟩, cn_X8_isSheet, ⟨(Nat.le_of_ble_eq_true rfl), (Nat.le_of_ble_eq_true rfl)⟩⟩ (pr_blind _ _ _) (pr_of I.1 [] rfl) rfl rfl (Nat.le_of_ble_eq_true rfl) ⟨Nat.le_of_ble_eq_true rfl, Nat.le_of_ble_eq_true rfl⟩ dX8_move_1) (fun r1 hw => ?_)
  refine x_if_eq C 14 dX8_move_4 (by decide) (fun c2 => ?_) (fun c2 => ?_)
  · have hw := And.left hw c2
    exact lk_X8_move_14 G a_M a_M_now a_M_kept a_M_aside a_M_errors a_M_meetsFound a_M_deedsFound a_M_ahead a_M_NAMED a_M_code a_M_named a_M_pile a_M_often a_M_trace a_M_widths a_M_sizes a_M_numbers a_M_carried C x1 x2 x3 x4 x5 M_widths M_sizes M_images M_at M_open M_use M_isWrong M_coded M_traced M_kind M_number M_told Q M_errors M_numbers M_carried s.heap [] ls hw I (lv_sub hl [0] rfl)
  · have hw := And.right hw c2
    refine x_iload_n C hl 3 dX8_move_7 rfl ?_
    refine x_ro (run_S (As := [.int x3]) (rest := []) C hl (wk_X8_isSheet l G x3 _ hw) gm_X8_263 ⟨⟨rfl, rfl⟩, cn_X8_isSheet, ⟨(Nat.le_of_ble_eq_true rfl), (Nat.le_of_ble_eq_true rfl)⟩⟩ (pr_blind _ _ _) (pr_of I.1 [] rfl) rfl rfl (Nat.le_of_ble_eq_true rfl) ⟨Nat.le_of_ble_eq_true rfl, Nat.le_of_ble_eq_true rfl⟩ dX8_move_8) (fun r5 hw => ?_)
    refine x_if_ne C 21 dX8_move_11 (by decide) (fun c6 => ?_) (fun c6 => ?_)
    · have hw := And.left hw c6
      refine x_aload_n C hl 0 dX8_move_21 rfl ?_
      refine x_get C I.1 fl_X8_56 0 rfl rfl dX8_move_22 ?_
      refine x_iload_n C hl 1 dX8_move_25 rfl ?_
      refine x_iald C I.1 2 rfl (And.left hw) dX8_move_26 ?_
      have hw := And.right hw
      refine x_if_eq C 39 dX8_move_27 (by decide) (fun c7 => ?_) (fun c7 => ?_)
      · have hw := And.left hw c7
        exact lk_X8_move_39 G a_M a_M_now a_M_kept a_M_aside a_M_errors a_M_meetsFound a_M_deedsFound a_M_ahead a_M_NAMED a_M_code a_M_named a_M_pile a_M_often a_M_trace a_M_widths a_M_sizes a_M_numbers a_M_carried C x1 x2 x3 x4 x5 M_widths M_sizes M_images M_at M_open M_use M_isWrong M_coded M_traced M_kind M_number M_told Q M_errors M_numbers M_carried s.heap [] ls hw I (lv_sub hl [0] rfl)
      · have hw := And.right hw c7
        refine x_aload_n C hl 0 dX8_move_30 rfl ?_
        refine x_get C I.1 fl_X8_56 0 rfl rfl dX8_move_31 ?_
        refine x_iload_n C hl 3 dX8_move_34 rfl ?_
        refine x_iald C I.1 2 rfl (And.left hw) dX8_move_35 ?_
        have hw := And.right hw
        refine x_if_ne C 46 dX8_move_36 (by decide) (fun c10 => ?_) (fun c10 => ?_)
        · have hw := And.left hw c10
          refine x_aload_n C hl 0 dX8_move_46 rfl ?_
          refine x_get C I.1 fl_X8_56 0 rfl rfl dX8_move_47 ?_
          refine x_iload_n C hl 1 dX8_move_50 rfl ?_
          refine x_iald C I.1 2 rfl (And.left hw) dX8_move_51 ?_
          have hw := And.right hw
          refine x_aload_n C hl 0 dX8_move_52 rfl ?_
          refine x_get C I.1 fl_X8_56 0 rfl rfl dX8_move_53 ?_
          refine x_iload_n C hl 3 dX8_move_56 rfl ?_
          refine x_iald C I.1 2 rfl (And.left hw) dX8_move_57 ?_
          have hw := And.right hw
          refine x_icmp_eq C 68 dX8_move_58 (by decide) (fun c11 => ?_) (fun c11 => ?_)
          · have hw := And.left hw c11
            refine x_iload C hl 5 dX8_move_68 rfl ?_
            refine x_if_lt C 117 dX8_move_70 (by decide) (fun c12 => ?_) (fun c12 => ?_)
            · have hw := And.left hw c12
              exact lk_X8_move_117 G a_M a_M_now a_M_kept a_M_aside a_M_errors a_M_meetsFound a_M_deedsFound a_M_ahead a_M_NAMED a_M_code a_M_named a_M_pile a_M_often a_M_trace a_M_widths a_M_sizes a_M_numbers a_M_carried C x1 x2 x3 x4 x5 M_widths M_sizes M_images M_at M_open M_use M_isWrong M_coded M_traced M_kind M_number M_told Q M_errors M_numbers M_carried s.heap [] ls hw I (lv_sub hl [0] rfl)
            · have hw := And.right hw c12
              refine x_iload_n C hl 2 dX8_move_73 rfl ?_
              refine x_if_lt C 117 dX8_move_74 (by decide) (fun c15 => ?_) (fun c15 => ?_)
              · have hw := And.left hw c15
                exact lk_X8_move_117 G a_M a_M_now a_M_kept a_M_aside a_M_errors a_M_meetsFound a_M_deedsFound a_M_ahead a_M_NAMED a_M_code a_M_named a_M_pile a_M_often a_M_trace a_M_widths a_M_sizes a_M_numbers a_M_carried C x1 x2 x3 x4 x5 M_widths M_sizes M_images M_at M_open M_use M_isWrong M_coded M_traced M_kind M_number M_told Q M_errors M_numbers M_carried s.heap [] ls hw I (lv_sub hl [0] rfl)
              · have hw := And.right hw c15
                refine x_iload C hl 4 dX8_move_77 rfl ?_
                refine x_if_lt C 117 dX8_move_79 (by decide) (fun c16 => ?_) (fun c16 => ?_)
                · have hw := And.left hw c16
                  exact lk_X8_move_117 G a_M a_M_now a_M_kept a_M_aside a_M_errors a_M_meetsFound a_M_deedsFound a_M_ahead a_M_NAMED a_M_code a_M_named a_M_pile a_M_often a_M_trace a_M_widths a_M_sizes a_M_numbers a_M_carried C x1 x2 x3 x4 x5 M_widths M_sizes M_images M_at M_open M_use M_isWrong M_coded M_traced M_kind M_number M_told Q M_errors M_numbers M_carried s.heap [] ls hw I (lv_sub hl [0] rfl)
                · have hw := And.right hw c16
                  refine x_iload_n C hl 2 dX8_move_82 rfl ?_
                  refine x_i2l C dX8_move_83 ?_
                  refine x_iload C hl 5 dX8_move_84 rfl ?_
                  refine x_i2l C dX8_move_86 ?_
                  refine x_ladd C dX8_move_87 ?_
                  refine x_aload_n C hl 0 dX8_move_88 rfl ?_
                  refine x_get C I.1 fl_X8_59 0 rfl rfl dX8_move_89 ?_
                  refine x_iload_n C hl 1 dX8_move_92 rfl ?_
                  refine x_iald C I.1 3 rfl (And.left hw) dX8_move_93 ?_
                  have hw := And.right hw
                  refine x_i2l C dX8_move_94 ?_
                  refine x_lcmp C dX8_move_95 ?_
                  refine x_if_gt C 117 dX8_move_96 (by decide) (fun c17 => ?_) (fun c17 => ?_)
                  · have hw := And.left hw c17
                    exact lk_X8_move_117 G a_M a_M_now a_M_kept a_M_aside a_M_errors a_M_meetsFound a_M_deedsFound a_M_ahead a_M_NAMED a_M_code a_M_named a_M_pile a_M_often a_M_trace a_M_widths a_M_sizes a_M_numbers a_M_carried C x1 x2 x3 x4 x5 M_widths M_sizes M_images M_at M_open M_use M_isWrong M_coded M_traced M_kind M_number M_told Q M_errors M_numbers M_carried s.heap [] ls hw I (lv_sub hl [0] rfl)
                  · have hw := And.right hw c17
                    refine x_iload C hl 4 dX8_move_99 rfl ?_
                    refine x_i2l C dX8_move_101 ?_
                    refine x_iload C hl 5 dX8_move_102 rfl ?_
                    refine x_i2l C dX8_move_104 ?_
                    refine x_ladd C dX8_move_105 ?_
                    refine x_aload_n C hl 0 dX8_move_106 rfl ?_
                    refine x_get C I.1 fl_X8_59 0 rfl rfl dX8_move_107 ?_
                    refine x_iload_n C hl 3 dX8_move_110 rfl ?_
                    refine x_iald C I.1 3 rfl (And.left hw) dX8_move_111 ?_
                    have hw := And.right hw
                    refine x_i2l C dX8_move_112 ?_
                    refine x_lcmp C dX8_move_113 ?_
                    refine x_if_le C 124 dX8_move_114 (by decide) (fun c18 => ?_) (fun c18 => ?_)
                    · have hw := And.left hw c18
                      refine x_iconst C dX8_move_124 ic_0 ?_
                      refine x_istore C hl [(6, .int (0 : Int32)), (0, .ref a_M), (1, .int x1), (2, .int x2), (3, .int x3), (4, .int x4), (5, .int x5)] dX8_move_125 (Nat.le_of_ble_eq_true rfl) rfl (fun ls hl => ?_)
                      obtain ⟨n, hw⟩ := hw
                      exact lk_X8_move_127 G a_M a_M_now a_M_kept a_M_aside a_M_errors a_M_meetsFound a_M_deedsFound a_M_ahead a_M_NAMED a_M_code a_M_named a_M_pile a_M_often a_M_trace a_M_widths a_M_sizes a_M_numbers a_M_carried C x1 x2 x3 x4 x5 M_widths M_sizes M_images M_at M_open M_use M_isWrong M_coded M_traced M_kind M_number M_told Q n (0 : Int32) M_errors M_numbers M_carried s.heap [] ls hw I (lv_sub hl [1, 2, 3, 4, 5, 6, 0] rfl)
                    · have hw := And.right hw c18
                      exact lk_X8_move_117 G a_M a_M_now a_M_kept a_M_aside a_M_errors a_M_meetsFound a_M_deedsFound a_M_ahead a_M_NAMED a_M_code a_M_named a_M_pile a_M_often a_M_trace a_M_widths a_M_sizes a_M_numbers a_M_carried C x1 x2 x3 x4 x5 M_widths M_sizes M_images M_at M_open M_use M_isWrong M_coded M_traced M_kind M_number M_told Q M_errors M_numbers M_carried s.heap [] ls hw I (lv_sub hl [0] rfl)
          · have hw := And.right hw c11
            refine x_aload_n C hl 0 dX8_move_61 rfl ?_
            refine x_ldc C wd_1125 dX8_move_62 ?_
            refine x_mui (wk := cs_X8_finding G a_M a_M_now a_M_kept a_M_aside a_M_errors a_M_meetsFound a_M_deedsFound a_M_ahead a_M_NAMED a_M_code a_M_named a_M_pile a_M_often a_M_trace a_M_widths a_M_sizes a_M_numbers a_M_carried M_images M_at M_open M_use M_isWrong M_coded M_traced M_kind M_number M_told M_errors) (wr := [(a_M_widths, .inl (cI G, 4, .inl M_widths)), (a_M_sizes, .inl (cI G, 4, .inl M_sizes)), (a_M_numbers, .inl (cI G, 160, .inl M_numbers)), (a_M_carried, .inl (cI G, 40, .inl M_carried))]) (isC := [0, 1]) (isR := [2, 3, 4, 5]) I ⟨⟨rfl, rfl⟩, rfl, rfl, rfl⟩ [4, 5, 0, 1, 2, 3] (fun u => cs_X8_move G a_M a_M_now a_M_kept a_M_aside a_M_errors a_M_meetsFound a_M_deedsFound a_M_ahead a_M_NAMED a_M_code a_M_named a_M_pile a_M_often a_M_trace a_M_widths a_M_sizes a_M_numbers a_M_carried M_images M_at M_open M_use M_isWrong M_coded M_traced M_kind M_number M_told u M_widths M_sizes M_numbers M_carried) (fun _ => rfl) rfl (run_V (As := [.int (-1000000005 : Int32)]) (rest := []) C hl (wk_X8_finding l G a_M a_M_now a_M_kept a_M_aside a_M_errors a_M_meetsFound a_M_deedsFound a_M_ahead a_M_NAMED a_M_code a_M_named a_M_pile a_M_often a_M_trace a_M_widths a_M_sizes a_M_numbers a_M_carried s.heap.size M_images M_at M_open M_use M_isWrong M_coded M_traced M_kind M_number M_told M_errors (-1000000005 : Int32) _ hw) gm_X8_87 ⟨⟨rfl, rfl⟩, cn_X8_finding, ⟨(Nat.le_of_ble_eq_true rfl), (Nat.le_of_ble_eq_true rfl)⟩⟩ (pb_blind _ _ _ _) (x_recv I.1 0 rfl rfl) (pb_of I [0, 1] rfl rfl) rfl rfl (Nat.le_of_ble_eq_true rfl) ⟨Nat.le_of_ble_eq_true rfl, Nat.le_of_ble_eq_true rfl⟩ dX8_move_64) (fun r24 u Hx lx hw I => ?_)
            obtain ⟨o23, eo23⟩ : ∃ z, z = u := ⟨_, rfl⟩
            subst eo23
            have I : Iv G A s (cs_X8_move G a_M a_M_now a_M_kept a_M_aside a_M_errors a_M_meetsFound a_M_deedsFound a_M_ahead a_M_NAMED a_M_code a_M_named a_M_pile a_M_often a_M_trace a_M_widths a_M_sizes a_M_numbers a_M_carried M_images M_at M_open M_use M_isWrong M_coded M_traced M_kind M_number M_told o23 M_widths M_sizes M_numbers M_carried) Hx lx := I
            exact x_ret1 C I (o23, M_numbers, M_carried) rfl hw dX8_move_67
        · have hw := And.right hw c10
          exact lk_X8_move_39 G a_M a_M_now a_M_kept a_M_aside a_M_errors a_M_meetsFound a_M_deedsFound a_M_ahead a_M_NAMED a_M_code a_M_named a_M_pile a_M_often a_M_trace a_M_widths a_M_sizes a_M_numbers a_M_carried C x1 x2 x3 x4 x5 M_widths M_sizes M_images M_at M_open M_use M_isWrong M_coded M_traced M_kind M_number M_told Q M_errors M_numbers M_carried s.heap [] ls hw I (lv_sub hl [0] rfl)
    · have hw := And.right hw c6
      exact lk_X8_move_14 G a_M a_M_now a_M_kept a_M_aside a_M_errors a_M_meetsFound a_M_deedsFound a_M_ahead a_M_NAMED a_M_code a_M_named a_M_pile a_M_often a_M_trace a_M_widths a_M_sizes a_M_numbers a_M_carried C x1 x2 x3 x4 x5 M_widths M_sizes M_images M_at M_open M_use M_isWrong M_coded M_traced M_kind M_number M_told Q M_errors M_numbers M_carried s.heap [] ls hw I (lv_sub hl [0] rfl)
