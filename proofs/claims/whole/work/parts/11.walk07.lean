/-! X8_law -/
abbrev rm_X8_law : Room := { frames := 3, cells := 0, slots := 0, locals := 71 }
abbrev cs_X8_law (G : Gt) (a_M : Nat) (a_M_now : Nat) (a_M_kept : Nat) (a_M_aside : Nat) (a_M_errors : Nat) (a_M_meetsFound : Nat) (a_M_deedsFound : Nat) (a_M_ahead : Nat) (a_M_NAMED : Nat) (a_M_code : Nat) (a_M_named : Nat) (a_M_pile : Nat) (a_M_often : Nat) (a_M_trace : Nat) (a_M_widths : Nat) (a_M_sizes : Nat) (a_M_numbers : Nat) (a_M_carried : Nat) (M_images : Int32) (M_at : Int32) (M_open : Int32) (M_use : Int32) (M_isWrong : Int32) (M_coded : Int32) (M_traced : Int32) (M_kind : Int32) (M_number : Int32) (M_told : Int32) (M_named : Nat → Int32) (M_now : Nat → Int32) (M_pile : Nat → Int32) (M_errors : Nat → Int32) : va_W := [(a_M, .inr (8, [.ref a_M_now, .ref a_M_kept, .ref a_M_aside, .int M_images, .ref a_M_errors, .ref a_M_meetsFound, .ref a_M_deedsFound, .ref a_M_ahead, .ref a_M_NAMED, .int M_at, .int M_open, .int M_use, .int M_isWrong, .ref a_M_code, .int M_coded, .ref a_M_named, .ref a_M_pile, .ref a_M_often, .ref a_M_trace, .int M_traced, .int M_kind, .int M_number, .int M_told, .ref a_M_widths, .ref a_M_sizes, .ref a_M_numbers, .ref a_M_carried])), (a_M_named, .inl (cI G, 4, .inl M_named)), (a_M_now, .inl (cI G, 228, .inl M_now)), (a_M_pile, .inl (cI G, 60, .inl M_pile)), (a_M_errors, .inl (cI G, 6, .inl M_errors))]
abbrev qc_X8_law (G : Gt) (a_M : Nat) (a_M_now : Nat) (a_M_kept : Nat) (a_M_aside : Nat) (a_M_errors : Nat) (a_M_meetsFound : Nat) (a_M_deedsFound : Nat) (a_M_ahead : Nat) (a_M_NAMED : Nat) (a_M_code : Nat) (a_M_named : Nat) (a_M_pile : Nat) (a_M_often : Nat) (a_M_trace : Nat) (a_M_widths : Nat) (a_M_sizes : Nat) (a_M_numbers : Nat) (a_M_carried : Nat) (M_images : Int32) (M_at : Int32) (M_open : Int32) (M_use : Int32) (M_isWrong : Int32) (M_coded : Int32) (M_traced : Int32) (M_kind : Int32) (M_number : Int32) (M_told : Int32) (M_now : Nat → Int32) (A : Nat → Prop) (Q : Int32 → (Nat → Int32) → (Nat → Int32) → (Nat → Int32) → Prop) : Array Value → State → Outcome → State → Prop := Qi1 G A (fun r (u : (Nat → Int32) × (Nat → Int32) × (Nat → Int32)) => Q r u.1 u.2.1 u.2.2) (fun u => cs_X8_law G a_M a_M_now a_M_kept a_M_aside a_M_errors a_M_meetsFound a_M_deedsFound a_M_ahead a_M_NAMED a_M_code a_M_named a_M_pile a_M_often a_M_trace a_M_widths a_M_sizes a_M_numbers a_M_carried M_images M_at M_open M_use M_isWrong M_coded M_traced M_kind M_number M_told u.1 M_now u.2.1 u.2.2)
def wp_X8_law (x1 : Int32) (x2 : Int32) (x3 : Int32) (x4 : Int32) (M_named : Nat → Int32) (M_now : Nat → Int32) (M_pile : Nat → Int32) (M_errors : Nat → Int32) (Q : Int32 → (Nat → Int32) → (Nat → Int32) → (Nat → Int32) → Prop) : Prop := (wp_X8_within x1 (0 : Int32) (1 : Int32) (fun r1 => ((r1 = (0) → (wp_X8_finding (-1000000001 : Int32) M_errors (fun r4 o3 => (Q r4 M_named M_pile o3)))) ∧ (¬ r1 = (0) → (wp_X8_given x1 x2 x3 x4 M_named M_now M_pile (fun r7 o5 o6 => (Q r7 o5 o6 M_errors)))))))
set_option maxHeartbeats 4000000 in
set_option maxRecDepth 100000 in
theorem wk_X8_law (l : Launch) (G : Gt) (a_M : Nat) (a_M_now : Nat) (a_M_kept : Nat) (a_M_aside : Nat) (a_M_errors : Nat) (a_M_meetsFound : Nat) (a_M_deedsFound : Nat) (a_M_ahead : Nat) (a_M_NAMED : Nat) (a_M_code : Nat) (a_M_named : Nat) (a_M_pile : Nat) (a_M_often : Nat) (a_M_trace : Nat) (a_M_widths : Nat) (a_M_sizes : Nat) (a_M_numbers : Nat) (a_M_carried : Nat) (sz : Nat) (M_images : Int32) (M_at : Int32) (M_open : Int32) (M_use : Int32) (M_isWrong : Int32) (M_coded : Int32) (M_traced : Int32) (M_kind : Int32) (M_number : Int32) (M_told : Int32) (M_named : Nat → Int32) (M_now : Nat → Int32) (M_pile : Nat → Int32) (M_errors : Nat → Int32) (x1 : Int32) (x2 : Int32) (x3 : Int32) (x4 : Int32) (Q : Int32 → (Nat → Int32) → (Nat → Int32) → (Nat → Int32) → Prop) (hw : wp_X8_law x1 x2 x3 x4 M_named M_now M_pile M_errors Q) : Met l yX8_law (wc yX8_law cX8_law 5 (some .int)) rm_X8_law (va_Pc [.ref a_M, .int x1, .int x2, .int x3, .int x4] (PB G (cs_X8_law G a_M a_M_now a_M_kept a_M_aside a_M_errors a_M_meetsFound a_M_deedsFound a_M_ahead a_M_NAMED a_M_code a_M_named a_M_pile a_M_often a_M_trace a_M_widths a_M_sizes a_M_numbers a_M_carried M_images M_at M_open M_use M_isWrong M_coded M_traced M_kind M_number M_told M_named M_now M_pile M_errors) sz)) (qc_X8_law G a_M a_M_now a_M_kept a_M_aside a_M_errors a_M_meetsFound a_M_deedsFound a_M_ahead a_M_NAMED a_M_code a_M_named a_M_pile a_M_often a_M_trace a_M_widths a_M_sizes a_M_numbers a_M_carried M_images M_at M_open M_use M_isWrong M_coded M_traced M_kind M_number M_told M_now (va_A (cs_X8_law G a_M a_M_now a_M_kept a_M_aside a_M_errors a_M_meetsFound a_M_deedsFound a_M_ahead a_M_NAMED a_M_code a_M_named a_M_pile a_M_often a_M_trace a_M_widths a_M_sizes a_M_numbers a_M_carried M_images M_at M_open M_use M_isWrong M_coded M_traced M_kind M_number M_told M_named M_now M_pile M_errors) sz) Q) 0 0 (va_A (cs_X8_law G a_M a_M_now a_M_kept a_M_aside a_M_errors a_M_meetsFound a_M_deedsFound a_M_ahead a_M_NAMED a_M_code a_M_named a_M_pile a_M_often a_M_trace a_M_widths a_M_sizes a_M_numbers a_M_carried M_images M_at M_open M_use M_isWrong M_coded M_traced M_kind M_number M_told M_named M_now M_pile M_errors) sz) := by
  refine x_start pn_X8 (Nat.le_of_ble_eq_true rfl) (fun p e s m below meth c ls C hn hl hB => ?_)
  have I := iv_start hB
  generalize va_A (cs_X8_law G a_M a_M_now a_M_kept a_M_aside a_M_errors a_M_meetsFound a_M_deedsFound a_M_ahead a_M_NAMED a_M_code a_M_named a_M_pile a_M_often a_M_trace a_M_widths a_M_sizes a_M_numbers a_M_carried M_images M_at M_open M_use M_isWrong M_coded M_traced M_kind M_number M_told M_named M_now M_pile M_errors) sz = A at I ⊢
  have C : Cx p s m [.ref a_M, .int x1, .int x2, .int x3, .int x4].toArray meth c cX8_law 5 RX8 (some .int) := C
  have hl : lv_has ls 5 [(0, .ref a_M), (1, .int x1), (2, .int x2), (3, .int x3), (4, .int x4)] := hl
  refine x_iload_n C hl 1 dX8_law_0 rfl ?_
  refine x_iconst C dX8_law_1 ic_0 ?_
  refine x_iconst C dX8_law_2 ic_1 ?_
  refine x_ro (run_S (As := [.int x1, .int (0 : Int32), .int (1 : Int32)]) (rest := []) C hl (wk_X8_within l G x1 (0 : Int32) (1 : Int32) _ hw) gm_X8_82 ⟨⟨rfl, rfl⟩, cn_X8_within, ⟨(Nat.le_of_ble_eq_true rfl), (Nat.le_of_ble_eq_true rfl)⟩⟩ (pr_blind _ _ _) (pr_of I.1 [] rfl) rfl rfl (Nat.le_of_ble_eq_true rfl) ⟨Nat.le_of_ble_eq_true rfl, Nat.le_of_ble_eq_true rfl⟩ dX8_law_3) (fun r1 hw => ?_)
  refine x_if_eq C 21 dX8_law_6 (by decide) (fun c2 => ?_) (fun c2 => ?_)
  · have hw := And.left hw c2
    refine x_aload_n C hl 0 dX8_law_21 rfl ?_
    refine x_ldc C wd_931 dX8_law_22 ?_
    refine x_mui (wk := cs_X8_finding G a_M a_M_now a_M_kept a_M_aside a_M_errors a_M_meetsFound a_M_deedsFound a_M_ahead a_M_NAMED a_M_code a_M_named a_M_pile a_M_often a_M_trace a_M_widths a_M_sizes a_M_numbers a_M_carried M_images M_at M_open M_use M_isWrong M_coded M_traced M_kind M_number M_told M_errors) (wr := [(a_M_named, .inl (cI G, 4, .inl M_named)), (a_M_now, .inl (cI G, 228, .inl M_now)), (a_M_pile, .inl (cI G, 60, .inl M_pile))]) (isC := [0, 4]) (isR := [1, 2, 3]) I ⟨⟨rfl, rfl⟩, rfl, rfl, rfl⟩ [3, 0, 1, 2, 4] (fun u => cs_X8_law G a_M a_M_now a_M_kept a_M_aside a_M_errors a_M_meetsFound a_M_deedsFound a_M_ahead a_M_NAMED a_M_code a_M_named a_M_pile a_M_often a_M_trace a_M_widths a_M_sizes a_M_numbers a_M_carried M_images M_at M_open M_use M_isWrong M_coded M_traced M_kind M_number M_told M_named M_now M_pile u) (fun _ => rfl) rfl (run_V (As := [.int (-1000000001 : Int32)]) (rest := []) C hl (wk_X8_finding l G a_M a_M_now a_M_kept a_M_aside a_M_errors a_M_meetsFound a_M_deedsFound a_M_ahead a_M_NAMED a_M_code a_M_named a_M_pile a_M_often a_M_trace a_M_widths a_M_sizes a_M_numbers a_M_carried s.heap.size M_images M_at M_open M_use M_isWrong M_coded M_traced M_kind M_number M_told M_errors (-1000000001 : Int32) _ hw) gm_X8_87 ⟨⟨rfl, rfl⟩, cn_X8_finding, ⟨(Nat.le_of_ble_eq_true rfl), (Nat.le_of_ble_eq_true rfl)⟩⟩ (pb_blind _ _ _ _) (x_recv I.1 0 rfl rfl) (pb_of I [0, 4] rfl rfl) rfl rfl (Nat.le_of_ble_eq_true rfl) ⟨Nat.le_of_ble_eq_true rfl, Nat.le_of_ble_eq_true rfl⟩ dX8_law_24) (fun r4 u Hx lx hw I => ?_)
    obtain ⟨o3, eo3⟩ : ∃ z, z = u := ⟨_, rfl⟩
    subst eo3
    have I : Iv G A s (cs_X8_law G a_M a_M_now a_M_kept a_M_aside a_M_errors a_M_meetsFound a_M_deedsFound a_M_ahead a_M_NAMED a_M_code a_M_named a_M_pile a_M_often a_M_trace a_M_widths a_M_sizes a_M_numbers a_M_carried M_images M_at M_open M_use M_isWrong M_coded M_traced M_kind M_number M_told M_named M_now M_pile o3) Hx lx := I
    exact x_ret1 C I (M_named, M_pile, o3) rfl hw dX8_law_27
  · have hw := And.right hw c2
    refine x_aload_n C hl 0 dX8_law_9 rfl ?_
    refine x_iload_n C hl 1 dX8_law_10 rfl ?_
    refine x_iload_n C hl 2 dX8_law_11 rfl ?_
    refine x_iload_n C hl 3 dX8_law_12 rfl ?_
    refine x_iload C hl 4 dX8_law_13 rfl ?_
    refine x_mui (wk := cs_X8_given G a_M a_M_now a_M_kept a_M_aside a_M_errors a_M_meetsFound a_M_deedsFound a_M_ahead a_M_NAMED a_M_code a_M_named a_M_pile a_M_often a_M_trace a_M_widths a_M_sizes a_M_numbers a_M_carried M_images M_at M_open M_use M_isWrong M_coded M_traced M_kind M_number M_told M_named M_now M_pile) (wr := [(a_M_errors, .inl (cI G, 6, .inl M_errors))]) (isC := [0, 1, 2, 3]) (isR := [4]) I ⟨⟨rfl, rfl⟩, rfl, rfl, rfl⟩ [1, 2, 3, 4, 0] (fun u => cs_X8_law G a_M a_M_now a_M_kept a_M_aside a_M_errors a_M_meetsFound a_M_deedsFound a_M_ahead a_M_NAMED a_M_code a_M_named a_M_pile a_M_often a_M_trace a_M_widths a_M_sizes a_M_numbers a_M_carried M_images M_at M_open M_use M_isWrong M_coded M_traced M_kind M_number M_told u.1 M_now u.2 M_errors) (fun _ => rfl) rfl (run_V (As := [.int x1, .int x2, .int x3, .int x4]) (rest := []) C hl (wk_X8_given l G a_M a_M_now a_M_kept a_M_aside a_M_errors a_M_meetsFound a_M_deedsFound a_M_ahead a_M_NAMED a_M_code a_M_named a_M_pile a_M_often a_M_trace a_M_widths a_M_sizes a_M_numbers a_M_carried s.heap.size M_images M_at M_open M_use M_isWrong M_coded M_traced M_kind M_number M_told M_named M_now M_pile x1 x2 x3 x4 _ hw) gm_X8_167 ⟨⟨rfl, rfl⟩, cn_X8_given, ⟨(Nat.le_of_ble_eq_true rfl), (Nat.le_of_ble_eq_true rfl)⟩⟩ (pb_blind _ _ _ _) (x_recv I.1 0 rfl rfl) (pb_of I [0, 1, 2, 3] rfl rfl) rfl rfl (Nat.le_of_ble_eq_true rfl) ⟨Nat.le_of_ble_eq_true rfl, Nat.le_of_ble_eq_true rfl⟩ dX8_law_15) (fun r7 u Hx lx hw I => ?_)
    obtain ⟨o5, o6⟩ := u
    have I : Iv G A s (cs_X8_law G a_M a_M_now a_M_kept a_M_aside a_M_errors a_M_meetsFound a_M_deedsFound a_M_ahead a_M_NAMED a_M_code a_M_named a_M_pile a_M_often a_M_trace a_M_widths a_M_sizes a_M_numbers a_M_carried M_images M_at M_open M_use M_isWrong M_coded M_traced M_kind M_number M_told o5 M_now o6 M_errors) Hx lx := I
    refine x_goto C 27 dX8_law_18 (by decide) ?_
    exact x_ret1 C I (o5, o6, M_errors) rfl hw dX8_law_27
/-! X8_forget -/
abbrev rm_X8_forget : Room := { frames := 0, cells := 0, slots := 0, locals := 0 }
abbrev cs_X8_forget (G : Gt) (a_M : Nat) (a_M_now : Nat) (a_M_kept : Nat) (a_M_aside : Nat) (a_M_errors : Nat) (a_M_meetsFound : Nat) (a_M_deedsFound : Nat) (a_M_ahead : Nat) (a_M_NAMED : Nat) (a_M_code : Nat) (a_M_named : Nat) (a_M_pile : Nat) (a_M_often : Nat) (a_M_trace : Nat) (a_M_widths : Nat) (a_M_sizes : Nat) (a_M_numbers : Nat) (a_M_carried : Nat) (M_images : Int32) (M_at : Int32) (M_open : Int32) (M_use : Int32) (M_isWrong : Int32) (M_coded : Int32) (M_traced : Int32) (M_kind : Int32) (M_number : Int32) (M_told : Int32) (M_meetsFound : Nat → Int32) (M_deedsFound : Nat → Int32) : va_W := [(a_M, .inr (8, [.ref a_M_now, .ref a_M_kept, .ref a_M_aside, .int M_images, .ref a_M_errors, .ref a_M_meetsFound, .ref a_M_deedsFound, .ref a_M_ahead, .ref a_M_NAMED, .int M_at, .int M_open, .int M_use, .int M_isWrong, .ref a_M_code, .int M_coded, .ref a_M_named, .ref a_M_pile, .ref a_M_often, .ref a_M_trace, .int M_traced, .int M_kind, .int M_number, .int M_told, .ref a_M_widths, .ref a_M_sizes, .ref a_M_numbers, .ref a_M_carried])), (a_M_meetsFound, .inl (cI G, 1728, .inl M_meetsFound)), (a_M_deedsFound, .inl (cI G, 8000, .inl M_deedsFound))]
abbrev qc_X8_forget (G : Gt) (a_M : Nat) (a_M_now : Nat) (a_M_kept : Nat) (a_M_aside : Nat) (a_M_errors : Nat) (a_M_meetsFound : Nat) (a_M_deedsFound : Nat) (a_M_ahead : Nat) (a_M_NAMED : Nat) (a_M_code : Nat) (a_M_named : Nat) (a_M_pile : Nat) (a_M_often : Nat) (a_M_trace : Nat) (a_M_widths : Nat) (a_M_sizes : Nat) (a_M_numbers : Nat) (a_M_carried : Nat) (M_images : Int32) (M_at : Int32) (M_open : Int32) (M_use : Int32) (M_isWrong : Int32) (M_coded : Int32) (M_traced : Int32) (M_kind : Int32) (M_number : Int32) (M_told : Int32) (A : Nat → Prop) (Q : (Nat → Int32) → (Nat → Int32) → Prop) : Array Value → State → Outcome → State → Prop := Qv1 G A (fun (u : (Nat → Int32) × (Nat → Int32)) => Q u.1 u.2) (fun u => cs_X8_forget G a_M a_M_now a_M_kept a_M_aside a_M_errors a_M_meetsFound a_M_deedsFound a_M_ahead a_M_NAMED a_M_code a_M_named a_M_pile a_M_often a_M_trace a_M_widths a_M_sizes a_M_numbers a_M_carried M_images M_at M_open M_use M_isWrong M_coded M_traced M_kind M_number M_told u.1 u.2)
def lb_X8_forget_26  (Q : (Nat → Int32) → (Nat → Int32) → Prop) : Nat → Int32 → (Nat → Int32) → (Nat → Int32) → Prop
  | 0 => fun _ _ _ => False
  | k + 1 => fun (y1 : Int32) (w_M_meetsFound : Nat → Int32) (w_M_deedsFound : Nat → Int32) => (((8000 : Int32) ≤ y1 → (Q w_M_meetsFound w_M_deedsFound)) ∧ (¬ (8000 : Int32) ≤ y1 → (vp_in y1 8000 ∧ (lb_X8_forget_26  Q k (y1 + (1 : Int32)) w_M_meetsFound (upd w_M_deedsFound (y1).toNatClampNeg (0 : Int32))))))
set_option maxHeartbeats 4000000 in
set_option maxRecDepth 100000 in
theorem lk_X8_forget_26 {p : Program} {l : Launch} {e : Env} {s : State} {m : MethodId} {args : Array Value} {below : List Frame} {meth : Method} {c : Code} {A : Nat → Prop} (G : Gt) (a_M : Nat) (a_M_now : Nat) (a_M_kept : Nat) (a_M_aside : Nat) (a_M_errors : Nat) (a_M_meetsFound : Nat) (a_M_deedsFound : Nat) (a_M_ahead : Nat) (a_M_NAMED : Nat) (a_M_code : Nat) (a_M_named : Nat) (a_M_pile : Nat) (a_M_often : Nat) (a_M_trace : Nat) (a_M_widths : Nat) (a_M_sizes : Nat) (a_M_numbers : Nat) (a_M_carried : Nat) (C : Cx p s m args meth c cX8_forget 2 RX8 none)  (M_images : Int32) (M_at : Int32) (M_open : Int32) (M_use : Int32) (M_isWrong : Int32) (M_coded : Int32) (M_traced : Int32) (M_kind : Int32) (M_number : Int32) (M_told : Int32) (Q : (Nat → Int32) → (Nat → Int32) → Prop) : ∀ (n : Nat) (y1 : Int32) (w_M_meetsFound : Nat → Int32) (w_M_deedsFound : Nat → Int32) (Hx : Heap) (lx : List Loc) (ls : Array Slot), lb_X8_forget_26  Q n y1 w_M_meetsFound w_M_deedsFound → Iv G A s (cs_X8_forget G a_M a_M_now a_M_kept a_M_aside a_M_errors a_M_meetsFound a_M_deedsFound a_M_ahead a_M_NAMED a_M_code a_M_named a_M_pile a_M_often a_M_trace a_M_widths a_M_sizes a_M_numbers a_M_carried M_images M_at M_open M_use M_isWrong M_coded M_traced M_kind M_number M_told w_M_meetsFound w_M_deedsFound) Hx lx → lv_has ls 2 [(0, .ref a_M), (1, .int y1)] → W p l e rm_X8_forget s m args below meth c Hx lx 0 0 (MQ below (qc_X8_forget G a_M a_M_now a_M_kept a_M_aside a_M_errors a_M_meetsFound a_M_deedsFound a_M_ahead a_M_NAMED a_M_code a_M_named a_M_pile a_M_often a_M_trace a_M_widths a_M_sizes a_M_numbers a_M_carried M_images M_at M_open M_use M_isWrong M_coded M_traced M_kind M_number M_told A Q) args s 0 0 A) (F0 m 26 ls []) := by
  intro n
  induction n with
  | zero => intro y1 w_M_meetsFound w_M_deedsFound Hx lx  ls hw I hl; exact False.elim hw
  | succ k ih =>
    intro y1 w_M_meetsFound w_M_deedsFound Hx lx  ls hw I hl
    refine x_iload_n C hl 1 dX8_forget_26 rfl ?_
    refine x_aload_n C hl 0 dX8_forget_27 rfl ?_
    refine x_get C I.1 fl_X8_25 0 rfl rfl dX8_forget_28 ?_
    refine x_alen C I.1 2 (8000 : Int32) rfl al_8000 dX8_forget_31 ?_
    refine x_icmp_ge C 48 dX8_forget_32 (by decide) (fun c2 => ?_) (fun c2 => ?_)
    · have hw := And.left hw c2
      exact x_retv C I (w_M_meetsFound, w_M_deedsFound) rfl hw dX8_forget_48
    · have hw := And.right hw c2
      refine x_aload_n C hl 0 dX8_forget_35 rfl ?_
      refine x_get C I.1 fl_X8_25 0 rfl rfl dX8_forget_36 ?_
      refine x_iload_n C hl 1 dX8_forget_39 rfl ?_
      refine x_iconst C dX8_forget_40 ic_0 ?_
      refine x_iast C I 2 (cs_X8_forget G a_M a_M_now a_M_kept a_M_aside a_M_errors a_M_meetsFound a_M_deedsFound a_M_ahead a_M_NAMED a_M_code a_M_named a_M_pile a_M_often a_M_trace a_M_widths a_M_sizes a_M_numbers a_M_carried M_images M_at M_open M_use M_isWrong M_coded M_traced M_kind M_number M_told w_M_meetsFound (upd w_M_deedsFound (y1).toNatClampNeg (0 : Int32))) rfl (And.left hw) rfl dX8_forget_41 (fun Hx lx I => ?_)
      have hw := And.right hw
      refine x_iinc C hl 1 [(1, .int (y1 + (1 : Int32))), (0, .ref a_M)] (y1 + (1 : Int32)) dX8_forget_42 rfl (congrArg _ ic_1) (Nat.le_of_ble_eq_true rfl) rfl (fun ls hl => ?_)
      refine x_goto C 26 dX8_forget_45 (by decide) ?_
      exact ih (y1 + (1 : Int32)) w_M_meetsFound (upd w_M_deedsFound (y1).toNatClampNeg (0 : Int32)) Hx lx ls hw I (lv_sub hl [1, 0] rfl)
def lb_X8_forget_2  (Q : (Nat → Int32) → (Nat → Int32) → Prop) : Nat → Int32 → (Nat → Int32) → (Nat → Int32) → Prop
  | 0 => fun _ _ _ => False
  | k + 1 => fun (y1 : Int32) (w_M_meetsFound : Nat → Int32) (w_M_deedsFound : Nat → Int32) => (((1728 : Int32) ≤ y1 → (∃ n, lb_X8_forget_26  Q n (0 : Int32) w_M_meetsFound w_M_deedsFound)) ∧ (¬ (1728 : Int32) ≤ y1 → (vp_in y1 1728 ∧ (lb_X8_forget_2  Q k (y1 + (1 : Int32)) (upd w_M_meetsFound (y1).toNatClampNeg (0 : Int32)) w_M_deedsFound))))
set_option maxHeartbeats 4000000 in
set_option maxRecDepth 100000 in
theorem lk_X8_forget_2 {p : Program} {l : Launch} {e : Env} {s : State} {m : MethodId} {args : Array Value} {below : List Frame} {meth : Method} {c : Code} {A : Nat → Prop} (G : Gt) (a_M : Nat) (a_M_now : Nat) (a_M_kept : Nat) (a_M_aside : Nat) (a_M_errors : Nat) (a_M_meetsFound : Nat) (a_M_deedsFound : Nat) (a_M_ahead : Nat) (a_M_NAMED : Nat) (a_M_code : Nat) (a_M_named : Nat) (a_M_pile : Nat) (a_M_often : Nat) (a_M_trace : Nat) (a_M_widths : Nat) (a_M_sizes : Nat) (a_M_numbers : Nat) (a_M_carried : Nat) (C : Cx p s m args meth c cX8_forget 2 RX8 none)  (M_images : Int32) (M_at : Int32) (M_open : Int32) (M_use : Int32) (M_isWrong : Int32) (M_coded : Int32) (M_traced : Int32) (M_kind : Int32) (M_number : Int32) (M_told : Int32) (Q : (Nat → Int32) → (Nat → Int32) → Prop) : ∀ (n : Nat) (y1 : Int32) (w_M_meetsFound : Nat → Int32) (w_M_deedsFound : Nat → Int32) (Hx : Heap) (lx : List Loc) (ls : Array Slot), lb_X8_forget_2  Q n y1 w_M_meetsFound w_M_deedsFound → Iv G A s (cs_X8_forget G a_M a_M_now a_M_kept a_M_aside a_M_errors a_M_meetsFound a_M_deedsFound a_M_ahead a_M_NAMED a_M_code a_M_named a_M_pile a_M_often a_M_trace a_M_widths a_M_sizes a_M_numbers a_M_carried M_images M_at M_open M_use M_isWrong M_coded M_traced M_kind M_number M_told w_M_meetsFound w_M_deedsFound) Hx lx → lv_has ls 2 [(0, .ref a_M), (1, .int y1)] → W p l e rm_X8_forget s m args below meth c Hx lx 0 0 (MQ below (qc_X8_forget G a_M a_M_now a_M_kept a_M_aside a_M_errors a_M_meetsFound a_M_deedsFound a_M_ahead a_M_NAMED a_M_code a_M_named a_M_pile a_M_often a_M_trace a_M_widths a_M_sizes a_M_numbers a_M_carried M_images M_at M_open M_use M_isWrong M_coded M_traced M_kind M_number M_told A Q) args s 0 0 A) (F0 m 2 ls []) := by
  intro n
  induction n with
  | zero => intro y1 w_M_meetsFound w_M_deedsFound Hx lx  ls hw I hl; exact False.elim hw
  | succ k ih =>
    intro y1 w_M_meetsFound w_M_deedsFound Hx lx  ls hw I hl
    refine x_iload_n C hl 1 dX8_forget_2 rfl ?_
    refine x_aload_n C hl 0 dX8_forget_3 rfl ?_
    refine x_get C I.1 fl_X8_22 0 rfl rfl dX8_forget_4 ?_
    refine x_alen C I.1 1 (1728 : Int32) rfl al_1728 dX8_forget_7 ?_
    refine x_icmp_ge C 24 dX8_forget_8 (by decide) (fun c1 => ?_) (fun c1 => ?_)
    · have hw := And.left hw c1
      refine x_iconst C dX8_forget_24 ic_0 ?_
      refine x_istore_n C hl [(1, .int (0 : Int32)), (0, .ref a_M)] dX8_forget_25 (Nat.le_of_ble_eq_true rfl) rfl (fun ls hl => ?_)
      obtain ⟨n, hw⟩ := hw
      exact lk_X8_forget_26 G a_M a_M_now a_M_kept a_M_aside a_M_errors a_M_meetsFound a_M_deedsFound a_M_ahead a_M_NAMED a_M_code a_M_named a_M_pile a_M_often a_M_trace a_M_widths a_M_sizes a_M_numbers a_M_carried C  M_images M_at M_open M_use M_isWrong M_coded M_traced M_kind M_number M_told Q n (0 : Int32) w_M_meetsFound w_M_deedsFound Hx lx ls hw I (lv_sub hl [1, 0] rfl)
    · have hw := And.right hw c1
      refine x_aload_n C hl 0 dX8_forget_11 rfl ?_
      refine x_get C I.1 fl_X8_22 0 rfl rfl dX8_forget_12 ?_
      refine x_iload_n C hl 1 dX8_forget_15 rfl ?_
      refine x_iconst C dX8_forget_16 ic_0 ?_
      refine x_iast C I 1 (cs_X8_forget G a_M a_M_now a_M_kept a_M_aside a_M_errors a_M_meetsFound a_M_deedsFound a_M_ahead a_M_NAMED a_M_code a_M_named a_M_pile a_M_often a_M_trace a_M_widths a_M_sizes a_M_numbers a_M_carried M_images M_at M_open M_use M_isWrong M_coded M_traced M_kind M_number M_told (upd w_M_meetsFound (y1).toNatClampNeg (0 : Int32)) w_M_deedsFound) rfl (And.left hw) rfl dX8_forget_17 (fun Hx lx I => ?_)
      have hw := And.right hw
      refine x_iinc C hl 1 [(1, .int (y1 + (1 : Int32))), (0, .ref a_M)] (y1 + (1 : Int32)) dX8_forget_18 rfl (congrArg _ ic_1) (Nat.le_of_ble_eq_true rfl) rfl (fun ls hl => ?_)
      refine x_goto C 2 dX8_forget_21 (by decide) ?_
      exact ih (y1 + (1 : Int32)) (upd w_M_meetsFound (y1).toNatClampNeg (0 : Int32)) w_M_deedsFound Hx lx ls hw I (lv_sub hl [1, 0] rfl)
def wp_X8_forget (M_meetsFound : Nat → Int32) (M_deedsFound : Nat → Int32) (Q : (Nat → Int32) → (Nat → Int32) → Prop) : Prop := (∃ n, lb_X8_forget_2  Q n (0 : Int32) M_meetsFound M_deedsFound)
set_option maxHeartbeats 4000000 in
set_option maxRecDepth 100000 in
theorem wk_X8_forget (l : Launch) (G : Gt) (a_M : Nat) (a_M_now : Nat) (a_M_kept : Nat) (a_M_aside : Nat) (a_M_errors : Nat) (a_M_meetsFound : Nat) (a_M_deedsFound : Nat) (a_M_ahead : Nat) (a_M_NAMED : Nat) (a_M_code : Nat) (a_M_named : Nat) (a_M_pile : Nat) (a_M_often : Nat) (a_M_trace : Nat) (a_M_widths : Nat) (a_M_sizes : Nat) (a_M_numbers : Nat) (a_M_carried : Nat) (sz : Nat) (M_images : Int32) (M_at : Int32) (M_open : Int32) (M_use : Int32) (M_isWrong : Int32) (M_coded : Int32) (M_traced : Int32) (M_kind : Int32) (M_number : Int32) (M_told : Int32) (M_meetsFound : Nat → Int32) (M_deedsFound : Nat → Int32) (Q : (Nat → Int32) → (Nat → Int32) → Prop) (hw : wp_X8_forget M_meetsFound M_deedsFound Q) : Met l yX8_forget (wc yX8_forget cX8_forget 2 none) rm_X8_forget (va_Pc [.ref a_M] (PB G (cs_X8_forget G a_M a_M_now a_M_kept a_M_aside a_M_errors a_M_meetsFound a_M_deedsFound a_M_ahead a_M_NAMED a_M_code a_M_named a_M_pile a_M_often a_M_trace a_M_widths a_M_sizes a_M_numbers a_M_carried M_images M_at M_open M_use M_isWrong M_coded M_traced M_kind M_number M_told M_meetsFound M_deedsFound) sz)) (qc_X8_forget G a_M a_M_now a_M_kept a_M_aside a_M_errors a_M_meetsFound a_M_deedsFound a_M_ahead a_M_NAMED a_M_code a_M_named a_M_pile a_M_often a_M_trace a_M_widths a_M_sizes a_M_numbers a_M_carried M_images M_at M_open M_use M_isWrong M_coded M_traced M_kind M_number M_told (va_A (cs_X8_forget G a_M a_M_now a_M_kept a_M_aside a_M_errors a_M_meetsFound a_M_deedsFound a_M_ahead a_M_NAMED a_M_code a_M_named a_M_pile a_M_often a_M_trace a_M_widths a_M_sizes a_M_numbers a_M_carried M_images M_at M_open M_use M_isWrong M_coded M_traced M_kind M_number M_told M_meetsFound M_deedsFound) sz) Q) 0 0 (va_A (cs_X8_forget G a_M a_M_now a_M_kept a_M_aside a_M_errors a_M_meetsFound a_M_deedsFound a_M_ahead a_M_NAMED a_M_code a_M_named a_M_pile a_M_often a_M_trace a_M_widths a_M_sizes a_M_numbers a_M_carried M_images M_at M_open M_use M_isWrong M_coded M_traced M_kind M_number M_told M_meetsFound M_deedsFound) sz) := by
  refine x_start pn_X8 (Nat.le_of_ble_eq_true rfl) (fun p e s m below meth c ls C hn hl hB => ?_)
  have I := iv_start hB
  generalize va_A (cs_X8_forget G a_M a_M_now a_M_kept a_M_aside a_M_errors a_M_meetsFound a_M_deedsFound a_M_ahead a_M_NAMED a_M_code a_M_named a_M_pile a_M_often a_M_trace a_M_widths a_M_sizes a_M_numbers a_M_carried M_images M_at M_open M_use M_isWrong M_coded M_traced M_kind M_number M_told M_meetsFound M_deedsFound) sz = A at I ⊢
  have C : Cx p s m [.ref a_M].toArray meth c cX8_forget 2 RX8 none := C
  have hl : lv_has ls 2 [(0, .ref a_M)] := hl
  refine x_iconst C dX8_forget_0 ic_0 ?_
  refine x_istore_n C hl [(1, .int (0 : Int32)), (0, .ref a_M)] dX8_forget_1 (Nat.le_of_ble_eq_true rfl) rfl (fun ls hl => ?_)
  obtain ⟨n, hw⟩ := hw
  exact lk_X8_forget_2 G a_M a_M_now a_M_kept a_M_aside a_M_errors a_M_meetsFound a_M_deedsFound a_M_ahead a_M_NAMED a_M_code a_M_named a_M_pile a_M_often a_M_trace a_M_widths a_M_sizes a_M_numbers a_M_carried C  M_images M_at M_open M_use M_isWrong M_coded M_traced M_kind M_number M_told Q n (0 : Int32) M_meetsFound M_deedsFound s.heap [] ls hw I (lv_sub hl [1, 0] rfl)
/-! X8_isMeeting -/
abbrev rm_X8_isMeeting : Room := { frames := 3, cells := 0, slots := 0, locals := 71 }
abbrev cs_X8_isMeeting (G : Gt) (a_M : Nat) (a_M_now : Nat) (a_M_kept : Nat) (a_M_aside : Nat) (a_M_errors : Nat) (a_M_meetsFound : Nat) (a_M_deedsFound : Nat) (a_M_ahead : Nat) (a_M_NAMED : Nat) (a_M_code : Nat) (a_M_named : Nat) (a_M_pile : Nat) (a_M_often : Nat) (a_M_trace : Nat) (a_M_widths : Nat) (a_M_sizes : Nat) (a_M_numbers : Nat) (a_M_carried : Nat) (M_images : Int32) (M_at : Int32) (M_open : Int32) (M_use : Int32) (M_isWrong : Int32) (M_coded : Int32) (M_traced : Int32) (M_kind : Int32) (M_number : Int32) (M_told : Int32) (M_now : Nat → Int32) (M_meetsFound : Nat → Int32) (M_named : Nat → Int32) (M_pile : Nat → Int32) : va_W := [(a_M, .inr (8, [.ref a_M_now, .ref a_M_kept, .ref a_M_aside, .int M_images, .ref a_M_errors, .ref a_M_meetsFound, .ref a_M_deedsFound, .ref a_M_ahead, .ref a_M_NAMED, .int M_at, .int M_open, .int M_use, .int M_isWrong, .ref a_M_code, .int M_coded, .ref a_M_named, .ref a_M_pile, .ref a_M_often, .ref a_M_trace, .int M_traced, .int M_kind, .int M_number, .int M_told, .ref a_M_widths, .ref a_M_sizes, .ref a_M_numbers, .ref a_M_carried])), (a_M_now, .inl (cI G, 228, .inl M_now)), (a_M_meetsFound, .inl (cI G, 1728, .inl M_meetsFound)), (a_M_named, .inl (cI G, 4, .inl M_named)), (a_M_pile, .inl (cI G, 60, .inl M_pile))]
abbrev qc_X8_isMeeting (G : Gt) (a_M : Nat) (a_M_now : Nat) (a_M_kept : Nat) (a_M_aside : Nat) (a_M_errors : Nat) (a_M_meetsFound : Nat) (a_M_deedsFound : Nat) (a_M_ahead : Nat) (a_M_NAMED : Nat) (a_M_code : Nat) (a_M_named : Nat) (a_M_pile : Nat) (a_M_often : Nat) (a_M_trace : Nat) (a_M_widths : Nat) (a_M_sizes : Nat) (a_M_numbers : Nat) (a_M_carried : Nat) (M_images : Int32) (M_at : Int32) (M_open : Int32) (M_use : Int32) (M_isWrong : Int32) (M_coded : Int32) (M_traced : Int32) (M_kind : Int32) (M_number : Int32) (M_told : Int32) (M_now : Nat → Int32) (A : Nat → Prop) (Q : Int32 → (Nat → Int32) → (Nat → Int32) → (Nat → Int32) → Prop) : Array Value → State → Outcome → State → Prop := Qi1 G A (fun r (u : (Nat → Int32) × (Nat → Int32) × (Nat → Int32)) => Q r u.1 u.2.1 u.2.2) (fun u => cs_X8_isMeeting G a_M a_M_now a_M_kept a_M_aside a_M_errors a_M_meetsFound a_M_deedsFound a_M_ahead a_M_NAMED a_M_code a_M_named a_M_pile a_M_often a_M_trace a_M_widths a_M_sizes a_M_numbers a_M_carried M_images M_at M_open M_use M_isWrong M_coded M_traced M_kind M_number M_told M_now u.1 u.2.1 u.2.2)
def lb_X8_isMeeting_51 (x1 : Int32) (x2 : Int32) (M_now : Nat → Int32) (Q : Int32 → (Nat → Int32) → (Nat → Int32) → (Nat → Int32) → Prop) (y4 : Int32) (w_M_meetsFound : Nat → Int32) (w_M_named : Nat → Int32) (w_M_pile : Nat → Int32) : Prop := (vp_in y4 1728 ∧ ((¬ (w_M_meetsFound (y4).toNatClampNeg) = (2 : Int32) → (Q (0 : Int32) w_M_meetsFound w_M_named w_M_pile)) ∧ ((w_M_meetsFound (y4).toNatClampNeg) = (2 : Int32) → (Q (1 : Int32) w_M_meetsFound w_M_named w_M_pile))))
set_option maxHeartbeats 4000000 in
set_option maxRecDepth 100000 in
theorem lk_X8_isMeeting_51 {p : Program} {l : Launch} {e : Env} {s : State} {m : MethodId} {args : Array Value} {below : List Frame} {meth : Method} {c : Code} {A : Nat → Prop} (G : Gt) (a_M : Nat) (a_M_now : Nat) (a_M_kept : Nat) (a_M_aside : Nat) (a_M_errors : Nat) (a_M_meetsFound : Nat) (a_M_deedsFound : Nat) (a_M_ahead : Nat) (a_M_NAMED : Nat) (a_M_code : Nat) (a_M_named : Nat) (a_M_pile : Nat) (a_M_often : Nat) (a_M_trace : Nat) (a_M_widths : Nat) (a_M_sizes : Nat) (a_M_numbers : Nat) (a_M_carried : Nat) (C : Cx p s m args meth c cX8_isMeeting 5 RX8 (some .boolean)) (x1 : Int32) (x2 : Int32) (M_now : Nat → Int32) (M_images : Int32) (M_at : Int32) (M_open : Int32) (M_use : Int32) (M_isWrong : Int32) (M_coded : Int32) (M_traced : Int32) (M_kind : Int32) (M_number : Int32) (M_told : Int32) (Q : Int32 → (Nat → Int32) → (Nat → Int32) → (Nat → Int32) → Prop) : ∀ (y4 : Int32) (w_M_meetsFound : Nat → Int32) (w_M_named : Nat → Int32) (w_M_pile : Nat → Int32) (Hx : Heap) (lx : List Loc) (ls : Array Slot), lb_X8_isMeeting_51 x1 x2 M_now Q y4 w_M_meetsFound w_M_named w_M_pile → Iv G A s (cs_X8_isMeeting G a_M a_M_now a_M_kept a_M_aside a_M_errors a_M_meetsFound a_M_deedsFound a_M_ahead a_M_NAMED a_M_code a_M_named a_M_pile a_M_often a_M_trace a_M_widths a_M_sizes a_M_numbers a_M_carried M_images M_at M_open M_use M_isWrong M_coded M_traced M_kind M_number M_told M_now w_M_meetsFound w_M_named w_M_pile) Hx lx → lv_has ls 5 [(0, .ref a_M), (4, .int y4)] → W p l e rm_X8_isMeeting s m args below meth c Hx lx 0 0 (MQ below (qc_X8_isMeeting G a_M a_M_now a_M_kept a_M_aside a_M_errors a_M_meetsFound a_M_deedsFound a_M_ahead a_M_NAMED a_M_code a_M_named a_M_pile a_M_often a_M_trace a_M_widths a_M_sizes a_M_numbers a_M_carried M_images M_at M_open M_use M_isWrong M_coded M_traced M_kind M_number M_told M_now A Q) args s 0 0 A) (F0 m 51 ls []) := by
  intro y4 w_M_meetsFound w_M_named w_M_pile Hx lx  ls hw I hl
  refine x_aload_n C hl 0 dX8_isMeeting_51 rfl ?_
  refine x_get C I.1 fl_X8_22 0 rfl rfl dX8_isMeeting_52 ?_
  refine x_iload C hl 1 dX8_isMeeting_55 rfl ?_
  refine x_iald C I.1 2 rfl (And.left hw) dX8_isMeeting_57 ?_
  have hw := And.right hw
  refine x_iconst C dX8_isMeeting_58 ic_2 ?_
  refine x_icmp_ne C 66 dX8_isMeeting_59 (by decide) (fun c4 => ?_) (fun c4 => ?_)
  · have hw := And.left hw c4
    refine x_iconst C dX8_isMeeting_66 ic_0 ?_
    exact x_ret1z C I (w_M_meetsFound, w_M_named, w_M_pile) bz_0 rfl hw dX8_isMeeting_67
  · have hw := And.right hw c4
    refine x_iconst C dX8_isMeeting_62 ic_1 ?_
    refine x_goto C 67 dX8_isMeeting_63 (by decide) ?_
    exact x_ret1z C I (w_M_meetsFound, w_M_named, w_M_pile) bz_1 rfl hw dX8_isMeeting_67
def wp_X8_isMeeting (x1 : Int32) (x2 : Int32) (M_now : Nat → Int32) (M_meetsFound : Nat → Int32) (M_named : Nat → Int32) (M_pile : Nat → Int32) (Q : Int32 → (Nat → Int32) → (Nat → Int32) → (Nat → Int32) → Prop) : Prop := (∀ v1 : Int32, v1 = (jrem (M_now 0) (24 : Int32)) → (∀ v2 : Int32, v2 = ((((216 : Int32) * x1) + ((9 : Int32) * v1)) + x2) → (vp_in v2 1728 ∧ ((¬ (M_meetsFound (v2).toNatClampNeg) = (0) → (lb_X8_isMeeting_51 x1 x2 M_now Q v2 M_meetsFound M_named M_pile)) ∧ ((M_meetsFound (v2).toNatClampNeg) = (0) → (wp_X8_given (0 : Int32) x1 v1 x2 M_named M_now M_pile (fun r7 o5 o6 => (∀ v8 : Int32, v8 = ((1 : Int32) + r7) → (vp_in v2 1728 ∧ (lb_X8_isMeeting_51 x1 x2 M_now Q v2 (upd M_meetsFound (v2).toNatClampNeg v8) o5 o6))))))))))
set_option maxHeartbeats 4000000 in
set_option maxRecDepth 100000 in
theorem wk_X8_isMeeting (l : Launch) (G : Gt) (a_M : Nat) (a_M_now : Nat) (a_M_kept : Nat) (a_M_aside : Nat) (a_M_errors : Nat) (a_M_meetsFound : Nat) (a_M_deedsFound : Nat) (a_M_ahead : Nat) (a_M_NAMED : Nat) (a_M_code : Nat) (a_M_named : Nat) (a_M_pile : Nat) (a_M_often : Nat) (a_M_trace : Nat) (a_M_widths : Nat) (a_M_sizes : Nat) (a_M_numbers : Nat) (a_M_carried : Nat) (sz : Nat) (M_images : Int32) (M_at : Int32) (M_open : Int32) (M_use : Int32) (M_isWrong : Int32) (M_coded : Int32) (M_traced : Int32) (M_kind : Int32) (M_number : Int32) (M_told : Int32) (M_now : Nat → Int32) (M_meetsFound : Nat → Int32) (M_named : Nat → Int32) (M_pile : Nat → Int32) (x1 : Int32) (x2 : Int32) (Q : Int32 → (Nat → Int32) → (Nat → Int32) → (Nat → Int32) → Prop) (hw : wp_X8_isMeeting x1 x2 M_now M_meetsFound M_named M_pile Q) : Met l yX8_isMeeting (wc yX8_isMeeting cX8_isMeeting 5 (some .boolean)) rm_X8_isMeeting (va_Pc [.ref a_M, .int x1, .int x2] (PB G (cs_X8_isMeeting G a_M a_M_now a_M_kept a_M_aside a_M_errors a_M_meetsFound a_M_deedsFound a_M_ahead a_M_NAMED a_M_code a_M_named a_M_pile a_M_often a_M_trace a_M_widths a_M_sizes a_M_numbers a_M_carried M_images M_at M_open M_use M_isWrong M_coded M_traced M_kind M_number M_told M_now M_meetsFound M_named M_pile) sz)) (qc_X8_isMeeting G a_M a_M_now a_M_kept a_M_aside a_M_errors a_M_meetsFound a_M_deedsFound a_M_ahead a_M_NAMED a_M_code a_M_named a_M_pile a_M_often a_M_trace a_M_widths a_M_sizes a_M_numbers a_M_carried M_images M_at M_open M_use M_isWrong M_coded M_traced M_kind M_number M_told M_now (va_A (cs_X8_isMeeting G a_M a_M_now a_M_kept a_M_aside a_M_errors a_M_meetsFound a_M_deedsFound a_M_ahead a_M_NAMED a_M_code a_M_named a_M_pile a_M_often a_M_trace a_M_widths a_M_sizes a_M_numbers a_M_carried M_images M_at M_open M_use M_isWrong M_coded M_traced M_kind M_number M_told M_now M_meetsFound M_named M_pile) sz) Q) 0 0 (va_A (cs_X8_isMeeting G a_M a_M_now a_M_kept a_M_aside a_M_errors a_M_meetsFound a_M_deedsFound a_M_ahead a_M_NAMED a_M_code a_M_named a_M_pile a_M_often a_M_trace a_M_widths a_M_sizes a_M_numbers a_M_carried M_images M_at M_open M_use M_isWrong M_coded M_traced M_kind M_number M_told M_now M_meetsFound M_named M_pile) sz) := by
  refine x_start pn_X8 (Nat.le_of_ble_eq_true rfl) (fun p e s m below meth c ls C hn hl hB => ?_)
  have I := iv_start hB
  generalize va_A (cs_X8_isMeeting G a_M a_M_now a_M_kept a_M_aside a_M_errors a_M_meetsFound a_M_deedsFound a_M_ahead a_M_NAMED a_M_code a_M_named a_M_pile a_M_often a_M_trace a_M_widths a_M_sizes a_M_numbers a_M_carried M_images M_at M_open M_use M_isWrong M_coded M_traced M_kind M_number M_told M_now M_meetsFound M_named M_pile) sz = A at I ⊢
  have C : Cx p s m [.ref a_M, .int x1, .int x2].toArray meth c cX8_isMeeting 5 RX8 (some .boolean) := C
  have hl : lv_has ls 5 [(0, .ref a_M), (1, .int x1), (2, .int x2)] := hl
  refine x_aload_n C hl 0 dX8_isMeeting_0 rfl ?_
  refine x_get C I.1 fl_X8_9 0 rfl rfl dX8_isMeeting_1 ?_
  refine x_iconst C dX8_isMeeting_4 ic_0 ?_
  refine x_ialdL C I.1 1 0 rfl vi_0_228 vl_0 dX8_isMeeting_5 ?_
  refine x_bipush C dX8_isMeeting_6 bp_24 ?_
  refine x_irem C nz_24 dX8_isMeeting_8 ?_
  refine lv_topi (fun v1 ev1 => ?_)
  have hw := hw v1 ev1
  refine x_istore_n C hl [(3, .int v1), (0, .ref a_M), (1, .int x1), (2, .int x2)] dX8_isMeeting_9 (Nat.le_of_ble_eq_true rfl) rfl (fun ls hl => ?_)
  refine x_sipush C dX8_isMeeting_10 sp_216 ?_
  refine x_iload_n C hl 2 dX8_isMeeting_13 rfl ?_
  refine x_imul C dX8_isMeeting_14 ?_
  refine x_bipush C dX8_isMeeting_15 bp_9 ?_
  refine x_iload_n C hl 0 dX8_isMeeting_17 rfl ?_
  refine x_imul C dX8_isMeeting_18 ?_
  refine x_iadd C dX8_isMeeting_19 ?_
  refine x_iload_n C hl 3 dX8_isMeeting_20 rfl ?_
  refine x_iadd C dX8_isMeeting_21 ?_
  refine lv_topi (fun v2 ev2 => ?_)
  have hw := hw v2 ev2
  refine x_istore C hl [(4, .int v2), (3, .int v1), (0, .ref a_M), (1, .int x1), (2, .int x2)] dX8_isMeeting_22 (Nat.le_of_ble_eq_true rfl) rfl (fun ls hl => ?_)
  refine x_aload_n C hl 2 dX8_isMeeting_24 rfl ?_
  refine x_get C I.1 fl_X8_22 0 rfl rfl dX8_isMeeting_25 ?_
  refine x_iload C hl 0 dX8_isMeeting_28 rfl ?_
  refine x_iald C I.1 2 rfl (And.left hw) dX8_isMeeting_30 ?_
  have hw := And.right hw
  refine x_if_ne C 51 dX8_isMeeting_31 (by decide) (fun c3 => ?_) (fun c3 => ?_)
  · have hw := And.left hw c3
    exact lk_X8_isMeeting_51 G a_M a_M_now a_M_kept a_M_aside a_M_errors a_M_meetsFound a_M_deedsFound a_M_ahead a_M_NAMED a_M_code a_M_named a_M_pile a_M_often a_M_trace a_M_widths a_M_sizes a_M_numbers a_M_carried C x1 x2 M_now M_images M_at M_open M_use M_isWrong M_coded M_traced M_kind M_number M_told Q v2 M_meetsFound M_named M_pile s.heap [] ls hw I (lv_sub hl [2, 0] rfl)
  · have hw := And.right hw c3
    refine x_aload_n C hl 2 dX8_isMeeting_34 rfl ?_
    refine x_get C I.1 fl_X8_22 0 rfl rfl dX8_isMeeting_35 ?_
    refine x_iload C hl 0 dX8_isMeeting_38 rfl ?_
    refine x_iconst C dX8_isMeeting_40 ic_1 ?_
    refine x_aload_n C hl 2 dX8_isMeeting_41 rfl ?_
    refine x_iconst C dX8_isMeeting_42 ic_0 ?_
    refine x_iload_n C hl 3 dX8_isMeeting_43 rfl ?_
    refine x_iload_n C hl 1 dX8_isMeeting_44 rfl ?_
    refine x_iload_n C hl 4 dX8_isMeeting_45 rfl ?_
    refine x_mui (wk := cs_X8_given G a_M a_M_now a_M_kept a_M_aside a_M_errors a_M_meetsFound a_M_deedsFound a_M_ahead a_M_NAMED a_M_code a_M_named a_M_pile a_M_often a_M_trace a_M_widths a_M_sizes a_M_numbers a_M_carried M_images M_at M_open M_use M_isWrong M_coded M_traced M_kind M_number M_told M_named M_now M_pile) (wr := [(a_M_meetsFound, .inl (cI G, 1728, .inl M_meetsFound))]) (isC := [0, 3, 1, 4]) (isR := [2]) I ⟨⟨rfl, rfl⟩, rfl, rfl, rfl⟩ [1, 3, 0, 2, 4] (fun u => cs_X8_isMeeting G a_M a_M_now a_M_kept a_M_aside a_M_errors a_M_meetsFound a_M_deedsFound a_M_ahead a_M_NAMED a_M_code a_M_named a_M_pile a_M_often a_M_trace a_M_widths a_M_sizes a_M_numbers a_M_carried M_images M_at M_open M_use M_isWrong M_coded M_traced M_kind M_number M_told M_now M_meetsFound u.1 u.2) (fun _ => rfl) rfl (run_V (As := [.int (0 : Int32), .int x1, .int v1, .int x2]) (rest := [.int (1 : Int32), .int v2, .ref a_M_meetsFound]) C hl (wk_X8_given l G a_M a_M_now a_M_kept a_M_aside a_M_errors a_M_meetsFound a_M_deedsFound a_M_ahead a_M_NAMED a_M_code a_M_named a_M_pile a_M_often a_M_trace a_M_widths a_M_sizes a_M_numbers a_M_carried s.heap.size M_images M_at M_open M_use M_isWrong M_coded M_traced M_kind M_number M_told M_named M_now M_pile (0 : Int32) x1 v1 x2 _ hw) gm_X8_167 ⟨⟨rfl, rfl⟩, cn_X8_given, ⟨(Nat.le_of_ble_eq_true rfl), (Nat.le_of_ble_eq_true rfl)⟩⟩ (pb_blind _ _ _ _) (x_recv I.1 0 rfl rfl) (pb_of I [0, 3, 1, 4] rfl rfl) rfl rfl (Nat.le_of_ble_eq_true rfl) ⟨Nat.le_of_ble_eq_true rfl, Nat.le_of_ble_eq_true rfl⟩ dX8_isMeeting_46) (fun r7 u Hx lx hw I => ?_)
    obtain ⟨o5, o6⟩ := u
    have I : Iv G A s (cs_X8_isMeeting G a_M a_M_now a_M_kept a_M_aside a_M_errors a_M_meetsFound a_M_deedsFound a_M_ahead a_M_NAMED a_M_code a_M_named a_M_pile a_M_often a_M_trace a_M_widths a_M_sizes a_M_numbers a_M_carried M_images M_at M_open M_use M_isWrong M_coded M_traced M_kind M_number M_told M_now M_meetsFound o5 o6) Hx lx := I
    refine x_iadd C dX8_isMeeting_49 ?_
    refine lv_topi (fun v8 ev8 => ?_)
    have hw := hw v8 ev8
    refine x_iast C I 2 (cs_X8_isMeeting G a_M a_M_now a_M_kept a_M_aside a_M_errors a_M_meetsFound a_M_deedsFound a_M_ahead a_M_NAMED a_M_code a_M_named a_M_pile a_M_often a_M_trace a_M_widths a_M_sizes a_M_numbers a_M_carried M_images M_at M_open M_use M_isWrong M_coded M_traced M_kind M_number M_told M_now (upd M_meetsFound (v2).toNatClampNeg v8) o5 o6) rfl (And.left hw) rfl dX8_isMeeting_50 (fun Hx lx I => ?_)
    have hw := And.right hw
    exact lk_X8_isMeeting_51 G a_M a_M_now a_M_kept a_M_aside a_M_errors a_M_meetsFound a_M_deedsFound a_M_ahead a_M_NAMED a_M_code a_M_named a_M_pile a_M_often a_M_trace a_M_widths a_M_sizes a_M_numbers a_M_carried C x1 x2 M_now M_images M_at M_open M_use M_isWrong M_coded M_traced M_kind M_number M_told Q v2 (upd M_meetsFound (v2).toNatClampNeg v8) o5 o6 Hx lx ls hw I (lv_sub hl [2, 0] rfl)
/-! X8_deedsFor -/
abbrev rm_X8_deedsFor : Room := { frames := 3, cells := 0, slots := 0, locals := 71 }
abbrev cs_X8_deedsFor (G : Gt) (a_M : Nat) (a_M_now : Nat) (a_M_kept : Nat) (a_M_aside : Nat) (a_M_errors : Nat) (a_M_meetsFound : Nat) (a_M_deedsFound : Nat) (a_M_ahead : Nat) (a_M_NAMED : Nat) (a_M_code : Nat) (a_M_named : Nat) (a_M_pile : Nat) (a_M_often : Nat) (a_M_trace : Nat) (a_M_widths : Nat) (a_M_sizes : Nat) (a_M_numbers : Nat) (a_M_carried : Nat) (M_images : Int32) (M_at : Int32) (M_open : Int32) (M_use : Int32) (M_isWrong : Int32) (M_coded : Int32) (M_traced : Int32) (M_kind : Int32) (M_number : Int32) (M_told : Int32) (M_deedsFound : Nat → Int32) (M_named : Nat → Int32) (M_now : Nat → Int32) (M_pile : Nat → Int32) : va_W := [(a_M, .inr (8, [.ref a_M_now, .ref a_M_kept, .ref a_M_aside, .int M_images, .ref a_M_errors, .ref a_M_meetsFound, .ref a_M_deedsFound, .ref a_M_ahead, .ref a_M_NAMED, .int M_at, .int M_open, .int M_use, .int M_isWrong, .ref a_M_code, .int M_coded, .ref a_M_named, .ref a_M_pile, .ref a_M_often, .ref a_M_trace, .int M_traced, .int M_kind, .int M_number, .int M_told, .ref a_M_widths, .ref a_M_sizes, .ref a_M_numbers, .ref a_M_carried])), (a_M_deedsFound, .inl (cI G, 8000, .inl M_deedsFound)), (a_M_named, .inl (cI G, 4, .inl M_named)), (a_M_now, .inl (cI G, 228, .inl M_now)), (a_M_pile, .inl (cI G, 60, .inl M_pile))]
abbrev qc_X8_deedsFor (G : Gt) (a_M : Nat) (a_M_now : Nat) (a_M_kept : Nat) (a_M_aside : Nat) (a_M_errors : Nat) (a_M_meetsFound : Nat) (a_M_deedsFound : Nat) (a_M_ahead : Nat) (a_M_NAMED : Nat) (a_M_code : Nat) (a_M_named : Nat) (a_M_pile : Nat) (a_M_often : Nat) (a_M_trace : Nat) (a_M_widths : Nat) (a_M_sizes : Nat) (a_M_numbers : Nat) (a_M_carried : Nat) (M_images : Int32) (M_at : Int32) (M_open : Int32) (M_use : Int32) (M_isWrong : Int32) (M_coded : Int32) (M_traced : Int32) (M_kind : Int32) (M_number : Int32) (M_told : Int32) (M_now : Nat → Int32) (A : Nat → Prop) (Q : Int32 → (Nat → Int32) → (Nat → Int32) → (Nat → Int32) → Prop) : Array Value → State → Outcome → State → Prop := Qi1 G A (fun r (u : (Nat → Int32) × (Nat → Int32) × (Nat → Int32)) => Q r u.1 u.2.1 u.2.2) (fun u => cs_X8_deedsFor G a_M a_M_now a_M_kept a_M_aside a_M_errors a_M_meetsFound a_M_deedsFound a_M_ahead a_M_NAMED a_M_code a_M_named a_M_pile a_M_often a_M_trace a_M_widths a_M_sizes a_M_numbers a_M_carried M_images M_at M_open M_use M_isWrong M_coded M_traced M_kind M_number M_told u.1 u.2.1 M_now u.2.2)
def wp_X8_deedsFor (x1 : Int32) (x2 : Int32) (x3 : Int32) (M_deedsFound : Nat → Int32) (M_named : Nat → Int32) (M_now : Nat → Int32) (M_pile : Nat → Int32) (Q : Int32 → (Nat → Int32) → (Nat → Int32) → (Nat → Int32) → Prop) : Prop := (∀ v1 : Int32, v1 = (((10 : Int32) * (((100 : Int32) * x3) + x1)) + x2) → (vp_in v1 8000 ∧ ((¬ (M_deedsFound (v1).toNatClampNeg) = (0) → (vp_in v1 8000 ∧ (Q ((M_deedsFound (v1).toNatClampNeg) - (1 : Int32)) M_deedsFound M_named M_pile))) ∧ ((M_deedsFound (v1).toNatClampNeg) = (0) → (wp_X8_given (1 : Int32) x1 x2 x3 M_named M_now M_pile (fun r5 o3 o4 => (∀ v6 : Int32, v6 = ((1 : Int32) + r5) → (vp_in v1 8000 ∧ (vp_in v1 8000 ∧ (Q (((upd M_deedsFound (v1).toNatClampNeg v6) (v1).toNatClampNeg) - (1 : Int32)) (upd M_deedsFound (v1).toNatClampNeg v6) o3 o4))))))))))
set_option maxHeartbeats 4000000 in
set_option maxRecDepth 100000 in
theorem wk_X8_deedsFor (l : Launch) (G : Gt) (a_M : Nat) (a_M_now : Nat) (a_M_kept : Nat) (a_M_aside : Nat) (a_M_errors : Nat) (a_M_meetsFound : Nat) (a_M_deedsFound : Nat) (a_M_ahead : Nat) (a_M_NAMED : Nat) (a_M_code : Nat) (a_M_named : Nat) (a_M_pile : Nat) (a_M_often : Nat) (a_M_trace : Nat) (a_M_widths : Nat) (a_M_sizes : Nat) (a_M_numbers : Nat) (a_M_carried : Nat) (sz : Nat) (M_images : Int32) (M_at : Int32) (M_open : Int32) (M_use : Int32) (M_isWrong : Int32) (M_coded : Int32) (M_traced : Int32) (M_kind : Int32) (M_number : Int32) (M_told : Int32) (M_deedsFound : Nat → Int32) (M_named : Nat → Int32) (M_now : Nat → Int32) (M_pile : Nat → Int32) (x1 : Int32) (x2 : Int32) (x3 : Int32) (Q : Int32 → (Nat → Int32) → (Nat → Int32) → (Nat → Int32) → Prop) (hw : wp_X8_deedsFor x1 x2 x3 M_deedsFound M_named M_now M_pile Q) : Met l yX8_deedsFor (wc yX8_deedsFor cX8_deedsFor 5 (some .int)) rm_X8_deedsFor (va_Pc [.ref a_M, .int x1, .int x2, .int x3] (PB G (cs_X8_deedsFor G a_M a_M_now a_M_kept a_M_aside a_M_errors a_M_meetsFound a_M_deedsFound a_M_ahead a_M_NAMED a_M_code a_M_named a_M_pile a_M_often a_M_trace a_M_widths a_M_sizes a_M_numbers a_M_carried M_images M_at M_open M_use M_isWrong M_coded M_traced M_kind M_number M_told M_deedsFound M_named M_now M_pile) sz)) (qc_X8_deedsFor G a_M a_M_now a_M_kept a_M_aside a_M_errors a_M_meetsFound a_M_deedsFound a_M_ahead a_M_NAMED a_M_code a_M_named a_M_pile a_M_often a_M_trace a_M_widths a_M_sizes a_M_numbers a_M_carried M_images M_at M_open M_use M_isWrong M_coded M_traced M_kind M_number M_told M_now (va_A (cs_X8_deedsFor G a_M a_M_now a_M_kept a_M_aside a_M_errors a_M_meetsFound a_M_deedsFound a_M_ahead a_M_NAMED a_M_code a_M_named a_M_pile a_M_often a_M_trace a_M_widths a_M_sizes a_M_numbers a_M_carried M_images M_at M_open M_use M_isWrong M_coded M_traced M_kind M_number M_told M_deedsFound M_named M_now M_pile) sz) Q) 0 0 (va_A (cs_X8_deedsFor G a_M a_M_now a_M_kept a_M_aside a_M_errors a_M_meetsFound a_M_deedsFound a_M_ahead a_M_NAMED a_M_code a_M_named a_M_pile a_M_often a_M_trace a_M_widths a_M_sizes a_M_numbers a_M_carried M_images M_at M_open M_use M_isWrong M_coded M_traced M_kind M_number M_told M_deedsFound M_named M_now M_pile) sz) := by
  refine x_start pn_X8 (Nat.le_of_ble_eq_true rfl) (fun p e s m below meth c ls C hn hl hB => ?_)
  have I := iv_start hB
  generalize va_A (cs_X8_deedsFor G a_M a_M_now a_M_kept a_M_aside a_M_errors a_M_meetsFound a_M_deedsFound a_M_ahead a_M_NAMED a_M_code a_M_named a_M_pile a_M_often a_M_trace a_M_widths a_M_sizes a_M_numbers a_M_carried M_images M_at M_open M_use M_isWrong M_coded M_traced M_kind M_number M_told M_deedsFound M_named M_now M_pile) sz = A at I ⊢
  have C : Cx p s m [.ref a_M, .int x1, .int x2, .int x3].toArray meth c cX8_deedsFor 5 RX8 (some .int) := C
  have hl : lv_has ls 5 [(0, .ref a_M), (1, .int x1), (2, .int x2), (3, .int x3)] := hl
  refine x_bipush C dX8_deedsFor_0 bp_10 ?_
  refine x_bipush C dX8_deedsFor_2 bp_100 ?_
  refine x_iload_n C hl 3 dX8_deedsFor_4 rfl ?_
  refine x_imul C dX8_deedsFor_5 ?_
  refine x_iload_n C hl 1 dX8_deedsFor_6 rfl ?_
  refine x_iadd C dX8_deedsFor_7 ?_
  refine x_imul C dX8_deedsFor_8 ?_
  refine x_iload_n C hl 2 dX8_deedsFor_9 rfl ?_
  refine x_iadd C dX8_deedsFor_10 ?_
  refine lv_topi (fun v1 ev1 => ?_)
  have hw := hw v1 ev1
  refine x_istore C hl [(4, .int v1), (0, .ref a_M), (1, .int x1), (2, .int x2), (3, .int x3)] dX8_deedsFor_11 (Nat.le_of_ble_eq_true rfl) rfl (fun ls hl => ?_)
  refine x_aload_n C hl 1 dX8_deedsFor_13 rfl ?_
  refine x_get C I.1 fl_X8_25 0 rfl rfl dX8_deedsFor_14 ?_
  refine x_iload C hl 0 dX8_deedsFor_17 rfl ?_
  refine x_iald C I.1 1 rfl (And.left hw) dX8_deedsFor_19 ?_
  have hw := And.right hw
  refine x_if_ne C 40 dX8_deedsFor_20 (by decide) (fun c2 => ?_) (fun c2 => ?_)
  · have hw := And.left hw c2
    refine x_aload_n C hl 1 dX8_deedsFor_40 rfl ?_
    refine x_get C I.1 fl_X8_25 0 rfl rfl dX8_deedsFor_41 ?_
    refine x_iload C hl 0 dX8_deedsFor_44 rfl ?_
    refine x_iald C I.1 1 rfl (And.left hw) dX8_deedsFor_46 ?_
    have hw := And.right hw
    refine x_iconst C dX8_deedsFor_47 ic_1 ?_
    refine x_isub C dX8_deedsFor_48 ?_
    exact x_ret1 C I (M_deedsFound, M_named, M_pile) rfl hw dX8_deedsFor_49
  · have hw := And.right hw c2
    refine x_aload_n C hl 1 dX8_deedsFor_23 rfl ?_
    refine x_get C I.1 fl_X8_25 0 rfl rfl dX8_deedsFor_24 ?_
    refine x_iload C hl 0 dX8_deedsFor_27 rfl ?_
    refine x_iconst C dX8_deedsFor_29 ic_1 ?_
    refine x_aload_n C hl 1 dX8_deedsFor_30 rfl ?_
    refine x_iconst C dX8_deedsFor_31 ic_1 ?_
    refine x_iload_n C hl 2 dX8_deedsFor_32 rfl ?_
    refine x_iload_n C hl 3 dX8_deedsFor_33 rfl ?_
    refine x_iload_n C hl 4 dX8_deedsFor_34 rfl ?_
    refine x_mui (wk := cs_X8_given G a_M a_M_now a_M_kept a_M_aside a_M_errors a_M_meetsFound a_M_deedsFound a_M_ahead a_M_NAMED a_M_code a_M_named a_M_pile a_M_often a_M_trace a_M_widths a_M_sizes a_M_numbers a_M_carried M_images M_at M_open M_use M_isWrong M_coded M_traced M_kind M_number M_told M_named M_now M_pile) (wr := [(a_M_deedsFound, .inl (cI G, 8000, .inl M_deedsFound))]) (isC := [0, 2, 3, 4]) (isR := [1]) I ⟨⟨rfl, rfl⟩, rfl, rfl, rfl⟩ [1, 0, 2, 3, 4] (fun u => cs_X8_deedsFor G a_M a_M_now a_M_kept a_M_aside a_M_errors a_M_meetsFound a_M_deedsFound a_M_ahead a_M_NAMED a_M_code a_M_named a_M_pile a_M_often a_M_trace a_M_widths a_M_sizes a_M_numbers a_M_carried M_images M_at M_open M_use M_isWrong M_coded M_traced M_kind M_number M_told M_deedsFound u.1 M_now u.2) (fun _ => rfl) rfl (run_V (As := [.int (1 : Int32), .int x1, .int x2, .int x3]) (rest := [.int (1 : Int32), .int v1, .ref a_M_deedsFound]) C hl (wk_X8_given l G a_M a_M_now a_M_kept a_M_aside a_M_errors a_M_meetsFound a_M_deedsFound a_M_ahead a_M_NAMED a_M_code a_M_named a_M_pile a_M_often a_M_trace a_M_widths a_M_sizes a_M_numbers a_M_carried s.heap.size M_images M_at M_open M_use M_isWrong M_coded M_traced M_kind M_number M_told M_named M_now M_pile (1 : Int32) x1 x2 x3 _ hw) gm_X8_167 ⟨⟨rfl, rfl⟩, cn_X8_given, ⟨(Nat.le_of_ble_eq_true rfl), (Nat.le_of_ble_eq_true rfl)⟩⟩ (pb_blind _ _ _ _) (x_recv I.1 0 rfl rfl) (pb_of I [0, 2, 3, 4] rfl rfl) rfl rfl (Nat.le_of_ble_eq_true rfl) ⟨Nat.le_of_ble_eq_true rfl, Nat.le_of_ble_eq_true rfl⟩ dX8_deedsFor_35) (fun r5 u Hx lx hw I => ?_)
    obtain ⟨o3, o4⟩ := u
    have I : Iv G A s (cs_X8_deedsFor G a_M a_M_now a_M_kept a_M_aside a_M_errors a_M_meetsFound a_M_deedsFound a_M_ahead a_M_NAMED a_M_code a_M_named a_M_pile a_M_often a_M_trace a_M_widths a_M_sizes a_M_numbers a_M_carried M_images M_at M_open M_use M_isWrong M_coded M_traced M_kind M_number M_told M_deedsFound o3 M_now o4) Hx lx := I
    refine x_iadd C dX8_deedsFor_38 ?_
    refine lv_topi (fun v6 ev6 => ?_)
    have hw := hw v6 ev6
    refine x_iast C I 1 (cs_X8_deedsFor G a_M a_M_now a_M_kept a_M_aside a_M_errors a_M_meetsFound a_M_deedsFound a_M_ahead a_M_NAMED a_M_code a_M_named a_M_pile a_M_often a_M_trace a_M_widths a_M_sizes a_M_numbers a_M_carried M_images M_at M_open M_use M_isWrong M_coded M_traced M_kind M_number M_told (upd M_deedsFound (v1).toNatClampNeg v6) o3 M_now o4) rfl (And.left hw) rfl dX8_deedsFor_39 (fun Hx lx I => ?_)
    have hw := And.right hw
    refine x_aload_n C hl 1 dX8_deedsFor_40 rfl ?_
    refine x_get C I.1 fl_X8_25 0 rfl rfl dX8_deedsFor_41 ?_
    refine x_iload C hl 0 dX8_deedsFor_44 rfl ?_
    refine x_iald C I.1 1 rfl (And.left hw) dX8_deedsFor_46 ?_
    have hw := And.right hw
    refine x_iconst C dX8_deedsFor_47 ic_1 ?_
    refine x_isub C dX8_deedsFor_48 ?_
    exact x_ret1 C I ((upd M_deedsFound (v1).toNatClampNeg v6), o3, o4) rfl hw dX8_deedsFor_49
/-! X8_hasBit -/
abbrev rm_X8_hasBit : Room := { frames := 0, cells := 0, slots := 0, locals := 0 }
abbrev cs_X8_hasBit (G : Gt) : va_W := []
def wp_X8_hasBit (x0 : Int32) (x1 : Int32) (Q : Int32 → Prop) : Prop := ((¬ ((jshr x0 x1) &&& (1 : Int32)) = (1 : Int32) → (Q (0 : Int32))) ∧ (((jshr x0 x1) &&& (1 : Int32)) = (1 : Int32) → (Q (1 : Int32))))
set_option maxHeartbeats 4000000 in
set_option maxRecDepth 100000 in
theorem wk_X8_hasBit (l : Launch) (G : Gt) (x0 : Int32) (x1 : Int32) (Q : Int32 → Prop) (hw : wp_X8_hasBit x0 x1 Q) : Met l yX8_hasBit (wc yX8_hasBit cX8_hasBit 2 (some .boolean)) rm_X8_hasBit (va_Pc [.int x0, .int x1] (PR G (cs_X8_hasBit G ))) (vp_Si Q) 0 0 (fun _ => False) := by
  refine x_start pn_X8 (Nat.le_of_ble_eq_true rfl) (fun p e s m below meth c ls C hn hl hB => ?_)
  have I := rd_start hB
  have C : Cx p s m [.int x0, .int x1].toArray meth c cX8_hasBit 2 RX8 (some .boolean) := C
  have hl : lv_has ls 2 [(0, .int x0), (1, .int x1)] := hl
  refine x_iload_n C hl 0 dX8_hasBit_0 rfl ?_
  refine x_iload_n C hl 1 dX8_hasBit_1 rfl ?_
  refine x_ishr C dX8_hasBit_2 ?_
  refine x_iconst C dX8_hasBit_3 ic_1 ?_
  refine x_iand C dX8_hasBit_4 ?_
  refine x_iconst C dX8_hasBit_5 ic_1 ?_
  refine x_icmp_ne C 13 dX8_hasBit_6 (by decide) (fun c1 => ?_) (fun c1 => ?_)
  · have hw := And.left hw c1
    refine x_iconst C dX8_hasBit_13 ic_0 ?_
    exact x_ret0z C bz_0 hw dX8_hasBit_14
  · have hw := And.right hw c1
    refine x_iconst C dX8_hasBit_9 ic_1 ?_
    refine x_goto C 14 dX8_hasBit_10 (by decide) ?_
    exact x_ret0z C bz_1 hw dX8_hasBit_14
/-! X8_bits -/
abbrev rm_X8_bits : Room := { frames := 0, cells := 0, slots := 0, locals := 0 }
abbrev cs_X8_bits (G : Gt) : va_W := []
def lb_X8_bits_4 (x0 : Int32) (Q : Int32 → Prop) : Nat → Int32 → Int32 → Prop
  | 0 => fun _ _ => False
  | k + 1 => fun (y1 : Int32) (y2 : Int32) => ((y2 = (0) → (Q y1)) ∧ (¬ y2 = (0) → (∀ v2 : Int32, v2 = (y2 &&& (y2 - (1 : Int32))) → (lb_X8_bits_4 x0 Q k (y1 + (1 : Int32)) v2))))
set_option maxHeartbeats 4000000 in
set_option maxRecDepth 100000 in
theorem lk_X8_bits_4 {p : Program} {l : Launch} {e : Env} {s : State} {m : MethodId} {args : Array Value} {below : List Frame} {meth : Method} {c : Code} (G : Gt) (C : Cx p s m args meth c cX8_bits 3 RX8 (some .int)) (x0 : Int32) (Q : Int32 → Prop) : ∀ (n : Nat) (y1 : Int32) (y2 : Int32) (ls : Array Slot), lb_X8_bits_4 x0 Q n y1 y2 → Rd G (fun _ => False) s (cs_X8_bits G ) s.heap [] → lv_has ls 3 [(1, .int y1), (2, .int y2)] → W p l e rm_X8_bits s m args below meth c s.heap [] 0 0 (MQ below (vp_Si Q) args s 0 0 (fun _ => False)) (F0 m 4 ls []) := by
  intro n
  induction n with
  | zero => intro y1 y2  ls hw I hl; exact False.elim hw
  | succ k ih =>
    intro y1 y2  ls hw I hl
    refine x_iload_n C hl 1 dX8_bits_4 rfl ?_
    refine x_if_eq C 20 dX8_bits_5 (by decide) (fun c1 => ?_) (fun c1 => ?_)
    · have hw := And.left hw c1
      refine x_iload_n C hl 0 dX8_bits_20 rfl ?_
      exact x_ret0 C hw dX8_bits_21
    · have hw := And.right hw c1
      refine x_iinc C hl 0 [(1, .int (y1 + (1 : Int32))), (2, .int y2)] (y1 + (1 : Int32)) dX8_bits_8 rfl (congrArg _ ic_1) (Nat.le_of_ble_eq_true rfl) rfl (fun ls hl => ?_)
      refine x_iload_n C hl 1 dX8_bits_11 rfl ?_
      refine x_iload_n C hl 1 dX8_bits_12 rfl ?_
      refine x_iconst C dX8_bits_13 ic_1 ?_
      refine x_isub C dX8_bits_14 ?_
      refine x_iand C dX8_bits_15 ?_
      refine lv_topi (fun v2 ev2 => ?_)
      have hw := hw v2 ev2
      refine x_istore_n C hl [(2, .int v2), (1, .int (y1 + (1 : Int32)))] dX8_bits_16 (Nat.le_of_ble_eq_true rfl) rfl (fun ls hl => ?_)
      refine x_goto C 4 dX8_bits_17 (by decide) ?_
      exact ih (y1 + (1 : Int32)) v2 ls hw I (lv_sub hl [1, 0] rfl)
def wp_X8_bits (x0 : Int32) (Q : Int32 → Prop) : Prop := (∃ n, lb_X8_bits_4 x0 Q n (0 : Int32) x0)
set_option maxHeartbeats 4000000 in
set_option maxRecDepth 100000 in
theorem wk_X8_bits (l : Launch) (G : Gt) (x0 : Int32) (Q : Int32 → Prop) (hw : wp_X8_bits x0 Q) : Met l yX8_bits (wc yX8_bits cX8_bits 3 (some .int)) rm_X8_bits (va_Pc [.int x0] (PR G (cs_X8_bits G ))) (vp_Si Q) 0 0 (fun _ => False) := by
  refine x_start pn_X8 (Nat.le_of_ble_eq_true rfl) (fun p e s m below meth c ls C hn hl hB => ?_)
  have I := rd_start hB
  have C : Cx p s m [.int x0].toArray meth c cX8_bits 3 RX8 (some .int) := C
  have hl : lv_has ls 3 [(0, .int x0)] := hl
  refine x_iconst C dX8_bits_0 ic_0 ?_
  refine x_istore_n C hl [(1, .int (0 : Int32)), (0, .int x0)] dX8_bits_1 (Nat.le_of_ble_eq_true rfl) rfl (fun ls hl => ?_)
  refine x_iload_n C hl 1 dX8_bits_2 rfl ?_
  refine x_istore_n C hl [(2, .int x0), (1, .int (0 : Int32)), (0, .int x0)] dX8_bits_3 (Nat.le_of_ble_eq_true rfl) rfl (fun ls hl => ?_)
  obtain ⟨n, hw⟩ := hw
  exact lk_X8_bits_4 G  C x0  Q n (0 : Int32) x0 ls hw I (lv_sub hl [1, 0] rfl)
/-! X8_isSoul -/
abbrev rm_X8_isSoul : Room := { frames := 1, cells := 0, slots := 0, locals := 22 }
abbrev cs_X8_isSoul (G : Gt) (a_M : Nat) (a_M_now : Nat) (a_M_kept : Nat) (a_M_aside : Nat) (a_M_errors : Nat) (a_M_meetsFound : Nat) (a_M_deedsFound : Nat) (a_M_ahead : Nat) (a_M_NAMED : Nat) (a_M_code : Nat) (a_M_named : Nat) (a_M_pile : Nat) (a_M_often : Nat) (a_M_trace : Nat) (a_M_widths : Nat) (a_M_sizes : Nat) (a_M_numbers : Nat) (a_M_carried : Nat) (M_images : Int32) (M_at : Int32) (M_open : Int32) (M_use : Int32) (M_isWrong : Int32) (M_coded : Int32) (M_traced : Int32) (M_kind : Int32) (M_number : Int32) (M_told : Int32) (M_now : Nat → Int32) : va_W := [(a_M, .inr (8, [.ref a_M_now, .ref a_M_kept, .ref a_M_aside, .int M_images, .ref a_M_errors, .ref a_M_meetsFound, .ref a_M_deedsFound, .ref a_M_ahead, .ref a_M_NAMED, .int M_at, .int M_open, .int M_use, .int M_isWrong, .ref a_M_code, .int M_coded, .ref a_M_named, .ref a_M_pile, .ref a_M_often, .ref a_M_trace, .int M_traced, .int M_kind, .int M_number, .int M_told, .ref a_M_widths, .ref a_M_sizes, .ref a_M_numbers, .ref a_M_carried])), (a_M_now, .inl (cI G, 228, .inl M_now))]
def wp_X8_isSoul (x1 : Int32) (M_now : Nat → Int32) (Q : Int32 → Prop) : Prop := (wp_X8_within x1 (0 : Int32) ((M_now 1) - (1 : Int32)) (fun r1 => ((r1 &&& 1 = r1) ∧ (Q r1))))
set_option maxHeartbeats 4000000 in
set_option maxRecDepth 100000 in
theorem wk_X8_isSoul (l : Launch) (G : Gt) (a_M : Nat) (a_M_now : Nat) (a_M_kept : Nat) (a_M_aside : Nat) (a_M_errors : Nat) (a_M_meetsFound : Nat) (a_M_deedsFound : Nat) (a_M_ahead : Nat) (a_M_NAMED : Nat) (a_M_code : Nat) (a_M_named : Nat) (a_M_pile : Nat) (a_M_often : Nat) (a_M_trace : Nat) (a_M_widths : Nat) (a_M_sizes : Nat) (a_M_numbers : Nat) (a_M_carried : Nat) (M_images : Int32) (M_at : Int32) (M_open : Int32) (M_use : Int32) (M_isWrong : Int32) (M_coded : Int32) (M_traced : Int32) (M_kind : Int32) (M_number : Int32) (M_told : Int32) (M_now : Nat → Int32) (x1 : Int32) (Q : Int32 → Prop) (hw : wp_X8_isSoul x1 M_now Q) : Met l yX8_isSoul (wc yX8_isSoul cX8_isSoul 2 (some .boolean)) rm_X8_isSoul (va_Pc [.ref a_M, .int x1] (PR G (cs_X8_isSoul G a_M a_M_now a_M_kept a_M_aside a_M_errors a_M_meetsFound a_M_deedsFound a_M_ahead a_M_NAMED a_M_code a_M_named a_M_pile a_M_often a_M_trace a_M_widths a_M_sizes a_M_numbers a_M_carried M_images M_at M_open M_use M_isWrong M_coded M_traced M_kind M_number M_told M_now))) (vp_Si Q) 0 0 (fun _ => False) := by
  refine x_start pn_X8 (Nat.le_of_ble_eq_true rfl) (fun p e s m below meth c ls C hn hl hB => ?_)
  have I := rd_start hB
  have C : Cx p s m [.ref a_M, .int x1].toArray meth c cX8_isSoul 2 RX8 (some .boolean) := C
  have hl : lv_has ls 2 [(0, .ref a_M), (1, .int x1)] := hl
  refine x_iload_n C hl 1 dX8_isSoul_0 rfl ?_
  refine x_iconst C dX8_isSoul_1 ic_0 ?_
  refine x_aload_n C hl 0 dX8_isSoul_2 rfl ?_
  refine x_get C I fl_X8_9 0 rfl rfl dX8_isSoul_3 ?_
  refine x_iconst C dX8_isSoul_6 ic_1 ?_
  refine x_ialdL C I 1 1 rfl vi_1_228 vl_1 dX8_isSoul_7 ?_
  refine x_iconst C dX8_isSoul_8 ic_1 ?_
  refine x_isub C dX8_isSoul_9 ?_
  refine x_ro (run_S (As := [.int x1, .int (0 : Int32), .int ((M_now 1) - (1 : Int32))]) (rest := []) C hl (wk_X8_within l G x1 (0 : Int32) ((M_now 1) - (1 : Int32)) _ hw) gm_X8_82 ⟨⟨rfl, rfl⟩, cn_X8_within, ⟨(Nat.le_of_ble_eq_true rfl), (Nat.le_of_ble_eq_true rfl)⟩⟩ (pr_blind _ _ _) (pr_of I [] rfl) rfl rfl (Nat.le_of_ble_eq_true rfl) ⟨Nat.le_of_ble_eq_true rfl, Nat.le_of_ble_eq_true rfl⟩ dX8_isSoul_10) (fun r1 hw => ?_)
  exact x_ret0z C (And.left hw) (And.right hw) dX8_isSoul_13
/-! X8_isStreet -/
abbrev rm_X8_isStreet : Room := { frames := 1, cells := 0, slots := 0, locals := 22 }
abbrev cs_X8_isStreet (G : Gt) : va_W := []
def wp_X8_isStreet (x0 : Int32) (Q : Int32 → Prop) : Prop := (wp_X8_within x0 (0 : Int32) (7 : Int32) (fun r1 => ((r1 &&& 1 = r1) ∧ (Q r1))))
set_option maxHeartbeats 4000000 in
set_option maxRecDepth 100000 in
theorem wk_X8_isStreet (l : Launch) (G : Gt) (x0 : Int32) (Q : Int32 → Prop) (hw : wp_X8_isStreet x0 Q) : Met l yX8_isStreet (wc yX8_isStreet cX8_isStreet 1 (some .boolean)) rm_X8_isStreet (va_Pc [.int x0] (PR G (cs_X8_isStreet G ))) (vp_Si Q) 0 0 (fun _ => False) := by
  refine x_start pn_X8 (Nat.le_of_ble_eq_true rfl) (fun p e s m below meth c ls C hn hl hB => ?_)
  have I := rd_start hB
  have C : Cx p s m [.int x0].toArray meth c cX8_isStreet 1 RX8 (some .boolean) := C
  have hl : lv_has ls 1 [(0, .int x0)] := hl
  refine x_iload_n C hl 0 dX8_isStreet_0 rfl ?_
  refine x_iconst C dX8_isStreet_1 ic_0 ?_
  refine x_bipush C dX8_isStreet_2 bp_7 ?_
  refine x_ro (run_S (As := [.int x0, .int (0 : Int32), .int (7 : Int32)]) (rest := []) C hl (wk_X8_within l G x0 (0 : Int32) (7 : Int32) _ hw) gm_X8_82 ⟨⟨rfl, rfl⟩, cn_X8_within, ⟨(Nat.le_of_ble_eq_true rfl), (Nat.le_of_ble_eq_true rfl)⟩⟩ (pr_blind _ _ _) (pr_of I [] rfl) rfl rfl (Nat.le_of_ble_eq_true rfl) ⟨Nat.le_of_ble_eq_true rfl, Nat.le_of_ble_eq_true rfl⟩ dX8_isStreet_4) (fun r1 hw => ?_)
  exact x_ret0z C (And.left hw) (And.right hw) dX8_isStreet_7
/-! X8_soulAt -/
abbrev rm_X8_soulAt : Room := { frames := 0, cells := 0, slots := 0, locals := 0 }
abbrev cs_X8_soulAt (G : Gt) : va_W := []
def wp_X8_soulAt (x0 : Int32) (x1 : Int32) (Q : Int32 → Prop) : Prop := (Q (((6 : Int32) + ((6 : Int32) * x0)) + x1))
set_option maxHeartbeats 4000000 in
set_option maxRecDepth 100000 in
theorem wk_X8_soulAt (l : Launch) (G : Gt) (x0 : Int32) (x1 : Int32) (Q : Int32 → Prop) (hw : wp_X8_soulAt x0 x1 Q) : Met l yX8_soulAt (wc yX8_soulAt cX8_soulAt 2 (some .int)) rm_X8_soulAt (va_Pc [.int x0, .int x1] (PR G (cs_X8_soulAt G ))) (vp_Si Q) 0 0 (fun _ => False) := by
  refine x_start pn_X8 (Nat.le_of_ble_eq_true rfl) (fun p e s m below meth c ls C hn hl hB => ?_)
  have I := rd_start hB
  have C : Cx p s m [.int x0, .int x1].toArray meth c cX8_soulAt 2 RX8 (some .int) := C
  have hl : lv_has ls 2 [(0, .int x0), (1, .int x1)] := hl
  refine x_bipush C dX8_soulAt_0 bp_6 ?_
  refine x_bipush C dX8_soulAt_2 bp_6 ?_
  refine x_iload_n C hl 0 dX8_soulAt_4 rfl ?_
  refine x_imul C dX8_soulAt_5 ?_
  refine x_iadd C dX8_soulAt_6 ?_
  refine x_iload_n C hl 1 dX8_soulAt_7 rfl ?_
  refine x_iadd C dX8_soulAt_8 ?_
  exact x_ret0 C hw dX8_soulAt_9
/-! X8_soulIs -/
abbrev rm_X8_soulIs : Room := { frames := 1, cells := 0, slots := 0, locals := 21 }
abbrev cs_X8_soulIs (G : Gt) (a_M : Nat) (a_M_now : Nat) (a_M_kept : Nat) (a_M_aside : Nat) (a_M_errors : Nat) (a_M_meetsFound : Nat) (a_M_deedsFound : Nat) (a_M_ahead : Nat) (a_M_NAMED : Nat) (a_M_code : Nat) (a_M_named : Nat) (a_M_pile : Nat) (a_M_often : Nat) (a_M_trace : Nat) (a_M_widths : Nat) (a_M_sizes : Nat) (a_M_numbers : Nat) (a_M_carried : Nat) (M_images : Int32) (M_at : Int32) (M_open : Int32) (M_use : Int32) (M_isWrong : Int32) (M_coded : Int32) (M_traced : Int32) (M_kind : Int32) (M_number : Int32) (M_told : Int32) (M_now : Nat → Int32) : va_W := [(a_M, .inr (8, [.ref a_M_now, .ref a_M_kept, .ref a_M_aside, .int M_images, .ref a_M_errors, .ref a_M_meetsFound, .ref a_M_deedsFound, .ref a_M_ahead, .ref a_M_NAMED, .int M_at, .int M_open, .int M_use, .int M_isWrong, .ref a_M_code, .int M_coded, .ref a_M_named, .ref a_M_pile, .ref a_M_often, .ref a_M_trace, .int M_traced, .int M_kind, .int M_number, .int M_told, .ref a_M_widths, .ref a_M_sizes, .ref a_M_numbers, .ref a_M_carried])), (a_M_now, .inl (cI G, 228, .inl M_now))]
def wp_X8_soulIs (x1 : Int32) (x2 : Int32) (M_now : Nat → Int32) (Q : Int32 → Prop) : Prop := (wp_X8_soulAt x1 x2 (fun r1 => (vp_in r1 228 ∧ (Q (M_now (r1).toNatClampNeg)))))
set_option maxHeartbeats 4000000 in
set_option maxRecDepth 100000 in
theorem wk_X8_soulIs (l : Launch) (G : Gt) (a_M : Nat) (a_M_now : Nat) (a_M_kept : Nat) (a_M_aside : Nat) (a_M_errors : Nat) (a_M_meetsFound : Nat) (a_M_deedsFound : Nat) (a_M_ahead : Nat) (a_M_NAMED : Nat) (a_M_code : Nat) (a_M_named : Nat) (a_M_pile : Nat) (a_M_often : Nat) (a_M_trace : Nat) (a_M_widths : Nat) (a_M_sizes : Nat) (a_M_numbers : Nat) (a_M_carried : Nat) (M_images : Int32) (M_at : Int32) (M_open : Int32) (M_use : Int32) (M_isWrong : Int32) (M_coded : Int32) (M_traced : Int32) (M_kind : Int32) (M_number : Int32) (M_told : Int32) (M_now : Nat → Int32) (x1 : Int32) (x2 : Int32) (Q : Int32 → Prop) (hw : wp_X8_soulIs x1 x2 M_now Q) : Met l yX8_soulIs (wc yX8_soulIs cX8_soulIs 3 (some .int)) rm_X8_soulIs (va_Pc [.ref a_M, .int x1, .int x2] (PR G (cs_X8_soulIs G a_M a_M_now a_M_kept a_M_aside a_M_errors a_M_meetsFound a_M_deedsFound a_M_ahead a_M_NAMED a_M_code a_M_named a_M_pile a_M_often a_M_trace a_M_widths a_M_sizes a_M_numbers a_M_carried M_images M_at M_open M_use M_isWrong M_coded M_traced M_kind M_number M_told M_now))) (vp_Si Q) 0 0 (fun _ => False) := by
  refine x_start pn_X8 (Nat.le_of_ble_eq_true rfl) (fun p e s m below meth c ls C hn hl hB => ?_)
  have I := rd_start hB
  have C : Cx p s m [.ref a_M, .int x1, .int x2].toArray meth c cX8_soulIs 3 RX8 (some .int) := C
  have hl : lv_has ls 3 [(0, .ref a_M), (1, .int x1), (2, .int x2)] := hl
  refine x_aload_n C hl 0 dX8_soulIs_0 rfl ?_
  refine x_get C I fl_X8_9 0 rfl rfl dX8_soulIs_1 ?_
  refine x_iload_n C hl 1 dX8_soulIs_4 rfl ?_
  refine x_iload_n C hl 2 dX8_soulIs_5 rfl ?_
  refine x_ro (run_S (As := [.int x1, .int x2]) (rest := [.ref a_M_now]) C hl (wk_X8_soulAt l G x1 x2 _ hw) gm_X8_171 ⟨⟨rfl, rfl⟩, cn_X8_soulAt, ⟨(Nat.le_of_ble_eq_true rfl), (Nat.le_of_ble_eq_true rfl)⟩⟩ (pr_blind _ _ _) (pr_of I [] rfl) rfl rfl (Nat.le_of_ble_eq_true rfl) ⟨Nat.le_of_ble_eq_true rfl, Nat.le_of_ble_eq_true rfl⟩ dX8_soulIs_6) (fun r1 hw => ?_)
  refine x_iald C I 1 rfl (And.left hw) dX8_soulIs_9 ?_
  have hw := And.right hw
  exact x_ret0 C hw dX8_soulIs_10
/-! X8_isKindM -/
abbrev rm_X8_isKindM : Room := { frames := 1, cells := 0, slots := 0, locals := 22 }
abbrev cs_X8_isKindM (G : Gt) : va_W := []
def wp_X8_isKindM (x0 : Int32) (Q : Int32 → Prop) : Prop := (wp_X8_within x0 (0 : Int32) (69 : Int32) (fun r1 => ((r1 &&& 1 = r1) ∧ (Q r1))))
set_option maxHeartbeats 4000000 in
set_option maxRecDepth 100000 in
theorem wk_X8_isKindM (l : Launch) (G : Gt) (x0 : Int32) (Q : Int32 → Prop) (hw : wp_X8_isKindM x0 Q) : Met l yX8_isKindM (wc yX8_isKindM cX8_isKindM 1 (some .boolean)) rm_X8_isKindM (va_Pc [.int x0] (PR G (cs_X8_isKindM G ))) (vp_Si Q) 0 0 (fun _ => False) := by
  refine x_start pn_X8 (Nat.le_of_ble_eq_true rfl) (fun p e s m below meth c ls C hn hl hB => ?_)
  have I := rd_start hB
  have C : Cx p s m [.int x0].toArray meth c cX8_isKindM 1 RX8 (some .boolean) := C
  have hl : lv_has ls 1 [(0, .int x0)] := hl
  refine x_iload_n C hl 0 dX8_isKindM_0 rfl ?_
  refine x_iconst C dX8_isKindM_1 ic_0 ?_
  refine x_bipush C dX8_isKindM_2 bp_69 ?_
  refine x_ro (run_S (As := [.int x0, .int (0 : Int32), .int (69 : Int32)]) (rest := []) C hl (wk_X8_within l G x0 (0 : Int32) (69 : Int32) _ hw) gm_X8_82 ⟨⟨rfl, rfl⟩, cn_X8_within, ⟨(Nat.le_of_ble_eq_true rfl), (Nat.le_of_ble_eq_true rfl)⟩⟩ (pr_blind _ _ _) (pr_of I [] rfl) rfl rfl (Nat.le_of_ble_eq_true rfl) ⟨Nat.le_of_ble_eq_true rfl, Nat.le_of_ble_eq_true rfl⟩ dX8_isKindM_4) (fun r1 hw => ?_)
  exact x_ret0z C (And.left hw) (And.right hw) dX8_isKindM_7
/-! X8_soulComes -/
abbrev rm_X8_soulComes : Room := { frames := 1, cells := 0, slots := 0, locals := 21 }
abbrev cs_X8_soulComes (G : Gt) (a_M : Nat) (a_M_now : Nat) (a_M_kept : Nat) (a_M_aside : Nat) (a_M_errors : Nat) (a_M_meetsFound : Nat) (a_M_deedsFound : Nat) (a_M_ahead : Nat) (a_M_NAMED : Nat) (a_M_code : Nat) (a_M_named : Nat) (a_M_pile : Nat) (a_M_often : Nat) (a_M_trace : Nat) (a_M_widths : Nat) (a_M_sizes : Nat) (a_M_numbers : Nat) (a_M_carried : Nat) (M_images : Int32) (M_at : Int32) (M_open : Int32) (M_use : Int32) (M_isWrong : Int32) (M_coded : Int32) (M_traced : Int32) (M_kind : Int32) (M_number : Int32) (M_told : Int32) (M_now : Nat → Int32) : va_W := [(a_M, .inr (8, [.ref a_M_now, .ref a_M_kept, .ref a_M_aside, .int M_images, .ref a_M_errors, .ref a_M_meetsFound, .ref a_M_deedsFound, .ref a_M_ahead, .ref a_M_NAMED, .int M_at, .int M_open, .int M_use, .int M_isWrong, .ref a_M_code, .int M_coded, .ref a_M_named, .ref a_M_pile, .ref a_M_often, .ref a_M_trace, .int M_traced, .int M_kind, .int M_number, .int M_told, .ref a_M_widths, .ref a_M_sizes, .ref a_M_numbers, .ref a_M_carried])), (a_M_now, .inl (cI G, 228, .inl M_now))]
abbrev qc_X8_soulComes (G : Gt) (a_M : Nat) (a_M_now : Nat) (a_M_kept : Nat) (a_M_aside : Nat) (a_M_errors : Nat) (a_M_meetsFound : Nat) (a_M_deedsFound : Nat) (a_M_ahead : Nat) (a_M_NAMED : Nat) (a_M_code : Nat) (a_M_named : Nat) (a_M_pile : Nat) (a_M_often : Nat) (a_M_trace : Nat) (a_M_widths : Nat) (a_M_sizes : Nat) (a_M_numbers : Nat) (a_M_carried : Nat) (M_images : Int32) (M_at : Int32) (M_open : Int32) (M_use : Int32) (M_isWrong : Int32) (M_coded : Int32) (M_traced : Int32) (M_kind : Int32) (M_number : Int32) (M_told : Int32) (A : Nat → Prop) (Q : Int32 → (Nat → Int32) → Prop) : Array Value → State → Outcome → State → Prop := Qi1 G A (fun r (u : (Nat → Int32)) => Q r u) (fun u => cs_X8_soulComes G a_M a_M_now a_M_kept a_M_aside a_M_errors a_M_meetsFound a_M_deedsFound a_M_ahead a_M_NAMED a_M_code a_M_named a_M_pile a_M_often a_M_trace a_M_widths a_M_sizes a_M_numbers a_M_carried M_images M_at M_open M_use M_isWrong M_coded M_traced M_kind M_number M_told u)
def lb_X8_soulComes_10 (x1 : Int32) (x2 : Int32) (Q : Int32 → (Nat → Int32) → Prop) : Nat → Int32 → Int32 → (Nat → Int32) → Prop
  | 0 => fun _ _ _ => False
  | k + 1 => fun (y3 : Int32) (y4 : Int32) (w_M_now : Nat → Int32) => (((6 : Int32) ≤ y4 → (wp_X8_soulAt y3 (0 : Int32) (fun r3 => (∀ v4 : Int32, v4 = (x1 / (10 : Int32)) → (vp_in r3 228 ∧ (wp_X8_soulAt y3 (1 : Int32) (fun r5 => (∀ v6 : Int32, v6 = (jrem x1 (10 : Int32)) → (vp_in r5 228 ∧ (wp_X8_soulAt y3 (2 : Int32) (fun r7 => (vp_in r7 228 ∧ (∀ v8 : Int32, v8 = (((upd (upd (upd w_M_now (r3).toNatClampNeg v4) (r5).toNatClampNeg v6) (r7).toNatClampNeg x2) 1) + (1 : Int32)) → (Q y3 (upd (upd (upd (upd w_M_now (r3).toNatClampNeg v4) (r5).toNatClampNeg v6) (r7).toNatClampNeg x2) 1 v8))))))))))))))) ∧ (¬ (6 : Int32) ≤ y4 → (wp_X8_soulAt y3 y4 (fun r9 => (vp_in r9 228 ∧ (lb_X8_soulComes_10 x1 x2 Q k y3 (y4 + (1 : Int32)) (upd w_M_now (r9).toNatClampNeg (0 : Int32))))))))
set_option maxHeartbeats 4000000 in
set_option maxRecDepth 100000 in
theorem lk_X8_soulComes_10 {p : Program} {l : Launch} {e : Env} {s : State} {m : MethodId} {args : Array Value} {below : List Frame} {meth : Method} {c : Code} {A : Nat → Prop} (G : Gt) (a_M : Nat) (a_M_now : Nat) (a_M_kept : Nat) (a_M_aside : Nat) (a_M_errors : Nat) (a_M_meetsFound : Nat) (a_M_deedsFound : Nat) (a_M_ahead : Nat) (a_M_NAMED : Nat) (a_M_code : Nat) (a_M_named : Nat) (a_M_pile : Nat) (a_M_often : Nat) (a_M_trace : Nat) (a_M_widths : Nat) (a_M_sizes : Nat) (a_M_numbers : Nat) (a_M_carried : Nat) (C : Cx p s m args meth c cX8_soulComes 5 RX8 (some .int)) (x1 : Int32) (x2 : Int32) (M_images : Int32) (M_at : Int32) (M_open : Int32) (M_use : Int32) (M_isWrong : Int32) (M_coded : Int32) (M_traced : Int32) (M_kind : Int32) (M_number : Int32) (M_told : Int32) (Q : Int32 → (Nat → Int32) → Prop) : ∀ (n : Nat) (y3 : Int32) (y4 : Int32) (w_M_now : Nat → Int32) (Hx : Heap) (lx : List Loc) (ls : Array Slot), lb_X8_soulComes_10 x1 x2 Q n y3 y4 w_M_now → Iv G A s (cs_X8_soulComes G a_M a_M_now a_M_kept a_M_aside a_M_errors a_M_meetsFound a_M_deedsFound a_M_ahead a_M_NAMED a_M_code a_M_named a_M_pile a_M_often a_M_trace a_M_widths a_M_sizes a_M_numbers a_M_carried M_images M_at M_open M_use M_isWrong M_coded M_traced M_kind M_number M_told w_M_now) Hx lx → lv_has ls 5 [(0, .ref a_M), (1, .int x1), (2, .int x2), (3, .int y3), (4, .int y4)] → W p l e rm_X8_soulComes s m args below meth c Hx lx 0 0 (MQ below (qc_X8_soulComes G a_M a_M_now a_M_kept a_M_aside a_M_errors a_M_meetsFound a_M_deedsFound a_M_ahead a_M_NAMED a_M_code a_M_named a_M_pile a_M_often a_M_trace a_M_widths a_M_sizes a_M_numbers a_M_carried M_images M_at M_open M_use M_isWrong M_coded M_traced M_kind M_number M_told A Q) args s 0 0 A) (F0 m 10 ls []) := by
  intro n
  induction n with
  | zero => intro y3 y4 w_M_now Hx lx  ls hw I hl; exact False.elim hw
  | succ k ih =>
    intro y3 y4 w_M_now Hx lx  ls hw I hl
    refine x_iload C hl 4 dX8_soulComes_10 rfl ?_
    refine x_bipush C dX8_soulComes_12 bp_6 ?_
    refine x_icmp_ge C 35 dX8_soulComes_14 (by decide) (fun c2 => ?_) (fun c2 => ?_)
    · have hw := And.left hw c2
      refine x_aload_n C hl 0 dX8_soulComes_35 rfl ?_
      refine x_get C I.1 fl_X8_9 0 rfl rfl dX8_soulComes_36 ?_
      refine x_iload_n C hl 3 dX8_soulComes_39 rfl ?_
      refine x_iconst C dX8_soulComes_40 ic_0 ?_
      refine x_ro (run_S (As := [.int y3, .int (0 : Int32)]) (rest := [.ref a_M_now]) C hl (wk_X8_soulAt l G y3 (0 : Int32) _ hw) gm_X8_171 ⟨⟨rfl, rfl⟩, cn_X8_soulAt, ⟨(Nat.le_of_ble_eq_true rfl), (Nat.le_of_ble_eq_true rfl)⟩⟩ (pr_blind _ _ _) (pr_of I.1 [] rfl) rfl rfl (Nat.le_of_ble_eq_true rfl) ⟨Nat.le_of_ble_eq_true rfl, Nat.le_of_ble_eq_true rfl⟩ dX8_soulComes_41) (fun r3 hw => ?_)
      refine x_iload_n C hl 1 dX8_soulComes_44 rfl ?_
      refine x_bipush C dX8_soulComes_45 bp_10 ?_
      refine x_idiv C nz_10 dX8_soulComes_47 ?_
      refine lv_topi (fun v4 ev4 => ?_)
      have hw := hw v4 ev4
      refine x_iast C I 1 (cs_X8_soulComes G a_M a_M_now a_M_kept a_M_aside a_M_errors a_M_meetsFound a_M_deedsFound a_M_ahead a_M_NAMED a_M_code a_M_named a_M_pile a_M_often a_M_trace a_M_widths a_M_sizes a_M_numbers a_M_carried M_images M_at M_open M_use M_isWrong M_coded M_traced M_kind M_number M_told (upd w_M_now (r3).toNatClampNeg v4)) rfl (And.left hw) rfl dX8_soulComes_48 (fun Hx lx I => ?_)
      have hw := And.right hw
      refine x_aload_n C hl 0 dX8_soulComes_49 rfl ?_
      refine x_get C I.1 fl_X8_9 0 rfl rfl dX8_soulComes_50 ?_
      refine x_iload_n C hl 3 dX8_soulComes_53 rfl ?_
      refine x_iconst C dX8_soulComes_54 ic_1 ?_
      refine x_ro (run_S (As := [.int y3, .int (1 : Int32)]) (rest := [.ref a_M_now]) C hl (wk_X8_soulAt l G y3 (1 : Int32) _ hw) gm_X8_171 ⟨⟨rfl, rfl⟩, cn_X8_soulAt, ⟨(Nat.le_of_ble_eq_true rfl), (Nat.le_of_ble_eq_true rfl)⟩⟩ (pr_blind _ _ _) (pr_of I.1 [] rfl) rfl rfl (Nat.le_of_ble_eq_true rfl) ⟨Nat.le_of_ble_eq_true rfl, Nat.le_of_ble_eq_true rfl⟩ dX8_soulComes_55) (fun r5 hw => ?_)
      refine x_iload_n C hl 1 dX8_soulComes_58 rfl ?_
      refine x_bipush C dX8_soulComes_59 bp_10 ?_
      refine x_irem C nz_10 dX8_soulComes_61 ?_
      refine lv_topi (fun v6 ev6 => ?_)
      have hw := hw v6 ev6
      refine x_iast C I 1 (cs_X8_soulComes G a_M a_M_now a_M_kept a_M_aside a_M_errors a_M_meetsFound a_M_deedsFound a_M_ahead a_M_NAMED a_M_code a_M_named a_M_pile a_M_often a_M_trace a_M_widths a_M_sizes a_M_numbers a_M_carried M_images M_at M_open M_use M_isWrong M_coded M_traced M_kind M_number M_told (upd (upd w_M_now (r3).toNatClampNeg v4) (r5).toNatClampNeg v6)) rfl (And.left hw) rfl dX8_soulComes_62 (fun Hx lx I => ?_)
      have hw := And.right hw
      refine x_aload_n C hl 0 dX8_soulComes_63 rfl ?_
      refine x_get C I.1 fl_X8_9 0 rfl rfl dX8_soulComes_64 ?_
      refine x_iload_n C hl 3 dX8_soulComes_67 rfl ?_
      refine x_iconst C dX8_soulComes_68 ic_2 ?_
      refine x_ro (run_S (As := [.int y3, .int (2 : Int32)]) (rest := [.ref a_M_now]) C hl (wk_X8_soulAt l G y3 (2 : Int32) _ hw) gm_X8_171 ⟨⟨rfl, rfl⟩, cn_X8_soulAt, ⟨(Nat.le_of_ble_eq_true rfl), (Nat.le_of_ble_eq_true rfl)⟩⟩ (pr_blind _ _ _) (pr_of I.1 [] rfl) rfl rfl (Nat.le_of_ble_eq_true rfl) ⟨Nat.le_of_ble_eq_true rfl, Nat.le_of_ble_eq_true rfl⟩ dX8_soulComes_69) (fun r7 hw => ?_)
      refine x_iload_n C hl 2 dX8_soulComes_72 rfl ?_
      refine x_iast C I 1 (cs_X8_soulComes G a_M a_M_now a_M_kept a_M_aside a_M_errors a_M_meetsFound a_M_deedsFound a_M_ahead a_M_NAMED a_M_code a_M_named a_M_pile a_M_often a_M_trace a_M_widths a_M_sizes a_M_numbers a_M_carried M_images M_at M_open M_use M_isWrong M_coded M_traced M_kind M_number M_told (upd (upd (upd w_M_now (r3).toNatClampNeg v4) (r5).toNatClampNeg v6) (r7).toNatClampNeg x2)) rfl (And.left hw) rfl dX8_soulComes_73 (fun Hx lx I => ?_)
      have hw := And.right hw
      refine x_aload_n C hl 0 dX8_soulComes_74 rfl ?_
      refine x_get C I.1 fl_X8_9 0 rfl rfl dX8_soulComes_75 ?_
      refine x_iconst C dX8_soulComes_78 ic_1 ?_
      refine x_dup2 C dX8_soulComes_79 rfl rfl ?_
      refine x_ialdL C I.1 1 1 rfl vi_1_228 vl_1 dX8_soulComes_80 ?_
      refine x_iconst C dX8_soulComes_81 ic_1 ?_
      refine x_iadd C dX8_soulComes_82 ?_
      refine lv_topi (fun v8 ev8 => ?_)
      have hw := hw v8 ev8
      refine x_iastL C I 1 1 (cs_X8_soulComes G a_M a_M_now a_M_kept a_M_aside a_M_errors a_M_meetsFound a_M_deedsFound a_M_ahead a_M_NAMED a_M_code a_M_named a_M_pile a_M_often a_M_trace a_M_widths a_M_sizes a_M_numbers a_M_carried M_images M_at M_open M_use M_isWrong M_coded M_traced M_kind M_number M_told (upd (upd (upd (upd w_M_now (r3).toNatClampNeg v4) (r5).toNatClampNeg v6) (r7).toNatClampNeg x2) 1 v8)) rfl vi_1_228 vl_1 rfl dX8_soulComes_83 (fun Hx lx I => ?_)
      refine x_iload_n C hl 3 dX8_soulComes_84 rfl ?_
      exact x_ret1 C I (upd (upd (upd (upd w_M_now (r3).toNatClampNeg v4) (r5).toNatClampNeg v6) (r7).toNatClampNeg x2) 1 v8) rfl hw dX8_soulComes_85
    · have hw := And.right hw c2
      refine x_aload_n C hl 0 dX8_soulComes_17 rfl ?_
      refine x_get C I.1 fl_X8_9 0 rfl rfl dX8_soulComes_18 ?_
      refine x_iload_n C hl 3 dX8_soulComes_21 rfl ?_
      refine x_iload C hl 4 dX8_soulComes_22 rfl ?_
      refine x_ro (run_S (As := [.int y3, .int y4]) (rest := [.ref a_M_now]) C hl (wk_X8_soulAt l G y3 y4 _ hw) gm_X8_171 ⟨⟨rfl, rfl⟩, cn_X8_soulAt, ⟨(Nat.le_of_ble_eq_true rfl), (Nat.le_of_ble_eq_true rfl)⟩⟩ (pr_blind _ _ _) (pr_of I.1 [] rfl) rfl rfl (Nat.le_of_ble_eq_true rfl) ⟨Nat.le_of_ble_eq_true rfl, Nat.le_of_ble_eq_true rfl⟩ dX8_soulComes_24) (fun r9 hw => ?_)
      refine x_iconst C dX8_soulComes_27 ic_0 ?_
      refine x_iast C I 1 (cs_X8_soulComes G a_M a_M_now a_M_kept a_M_aside a_M_errors a_M_meetsFound a_M_deedsFound a_M_ahead a_M_NAMED a_M_code a_M_named a_M_pile a_M_often a_M_trace a_M_widths a_M_sizes a_M_numbers a_M_carried M_images M_at M_open M_use M_isWrong M_coded M_traced M_kind M_number M_told (upd w_M_now (r9).toNatClampNeg (0 : Int32))) rfl (And.left hw) rfl dX8_soulComes_28 (fun Hx lx I => ?_)
      have hw := And.right hw
      refine x_iinc C hl 4 [(4, .int (y4 + (1 : Int32))), (0, .ref a_M), (1, .int x1), (2, .int x2), (3, .int y3)] (y4 + (1 : Int32)) dX8_soulComes_29 rfl (congrArg _ ic_1) (Nat.le_of_ble_eq_true rfl) rfl (fun ls hl => ?_)
      refine x_goto C 10 dX8_soulComes_32 (by decide) ?_
      exact ih y3 (y4 + (1 : Int32)) (upd w_M_now (r9).toNatClampNeg (0 : Int32)) Hx lx ls hw I (lv_sub hl [1, 2, 3, 4, 0] rfl)
def wp_X8_soulComes (x1 : Int32) (x2 : Int32) (M_now : Nat → Int32) (Q : Int32 → (Nat → Int32) → Prop) : Prop := (∀ v1 : Int32, v1 = (M_now 1) → (∃ n, lb_X8_soulComes_10 x1 x2 Q n v1 (0 : Int32) M_now))
set_option maxHeartbeats 4000000 in
set_option maxRecDepth 100000 in
theorem wk_X8_soulComes (l : Launch) (G : Gt) (a_M : Nat) (a_M_now : Nat) (a_M_kept : Nat) (a_M_aside : Nat) (a_M_errors : Nat) (a_M_meetsFound : Nat) (a_M_deedsFound : Nat) (a_M_ahead : Nat) (a_M_NAMED : Nat) (a_M_code : Nat) (a_M_named : Nat) (a_M_pile : Nat) (a_M_often : Nat) (a_M_trace : Nat) (a_M_widths : Nat) (a_M_sizes : Nat) (a_M_numbers : Nat) (a_M_carried : Nat) (sz : Nat) (M_images : Int32) (M_at : Int32) (M_open : Int32) (M_use : Int32) (M_isWrong : Int32) (M_coded : Int32) (M_traced : Int32) (M_kind : Int32) (M_number : Int32) (M_told : Int32) (M_now : Nat → Int32) (x1 : Int32) (x2 : Int32) (Q : Int32 → (Nat → Int32) → Prop) (hw : wp_X8_soulComes x1 x2 M_now Q) : Met l yX8_soulComes (wc yX8_soulComes cX8_soulComes 5 (some .int)) rm_X8_soulComes (va_Pc [.ref a_M, .int x1, .int x2] (PB G (cs_X8_soulComes G a_M a_M_now a_M_kept a_M_aside a_M_errors a_M_meetsFound a_M_deedsFound a_M_ahead a_M_NAMED a_M_code a_M_named a_M_pile a_M_often a_M_trace a_M_widths a_M_sizes a_M_numbers a_M_carried M_images M_at M_open M_use M_isWrong M_coded M_traced M_kind M_number M_told M_now) sz)) (qc_X8_soulComes G a_M a_M_now a_M_kept a_M_aside a_M_errors a_M_meetsFound a_M_deedsFound a_M_ahead a_M_NAMED a_M_code a_M_named a_M_pile a_M_often a_M_trace a_M_widths a_M_sizes a_M_numbers a_M_carried M_images M_at M_open M_use M_isWrong M_coded M_traced M_kind M_number M_told (va_A (cs_X8_soulComes G a_M a_M_now a_M_kept a_M_aside a_M_errors a_M_meetsFound a_M_deedsFound a_M_ahead a_M_NAMED a_M_code a_M_named a_M_pile a_M_often a_M_trace a_M_widths a_M_sizes a_M_numbers a_M_carried M_images M_at M_open M_use M_isWrong M_coded M_traced M_kind M_number M_told M_now) sz) Q) 0 0 (va_A (cs_X8_soulComes G a_M a_M_now a_M_kept a_M_aside a_M_errors a_M_meetsFound a_M_deedsFound a_M_ahead a_M_NAMED a_M_code a_M_named a_M_pile a_M_often a_M_trace a_M_widths a_M_sizes a_M_numbers a_M_carried M_images M_at M_open M_use M_isWrong M_coded M_traced M_kind M_number M_told M_now) sz) := by
  refine x_start pn_X8 (Nat.le_of_ble_eq_true rfl) (fun p e s m below meth c ls C hn hl hB => ?_)
  have I := iv_start hB
  generalize va_A (cs_X8_soulComes G a_M a_M_now a_M_kept a_M_aside a_M_errors a_M_meetsFound a_M_deedsFound a_M_ahead a_M_NAMED a_M_code a_M_named a_M_pile a_M_often a_M_trace a_M_widths a_M_sizes a_M_numbers a_M_carried M_images M_at M_open M_use M_isWrong M_coded M_traced M_kind M_number M_told M_now) sz = A at I ⊢
  have C : Cx p s m [.ref a_M, .int x1, .int x2].toArray meth c cX8_soulComes 5 RX8 (some .int) := C
  have hl : lv_has ls 5 [(0, .ref a_M), (1, .int x1), (2, .int x2)] := hl
  refine x_aload_n C hl 0 dX8_soulComes_0 rfl ?_
  refine x_get C I.1 fl_X8_9 0 rfl rfl dX8_soulComes_1 ?_
  refine x_iconst C dX8_soulComes_4 ic_1 ?_
  refine x_ialdL C I.1 1 1 rfl vi_1_228 vl_1 dX8_soulComes_5 ?_
  refine lv_topi (fun v1 ev1 => ?_)
  have hw := hw v1 ev1
  refine x_istore_n C hl [(3, .int v1), (0, .ref a_M), (1, .int x1), (2, .int x2)] dX8_soulComes_6 (Nat.le_of_ble_eq_true rfl) rfl (fun ls hl => ?_)
  refine x_iconst C dX8_soulComes_7 ic_0 ?_
  refine x_istore C hl [(4, .int (0 : Int32)), (3, .int v1), (0, .ref a_M), (1, .int x1), (2, .int x2)] dX8_soulComes_8 (Nat.le_of_ble_eq_true rfl) rfl (fun ls hl => ?_)
  obtain ⟨n, hw⟩ := hw
  exact lk_X8_soulComes_10 G a_M a_M_now a_M_kept a_M_aside a_M_errors a_M_meetsFound a_M_deedsFound a_M_ahead a_M_NAMED a_M_code a_M_named a_M_pile a_M_often a_M_trace a_M_widths a_M_sizes a_M_numbers a_M_carried C x1 x2 M_images M_at M_open M_use M_isWrong M_coded M_traced M_kind M_number M_told Q n v1 (0 : Int32) M_now s.heap [] ls hw I (lv_sub hl [2, 3, 4, 1, 0] rfl)
/-! X8_soul -/
abbrev rm_X8_soul : Room := { frames := 2, cells := 0, slots := 0, locals := 45 }
abbrev cs_X8_soul (G : Gt) (a_M : Nat) (a_M_now : Nat) (a_M_kept : Nat) (a_M_aside : Nat) (a_M_errors : Nat) (a_M_meetsFound : Nat) (a_M_deedsFound : Nat) (a_M_ahead : Nat) (a_M_NAMED : Nat) (a_M_code : Nat) (a_M_named : Nat) (a_M_pile : Nat) (a_M_often : Nat) (a_M_trace : Nat) (a_M_widths : Nat) (a_M_sizes : Nat) (a_M_numbers : Nat) (a_M_carried : Nat) (M_images : Int32) (M_at : Int32) (M_open : Int32) (M_use : Int32) (M_isWrong : Int32) (M_coded : Int32) (M_traced : Int32) (M_kind : Int32) (M_number : Int32) (M_told : Int32) (M_errors : Nat → Int32) (M_now : Nat → Int32) : va_W := [(a_M, .inr (8, [.ref a_M_now, .ref a_M_kept, .ref a_M_aside, .int M_images, .ref a_M_errors, .ref a_M_meetsFound, .ref a_M_deedsFound, .ref a_M_ahead, .ref a_M_NAMED, .int M_at, .int M_open, .int M_use, .int M_isWrong, .ref a_M_code, .int M_coded, .ref a_M_named, .ref a_M_pile, .ref a_M_often, .ref a_M_trace, .int M_traced, .int M_kind, .int M_number, .int M_told, .ref a_M_widths, .ref a_M_sizes, .ref a_M_numbers, .ref a_M_carried])), (a_M_errors, .inl (cI G, 6, .inl M_errors)), (a_M_now, .inl (cI G, 228, .inl M_now))]
abbrev qc_X8_soul (G : Gt) (a_M : Nat) (a_M_now : Nat) (a_M_kept : Nat) (a_M_aside : Nat) (a_M_errors : Nat) (a_M_meetsFound : Nat) (a_M_deedsFound : Nat) (a_M_ahead : Nat) (a_M_NAMED : Nat) (a_M_code : Nat) (a_M_named : Nat) (a_M_pile : Nat) (a_M_often : Nat) (a_M_trace : Nat) (a_M_widths : Nat) (a_M_sizes : Nat) (a_M_numbers : Nat) (a_M_carried : Nat) (M_images : Int32) (M_at : Int32) (M_open : Int32) (M_use : Int32) (M_isWrong : Int32) (M_coded : Int32) (M_traced : Int32) (M_kind : Int32) (M_number : Int32) (M_told : Int32) (A : Nat → Prop) (Q : Int32 → (Nat → Int32) → (Nat → Int32) → Prop) : Array Value → State → Outcome → State → Prop := Qi1 G A (fun r (u : (Nat → Int32) × (Nat → Int32)) => Q r u.1 u.2) (fun u => cs_X8_soul G a_M a_M_now a_M_kept a_M_aside a_M_errors a_M_meetsFound a_M_deedsFound a_M_ahead a_M_NAMED a_M_code a_M_named a_M_pile a_M_often a_M_trace a_M_widths a_M_sizes a_M_numbers a_M_carried M_images M_at M_open M_use M_isWrong M_coded M_traced M_kind M_number M_told u.1 u.2)
def lb_X8_soul_14 (x1 : Int32) (x2 : Int32) (Q : Int32 → (Nat → Int32) → (Nat → Int32) → Prop) (w_M_errors : Nat → Int32) (w_M_now : Nat → Int32) : Prop := (wp_X8_finding (-1000000001 : Int32) w_M_errors (fun r4 o3 => (Q r4 o3 w_M_now)))
set_option maxHeartbeats 4000000 in
set_option maxRecDepth 100000 in
theorem lk_X8_soul_14 {p : Program} {l : Launch} {e : Env} {s : State} {m : MethodId} {args : Array Value} {below : List Frame} {meth : Method} {c : Code} {A : Nat → Prop} (G : Gt) (a_M : Nat) (a_M_now : Nat) (a_M_kept : Nat) (a_M_aside : Nat) (a_M_errors : Nat) (a_M_meetsFound : Nat) (a_M_deedsFound : Nat) (a_M_ahead : Nat) (a_M_NAMED : Nat) (a_M_code : Nat) (a_M_named : Nat) (a_M_pile : Nat) (a_M_often : Nat) (a_M_trace : Nat) (a_M_widths : Nat) (a_M_sizes : Nat) (a_M_numbers : Nat) (a_M_carried : Nat) (C : Cx p s m args meth c cX8_soul 3 RX8 (some .int)) (x1 : Int32) (x2 : Int32) (M_images : Int32) (M_at : Int32) (M_open : Int32) (M_use : Int32) (M_isWrong : Int32) (M_coded : Int32) (M_traced : Int32) (M_kind : Int32) (M_number : Int32) (M_told : Int32) (Q : Int32 → (Nat → Int32) → (Nat → Int32) → Prop) : ∀ (w_M_errors : Nat → Int32) (w_M_now : Nat → Int32) (Hx : Heap) (lx : List Loc) (ls : Array Slot), lb_X8_soul_14 x1 x2 Q w_M_errors w_M_now → Iv G A s (cs_X8_soul G a_M a_M_now a_M_kept a_M_aside a_M_errors a_M_meetsFound a_M_deedsFound a_M_ahead a_M_NAMED a_M_code a_M_named a_M_pile a_M_often a_M_trace a_M_widths a_M_sizes a_M_numbers a_M_carried M_images M_at M_open M_use M_isWrong M_coded M_traced M_kind M_number M_told w_M_errors w_M_now) Hx lx → lv_has ls 3 [(0, .ref a_M)] → W p l e rm_X8_soul s m args below meth c Hx lx 0 0 (MQ below (qc_X8_soul G a_M a_M_now a_M_kept a_M_aside a_M_errors a_M_meetsFound a_M_deedsFound a_M_ahead a_M_NAMED a_M_code a_M_named a_M_pile a_M_often a_M_trace a_M_widths a_M_sizes a_M_numbers a_M_carried M_images M_at M_open M_use M_isWrong M_coded M_traced M_kind M_number M_told A Q) args s 0 0 A) (F0 m 14 ls []) := by
  intro w_M_errors w_M_now Hx lx  ls hw I hl
  refine x_aload_n C hl 0 dX8_soul_14 rfl ?_
  refine x_ldc C wd_931 dX8_soul_15 ?_
  refine x_mui (wk := cs_X8_finding G a_M a_M_now a_M_kept a_M_aside a_M_errors a_M_meetsFound a_M_deedsFound a_M_ahead a_M_NAMED a_M_code a_M_named a_M_pile a_M_often a_M_trace a_M_widths a_M_sizes a_M_numbers a_M_carried M_images M_at M_open M_use M_isWrong M_coded M_traced M_kind M_number M_told w_M_errors) (wr := [(a_M_now, .inl (cI G, 228, .inl w_M_now))]) (isC := [0, 1]) (isR := [2]) I ⟨⟨rfl, rfl⟩, rfl, rfl, rfl⟩ [1, 2, 0] (fun u => cs_X8_soul G a_M a_M_now a_M_kept a_M_aside a_M_errors a_M_meetsFound a_M_deedsFound a_M_ahead a_M_NAMED a_M_code a_M_named a_M_pile a_M_often a_M_trace a_M_widths a_M_sizes a_M_numbers a_M_carried M_images M_at M_open M_use M_isWrong M_coded M_traced M_kind M_number M_told u w_M_now) (fun _ => rfl) rfl (run_V (As := [.int (-1000000001 : Int32)]) (rest := []) C hl (wk_X8_finding l G a_M a_M_now a_M_kept a_M_aside a_M_errors a_M_meetsFound a_M_deedsFound a_M_ahead a_M_NAMED a_M_code a_M_named a_M_pile a_M_often a_M_trace a_M_widths a_M_sizes a_M_numbers a_M_carried Hx.size M_images M_at M_open M_use M_isWrong M_coded M_traced M_kind M_number M_told w_M_errors (-1000000001 : Int32) _ hw) gm_X8_87 ⟨⟨rfl, rfl⟩, cn_X8_finding, ⟨(Nat.le_of_ble_eq_true rfl), (Nat.le_of_ble_eq_true rfl)⟩⟩ (pb_blind _ _ _ _) (x_recv I.1 0 rfl rfl) (pb_of I [0, 1] rfl rfl) rfl rfl (Nat.le_of_ble_eq_true rfl) ⟨Nat.le_of_ble_eq_true rfl, Nat.le_of_ble_eq_true rfl⟩ dX8_soul_17) (fun r4 u Hx lx hw I => ?_)
  obtain ⟨o3, eo3⟩ : ∃ z, z = u := ⟨_, rfl⟩
  subst eo3
  have I : Iv G A s (cs_X8_soul G a_M a_M_now a_M_kept a_M_aside a_M_errors a_M_meetsFound a_M_deedsFound a_M_ahead a_M_NAMED a_M_code a_M_named a_M_pile a_M_often a_M_trace a_M_widths a_M_sizes a_M_numbers a_M_carried M_images M_at M_open M_use M_isWrong M_coded M_traced M_kind M_number M_told o3 w_M_now) Hx lx := I
  exact x_ret1 C I (o3, w_M_now) rfl hw dX8_soul_20
def wp_X8_soul (x1 : Int32) (x2 : Int32) (M_errors : Nat → Int32) (M_now : Nat → Int32) (Q : Int32 → (Nat → Int32) → (Nat → Int32) → Prop) : Prop := (wp_X8_isKindM x1 (fun r1 => ((r1 = (0) → (lb_X8_soul_14 x1 x2 Q M_errors M_now)) ∧ (¬ r1 = (0) → (wp_X8_isStreet x2 (fun r5 => ((¬ r5 = (0) → ((¬ (M_now 1) = (8 : Int32) → (wp_X8_soulComes x1 x2 M_now (fun r9 o8 => (Q r9 M_errors o8)))) ∧ ((M_now 1) = (8 : Int32) → (wp_X8_finding (-1000000004 : Int32) M_errors (fun r11 o10 => (Q r11 o10 M_now)))))) ∧ (r5 = (0) → (lb_X8_soul_14 x1 x2 Q M_errors M_now)))))))))
set_option maxHeartbeats 4000000 in
set_option maxRecDepth 100000 in
theorem wk_X8_soul (l : Launch) (G : Gt) (a_M : Nat) (a_M_now : Nat) (a_M_kept : Nat) (a_M_aside : Nat) (a_M_errors : Nat) (a_M_meetsFound : Nat) (a_M_deedsFound : Nat) (a_M_ahead : Nat) (a_M_NAMED : Nat) (a_M_code : Nat) (a_M_named : Nat) (a_M_pile : Nat) (a_M_often : Nat) (a_M_trace : Nat) (a_M_widths : Nat) (a_M_sizes : Nat) (a_M_numbers : Nat) (a_M_carried : Nat) (sz : Nat) (M_images : Int32) (M_at : Int32) (M_open : Int32) (M_use : Int32) (M_isWrong : Int32) (M_coded : Int32) (M_traced : Int32) (M_kind : Int32) (M_number : Int32) (M_told : Int32) (M_errors : Nat → Int32) (M_now : Nat → Int32) (x1 : Int32) (x2 : Int32) (Q : Int32 → (Nat → Int32) → (Nat → Int32) → Prop) (hw : wp_X8_soul x1 x2 M_errors M_now Q) : Met l yX8_soul (wc yX8_soul cX8_soul 3 (some .int)) rm_X8_soul (va_Pc [.ref a_M, .int x1, .int x2] (PB G (cs_X8_soul G a_M a_M_now a_M_kept a_M_aside a_M_errors a_M_meetsFound a_M_deedsFound a_M_ahead a_M_NAMED a_M_code a_M_named a_M_pile a_M_often a_M_trace a_M_widths a_M_sizes a_M_numbers a_M_carried M_images M_at M_open M_use M_isWrong M_coded M_traced M_kind M_number M_told M_errors M_now) sz)) (qc_X8_soul G a_M a_M_now a_M_kept a_M_aside a_M_errors a_M_meetsFound a_M_deedsFound a_M_ahead a_M_NAMED a_M_code a_M_named a_M_pile a_M_often a_M_trace a_M_widths a_M_sizes a_M_numbers a_M_carried M_images M_at M_open M_use M_isWrong M_coded M_traced M_kind M_number M_told (va_A (cs_X8_soul G a_M a_M_now a_M_kept a_M_aside a_M_errors a_M_meetsFound a_M_deedsFound a_M_ahead a_M_NAMED a_M_code a_M_named a_M_pile a_M_often a_M_trace a_M_widths a_M_sizes a_M_numbers a_M_carried M_images M_at M_open M_use M_isWrong M_coded M_traced M_kind M_number M_told M_errors M_now) sz) Q) 0 0 (va_A (cs_X8_soul G a_M a_M_now a_M_kept a_M_aside a_M_errors a_M_meetsFound a_M_deedsFound a_M_ahead a_M_NAMED a_M_code a_M_named a_M_pile a_M_often a_M_trace a_M_widths a_M_sizes a_M_numbers a_M_carried M_images M_at M_open M_use M_isWrong M_coded M_traced M_kind M_number M_told M_errors M_now) sz) := by
  refine x_start pn_X8 (Nat.le_of_ble_eq_true rfl) (fun p e s m below meth c ls C hn hl hB => ?_)
  have I := iv_start hB
  generalize va_A (cs_X8_soul G a_M a_M_now a_M_kept a_M_aside a_M_errors a_M_meetsFound a_M_deedsFound a_M_ahead a_M_NAMED a_M_code a_M_named a_M_pile a_M_often a_M_trace a_M_widths a_M_sizes a_M_numbers a_M_carried M_images M_at M_open M_use M_isWrong M_coded M_traced M_kind M_number M_told M_errors M_now) sz = A at I ⊢
  have C : Cx p s m [.ref a_M, .int x1, .int x2].toArray meth c cX8_soul 3 RX8 (some .int) := C
  have hl : lv_has ls 3 [(0, .ref a_M), (1, .int x1), (2, .int x2)] := hl
  refine x_iload_n C hl 1 dX8_soul_0 rfl ?_
  refine x_ro (run_S (As := [.int x1]) (rest := []) C hl (wk_X8_isKindM l G x1 _ hw) gm_X8_174 ⟨⟨rfl, rfl⟩, cn_X8_isKindM, ⟨(Nat.le_of_ble_eq_true rfl), (Nat.le_of_ble_eq_true rfl)⟩⟩ (pr_blind _ _ _) (pr_of I.1 [] rfl) rfl rfl (Nat.le_of_ble_eq_true rfl) ⟨Nat.le_of_ble_eq_true rfl, Nat.le_of_ble_eq_true rfl⟩ dX8_soul_1) (fun r1 hw => ?_)
  refine x_if_eq C 14 dX8_soul_4 (by decide) (fun c2 => ?_) (fun c2 => ?_)
  · have hw := And.left hw c2
    exact lk_X8_soul_14 G a_M a_M_now a_M_kept a_M_aside a_M_errors a_M_meetsFound a_M_deedsFound a_M_ahead a_M_NAMED a_M_code a_M_named a_M_pile a_M_often a_M_trace a_M_widths a_M_sizes a_M_numbers a_M_carried C x1 x2 M_images M_at M_open M_use M_isWrong M_coded M_traced M_kind M_number M_told Q M_errors M_now s.heap [] ls hw I (lv_sub hl [0] rfl)
  · have hw := And.right hw c2
    refine x_iload_n C hl 2 dX8_soul_7 rfl ?_
    refine x_ro (run_S (As := [.int x2]) (rest := []) C hl (wk_X8_isStreet l G x2 _ hw) gm_X8_177 ⟨⟨rfl, rfl⟩, cn_X8_isStreet, ⟨(Nat.le_of_ble_eq_true rfl), (Nat.le_of_ble_eq_true rfl)⟩⟩ (pr_blind _ _ _) (pr_of I.1 [] rfl) rfl rfl (Nat.le_of_ble_eq_true rfl) ⟨Nat.le_of_ble_eq_true rfl, Nat.le_of_ble_eq_true rfl⟩ dX8_soul_8) (fun r5 hw => ?_)
    refine x_if_ne C 21 dX8_soul_11 (by decide) (fun c6 => ?_) (fun c6 => ?_)
    · have hw := And.left hw c6
      refine x_aload_n C hl 0 dX8_soul_21 rfl ?_
      refine x_get C I.1 fl_X8_9 0 rfl rfl dX8_soul_22 ?_
      refine x_iconst C dX8_soul_25 ic_1 ?_
      refine x_ialdL C I.1 2 1 rfl vi_1_228 vl_1 dX8_soul_26 ?_
      refine x_bipush C dX8_soul_27 bp_8 ?_
      refine x_icmp_ne C 41 dX8_soul_29 (by decide) (fun c7 => ?_) (fun c7 => ?_)
      · have hw := And.left hw c7
        refine x_aload_n C hl 0 dX8_soul_41 rfl ?_
        refine x_iload_n C hl 1 dX8_soul_42 rfl ?_
        refine x_iload_n C hl 2 dX8_soul_43 rfl ?_
        refine x_mui (wk := cs_X8_soulComes G a_M a_M_now a_M_kept a_M_aside a_M_errors a_M_meetsFound a_M_deedsFound a_M_ahead a_M_NAMED a_M_code a_M_named a_M_pile a_M_often a_M_trace a_M_widths a_M_sizes a_M_numbers a_M_carried M_images M_at M_open M_use M_isWrong M_coded M_traced M_kind M_number M_told M_now) (wr := [(a_M_errors, .inl (cI G, 6, .inl M_errors))]) (isC := [0, 2]) (isR := [1]) I ⟨⟨rfl, rfl⟩, rfl, rfl, rfl⟩ [1, 0, 2] (fun u => cs_X8_soul G a_M a_M_now a_M_kept a_M_aside a_M_errors a_M_meetsFound a_M_deedsFound a_M_ahead a_M_NAMED a_M_code a_M_named a_M_pile a_M_often a_M_trace a_M_widths a_M_sizes a_M_numbers a_M_carried M_images M_at M_open M_use M_isWrong M_coded M_traced M_kind M_number M_told M_errors u) (fun _ => rfl) rfl (run_V (As := [.int x1, .int x2]) (rest := []) C hl (wk_X8_soulComes l G a_M a_M_now a_M_kept a_M_aside a_M_errors a_M_meetsFound a_M_deedsFound a_M_ahead a_M_NAMED a_M_code a_M_named a_M_pile a_M_often a_M_trace a_M_widths a_M_sizes a_M_numbers a_M_carried s.heap.size M_images M_at M_open M_use M_isWrong M_coded M_traced M_kind M_number M_told M_now x1 x2 _ hw) gm_X8_180 ⟨⟨rfl, rfl⟩, cn_X8_soulComes, ⟨(Nat.le_of_ble_eq_true rfl), (Nat.le_of_ble_eq_true rfl)⟩⟩ (pb_blind _ _ _ _) (x_recv I.1 0 rfl rfl) (pb_of I [0, 2] rfl rfl) rfl rfl (Nat.le_of_ble_eq_true rfl) ⟨Nat.le_of_ble_eq_true rfl, Nat.le_of_ble_eq_true rfl⟩ dX8_soul_44) (fun r9 u Hx lx hw I => ?_)
        obtain ⟨o8, eo8⟩ : ∃ z, z = u := ⟨_, rfl⟩
        subst eo8
        have I : Iv G A s (cs_X8_soul G a_M a_M_now a_M_kept a_M_aside a_M_errors a_M_meetsFound a_M_deedsFound a_M_ahead a_M_NAMED a_M_code a_M_named a_M_pile a_M_often a_M_trace a_M_widths a_M_sizes a_M_numbers a_M_carried M_images M_at M_open M_use M_isWrong M_coded M_traced M_kind M_number M_told M_errors o8) Hx lx := I
        exact x_ret1 C I (M_errors, o8) rfl hw dX8_soul_47
      · have hw := And.right hw c7
        refine x_aload_n C hl 0 dX8_soul_32 rfl ?_
        refine x_ldc C wd_937 dX8_soul_33 ?_
        refine x_mui (wk := cs_X8_finding G a_M a_M_now a_M_kept a_M_aside a_M_errors a_M_meetsFound a_M_deedsFound a_M_ahead a_M_NAMED a_M_code a_M_named a_M_pile a_M_often a_M_trace a_M_widths a_M_sizes a_M_numbers a_M_carried M_images M_at M_open M_use M_isWrong M_coded M_traced M_kind M_number M_told M_errors) (wr := [(a_M_now, .inl (cI G, 228, .inl M_now))]) (isC := [0, 1]) (isR := [2]) I ⟨⟨rfl, rfl⟩, rfl, rfl, rfl⟩ [1, 2, 0] (fun u => cs_X8_soul G a_M a_M_now a_M_kept a_M_aside a_M_errors a_M_meetsFound a_M_deedsFound a_M_ahead a_M_NAMED a_M_code a_M_named a_M_pile a_M_often a_M_trace a_M_widths a_M_sizes a_M_numbers a_M_carried M_images M_at M_open M_use M_isWrong M_coded M_traced M_kind M_number M_told u M_now) (fun _ => rfl) rfl (run_V (As := [.int (-1000000004 : Int32)]) (rest := []) C hl (wk_X8_finding l G a_M a_M_now a_M_kept a_M_aside a_M_errors a_M_meetsFound a_M_deedsFound a_M_ahead a_M_NAMED a_M_code a_M_named a_M_pile a_M_often a_M_trace a_M_widths a_M_sizes a_M_numbers a_M_carried s.heap.size M_images M_at M_open M_use M_isWrong M_coded M_traced M_kind M_number M_told M_errors (-1000000004 : Int32) _ hw) gm_X8_87 ⟨⟨rfl, rfl⟩, cn_X8_finding, ⟨(Nat.le_of_ble_eq_true rfl), (Nat.le_of_ble_eq_true rfl)⟩⟩ (pb_blind _ _ _ _) (x_recv I.1 0 rfl rfl) (pb_of I [0, 1] rfl rfl) rfl rfl (Nat.le_of_ble_eq_true rfl) ⟨Nat.le_of_ble_eq_true rfl, Nat.le_of_ble_eq_true rfl⟩ dX8_soul_35) (fun r11 u Hx lx hw I => ?_)
        obtain ⟨o10, eo10⟩ : ∃ z, z = u := ⟨_, rfl⟩
        subst eo10
        have I : Iv G A s (cs_X8_soul G a_M a_M_now a_M_kept a_M_aside a_M_errors a_M_meetsFound a_M_deedsFound a_M_ahead a_M_NAMED a_M_code a_M_named a_M_pile a_M_often a_M_trace a_M_widths a_M_sizes a_M_numbers a_M_carried M_images M_at M_open M_use M_isWrong M_coded M_traced M_kind M_number M_told o10 M_now) Hx lx := I
        refine x_goto C 47 dX8_soul_38 (by decide) ?_
        exact x_ret1 C I (o10, M_now) rfl hw dX8_soul_47
    · have hw := And.right hw c6
      exact lk_X8_soul_14 G a_M a_M_now a_M_kept a_M_aside a_M_errors a_M_meetsFound a_M_deedsFound a_M_ahead a_M_NAMED a_M_code a_M_named a_M_pile a_M_often a_M_trace a_M_widths a_M_sizes a_M_numbers a_M_carried C x1 x2 M_images M_at M_open M_use M_isWrong M_coded M_traced M_kind M_number M_told Q M_errors M_now s.heap [] ls hw I (lv_sub hl [0] rfl)
