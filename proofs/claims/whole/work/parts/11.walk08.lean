/-! X8_above -/
abbrev rm_X8_above : Room := { frames := 0, cells := 0, slots := 0, locals := 0 }
abbrev cs_X8_above (G : Gt) : va_W := []
def wp_X8_above (x0 : Int32) (Q : Int32 → Prop) : Prop := ((¬ x0 = (0) → ((¬ x0 = (4 : Int32) → ((¬ x0 = (5 : Int32) → ((¬ x0 = (6 : Int32) → (Q (0 : Int32))) ∧ (x0 = (6 : Int32) → (Q (3 : Int32))))) ∧ (x0 = (5 : Int32) → (Q (2 : Int32))))) ∧ (x0 = (4 : Int32) → (Q (1 : Int32))))) ∧ (x0 = (0) → (Q (-1 : Int32))))
set_option maxHeartbeats 4000000 in
set_option maxRecDepth 100000 in
theorem wk_X8_above (l : Launch) (G : Gt) (x0 : Int32) (Q : Int32 → Prop) (hw : wp_X8_above x0 Q) : Met l yX8_above (wc yX8_above cX8_above 1 (some .int)) rm_X8_above (va_Pc [.int x0] (PR G (cs_X8_above G ))) (vp_Si Q) 0 0 (fun _ => False) := by
  refine x_start pn_X8 (Nat.le_of_ble_eq_true rfl) (fun p e s m below meth c ls C hn hl hB => ?_)
  have I := rd_start hB
  have C : Cx p s m [.int x0].toArray meth c cX8_above 1 RX8 (some .int) := C
  have hl : lv_has ls 1 [(0, .int x0)] := hl
  refine x_iload_n C hl 0 dX8_above_0 rfl ?_
  refine x_if_ne C 8 dX8_above_1 (by decide) (fun c1 => ?_) (fun c1 => ?_)
  · have hw := And.left hw c1
    refine x_iload_n C hl 0 dX8_above_8 rfl ?_
    refine x_iconst C dX8_above_9 ic_4 ?_
    refine x_icmp_ne C 17 dX8_above_10 (by decide) (fun c2 => ?_) (fun c2 => ?_)
    · have hw := And.left hw c2
      refine x_iload_n C hl 0 dX8_above_17 rfl ?_
      refine x_iconst C dX8_above_18 ic_5 ?_
      refine x_icmp_ne C 26 dX8_above_19 (by decide) (fun c3 => ?_) (fun c3 => ?_)
      · have hw := And.left hw c3
        refine x_iload_n C hl 0 dX8_above_26 rfl ?_
        refine x_bipush C dX8_above_27 bp_6 ?_
        refine x_icmp_ne C 36 dX8_above_29 (by decide) (fun c4 => ?_) (fun c4 => ?_)
        · have hw := And.left hw c4
          refine x_iconst C dX8_above_36 ic_0 ?_
          exact x_ret0 C hw dX8_above_37
        · have hw := And.right hw c4
          refine x_iconst C dX8_above_32 ic_3 ?_
          refine x_goto C 37 dX8_above_33 (by decide) ?_
          exact x_ret0 C hw dX8_above_37
      · have hw := And.right hw c3
        refine x_iconst C dX8_above_22 ic_2 ?_
        refine x_goto C 37 dX8_above_23 (by decide) ?_
        exact x_ret0 C hw dX8_above_37
    · have hw := And.right hw c2
      refine x_iconst C dX8_above_13 ic_1 ?_
      refine x_goto C 37 dX8_above_14 (by decide) ?_
      exact x_ret0 C hw dX8_above_37
  · have hw := And.right hw c1
    refine x_iconst C dX8_above_4 ic_m1 ?_
    refine x_goto C 37 dX8_above_5 (by decide) ?_
    exact x_ret0 C hw dX8_above_37
/-! X8_isUnder -/
abbrev rm_X8_isUnder : Room := { frames := 1, cells := 0, slots := 0, locals := 20 }
abbrev cs_X8_isUnder (G : Gt) : va_W := []
def lb_X8_isUnder_19 (x0 : Int32) (x1 : Int32) (Q : Int32 → Prop) (y2 : Int32) : Prop := ((y2 < (0) → (Q (0 : Int32))) ∧ (¬ y2 < (0) → (Q (1 : Int32))))
set_option maxHeartbeats 4000000 in
set_option maxRecDepth 100000 in
theorem lk_X8_isUnder_19 {p : Program} {l : Launch} {e : Env} {s : State} {m : MethodId} {args : Array Value} {below : List Frame} {meth : Method} {c : Code} (G : Gt) (C : Cx p s m args meth c cX8_isUnder 3 RX8 (some .boolean)) (x0 : Int32) (x1 : Int32) (Q : Int32 → Prop) : ∀ (y2 : Int32) (ls : Array Slot), lb_X8_isUnder_19 x0 x1 Q y2 → Rd G (fun _ => False) s (cs_X8_isUnder G ) s.heap [] → lv_has ls 3 [(2, .int y2)] → W p l e rm_X8_isUnder s m args below meth c s.heap [] 0 0 (MQ below (vp_Si Q) args s 0 0 (fun _ => False)) (F0 m 19 ls []) := by
  intro y2  ls hw I hl
  refine x_iload_n C hl 0 dX8_isUnder_19 rfl ?_
  refine x_if_lt C 27 dX8_isUnder_20 (by decide) (fun c2 => ?_) (fun c2 => ?_)
  · have hw := And.left hw c2
    refine x_iconst C dX8_isUnder_27 ic_0 ?_
    exact x_ret0z C bz_0 hw dX8_isUnder_28
  · have hw := And.right hw c2
    refine x_iconst C dX8_isUnder_23 ic_1 ?_
    refine x_goto C 28 dX8_isUnder_24 (by decide) ?_
    exact x_ret0z C bz_1 hw dX8_isUnder_28
def lb_X8_isUnder_2 (x0 : Int32) (x1 : Int32) (Q : Int32 → Prop) : Nat → Int32 → Prop
  | 0 => fun _ => False
  | k + 1 => fun (y2 : Int32) => ((y2 < (0) → (lb_X8_isUnder_19 x0 x1 Q y2)) ∧ (¬ y2 < (0) → ((y2 = x1 → (lb_X8_isUnder_19 x0 x1 Q y2)) ∧ (¬ y2 = x1 → (wp_X8_above y2 (fun r4 => (lb_X8_isUnder_2 x0 x1 Q k r4)))))))
set_option maxHeartbeats 4000000 in
set_option maxRecDepth 100000 in
theorem lk_X8_isUnder_2 {p : Program} {l : Launch} {e : Env} {s : State} {m : MethodId} {args : Array Value} {below : List Frame} {meth : Method} {c : Code} (G : Gt) (C : Cx p s m args meth c cX8_isUnder 3 RX8 (some .boolean)) (x0 : Int32) (x1 : Int32) (Q : Int32 → Prop) : ∀ (n : Nat) (y2 : Int32) (ls : Array Slot), lb_X8_isUnder_2 x0 x1 Q n y2 → Rd G (fun _ => False) s (cs_X8_isUnder G ) s.heap [] → lv_has ls 3 [(1, .int x1), (2, .int y2)] → W p l e rm_X8_isUnder s m args below meth c s.heap [] 0 0 (MQ below (vp_Si Q) args s 0 0 (fun _ => False)) (F0 m 2 ls []) := by
  intro n
  induction n with
  | zero => intro y2  ls hw I hl; exact False.elim hw
  | succ k ih =>
    intro y2  ls hw I hl
    refine x_iload_n C hl 1 dX8_isUnder_2 rfl ?_
    refine x_if_lt C 19 dX8_isUnder_3 (by decide) (fun c1 => ?_) (fun c1 => ?_)
    · have hw := And.left hw c1
      exact lk_X8_isUnder_19 G  C x0 x1  Q y2 ls hw I (lv_sub hl [1] rfl)
    · have hw := And.right hw c1
      refine x_iload_n C hl 1 dX8_isUnder_6 rfl ?_
      refine x_iload_n C hl 0 dX8_isUnder_7 rfl ?_
      refine x_icmp_eq C 19 dX8_isUnder_8 (by decide) (fun c3 => ?_) (fun c3 => ?_)
      · have hw := And.left hw c3
        exact lk_X8_isUnder_19 G  C x0 x1  Q y2 ls hw I (lv_sub hl [1] rfl)
      · have hw := And.right hw c3
        refine x_iload_n C hl 1 dX8_isUnder_11 rfl ?_
        refine x_ro (run_S (As := [.int y2]) (rest := []) C hl (wk_X8_above l G y2 _ hw) gm_X8_183 ⟨⟨rfl, rfl⟩, cn_X8_above, ⟨(Nat.le_of_ble_eq_true rfl), (Nat.le_of_ble_eq_true rfl)⟩⟩ (pr_blind _ _ _) (pr_of I [] rfl) rfl rfl (Nat.le_of_ble_eq_true rfl) ⟨Nat.le_of_ble_eq_true rfl, Nat.le_of_ble_eq_true rfl⟩ dX8_isUnder_12) (fun r4 hw => ?_)
        refine x_istore_n C hl [(2, .int r4), (1, .int x1)] dX8_isUnder_15 (Nat.le_of_ble_eq_true rfl) rfl (fun ls hl => ?_)
        refine x_goto C 2 dX8_isUnder_16 (by decide) ?_
        exact ih r4 ls hw I (lv_sub hl [1, 0] rfl)
def wp_X8_isUnder (x0 : Int32) (x1 : Int32) (Q : Int32 → Prop) : Prop := (∃ n, lb_X8_isUnder_2 x0 x1 Q n x0)
set_option maxHeartbeats 4000000 in
set_option maxRecDepth 100000 in
theorem wk_X8_isUnder (l : Launch) (G : Gt) (x0 : Int32) (x1 : Int32) (Q : Int32 → Prop) (hw : wp_X8_isUnder x0 x1 Q) : Met l yX8_isUnder (wc yX8_isUnder cX8_isUnder 3 (some .boolean)) rm_X8_isUnder (va_Pc [.int x0, .int x1] (PR G (cs_X8_isUnder G ))) (vp_Si Q) 0 0 (fun _ => False) := by
  refine x_start pn_X8 (Nat.le_of_ble_eq_true rfl) (fun p e s m below meth c ls C hn hl hB => ?_)
  have I := rd_start hB
  have C : Cx p s m [.int x0, .int x1].toArray meth c cX8_isUnder 3 RX8 (some .boolean) := C
  have hl : lv_has ls 3 [(0, .int x0), (1, .int x1)] := hl
  refine x_iload_n C hl 0 dX8_isUnder_0 rfl ?_
  refine x_istore_n C hl [(2, .int x0), (0, .int x0), (1, .int x1)] dX8_isUnder_1 (Nat.le_of_ble_eq_true rfl) rfl (fun ls hl => ?_)
  obtain ⟨n, hw⟩ := hw
  exact lk_X8_isUnder_2 G  C x0 x1  Q n x0 ls hw I (lv_sub hl [2, 0] rfl)
/-! X8_keepsNow -/
abbrev rm_X8_keepsNow : Room := { frames := 2, cells := 0, slots := 0, locals := 43 }
abbrev cs_X8_keepsNow (G : Gt) (a_M : Nat) (a_M_now : Nat) (a_M_kept : Nat) (a_M_aside : Nat) (a_M_errors : Nat) (a_M_meetsFound : Nat) (a_M_deedsFound : Nat) (a_M_ahead : Nat) (a_M_NAMED : Nat) (a_M_code : Nat) (a_M_named : Nat) (a_M_pile : Nat) (a_M_often : Nat) (a_M_trace : Nat) (a_M_widths : Nat) (a_M_sizes : Nat) (a_M_numbers : Nat) (a_M_carried : Nat) (M_images : Int32) (M_at : Int32) (M_open : Int32) (M_use : Int32) (M_isWrong : Int32) (M_coded : Int32) (M_traced : Int32) (M_kind : Int32) (M_number : Int32) (M_told : Int32) (M_now : Nat → Int32) : va_W := [(a_M, .inr (8, [.ref a_M_now, .ref a_M_kept, .ref a_M_aside, .int M_images, .ref a_M_errors, .ref a_M_meetsFound, .ref a_M_deedsFound, .ref a_M_ahead, .ref a_M_NAMED, .int M_at, .int M_open, .int M_use, .int M_isWrong, .ref a_M_code, .int M_coded, .ref a_M_named, .ref a_M_pile, .ref a_M_often, .ref a_M_trace, .int M_traced, .int M_kind, .int M_number, .int M_told, .ref a_M_widths, .ref a_M_sizes, .ref a_M_numbers, .ref a_M_carried])), (a_M_now, .inl (cI G, 228, .inl M_now))]
def wp_X8_keepsNow (x1 : Int32) (M_now : Nat → Int32) (Q : Int32 → Prop) : Prop := (wp_X8_soulIs x1 (0 : Int32) M_now (fun r1 => (wp_X8_isUnder r1 (1 : Int32) (fun r2 => ((¬ r2 = (0) → (wp_X8_soulIs x1 (1 : Int32) M_now (fun r4 => ((¬ r1 = (4 : Int32) → (Q (((10 : Int32) + r4) + (0 : Int32)))) ∧ (r1 = (4 : Int32) → ((¬ (jrem (M_now 0) (7 : Int32)) = (0) → (Q (((10 : Int32) + r4) + (0 : Int32)))) ∧ ((jrem (M_now 0) (7 : Int32)) = (0) → (Q (((10 : Int32) + r4) + (20 : Int32)))))))))) ∧ (r2 = (0) → (Q (0 : Int32))))))))
set_option maxHeartbeats 4000000 in
set_option maxRecDepth 100000 in
theorem wk_X8_keepsNow (l : Launch) (G : Gt) (a_M : Nat) (a_M_now : Nat) (a_M_kept : Nat) (a_M_aside : Nat) (a_M_errors : Nat) (a_M_meetsFound : Nat) (a_M_deedsFound : Nat) (a_M_ahead : Nat) (a_M_NAMED : Nat) (a_M_code : Nat) (a_M_named : Nat) (a_M_pile : Nat) (a_M_often : Nat) (a_M_trace : Nat) (a_M_widths : Nat) (a_M_sizes : Nat) (a_M_numbers : Nat) (a_M_carried : Nat) (M_images : Int32) (M_at : Int32) (M_open : Int32) (M_use : Int32) (M_isWrong : Int32) (M_coded : Int32) (M_traced : Int32) (M_kind : Int32) (M_number : Int32) (M_told : Int32) (M_now : Nat → Int32) (x1 : Int32) (Q : Int32 → Prop) (hw : wp_X8_keepsNow x1 M_now Q) : Met l yX8_keepsNow (wc yX8_keepsNow cX8_keepsNow 3 (some .int)) rm_X8_keepsNow (va_Pc [.ref a_M, .int x1] (PR G (cs_X8_keepsNow G a_M a_M_now a_M_kept a_M_aside a_M_errors a_M_meetsFound a_M_deedsFound a_M_ahead a_M_NAMED a_M_code a_M_named a_M_pile a_M_often a_M_trace a_M_widths a_M_sizes a_M_numbers a_M_carried M_images M_at M_open M_use M_isWrong M_coded M_traced M_kind M_number M_told M_now))) (vp_Si Q) 0 0 (fun _ => False) := by
  refine x_start pn_X8 (Nat.le_of_ble_eq_true rfl) (fun p e s m below meth c ls C hn hl hB => ?_)
  have I := rd_start hB
  have C : Cx p s m [.ref a_M, .int x1].toArray meth c cX8_keepsNow 3 RX8 (some .int) := C
  have hl : lv_has ls 3 [(0, .ref a_M), (1, .int x1)] := hl
  refine x_aload_n C hl 0 dX8_keepsNow_0 rfl ?_
  refine x_iload_n C hl 1 dX8_keepsNow_1 rfl ?_
  refine x_iconst C dX8_keepsNow_2 ic_0 ?_
  refine x_ro (run_V (As := [.int x1, .int (0 : Int32)]) (rest := []) C hl (wk_X8_soulIs l G a_M a_M_now a_M_kept a_M_aside a_M_errors a_M_meetsFound a_M_deedsFound a_M_ahead a_M_NAMED a_M_code a_M_named a_M_pile a_M_often a_M_trace a_M_widths a_M_sizes a_M_numbers a_M_carried M_images M_at M_open M_use M_isWrong M_coded M_traced M_kind M_number M_told M_now x1 (0 : Int32) _ hw) gm_X8_186 ⟨⟨rfl, rfl⟩, cn_X8_soulIs, ⟨(Nat.le_of_ble_eq_true rfl), (Nat.le_of_ble_eq_true rfl)⟩⟩ (pr_blind _ _ _) (x_recv I 0 rfl rfl) (pr_of I [0, 1] rfl) rfl rfl (Nat.le_of_ble_eq_true rfl) ⟨Nat.le_of_ble_eq_true rfl, Nat.le_of_ble_eq_true rfl⟩ dX8_keepsNow_3) (fun r1 hw => ?_)
  refine x_istore_n C hl [(2, .int r1), (0, .ref a_M), (1, .int x1)] dX8_keepsNow_6 (Nat.le_of_ble_eq_true rfl) rfl (fun ls hl => ?_)
  refine x_iload_n C hl 0 dX8_keepsNow_7 rfl ?_
  refine x_iconst C dX8_keepsNow_8 ic_1 ?_
  refine x_ro (run_S (As := [.int r1, .int (1 : Int32)]) (rest := []) C hl (wk_X8_isUnder l G r1 (1 : Int32) _ hw) gm_X8_189 ⟨⟨rfl, rfl⟩, cn_X8_isUnder, ⟨(Nat.le_of_ble_eq_true rfl), (Nat.le_of_ble_eq_true rfl)⟩⟩ (pr_blind _ _ _) (pr_of I [] rfl) rfl rfl (Nat.le_of_ble_eq_true rfl) ⟨Nat.le_of_ble_eq_true rfl, Nat.le_of_ble_eq_true rfl⟩ dX8_keepsNow_9) (fun r2 hw => ?_)
  refine x_if_ne C 17 dX8_keepsNow_12 (by decide) (fun c3 => ?_) (fun c3 => ?_)
  · have hw := And.left hw c3
    refine x_bipush C dX8_keepsNow_17 bp_10 ?_
    refine x_aload_n C hl 1 dX8_keepsNow_19 rfl ?_
    refine x_iload_n C hl 2 dX8_keepsNow_20 rfl ?_
    refine x_iconst C dX8_keepsNow_21 ic_1 ?_
    refine x_ro (run_V (As := [.int x1, .int (1 : Int32)]) (rest := [.int (10 : Int32)]) C hl (wk_X8_soulIs l G a_M a_M_now a_M_kept a_M_aside a_M_errors a_M_meetsFound a_M_deedsFound a_M_ahead a_M_NAMED a_M_code a_M_named a_M_pile a_M_often a_M_trace a_M_widths a_M_sizes a_M_numbers a_M_carried M_images M_at M_open M_use M_isWrong M_coded M_traced M_kind M_number M_told M_now x1 (1 : Int32) _ hw) gm_X8_186 ⟨⟨rfl, rfl⟩, cn_X8_soulIs, ⟨(Nat.le_of_ble_eq_true rfl), (Nat.le_of_ble_eq_true rfl)⟩⟩ (pr_blind _ _ _) (x_recv I 0 rfl rfl) (pr_of I [0, 1] rfl) rfl rfl (Nat.le_of_ble_eq_true rfl) ⟨Nat.le_of_ble_eq_true rfl, Nat.le_of_ble_eq_true rfl⟩ dX8_keepsNow_22) (fun r4 hw => ?_)
    refine x_iadd C dX8_keepsNow_25 ?_
    refine x_iload_n C hl 0 dX8_keepsNow_26 rfl ?_
    refine x_iconst C dX8_keepsNow_27 ic_4 ?_
    refine x_icmp_ne C 48 dX8_keepsNow_28 (by decide) (fun c5 => ?_) (fun c5 => ?_)
    · have hw := And.left hw c5
      refine x_iconst C dX8_keepsNow_48 ic_0 ?_
      refine x_iadd C dX8_keepsNow_49 ?_
      exact x_ret0 C hw dX8_keepsNow_50
    · have hw := And.right hw c5
      refine x_aload_n C hl 1 dX8_keepsNow_31 rfl ?_
      refine x_get C I fl_X8_9 0 rfl rfl dX8_keepsNow_32 ?_
      refine x_iconst C dX8_keepsNow_35 ic_0 ?_
      refine x_ialdL C I 1 0 rfl vi_0_228 vl_0 dX8_keepsNow_36 ?_
      refine x_bipush C dX8_keepsNow_37 bp_7 ?_
      refine x_irem C nz_7 dX8_keepsNow_39 ?_
      refine x_if_ne C 48 dX8_keepsNow_40 (by decide) (fun c6 => ?_) (fun c6 => ?_)
      · have hw := And.left hw c6
        refine x_iconst C dX8_keepsNow_48 ic_0 ?_
        refine x_iadd C dX8_keepsNow_49 ?_
        exact x_ret0 C hw dX8_keepsNow_50
      · have hw := And.right hw c6
        refine x_bipush C dX8_keepsNow_43 bp_20 ?_
        refine x_goto C 49 dX8_keepsNow_45 (by decide) ?_
        refine x_iadd C dX8_keepsNow_49 ?_
        exact x_ret0 C hw dX8_keepsNow_50
  · have hw := And.right hw c3
    refine x_iconst C dX8_keepsNow_15 ic_0 ?_
    exact x_ret0 C hw dX8_keepsNow_16
/-! X8_handsBy -/
abbrev rm_X8_handsBy : Room := { frames := 2, cells := 0, slots := 0, locals := 43 }
abbrev cs_X8_handsBy (G : Gt) (a_M : Nat) (a_M_now : Nat) (a_M_kept : Nat) (a_M_aside : Nat) (a_M_errors : Nat) (a_M_meetsFound : Nat) (a_M_deedsFound : Nat) (a_M_ahead : Nat) (a_M_NAMED : Nat) (a_M_code : Nat) (a_M_named : Nat) (a_M_pile : Nat) (a_M_often : Nat) (a_M_trace : Nat) (a_M_widths : Nat) (a_M_sizes : Nat) (a_M_numbers : Nat) (a_M_carried : Nat) (M_images : Int32) (M_at : Int32) (M_open : Int32) (M_use : Int32) (M_isWrong : Int32) (M_coded : Int32) (M_traced : Int32) (M_kind : Int32) (M_number : Int32) (M_told : Int32) (M_now : Nat → Int32) : va_W := [(a_M, .inr (8, [.ref a_M_now, .ref a_M_kept, .ref a_M_aside, .int M_images, .ref a_M_errors, .ref a_M_meetsFound, .ref a_M_deedsFound, .ref a_M_ahead, .ref a_M_NAMED, .int M_at, .int M_open, .int M_use, .int M_isWrong, .ref a_M_code, .int M_coded, .ref a_M_named, .ref a_M_pile, .ref a_M_often, .ref a_M_trace, .int M_traced, .int M_kind, .int M_number, .int M_told, .ref a_M_widths, .ref a_M_sizes, .ref a_M_numbers, .ref a_M_carried])), (a_M_now, .inl (cI G, 228, .inl M_now))]
def wp_X8_handsBy (x1 : Int32) (x2 : Int32) (M_now : Nat → Int32) (Q : Int32 → Prop) : Prop := (∀ v1 : Int32, v1 = (x2 - (M_now 2)) → (wp_X8_soulIs x1 (1 : Int32) M_now (fun r2 => (∀ v3 : Int32, v3 = (jmin x2 (v1 + r2)) → (wp_X8_soulIs x1 (0 : Int32) M_now (fun r4 => ((r4 = (2 : Int32) → (wp_X8_held (v1 / (2 : Int32)) (0 : Int32) (99 : Int32) (fun r6 => (Q r6)))) ∧ (r4 = (3 : Int32) → (wp_X8_held v3 (0 : Int32) (99 : Int32) (fun r8 => (Q r8)))) ∧ (r4 = (4 : Int32) → (wp_X8_held v1 (0 : Int32) (99 : Int32) (fun r10 => (Q r10)))) ∧ (r4 = (5 : Int32) → (Q (0 : Int32))) ∧ (r4 = (6 : Int32) → (wp_X8_held (v3 + (1 : Int32)) (0 : Int32) (99 : Int32) (fun r13 => (Q r13)))) ∧ (¬ r4 = (2 : Int32) → ¬ r4 = (3 : Int32) → ¬ r4 = (4 : Int32) → ¬ r4 = (5 : Int32) → ¬ r4 = (6 : Int32) → (wp_X8_held v1 (0 : Int32) (99 : Int32) (fun r14 => (Q r14)))))))))))
set_option maxHeartbeats 4000000 in
set_option maxRecDepth 100000 in
theorem wk_X8_handsBy (l : Launch) (G : Gt) (a_M : Nat) (a_M_now : Nat) (a_M_kept : Nat) (a_M_aside : Nat) (a_M_errors : Nat) (a_M_meetsFound : Nat) (a_M_deedsFound : Nat) (a_M_ahead : Nat) (a_M_NAMED : Nat) (a_M_code : Nat) (a_M_named : Nat) (a_M_pile : Nat) (a_M_often : Nat) (a_M_trace : Nat) (a_M_widths : Nat) (a_M_sizes : Nat) (a_M_numbers : Nat) (a_M_carried : Nat) (M_images : Int32) (M_at : Int32) (M_open : Int32) (M_use : Int32) (M_isWrong : Int32) (M_coded : Int32) (M_traced : Int32) (M_kind : Int32) (M_number : Int32) (M_told : Int32) (M_now : Nat → Int32) (x1 : Int32) (x2 : Int32) (Q : Int32 → Prop) (hw : wp_X8_handsBy x1 x2 M_now Q) : Met l yX8_handsBy (wc yX8_handsBy cX8_handsBy 5 (some .int)) rm_X8_handsBy (va_Pc [.ref a_M, .int x1, .int x2] (PR G (cs_X8_handsBy G a_M a_M_now a_M_kept a_M_aside a_M_errors a_M_meetsFound a_M_deedsFound a_M_ahead a_M_NAMED a_M_code a_M_named a_M_pile a_M_often a_M_trace a_M_widths a_M_sizes a_M_numbers a_M_carried M_images M_at M_open M_use M_isWrong M_coded M_traced M_kind M_number M_told M_now))) (vp_Si Q) 0 0 (fun _ => False) := by
  refine x_start pn_X8 (Nat.le_of_ble_eq_true rfl) (fun p e s m below meth c ls C hn hl hB => ?_)
  have I := rd_start hB
  have C : Cx p s m [.ref a_M, .int x1, .int x2].toArray meth c cX8_handsBy 5 RX8 (some .int) := C
  have hl : lv_has ls 5 [(0, .ref a_M), (1, .int x1), (2, .int x2)] := hl
  refine x_iload_n C hl 2 dX8_handsBy_0 rfl ?_
  refine x_aload_n C hl 0 dX8_handsBy_1 rfl ?_
  refine x_get C I fl_X8_9 0 rfl rfl dX8_handsBy_2 ?_
  refine x_iconst C dX8_handsBy_5 ic_2 ?_
  refine x_ialdL C I 1 2 rfl vi_2_228 vl_2 dX8_handsBy_6 ?_
  refine x_isub C dX8_handsBy_7 ?_
  refine lv_topi (fun v1 ev1 => ?_)
  have hw := hw v1 ev1
  refine x_istore_n C hl [(3, .int v1), (0, .ref a_M), (1, .int x1), (2, .int x2)] dX8_handsBy_8 (Nat.le_of_ble_eq_true rfl) rfl (fun ls hl => ?_)
  refine x_iload_n C hl 3 dX8_handsBy_9 rfl ?_
  refine x_iload_n C hl 0 dX8_handsBy_10 rfl ?_
  refine x_aload_n C hl 1 dX8_handsBy_11 rfl ?_
  refine x_iload_n C hl 2 dX8_handsBy_12 rfl ?_
  refine x_iconst C dX8_handsBy_13 ic_1 ?_
  refine x_ro (run_V (As := [.int x1, .int (1 : Int32)]) (rest := [.int v1, .int x2]) C hl (wk_X8_soulIs l G a_M a_M_now a_M_kept a_M_aside a_M_errors a_M_meetsFound a_M_deedsFound a_M_ahead a_M_NAMED a_M_code a_M_named a_M_pile a_M_often a_M_trace a_M_widths a_M_sizes a_M_numbers a_M_carried M_images M_at M_open M_use M_isWrong M_coded M_traced M_kind M_number M_told M_now x1 (1 : Int32) _ hw) gm_X8_186 ⟨⟨rfl, rfl⟩, cn_X8_soulIs, ⟨(Nat.le_of_ble_eq_true rfl), (Nat.le_of_ble_eq_true rfl)⟩⟩ (pr_blind _ _ _) (x_recv I 0 rfl rfl) (pr_of I [0, 1] rfl) rfl rfl (Nat.le_of_ble_eq_true rfl) ⟨Nat.le_of_ble_eq_true rfl, Nat.le_of_ble_eq_true rfl⟩ dX8_handsBy_14) (fun r2 hw => ?_)
  refine x_iadd C dX8_handsBy_17 ?_
  refine x_mmin C hl wd_1057 (Nat.le_of_ble_eq_true rfl) (Nat.le_of_ble_eq_true rfl) (Nat.le_of_ble_eq_true rfl) (Nat.le_of_ble_eq_true rfl) wd_374 wd_80 wd_375 dX8_handsBy_18 ?_
  refine lv_topi (fun v3 ev3 => ?_)
  have hw := hw v3 ev3
  refine x_istore C hl [(4, .int v3), (3, .int v1), (0, .ref a_M), (1, .int x1), (2, .int x2)] dX8_handsBy_21 (Nat.le_of_ble_eq_true rfl) rfl (fun ls hl => ?_)
  refine x_aload_n C hl 2 dX8_handsBy_23 rfl ?_
  refine x_iload_n C hl 3 dX8_handsBy_24 rfl ?_
  refine x_iconst C dX8_handsBy_25 ic_0 ?_
  refine x_ro (run_V (As := [.int x1, .int (0 : Int32)]) (rest := []) C hl (wk_X8_soulIs l G a_M a_M_now a_M_kept a_M_aside a_M_errors a_M_meetsFound a_M_deedsFound a_M_ahead a_M_NAMED a_M_code a_M_named a_M_pile a_M_often a_M_trace a_M_widths a_M_sizes a_M_numbers a_M_carried M_images M_at M_open M_use M_isWrong M_coded M_traced M_kind M_number M_told M_now x1 (0 : Int32) _ hw) gm_X8_186 ⟨⟨rfl, rfl⟩, cn_X8_soulIs, ⟨(Nat.le_of_ble_eq_true rfl), (Nat.le_of_ble_eq_true rfl)⟩⟩ (pr_blind _ _ _) (x_recv I 0 rfl rfl) (pr_of I [0, 1] rfl) rfl rfl (Nat.le_of_ble_eq_true rfl) ⟨Nat.le_of_ble_eq_true rfl, Nat.le_of_ble_eq_true rfl⟩ dX8_handsBy_26) (fun r4 hw => ?_)
  by_cases c5 : r4 = (2 : Int32)
  · have hw := (And.left (hw)) c5
    refine x_table C (2 : Int32) 64 dX8_handsBy_29 c5 (by decide) (by decide) rfl (by decide) ?_
    refine x_iload_n C hl 1 dX8_handsBy_64 rfl ?_
    refine x_iconst C dX8_handsBy_65 ic_2 ?_
    refine x_idiv C nz_2 dX8_handsBy_66 ?_
    refine x_iconst C dX8_handsBy_67 ic_0 ?_
    refine x_bipush C dX8_handsBy_68 bp_99 ?_
    refine x_ro (run_S (As := [.int (v1 / (2 : Int32)), .int (0 : Int32), .int (99 : Int32)]) (rest := []) C hl (wk_X8_held l G (v1 / (2 : Int32)) (0 : Int32) (99 : Int32) _ hw) gm_X8_164 ⟨⟨rfl, rfl⟩, cn_X8_held, ⟨(Nat.le_of_ble_eq_true rfl), (Nat.le_of_ble_eq_true rfl)⟩⟩ (pr_blind _ _ _) (pr_of I [] rfl) rfl rfl (Nat.le_of_ble_eq_true rfl) ⟨Nat.le_of_ble_eq_true rfl, Nat.le_of_ble_eq_true rfl⟩ dX8_handsBy_70) (fun r6 hw => ?_)
    exact x_ret0 C hw dX8_handsBy_73
  by_cases c7 : r4 = (3 : Int32)
  · have hw := (And.left (And.right (hw))) c7
    refine x_table C (3 : Int32) 76 dX8_handsBy_29 c7 (by decide) (by decide) rfl (by decide) ?_
    refine x_iload C hl 0 dX8_handsBy_76 rfl ?_
    refine x_iconst C dX8_handsBy_78 ic_0 ?_
    refine x_bipush C dX8_handsBy_79 bp_99 ?_
    refine x_ro (run_S (As := [.int v3, .int (0 : Int32), .int (99 : Int32)]) (rest := []) C hl (wk_X8_held l G v3 (0 : Int32) (99 : Int32) _ hw) gm_X8_164 ⟨⟨rfl, rfl⟩, cn_X8_held, ⟨(Nat.le_of_ble_eq_true rfl), (Nat.le_of_ble_eq_true rfl)⟩⟩ (pr_blind _ _ _) (pr_of I [] rfl) rfl rfl (Nat.le_of_ble_eq_true rfl) ⟨Nat.le_of_ble_eq_true rfl, Nat.le_of_ble_eq_true rfl⟩ dX8_handsBy_81) (fun r8 hw => ?_)
    exact x_ret0 C hw dX8_handsBy_84
  by_cases c9 : r4 = (4 : Int32)
  · have hw := (And.left (And.right (And.right (hw)))) c9
    refine x_table C (4 : Int32) 96 dX8_handsBy_29 c9 (by decide) (by decide) rfl (by decide) ?_
    refine x_iload_n C hl 1 dX8_handsBy_96 rfl ?_
    refine x_iconst C dX8_handsBy_97 ic_0 ?_
    refine x_bipush C dX8_handsBy_98 bp_99 ?_
    refine x_ro (run_S (As := [.int v1, .int (0 : Int32), .int (99 : Int32)]) (rest := []) C hl (wk_X8_held l G v1 (0 : Int32) (99 : Int32) _ hw) gm_X8_164 ⟨⟨rfl, rfl⟩, cn_X8_held, ⟨(Nat.le_of_ble_eq_true rfl), (Nat.le_of_ble_eq_true rfl)⟩⟩ (pr_blind _ _ _) (pr_of I [] rfl) rfl rfl (Nat.le_of_ble_eq_true rfl) ⟨Nat.le_of_ble_eq_true rfl, Nat.le_of_ble_eq_true rfl⟩ dX8_handsBy_100) (fun r10 hw => ?_)
    exact x_ret0 C hw dX8_handsBy_103
  by_cases c11 : r4 = (5 : Int32)
  · have hw := (And.left (And.right (And.right (And.right (hw))))) c11
    refine x_table C (5 : Int32) 74 dX8_handsBy_29 c11 (by decide) (by decide) rfl (by decide) ?_
    refine x_iconst C dX8_handsBy_74 ic_0 ?_
    exact x_ret0 C hw dX8_handsBy_75
  by_cases c12 : r4 = (6 : Int32)
  · have hw := (And.left (And.right (And.right (And.right (And.right (hw)))))) c12
    refine x_table C (6 : Int32) 85 dX8_handsBy_29 c12 (by decide) (by decide) rfl (by decide) ?_
    refine x_iload C hl 0 dX8_handsBy_85 rfl ?_
    refine x_iconst C dX8_handsBy_87 ic_1 ?_
    refine x_iadd C dX8_handsBy_88 ?_
    refine x_iconst C dX8_handsBy_89 ic_0 ?_
    refine x_bipush C dX8_handsBy_90 bp_99 ?_
    refine x_ro (run_S (As := [.int (v3 + (1 : Int32)), .int (0 : Int32), .int (99 : Int32)]) (rest := []) C hl (wk_X8_held l G (v3 + (1 : Int32)) (0 : Int32) (99 : Int32) _ hw) gm_X8_164 ⟨⟨rfl, rfl⟩, cn_X8_held, ⟨(Nat.le_of_ble_eq_true rfl), (Nat.le_of_ble_eq_true rfl)⟩⟩ (pr_blind _ _ _) (pr_of I [] rfl) rfl rfl (Nat.le_of_ble_eq_true rfl) ⟨Nat.le_of_ble_eq_true rfl, Nat.le_of_ble_eq_true rfl⟩ dX8_handsBy_92) (fun r13 hw => ?_)
    exact x_ret0 C hw dX8_handsBy_95
  have hw := (And.right (And.right (And.right (And.right (And.right (hw)))))) c5 c7 c9 c11 c12
  refine x_tableO C 96 dX8_handsBy_29 (tb_out (lo := 2) (n := 5) ⟨c5, c7, c9, c11, c12, trivial⟩) (by decide) ?_
  refine x_iload_n C hl 1 dX8_handsBy_96 rfl ?_
  refine x_iconst C dX8_handsBy_97 ic_0 ?_
  refine x_bipush C dX8_handsBy_98 bp_99 ?_
  refine x_ro (run_S (As := [.int v1, .int (0 : Int32), .int (99 : Int32)]) (rest := []) C hl (wk_X8_held l G v1 (0 : Int32) (99 : Int32) _ hw) gm_X8_164 ⟨⟨rfl, rfl⟩, cn_X8_held, ⟨(Nat.le_of_ble_eq_true rfl), (Nat.le_of_ble_eq_true rfl)⟩⟩ (pr_blind _ _ _) (pr_of I [] rfl) rfl rfl (Nat.le_of_ble_eq_true rfl) ⟨Nat.le_of_ble_eq_true rfl, Nat.le_of_ble_eq_true rfl⟩ dX8_handsBy_100) (fun r14 hw => ?_)
  exact x_ret0 C hw dX8_handsBy_103
/-! X8_runsNow -/
abbrev rm_X8_runsNow : Room := { frames := 2, cells := 0, slots := 0, locals := 43 }
abbrev cs_X8_runsNow (G : Gt) (a_M : Nat) (a_M_now : Nat) (a_M_kept : Nat) (a_M_aside : Nat) (a_M_errors : Nat) (a_M_meetsFound : Nat) (a_M_deedsFound : Nat) (a_M_ahead : Nat) (a_M_NAMED : Nat) (a_M_code : Nat) (a_M_named : Nat) (a_M_pile : Nat) (a_M_often : Nat) (a_M_trace : Nat) (a_M_widths : Nat) (a_M_sizes : Nat) (a_M_numbers : Nat) (a_M_carried : Nat) (M_images : Int32) (M_at : Int32) (M_open : Int32) (M_use : Int32) (M_isWrong : Int32) (M_coded : Int32) (M_traced : Int32) (M_kind : Int32) (M_number : Int32) (M_told : Int32) (M_now : Nat → Int32) : va_W := [(a_M, .inr (8, [.ref a_M_now, .ref a_M_kept, .ref a_M_aside, .int M_images, .ref a_M_errors, .ref a_M_meetsFound, .ref a_M_deedsFound, .ref a_M_ahead, .ref a_M_NAMED, .int M_at, .int M_open, .int M_use, .int M_isWrong, .ref a_M_code, .int M_coded, .ref a_M_named, .ref a_M_pile, .ref a_M_often, .ref a_M_trace, .int M_traced, .int M_kind, .int M_number, .int M_told, .ref a_M_widths, .ref a_M_sizes, .ref a_M_numbers, .ref a_M_carried])), (a_M_now, .inl (cI G, 228, .inl M_now))]
def wp_X8_runsNow (x1 : Int32) (M_now : Nat → Int32) (Q : Int32 → Prop) : Prop := (wp_X8_soulIs x1 (0 : Int32) M_now (fun r1 => ((r1 = (2 : Int32) → (Q (2 : Int32))) ∧ (r1 = (3 : Int32) → (wp_X8_soulIs x1 (1 : Int32) M_now (fun r4 => (Q ((1 : Int32) + (jrem r4 (2 : Int32))))))) ∧ (r1 = (4 : Int32) → (Q (1 : Int32))) ∧ (r1 = (5 : Int32) → (Q (3 : Int32))) ∧ (r1 = (6 : Int32) → (Q (0 : Int32))) ∧ (¬ r1 = (2 : Int32) → ¬ r1 = (3 : Int32) → ¬ r1 = (4 : Int32) → ¬ r1 = (5 : Int32) → ¬ r1 = (6 : Int32) → (Q (1 : Int32))))))
set_option maxHeartbeats 4000000 in
set_option maxRecDepth 100000 in
theorem wk_X8_runsNow (l : Launch) (G : Gt) (a_M : Nat) (a_M_now : Nat) (a_M_kept : Nat) (a_M_aside : Nat) (a_M_errors : Nat) (a_M_meetsFound : Nat) (a_M_deedsFound : Nat) (a_M_ahead : Nat) (a_M_NAMED : Nat) (a_M_code : Nat) (a_M_named : Nat) (a_M_pile : Nat) (a_M_often : Nat) (a_M_trace : Nat) (a_M_widths : Nat) (a_M_sizes : Nat) (a_M_numbers : Nat) (a_M_carried : Nat) (M_images : Int32) (M_at : Int32) (M_open : Int32) (M_use : Int32) (M_isWrong : Int32) (M_coded : Int32) (M_traced : Int32) (M_kind : Int32) (M_number : Int32) (M_told : Int32) (M_now : Nat → Int32) (x1 : Int32) (Q : Int32 → Prop) (hw : wp_X8_runsNow x1 M_now Q) : Met l yX8_runsNow (wc yX8_runsNow cX8_runsNow 2 (some .int)) rm_X8_runsNow (va_Pc [.ref a_M, .int x1] (PR G (cs_X8_runsNow G a_M a_M_now a_M_kept a_M_aside a_M_errors a_M_meetsFound a_M_deedsFound a_M_ahead a_M_NAMED a_M_code a_M_named a_M_pile a_M_often a_M_trace a_M_widths a_M_sizes a_M_numbers a_M_carried M_images M_at M_open M_use M_isWrong M_coded M_traced M_kind M_number M_told M_now))) (vp_Si Q) 0 0 (fun _ => False) := by
  refine x_start pn_X8 (Nat.le_of_ble_eq_true rfl) (fun p e s m below meth c ls C hn hl hB => ?_)
  have I := rd_start hB
  have C : Cx p s m [.ref a_M, .int x1].toArray meth c cX8_runsNow 2 RX8 (some .int) := C
  have hl : lv_has ls 2 [(0, .ref a_M), (1, .int x1)] := hl
  refine x_aload_n C hl 0 dX8_runsNow_0 rfl ?_
  refine x_iload_n C hl 1 dX8_runsNow_1 rfl ?_
  refine x_iconst C dX8_runsNow_2 ic_0 ?_
  refine x_ro (run_V (As := [.int x1, .int (0 : Int32)]) (rest := []) C hl (wk_X8_soulIs l G a_M a_M_now a_M_kept a_M_aside a_M_errors a_M_meetsFound a_M_deedsFound a_M_ahead a_M_NAMED a_M_code a_M_named a_M_pile a_M_often a_M_trace a_M_widths a_M_sizes a_M_numbers a_M_carried M_images M_at M_open M_use M_isWrong M_coded M_traced M_kind M_number M_told M_now x1 (0 : Int32) _ hw) gm_X8_186 ⟨⟨rfl, rfl⟩, cn_X8_soulIs, ⟨(Nat.le_of_ble_eq_true rfl), (Nat.le_of_ble_eq_true rfl)⟩⟩ (pr_blind _ _ _) (x_recv I 0 rfl rfl) (pr_of I [0, 1] rfl) rfl rfl (Nat.le_of_ble_eq_true rfl) ⟨Nat.le_of_ble_eq_true rfl, Nat.le_of_ble_eq_true rfl⟩ dX8_runsNow_3) (fun r1 hw => ?_)
  by_cases c2 : r1 = (2 : Int32)
  · have hw := (And.left (hw)) c2
    refine x_table C (2 : Int32) 40 dX8_runsNow_6 c2 (by decide) (by decide) rfl (by decide) ?_
    refine x_iconst C dX8_runsNow_40 ic_2 ?_
    exact x_ret0 C hw dX8_runsNow_41
  by_cases c3 : r1 = (3 : Int32)
  · have hw := (And.left (And.right (hw))) c3
    refine x_table C (3 : Int32) 44 dX8_runsNow_6 c3 (by decide) (by decide) rfl (by decide) ?_
    refine x_iconst C dX8_runsNow_44 ic_1 ?_
    refine x_aload_n C hl 0 dX8_runsNow_45 rfl ?_
    refine x_iload_n C hl 1 dX8_runsNow_46 rfl ?_
    refine x_iconst C dX8_runsNow_47 ic_1 ?_
    refine x_ro (run_V (As := [.int x1, .int (1 : Int32)]) (rest := [.int (1 : Int32)]) C hl (wk_X8_soulIs l G a_M a_M_now a_M_kept a_M_aside a_M_errors a_M_meetsFound a_M_deedsFound a_M_ahead a_M_NAMED a_M_code a_M_named a_M_pile a_M_often a_M_trace a_M_widths a_M_sizes a_M_numbers a_M_carried M_images M_at M_open M_use M_isWrong M_coded M_traced M_kind M_number M_told M_now x1 (1 : Int32) _ hw) gm_X8_186 ⟨⟨rfl, rfl⟩, cn_X8_soulIs, ⟨(Nat.le_of_ble_eq_true rfl), (Nat.le_of_ble_eq_true rfl)⟩⟩ (pr_blind _ _ _) (x_recv I 0 rfl rfl) (pr_of I [0, 1] rfl) rfl rfl (Nat.le_of_ble_eq_true rfl) ⟨Nat.le_of_ble_eq_true rfl, Nat.le_of_ble_eq_true rfl⟩ dX8_runsNow_48) (fun r4 hw => ?_)
    refine x_iconst C dX8_runsNow_51 ic_2 ?_
    refine x_irem C nz_2 dX8_runsNow_52 ?_
    refine x_iadd C dX8_runsNow_53 ?_
    exact x_ret0 C hw dX8_runsNow_54
  by_cases c5 : r1 = (4 : Int32)
  · have hw := (And.left (And.right (And.right (hw)))) c5
    refine x_table C (4 : Int32) 57 dX8_runsNow_6 c5 (by decide) (by decide) rfl (by decide) ?_
    refine x_iconst C dX8_runsNow_57 ic_1 ?_
    exact x_ret0 C hw dX8_runsNow_58
  by_cases c6 : r1 = (5 : Int32)
  · have hw := (And.left (And.right (And.right (And.right (hw))))) c6
    refine x_table C (5 : Int32) 42 dX8_runsNow_6 c6 (by decide) (by decide) rfl (by decide) ?_
    refine x_iconst C dX8_runsNow_42 ic_3 ?_
    exact x_ret0 C hw dX8_runsNow_43
  by_cases c7 : r1 = (6 : Int32)
  · have hw := (And.left (And.right (And.right (And.right (And.right (hw)))))) c7
    refine x_table C (6 : Int32) 55 dX8_runsNow_6 c7 (by decide) (by decide) rfl (by decide) ?_
    refine x_iconst C dX8_runsNow_55 ic_0 ?_
    exact x_ret0 C hw dX8_runsNow_56
  have hw := (And.right (And.right (And.right (And.right (And.right (hw)))))) c2 c3 c5 c6 c7
  refine x_tableO C 57 dX8_runsNow_6 (tb_out (lo := 2) (n := 5) ⟨c2, c3, c5, c6, c7, trivial⟩) (by decide) ?_
  refine x_iconst C dX8_runsNow_57 ic_1 ?_
  exact x_ret0 C hw dX8_runsNow_58
/-! X8_ofSoul -/
abbrev rm_X8_ofSoul : Room := { frames := 3, cells := 0, slots := 0, locals := 67 }
abbrev cs_X8_ofSoul (G : Gt) (a_M : Nat) (a_M_now : Nat) (a_M_kept : Nat) (a_M_aside : Nat) (a_M_errors : Nat) (a_M_meetsFound : Nat) (a_M_deedsFound : Nat) (a_M_ahead : Nat) (a_M_NAMED : Nat) (a_M_code : Nat) (a_M_named : Nat) (a_M_pile : Nat) (a_M_often : Nat) (a_M_trace : Nat) (a_M_widths : Nat) (a_M_sizes : Nat) (a_M_numbers : Nat) (a_M_carried : Nat) (M_images : Int32) (M_at : Int32) (M_open : Int32) (M_use : Int32) (M_isWrong : Int32) (M_coded : Int32) (M_traced : Int32) (M_kind : Int32) (M_number : Int32) (M_told : Int32) (M_now : Nat → Int32) (M_errors : Nat → Int32) : va_W := [(a_M, .inr (8, [.ref a_M_now, .ref a_M_kept, .ref a_M_aside, .int M_images, .ref a_M_errors, .ref a_M_meetsFound, .ref a_M_deedsFound, .ref a_M_ahead, .ref a_M_NAMED, .int M_at, .int M_open, .int M_use, .int M_isWrong, .ref a_M_code, .int M_coded, .ref a_M_named, .ref a_M_pile, .ref a_M_often, .ref a_M_trace, .int M_traced, .int M_kind, .int M_number, .int M_told, .ref a_M_widths, .ref a_M_sizes, .ref a_M_numbers, .ref a_M_carried])), (a_M_now, .inl (cI G, 228, .inl M_now)), (a_M_errors, .inl (cI G, 6, .inl M_errors))]
abbrev qc_X8_ofSoul (G : Gt) (a_M : Nat) (a_M_now : Nat) (a_M_kept : Nat) (a_M_aside : Nat) (a_M_errors : Nat) (a_M_meetsFound : Nat) (a_M_deedsFound : Nat) (a_M_ahead : Nat) (a_M_NAMED : Nat) (a_M_code : Nat) (a_M_named : Nat) (a_M_pile : Nat) (a_M_often : Nat) (a_M_trace : Nat) (a_M_widths : Nat) (a_M_sizes : Nat) (a_M_numbers : Nat) (a_M_carried : Nat) (M_images : Int32) (M_at : Int32) (M_open : Int32) (M_use : Int32) (M_isWrong : Int32) (M_coded : Int32) (M_traced : Int32) (M_kind : Int32) (M_number : Int32) (M_told : Int32) (M_now : Nat → Int32) (A : Nat → Prop) (Q : Int32 → (Nat → Int32) → Prop) : Array Value → State → Outcome → State → Prop := Qi1 G A (fun r (u : (Nat → Int32)) => Q r u) (fun u => cs_X8_ofSoul G a_M a_M_now a_M_kept a_M_aside a_M_errors a_M_meetsFound a_M_deedsFound a_M_ahead a_M_NAMED a_M_code a_M_named a_M_pile a_M_often a_M_trace a_M_widths a_M_sizes a_M_numbers a_M_carried M_images M_at M_open M_use M_isWrong M_coded M_traced M_kind M_number M_told M_now u)
def lb_X8_ofSoul_18 (x1 : Int32) (x2 : Int32) (M_now : Nat → Int32) (Q : Int32 → (Nat → Int32) → Prop) (w_M_errors : Nat → Int32) : Prop := (wp_X8_finding (-1000000001 : Int32) w_M_errors (fun r4 o3 => (Q r4 o3)))
set_option maxHeartbeats 4000000 in
set_option maxRecDepth 100000 in
theorem lk_X8_ofSoul_18 {p : Program} {l : Launch} {e : Env} {s : State} {m : MethodId} {args : Array Value} {below : List Frame} {meth : Method} {c : Code} {A : Nat → Prop} (G : Gt) (a_M : Nat) (a_M_now : Nat) (a_M_kept : Nat) (a_M_aside : Nat) (a_M_errors : Nat) (a_M_meetsFound : Nat) (a_M_deedsFound : Nat) (a_M_ahead : Nat) (a_M_NAMED : Nat) (a_M_code : Nat) (a_M_named : Nat) (a_M_pile : Nat) (a_M_often : Nat) (a_M_trace : Nat) (a_M_widths : Nat) (a_M_sizes : Nat) (a_M_numbers : Nat) (a_M_carried : Nat) (C : Cx p s m args meth c cX8_ofSoul 3 RX8 (some .int)) (x1 : Int32) (x2 : Int32) (M_now : Nat → Int32) (M_images : Int32) (M_at : Int32) (M_open : Int32) (M_use : Int32) (M_isWrong : Int32) (M_coded : Int32) (M_traced : Int32) (M_kind : Int32) (M_number : Int32) (M_told : Int32) (Q : Int32 → (Nat → Int32) → Prop) : ∀ (w_M_errors : Nat → Int32) (Hx : Heap) (lx : List Loc) (ls : Array Slot), lb_X8_ofSoul_18 x1 x2 M_now Q w_M_errors → Iv G A s (cs_X8_ofSoul G a_M a_M_now a_M_kept a_M_aside a_M_errors a_M_meetsFound a_M_deedsFound a_M_ahead a_M_NAMED a_M_code a_M_named a_M_pile a_M_often a_M_trace a_M_widths a_M_sizes a_M_numbers a_M_carried M_images M_at M_open M_use M_isWrong M_coded M_traced M_kind M_number M_told M_now w_M_errors) Hx lx → lv_has ls 3 [(0, .ref a_M)] → W p l e rm_X8_ofSoul s m args below meth c Hx lx 0 0 (MQ below (qc_X8_ofSoul G a_M a_M_now a_M_kept a_M_aside a_M_errors a_M_meetsFound a_M_deedsFound a_M_ahead a_M_NAMED a_M_code a_M_named a_M_pile a_M_often a_M_trace a_M_widths a_M_sizes a_M_numbers a_M_carried M_images M_at M_open M_use M_isWrong M_coded M_traced M_kind M_number M_told M_now A Q) args s 0 0 A) (F0 m 18 ls []) := by
  intro w_M_errors Hx lx  ls hw I hl
  refine x_aload_n C hl 0 dX8_ofSoul_18 rfl ?_
  refine x_ldc C wd_931 dX8_ofSoul_19 ?_
  refine x_mui (wk := cs_X8_finding G a_M a_M_now a_M_kept a_M_aside a_M_errors a_M_meetsFound a_M_deedsFound a_M_ahead a_M_NAMED a_M_code a_M_named a_M_pile a_M_often a_M_trace a_M_widths a_M_sizes a_M_numbers a_M_carried M_images M_at M_open M_use M_isWrong M_coded M_traced M_kind M_number M_told w_M_errors) (wr := [(a_M_now, .inl (cI G, 228, .inl M_now))]) (isC := [0, 2]) (isR := [1]) I ⟨⟨rfl, rfl⟩, rfl, rfl, rfl⟩ [1, 0, 2] (fun u => cs_X8_ofSoul G a_M a_M_now a_M_kept a_M_aside a_M_errors a_M_meetsFound a_M_deedsFound a_M_ahead a_M_NAMED a_M_code a_M_named a_M_pile a_M_often a_M_trace a_M_widths a_M_sizes a_M_numbers a_M_carried M_images M_at M_open M_use M_isWrong M_coded M_traced M_kind M_number M_told M_now u) (fun _ => rfl) rfl (run_V (As := [.int (-1000000001 : Int32)]) (rest := []) C hl (wk_X8_finding l G a_M a_M_now a_M_kept a_M_aside a_M_errors a_M_meetsFound a_M_deedsFound a_M_ahead a_M_NAMED a_M_code a_M_named a_M_pile a_M_often a_M_trace a_M_widths a_M_sizes a_M_numbers a_M_carried Hx.size M_images M_at M_open M_use M_isWrong M_coded M_traced M_kind M_number M_told w_M_errors (-1000000001 : Int32) _ hw) gm_X8_87 ⟨⟨rfl, rfl⟩, cn_X8_finding, ⟨(Nat.le_of_ble_eq_true rfl), (Nat.le_of_ble_eq_true rfl)⟩⟩ (pb_blind _ _ _ _) (x_recv I.1 0 rfl rfl) (pb_of I [0, 2] rfl rfl) rfl rfl (Nat.le_of_ble_eq_true rfl) ⟨Nat.le_of_ble_eq_true rfl, Nat.le_of_ble_eq_true rfl⟩ dX8_ofSoul_21) (fun r4 u Hx lx hw I => ?_)
  obtain ⟨o3, eo3⟩ : ∃ z, z = u := ⟨_, rfl⟩
  subst eo3
  have I : Iv G A s (cs_X8_ofSoul G a_M a_M_now a_M_kept a_M_aside a_M_errors a_M_meetsFound a_M_deedsFound a_M_ahead a_M_NAMED a_M_code a_M_named a_M_pile a_M_often a_M_trace a_M_widths a_M_sizes a_M_numbers a_M_carried M_images M_at M_open M_use M_isWrong M_coded M_traced M_kind M_number M_told M_now o3) Hx lx := I
  exact x_ret1 C I o3 rfl hw dX8_ofSoul_24
def wp_X8_ofSoul (x1 : Int32) (x2 : Int32) (M_now : Nat → Int32) (M_errors : Nat → Int32) (Q : Int32 → (Nat → Int32) → Prop) : Prop := (wp_X8_isSoul x1 M_now (fun r1 => ((r1 = (0) → (lb_X8_ofSoul_18 x1 x2 M_now Q M_errors)) ∧ (¬ r1 = (0) → (wp_X8_within x2 (0 : Int32) (8 : Int32) (fun r5 => ((¬ r5 = (0) → (((6 : Int32) ≤ x2 → ((¬ x2 = (6 : Int32) → ((¬ x2 = (7 : Int32) → (wp_X8_runsNow x1 M_now (fun r10 => (Q r10 M_errors)))) ∧ (x2 = (7 : Int32) → (wp_X8_soulIs x1 (3 : Int32) M_now (fun r11 => (wp_X8_handsBy x1 r11 M_now (fun r12 => (Q r12 M_errors)))))))) ∧ (x2 = (6 : Int32) → (wp_X8_keepsNow x1 M_now (fun r13 => (Q r13 M_errors)))))) ∧ (¬ (6 : Int32) ≤ x2 → (wp_X8_soulIs x1 x2 M_now (fun r14 => (Q r14 M_errors)))))) ∧ (r5 = (0) → (lb_X8_ofSoul_18 x1 x2 M_now Q M_errors)))))))))
set_option maxHeartbeats 4000000 in
set_option maxRecDepth 100000 in
theorem wk_X8_ofSoul (l : Launch) (G : Gt) (a_M : Nat) (a_M_now : Nat) (a_M_kept : Nat) (a_M_aside : Nat) (a_M_errors : Nat) (a_M_meetsFound : Nat) (a_M_deedsFound : Nat) (a_M_ahead : Nat) (a_M_NAMED : Nat) (a_M_code : Nat) (a_M_named : Nat) (a_M_pile : Nat) (a_M_often : Nat) (a_M_trace : Nat) (a_M_widths : Nat) (a_M_sizes : Nat) (a_M_numbers : Nat) (a_M_carried : Nat) (sz : Nat) (M_images : Int32) (M_at : Int32) (M_open : Int32) (M_use : Int32) (M_isWrong : Int32) (M_coded : Int32) (M_traced : Int32) (M_kind : Int32) (M_number : Int32) (M_told : Int32) (M_now : Nat → Int32) (M_errors : Nat → Int32) (x1 : Int32) (x2 : Int32) (Q : Int32 → (Nat → Int32) → Prop) (hw : wp_X8_ofSoul x1 x2 M_now M_errors Q) : Met l yX8_ofSoul (wc yX8_ofSoul cX8_ofSoul 3 (some .int)) rm_X8_ofSoul (va_Pc [.ref a_M, .int x1, .int x2] (PB G (cs_X8_ofSoul G a_M a_M_now a_M_kept a_M_aside a_M_errors a_M_meetsFound a_M_deedsFound a_M_ahead a_M_NAMED a_M_code a_M_named a_M_pile a_M_often a_M_trace a_M_widths a_M_sizes a_M_numbers a_M_carried M_images M_at M_open M_use M_isWrong M_coded M_traced M_kind M_number M_told M_now M_errors) sz)) (qc_X8_ofSoul G a_M a_M_now a_M_kept a_M_aside a_M_errors a_M_meetsFound a_M_deedsFound a_M_ahead a_M_NAMED a_M_code a_M_named a_M_pile a_M_often a_M_trace a_M_widths a_M_sizes a_M_numbers a_M_carried M_images M_at M_open M_use M_isWrong M_coded M_traced M_kind M_number M_told M_now (va_A (cs_X8_ofSoul G a_M a_M_now a_M_kept a_M_aside a_M_errors a_M_meetsFound a_M_deedsFound a_M_ahead a_M_NAMED a_M_code a_M_named a_M_pile a_M_often a_M_trace a_M_widths a_M_sizes a_M_numbers a_M_carried M_images M_at M_open M_use M_isWrong M_coded M_traced M_kind M_number M_told M_now M_errors) sz) Q) 0 0 (va_A (cs_X8_ofSoul G a_M a_M_now a_M_kept a_M_aside a_M_errors a_M_meetsFound a_M_deedsFound a_M_ahead a_M_NAMED a_M_code a_M_named a_M_pile a_M_often a_M_trace a_M_widths a_M_sizes a_M_numbers a_M_carried M_images M_at M_open M_use M_isWrong M_coded M_traced M_kind M_number M_told M_now M_errors) sz) := by
  refine x_start pn_X8 (Nat.le_of_ble_eq_true rfl) (fun p e s m below meth c ls C hn hl hB => ?_)
  have I := iv_start hB
  generalize va_A (cs_X8_ofSoul G a_M a_M_now a_M_kept a_M_aside a_M_errors a_M_meetsFound a_M_deedsFound a_M_ahead a_M_NAMED a_M_code a_M_named a_M_pile a_M_often a_M_trace a_M_widths a_M_sizes a_M_numbers a_M_carried M_images M_at M_open M_use M_isWrong M_coded M_traced M_kind M_number M_told M_now M_errors) sz = A at I ⊢
  have C : Cx p s m [.ref a_M, .int x1, .int x2].toArray meth c cX8_ofSoul 3 RX8 (some .int) := C
  have hl : lv_has ls 3 [(0, .ref a_M), (1, .int x1), (2, .int x2)] := hl
  refine x_aload_n C hl 0 dX8_ofSoul_0 rfl ?_
  refine x_iload_n C hl 1 dX8_ofSoul_1 rfl ?_
  refine x_ro (run_V (As := [.int x1]) (rest := []) C hl (wk_X8_isSoul l G a_M a_M_now a_M_kept a_M_aside a_M_errors a_M_meetsFound a_M_deedsFound a_M_ahead a_M_NAMED a_M_code a_M_named a_M_pile a_M_often a_M_trace a_M_widths a_M_sizes a_M_numbers a_M_carried M_images M_at M_open M_use M_isWrong M_coded M_traced M_kind M_number M_told M_now x1 _ hw) gm_X8_193 ⟨⟨rfl, rfl⟩, cn_X8_isSoul, ⟨(Nat.le_of_ble_eq_true rfl), (Nat.le_of_ble_eq_true rfl)⟩⟩ (pr_blind _ _ _) (x_recv I.1 0 rfl rfl) (pr_of I.1 [0, 1] rfl) rfl rfl (Nat.le_of_ble_eq_true rfl) ⟨Nat.le_of_ble_eq_true rfl, Nat.le_of_ble_eq_true rfl⟩ dX8_ofSoul_2) (fun r1 hw => ?_)
  refine x_if_eq C 18 dX8_ofSoul_5 (by decide) (fun c2 => ?_) (fun c2 => ?_)
  · have hw := And.left hw c2
    exact lk_X8_ofSoul_18 G a_M a_M_now a_M_kept a_M_aside a_M_errors a_M_meetsFound a_M_deedsFound a_M_ahead a_M_NAMED a_M_code a_M_named a_M_pile a_M_often a_M_trace a_M_widths a_M_sizes a_M_numbers a_M_carried C x1 x2 M_now M_images M_at M_open M_use M_isWrong M_coded M_traced M_kind M_number M_told Q M_errors s.heap [] ls hw I (lv_sub hl [0] rfl)
  · have hw := And.right hw c2
    refine x_iload_n C hl 2 dX8_ofSoul_8 rfl ?_
    refine x_iconst C dX8_ofSoul_9 ic_0 ?_
    refine x_bipush C dX8_ofSoul_10 bp_8 ?_
    refine x_ro (run_S (As := [.int x2, .int (0 : Int32), .int (8 : Int32)]) (rest := []) C hl (wk_X8_within l G x2 (0 : Int32) (8 : Int32) _ hw) gm_X8_82 ⟨⟨rfl, rfl⟩, cn_X8_within, ⟨(Nat.le_of_ble_eq_true rfl), (Nat.le_of_ble_eq_true rfl)⟩⟩ (pr_blind _ _ _) (pr_of I.1 [] rfl) rfl rfl (Nat.le_of_ble_eq_true rfl) ⟨Nat.le_of_ble_eq_true rfl, Nat.le_of_ble_eq_true rfl⟩ dX8_ofSoul_12) (fun r5 hw => ?_)
    refine x_if_ne C 25 dX8_ofSoul_15 (by decide) (fun c6 => ?_) (fun c6 => ?_)
    · have hw := And.left hw c6
      refine x_iload_n C hl 2 dX8_ofSoul_25 rfl ?_
      refine x_bipush C dX8_ofSoul_26 bp_6 ?_
      refine x_icmp_ge C 40 dX8_ofSoul_28 (by decide) (fun c7 => ?_) (fun c7 => ?_)
      · have hw := And.left hw c7
        refine x_iload_n C hl 2 dX8_ofSoul_40 rfl ?_
        refine x_bipush C dX8_ofSoul_41 bp_6 ?_
        refine x_icmp_ne C 54 dX8_ofSoul_43 (by decide) (fun c8 => ?_) (fun c8 => ?_)
        · have hw := And.left hw c8
          refine x_iload_n C hl 2 dX8_ofSoul_54 rfl ?_
          refine x_bipush C dX8_ofSoul_55 bp_7 ?_
          refine x_icmp_ne C 74 dX8_ofSoul_57 (by decide) (fun c9 => ?_) (fun c9 => ?_)
          · have hw := And.left hw c9
            refine x_aload_n C hl 0 dX8_ofSoul_74 rfl ?_
            refine x_iload_n C hl 1 dX8_ofSoul_75 rfl ?_
            refine x_ro (run_V (As := [.int x1]) (rest := []) C hl (wk_X8_runsNow l G a_M a_M_now a_M_kept a_M_aside a_M_errors a_M_meetsFound a_M_deedsFound a_M_ahead a_M_NAMED a_M_code a_M_named a_M_pile a_M_often a_M_trace a_M_widths a_M_sizes a_M_numbers a_M_carried M_images M_at M_open M_use M_isWrong M_coded M_traced M_kind M_number M_told M_now x1 _ hw) gm_X8_202 ⟨⟨rfl, rfl⟩, cn_X8_runsNow, ⟨(Nat.le_of_ble_eq_true rfl), (Nat.le_of_ble_eq_true rfl)⟩⟩ (pr_blind _ _ _) (x_recv I.1 0 rfl rfl) (pr_of I.1 [0, 1] rfl) rfl rfl (Nat.le_of_ble_eq_true rfl) ⟨Nat.le_of_ble_eq_true rfl, Nat.le_of_ble_eq_true rfl⟩ dX8_ofSoul_76) (fun r10 hw => ?_)
            exact x_ret1 C I M_errors rfl hw dX8_ofSoul_79
          · have hw := And.right hw c9
            refine x_aload_n C hl 0 dX8_ofSoul_60 rfl ?_
            refine x_iload_n C hl 1 dX8_ofSoul_61 rfl ?_
            refine x_aload_n C hl 0 dX8_ofSoul_62 rfl ?_
            refine x_iload_n C hl 1 dX8_ofSoul_63 rfl ?_
            refine x_iconst C dX8_ofSoul_64 ic_3 ?_
            refine x_ro (run_V (As := [.int x1, .int (3 : Int32)]) (rest := [.int x1, .ref a_M]) C hl (wk_X8_soulIs l G a_M a_M_now a_M_kept a_M_aside a_M_errors a_M_meetsFound a_M_deedsFound a_M_ahead a_M_NAMED a_M_code a_M_named a_M_pile a_M_often a_M_trace a_M_widths a_M_sizes a_M_numbers a_M_carried M_images M_at M_open M_use M_isWrong M_coded M_traced M_kind M_number M_told M_now x1 (3 : Int32) _ hw) gm_X8_186 ⟨⟨rfl, rfl⟩, cn_X8_soulIs, ⟨(Nat.le_of_ble_eq_true rfl), (Nat.le_of_ble_eq_true rfl)⟩⟩ (pr_blind _ _ _) (x_recv I.1 0 rfl rfl) (pr_of I.1 [0, 1] rfl) rfl rfl (Nat.le_of_ble_eq_true rfl) ⟨Nat.le_of_ble_eq_true rfl, Nat.le_of_ble_eq_true rfl⟩ dX8_ofSoul_65) (fun r11 hw => ?_)
            refine x_ro (run_V (As := [.int x1, .int r11]) (rest := []) C hl (wk_X8_handsBy l G a_M a_M_now a_M_kept a_M_aside a_M_errors a_M_meetsFound a_M_deedsFound a_M_ahead a_M_NAMED a_M_code a_M_named a_M_pile a_M_often a_M_trace a_M_widths a_M_sizes a_M_numbers a_M_carried M_images M_at M_open M_use M_isWrong M_coded M_traced M_kind M_number M_told M_now x1 r11 _ hw) gm_X8_199 ⟨⟨rfl, rfl⟩, cn_X8_handsBy, ⟨(Nat.le_of_ble_eq_true rfl), (Nat.le_of_ble_eq_true rfl)⟩⟩ (pr_blind _ _ _) (x_recv I.1 0 rfl rfl) (pr_of I.1 [0, 1] rfl) rfl rfl (Nat.le_of_ble_eq_true rfl) ⟨Nat.le_of_ble_eq_true rfl, Nat.le_of_ble_eq_true rfl⟩ dX8_ofSoul_68) (fun r12 hw => ?_)
            refine x_goto C 79 dX8_ofSoul_71 (by decide) ?_
            exact x_ret1 C I M_errors rfl hw dX8_ofSoul_79
        · have hw := And.right hw c8
          refine x_aload_n C hl 0 dX8_ofSoul_46 rfl ?_
          refine x_iload_n C hl 1 dX8_ofSoul_47 rfl ?_
          refine x_ro (run_V (As := [.int x1]) (rest := []) C hl (wk_X8_keepsNow l G a_M a_M_now a_M_kept a_M_aside a_M_errors a_M_meetsFound a_M_deedsFound a_M_ahead a_M_NAMED a_M_code a_M_named a_M_pile a_M_often a_M_trace a_M_widths a_M_sizes a_M_numbers a_M_carried M_images M_at M_open M_use M_isWrong M_coded M_traced M_kind M_number M_told M_now x1 _ hw) gm_X8_196 ⟨⟨rfl, rfl⟩, cn_X8_keepsNow, ⟨(Nat.le_of_ble_eq_true rfl), (Nat.le_of_ble_eq_true rfl)⟩⟩ (pr_blind _ _ _) (x_recv I.1 0 rfl rfl) (pr_of I.1 [0, 1] rfl) rfl rfl (Nat.le_of_ble_eq_true rfl) ⟨Nat.le_of_ble_eq_true rfl, Nat.le_of_ble_eq_true rfl⟩ dX8_ofSoul_48) (fun r13 hw => ?_)
          refine x_goto C 79 dX8_ofSoul_51 (by decide) ?_
          exact x_ret1 C I M_errors rfl hw dX8_ofSoul_79
      · have hw := And.right hw c7
        refine x_aload_n C hl 0 dX8_ofSoul_31 rfl ?_
        refine x_iload_n C hl 1 dX8_ofSoul_32 rfl ?_
        refine x_iload_n C hl 2 dX8_ofSoul_33 rfl ?_
        refine x_ro (run_V (As := [.int x1, .int x2]) (rest := []) C hl (wk_X8_soulIs l G a_M a_M_now a_M_kept a_M_aside a_M_errors a_M_meetsFound a_M_deedsFound a_M_ahead a_M_NAMED a_M_code a_M_named a_M_pile a_M_often a_M_trace a_M_widths a_M_sizes a_M_numbers a_M_carried M_images M_at M_open M_use M_isWrong M_coded M_traced M_kind M_number M_told M_now x1 x2 _ hw) gm_X8_186 ⟨⟨rfl, rfl⟩, cn_X8_soulIs, ⟨(Nat.le_of_ble_eq_true rfl), (Nat.le_of_ble_eq_true rfl)⟩⟩ (pr_blind _ _ _) (x_recv I.1 0 rfl rfl) (pr_of I.1 [0, 1] rfl) rfl rfl (Nat.le_of_ble_eq_true rfl) ⟨Nat.le_of_ble_eq_true rfl, Nat.le_of_ble_eq_true rfl⟩ dX8_ofSoul_34) (fun r14 hw => ?_)
        refine x_goto C 79 dX8_ofSoul_37 (by decide) ?_
        exact x_ret1 C I M_errors rfl hw dX8_ofSoul_79
    · have hw := And.right hw c6
      exact lk_X8_ofSoul_18 G a_M a_M_now a_M_kept a_M_aside a_M_errors a_M_meetsFound a_M_deedsFound a_M_ahead a_M_NAMED a_M_code a_M_named a_M_pile a_M_often a_M_trace a_M_widths a_M_sizes a_M_numbers a_M_carried C x1 x2 M_now M_images M_at M_open M_use M_isWrong M_coded M_traced M_kind M_number M_told Q M_errors s.heap [] ls hw I (lv_sub hl [0] rfl)
/-! X8_mayBe -/
abbrev rm_X8_mayBe : Room := { frames := 2, cells := 0, slots := 0, locals := 42 }
abbrev cs_X8_mayBe (G : Gt) : va_W := []
def wp_X8_mayBe (x0 : Int32) (x1 : Int32) (Q : Int32 → Prop) : Prop := ((¬ x0 = (0) → ((¬ x0 = (1 : Int32) → ((¬ x0 = (2 : Int32) → ((¬ x0 = (3 : Int32) → (Q (0 : Int32))) ∧ (x0 = (3 : Int32) → (wp_X8_within x1 (0 : Int32) (9999 : Int32) (fun r5 => ((r5 = (0) → (Q (0 : Int32))) ∧ (¬ r5 = (0) → (Q (1 : Int32))))))))) ∧ (x0 = (2 : Int32) → (wp_X8_within x1 (0 : Int32) (1 : Int32) (fun r7 => ((r7 &&& 1 = r7) ∧ (Q r7))))))) ∧ (x0 = (1 : Int32) → (wp_X8_within x1 (0 : Int32) (99 : Int32) (fun r8 => ((r8 &&& 1 = r8) ∧ (Q r8))))))) ∧ (x0 = (0) → (wp_X8_isStreet x1 (fun r9 => ((r9 &&& 1 = r9) ∧ (Q r9))))))
set_option maxHeartbeats 4000000 in
set_option maxRecDepth 100000 in
theorem wk_X8_mayBe (l : Launch) (G : Gt) (x0 : Int32) (x1 : Int32) (Q : Int32 → Prop) (hw : wp_X8_mayBe x0 x1 Q) : Met l yX8_mayBe (wc yX8_mayBe cX8_mayBe 2 (some .boolean)) rm_X8_mayBe (va_Pc [.int x0, .int x1] (PR G (cs_X8_mayBe G ))) (vp_Si Q) 0 0 (fun _ => False) := by
  refine x_start pn_X8 (Nat.le_of_ble_eq_true rfl) (fun p e s m below meth c ls C hn hl hB => ?_)
  have I := rd_start hB
  have C : Cx p s m [.int x0, .int x1].toArray meth c cX8_mayBe 2 RX8 (some .boolean) := C
  have hl : lv_has ls 2 [(0, .int x0), (1, .int x1)] := hl
  refine x_iload_n C hl 0 dX8_mayBe_0 rfl ?_
  refine x_if_ne C 11 dX8_mayBe_1 (by decide) (fun c1 => ?_) (fun c1 => ?_)
  · have hw := And.left hw c1
    refine x_iload_n C hl 0 dX8_mayBe_11 rfl ?_
    refine x_iconst C dX8_mayBe_12 ic_1 ?_
    refine x_icmp_ne C 26 dX8_mayBe_13 (by decide) (fun c2 => ?_) (fun c2 => ?_)
    · have hw := And.left hw c2
      refine x_iload_n C hl 0 dX8_mayBe_26 rfl ?_
      refine x_iconst C dX8_mayBe_27 ic_2 ?_
      refine x_icmp_ne C 40 dX8_mayBe_28 (by decide) (fun c3 => ?_) (fun c3 => ?_)
      · have hw := And.left hw c3
        refine x_iload_n C hl 0 dX8_mayBe_40 rfl ?_
        refine x_iconst C dX8_mayBe_41 ic_3 ?_
        refine x_icmp_ne C 60 dX8_mayBe_42 (by decide) (fun c4 => ?_) (fun c4 => ?_)
        · have hw := And.left hw c4
          refine x_iconst C dX8_mayBe_60 ic_0 ?_
          exact x_ret0z C bz_0 hw dX8_mayBe_61
        · have hw := And.right hw c4
          refine x_iload_n C hl 1 dX8_mayBe_45 rfl ?_
          refine x_iconst C dX8_mayBe_46 ic_0 ?_
          refine x_sipush C dX8_mayBe_47 sp_9999 ?_
          refine x_ro (run_S (As := [.int x1, .int (0 : Int32), .int (9999 : Int32)]) (rest := []) C hl (wk_X8_within l G x1 (0 : Int32) (9999 : Int32) _ hw) gm_X8_82 ⟨⟨rfl, rfl⟩, cn_X8_within, ⟨(Nat.le_of_ble_eq_true rfl), (Nat.le_of_ble_eq_true rfl)⟩⟩ (pr_blind _ _ _) (pr_of I [] rfl) rfl rfl (Nat.le_of_ble_eq_true rfl) ⟨Nat.le_of_ble_eq_true rfl, Nat.le_of_ble_eq_true rfl⟩ dX8_mayBe_50) (fun r5 hw => ?_)
          refine x_if_eq C 60 dX8_mayBe_53 (by decide) (fun c6 => ?_) (fun c6 => ?_)
          · have hw := And.left hw c6
            refine x_iconst C dX8_mayBe_60 ic_0 ?_
            exact x_ret0z C bz_0 hw dX8_mayBe_61
          · have hw := And.right hw c6
            refine x_iconst C dX8_mayBe_56 ic_1 ?_
            refine x_goto C 61 dX8_mayBe_57 (by decide) ?_
            exact x_ret0z C bz_1 hw dX8_mayBe_61
      · have hw := And.right hw c3
        refine x_iload_n C hl 1 dX8_mayBe_31 rfl ?_
        refine x_iconst C dX8_mayBe_32 ic_0 ?_
        refine x_iconst C dX8_mayBe_33 ic_1 ?_
        refine x_ro (run_S (As := [.int x1, .int (0 : Int32), .int (1 : Int32)]) (rest := []) C hl (wk_X8_within l G x1 (0 : Int32) (1 : Int32) _ hw) gm_X8_82 ⟨⟨rfl, rfl⟩, cn_X8_within, ⟨(Nat.le_of_ble_eq_true rfl), (Nat.le_of_ble_eq_true rfl)⟩⟩ (pr_blind _ _ _) (pr_of I [] rfl) rfl rfl (Nat.le_of_ble_eq_true rfl) ⟨Nat.le_of_ble_eq_true rfl, Nat.le_of_ble_eq_true rfl⟩ dX8_mayBe_34) (fun r7 hw => ?_)
        refine x_goto C 61 dX8_mayBe_37 (by decide) ?_
        exact x_ret0z C (And.left hw) (And.right hw) dX8_mayBe_61
    · have hw := And.right hw c2
      refine x_iload_n C hl 1 dX8_mayBe_16 rfl ?_
      refine x_iconst C dX8_mayBe_17 ic_0 ?_
      refine x_bipush C dX8_mayBe_18 bp_99 ?_
      refine x_ro (run_S (As := [.int x1, .int (0 : Int32), .int (99 : Int32)]) (rest := []) C hl (wk_X8_within l G x1 (0 : Int32) (99 : Int32) _ hw) gm_X8_82 ⟨⟨rfl, rfl⟩, cn_X8_within, ⟨(Nat.le_of_ble_eq_true rfl), (Nat.le_of_ble_eq_true rfl)⟩⟩ (pr_blind _ _ _) (pr_of I [] rfl) rfl rfl (Nat.le_of_ble_eq_true rfl) ⟨Nat.le_of_ble_eq_true rfl, Nat.le_of_ble_eq_true rfl⟩ dX8_mayBe_20) (fun r8 hw => ?_)
      refine x_goto C 61 dX8_mayBe_23 (by decide) ?_
      exact x_ret0z C (And.left hw) (And.right hw) dX8_mayBe_61
  · have hw := And.right hw c1
    refine x_iload_n C hl 1 dX8_mayBe_4 rfl ?_
    refine x_ro (run_S (As := [.int x1]) (rest := []) C hl (wk_X8_isStreet l G x1 _ hw) gm_X8_177 ⟨⟨rfl, rfl⟩, cn_X8_isStreet, ⟨(Nat.le_of_ble_eq_true rfl), (Nat.le_of_ble_eq_true rfl)⟩⟩ (pr_blind _ _ _) (pr_of I [] rfl) rfl rfl (Nat.le_of_ble_eq_true rfl) ⟨Nat.le_of_ble_eq_true rfl, Nat.le_of_ble_eq_true rfl⟩ dX8_mayBe_5) (fun r9 hw => ?_)
    refine x_goto C 61 dX8_mayBe_8 (by decide) ?_
    exact x_ret0z C (And.left hw) (And.right hw) dX8_mayBe_61
/-! X8_change -/
abbrev rm_X8_change : Room := { frames := 3, cells := 0, slots := 0, locals := 63 }
abbrev cs_X8_change (G : Gt) (a_M : Nat) (a_M_now : Nat) (a_M_kept : Nat) (a_M_aside : Nat) (a_M_errors : Nat) (a_M_meetsFound : Nat) (a_M_deedsFound : Nat) (a_M_ahead : Nat) (a_M_NAMED : Nat) (a_M_code : Nat) (a_M_named : Nat) (a_M_pile : Nat) (a_M_often : Nat) (a_M_trace : Nat) (a_M_widths : Nat) (a_M_sizes : Nat) (a_M_numbers : Nat) (a_M_carried : Nat) (M_images : Int32) (M_at : Int32) (M_open : Int32) (M_use : Int32) (M_isWrong : Int32) (M_coded : Int32) (M_traced : Int32) (M_kind : Int32) (M_number : Int32) (M_told : Int32) (M_now : Nat → Int32) (M_errors : Nat → Int32) : va_W := [(a_M, .inr (8, [.ref a_M_now, .ref a_M_kept, .ref a_M_aside, .int M_images, .ref a_M_errors, .ref a_M_meetsFound, .ref a_M_deedsFound, .ref a_M_ahead, .ref a_M_NAMED, .int M_at, .int M_open, .int M_use, .int M_isWrong, .ref a_M_code, .int M_coded, .ref a_M_named, .ref a_M_pile, .ref a_M_often, .ref a_M_trace, .int M_traced, .int M_kind, .int M_number, .int M_told, .ref a_M_widths, .ref a_M_sizes, .ref a_M_numbers, .ref a_M_carried])), (a_M_now, .inl (cI G, 228, .inl M_now)), (a_M_errors, .inl (cI G, 6, .inl M_errors))]
abbrev qc_X8_change (G : Gt) (a_M : Nat) (a_M_now : Nat) (a_M_kept : Nat) (a_M_aside : Nat) (a_M_errors : Nat) (a_M_meetsFound : Nat) (a_M_deedsFound : Nat) (a_M_ahead : Nat) (a_M_NAMED : Nat) (a_M_code : Nat) (a_M_named : Nat) (a_M_pile : Nat) (a_M_often : Nat) (a_M_trace : Nat) (a_M_widths : Nat) (a_M_sizes : Nat) (a_M_numbers : Nat) (a_M_carried : Nat) (M_images : Int32) (M_at : Int32) (M_open : Int32) (M_use : Int32) (M_isWrong : Int32) (M_coded : Int32) (M_traced : Int32) (M_kind : Int32) (M_number : Int32) (M_told : Int32) (A : Nat → Prop) (Q : Int32 → (Nat → Int32) → (Nat → Int32) → Prop) : Array Value → State → Outcome → State → Prop := Qi1 G A (fun r (u : (Nat → Int32) × (Nat → Int32)) => Q r u.1 u.2) (fun u => cs_X8_change G a_M a_M_now a_M_kept a_M_aside a_M_errors a_M_meetsFound a_M_deedsFound a_M_ahead a_M_NAMED a_M_code a_M_named a_M_pile a_M_often a_M_trace a_M_widths a_M_sizes a_M_numbers a_M_carried M_images M_at M_open M_use M_isWrong M_coded M_traced M_kind M_number M_told u.1 u.2)
def lb_X8_change_31 (x1 : Int32) (x2 : Int32) (x3 : Int32) (Q : Int32 → (Nat → Int32) → (Nat → Int32) → Prop) (w_M_now : Nat → Int32) (w_M_errors : Nat → Int32) : Prop := (wp_X8_finding (-1000000001 : Int32) w_M_errors (fun r4 o3 => (Q r4 w_M_now o3)))
set_option maxHeartbeats 4000000 in
set_option maxRecDepth 100000 in
theorem lk_X8_change_31 {p : Program} {l : Launch} {e : Env} {s : State} {m : MethodId} {args : Array Value} {below : List Frame} {meth : Method} {c : Code} {A : Nat → Prop} (G : Gt) (a_M : Nat) (a_M_now : Nat) (a_M_kept : Nat) (a_M_aside : Nat) (a_M_errors : Nat) (a_M_meetsFound : Nat) (a_M_deedsFound : Nat) (a_M_ahead : Nat) (a_M_NAMED : Nat) (a_M_code : Nat) (a_M_named : Nat) (a_M_pile : Nat) (a_M_often : Nat) (a_M_trace : Nat) (a_M_widths : Nat) (a_M_sizes : Nat) (a_M_numbers : Nat) (a_M_carried : Nat) (C : Cx p s m args meth c cX8_change 4 RX8 (some .int)) (x1 : Int32) (x2 : Int32) (x3 : Int32) (M_images : Int32) (M_at : Int32) (M_open : Int32) (M_use : Int32) (M_isWrong : Int32) (M_coded : Int32) (M_traced : Int32) (M_kind : Int32) (M_number : Int32) (M_told : Int32) (Q : Int32 → (Nat → Int32) → (Nat → Int32) → Prop) : ∀ (w_M_now : Nat → Int32) (w_M_errors : Nat → Int32) (Hx : Heap) (lx : List Loc) (ls : Array Slot), lb_X8_change_31 x1 x2 x3 Q w_M_now w_M_errors → Iv G A s (cs_X8_change G a_M a_M_now a_M_kept a_M_aside a_M_errors a_M_meetsFound a_M_deedsFound a_M_ahead a_M_NAMED a_M_code a_M_named a_M_pile a_M_often a_M_trace a_M_widths a_M_sizes a_M_numbers a_M_carried M_images M_at M_open M_use M_isWrong M_coded M_traced M_kind M_number M_told w_M_now w_M_errors) Hx lx → lv_has ls 4 [(0, .ref a_M)] → W p l e rm_X8_change s m args below meth c Hx lx 0 0 (MQ below (qc_X8_change G a_M a_M_now a_M_kept a_M_aside a_M_errors a_M_meetsFound a_M_deedsFound a_M_ahead a_M_NAMED a_M_code a_M_named a_M_pile a_M_often a_M_trace a_M_widths a_M_sizes a_M_numbers a_M_carried M_images M_at M_open M_use M_isWrong M_coded M_traced M_kind M_number M_told A Q) args s 0 0 A) (F0 m 31 ls []) := by
  intro w_M_now w_M_errors Hx lx  ls hw I hl
  refine x_aload_n C hl 0 dX8_change_31 rfl ?_
  refine x_ldc C wd_931 dX8_change_32 ?_
  refine x_mui (wk := cs_X8_finding G a_M a_M_now a_M_kept a_M_aside a_M_errors a_M_meetsFound a_M_deedsFound a_M_ahead a_M_NAMED a_M_code a_M_named a_M_pile a_M_often a_M_trace a_M_widths a_M_sizes a_M_numbers a_M_carried M_images M_at M_open M_use M_isWrong M_coded M_traced M_kind M_number M_told w_M_errors) (wr := [(a_M_now, .inl (cI G, 228, .inl w_M_now))]) (isC := [0, 2]) (isR := [1]) I ⟨⟨rfl, rfl⟩, rfl, rfl, rfl⟩ [1, 0, 2] (fun u => cs_X8_change G a_M a_M_now a_M_kept a_M_aside a_M_errors a_M_meetsFound a_M_deedsFound a_M_ahead a_M_NAMED a_M_code a_M_named a_M_pile a_M_often a_M_trace a_M_widths a_M_sizes a_M_numbers a_M_carried M_images M_at M_open M_use M_isWrong M_coded M_traced M_kind M_number M_told w_M_now u) (fun _ => rfl) rfl (run_V (As := [.int (-1000000001 : Int32)]) (rest := []) C hl (wk_X8_finding l G a_M a_M_now a_M_kept a_M_aside a_M_errors a_M_meetsFound a_M_deedsFound a_M_ahead a_M_NAMED a_M_code a_M_named a_M_pile a_M_often a_M_trace a_M_widths a_M_sizes a_M_numbers a_M_carried Hx.size M_images M_at M_open M_use M_isWrong M_coded M_traced M_kind M_number M_told w_M_errors (-1000000001 : Int32) _ hw) gm_X8_87 ⟨⟨rfl, rfl⟩, cn_X8_finding, ⟨(Nat.le_of_ble_eq_true rfl), (Nat.le_of_ble_eq_true rfl)⟩⟩ (pb_blind _ _ _ _) (x_recv I.1 0 rfl rfl) (pb_of I [0, 2] rfl rfl) rfl rfl (Nat.le_of_ble_eq_true rfl) ⟨Nat.le_of_ble_eq_true rfl, Nat.le_of_ble_eq_true rfl⟩ dX8_change_34) (fun r4 u Hx lx hw I => ?_)
  obtain ⟨o3, eo3⟩ : ∃ z, z = u := ⟨_, rfl⟩
  subst eo3
  have I : Iv G A s (cs_X8_change G a_M a_M_now a_M_kept a_M_aside a_M_errors a_M_meetsFound a_M_deedsFound a_M_ahead a_M_NAMED a_M_code a_M_named a_M_pile a_M_often a_M_trace a_M_widths a_M_sizes a_M_numbers a_M_carried M_images M_at M_open M_use M_isWrong M_coded M_traced M_kind M_number M_told w_M_now o3) Hx lx := I
  exact x_ret1 C I (w_M_now, o3) rfl hw dX8_change_37
def wp_X8_change (x1 : Int32) (x2 : Int32) (x3 : Int32) (M_now : Nat → Int32) (M_errors : Nat → Int32) (Q : Int32 → (Nat → Int32) → (Nat → Int32) → Prop) : Prop := (wp_X8_isSoul x1 M_now (fun r1 => ((r1 = (0) → (lb_X8_change_31 x1 x2 x3 Q M_now M_errors)) ∧ (¬ r1 = (0) → (wp_X8_mayBe x2 x3 (fun r5 => ((r5 = (0) → (lb_X8_change_31 x1 x2 x3 Q M_now M_errors)) ∧ (¬ r5 = (0) → (wp_X8_soulAt x1 ((2 : Int32) + x2) (fun r7 => (wp_X8_turn r7 x3 M_now (fun r9 o8 => (Q r9 o8 M_errors)))))))))))))
set_option maxHeartbeats 4000000 in
set_option maxRecDepth 100000 in
theorem wk_X8_change (l : Launch) (G : Gt) (a_M : Nat) (a_M_now : Nat) (a_M_kept : Nat) (a_M_aside : Nat) (a_M_errors : Nat) (a_M_meetsFound : Nat) (a_M_deedsFound : Nat) (a_M_ahead : Nat) (a_M_NAMED : Nat) (a_M_code : Nat) (a_M_named : Nat) (a_M_pile : Nat) (a_M_often : Nat) (a_M_trace : Nat) (a_M_widths : Nat) (a_M_sizes : Nat) (a_M_numbers : Nat) (a_M_carried : Nat) (sz : Nat) (M_images : Int32) (M_at : Int32) (M_open : Int32) (M_use : Int32) (M_isWrong : Int32) (M_coded : Int32) (M_traced : Int32) (M_kind : Int32) (M_number : Int32) (M_told : Int32) (M_now : Nat → Int32) (M_errors : Nat → Int32) (x1 : Int32) (x2 : Int32) (x3 : Int32) (Q : Int32 → (Nat → Int32) → (Nat → Int32) → Prop) (hw : wp_X8_change x1 x2 x3 M_now M_errors Q) : Met l yX8_change (wc yX8_change cX8_change 4 (some .int)) rm_X8_change (va_Pc [.ref a_M, .int x1, .int x2, .int x3] (PB G (cs_X8_change G a_M a_M_now a_M_kept a_M_aside a_M_errors a_M_meetsFound a_M_deedsFound a_M_ahead a_M_NAMED a_M_code a_M_named a_M_pile a_M_often a_M_trace a_M_widths a_M_sizes a_M_numbers a_M_carried M_images M_at M_open M_use M_isWrong M_coded M_traced M_kind M_number M_told M_now M_errors) sz)) (qc_X8_change G a_M a_M_now a_M_kept a_M_aside a_M_errors a_M_meetsFound a_M_deedsFound a_M_ahead a_M_NAMED a_M_code a_M_named a_M_pile a_M_often a_M_trace a_M_widths a_M_sizes a_M_numbers a_M_carried M_images M_at M_open M_use M_isWrong M_coded M_traced M_kind M_number M_told (va_A (cs_X8_change G a_M a_M_now a_M_kept a_M_aside a_M_errors a_M_meetsFound a_M_deedsFound a_M_ahead a_M_NAMED a_M_code a_M_named a_M_pile a_M_often a_M_trace a_M_widths a_M_sizes a_M_numbers a_M_carried M_images M_at M_open M_use M_isWrong M_coded M_traced M_kind M_number M_told M_now M_errors) sz) Q) 0 0 (va_A (cs_X8_change G a_M a_M_now a_M_kept a_M_aside a_M_errors a_M_meetsFound a_M_deedsFound a_M_ahead a_M_NAMED a_M_code a_M_named a_M_pile a_M_often a_M_trace a_M_widths a_M_sizes a_M_numbers a_M_carried M_images M_at M_open M_use M_isWrong M_coded M_traced M_kind M_number M_told M_now M_errors) sz) := by
  refine x_start pn_X8 (Nat.le_of_ble_eq_true rfl) (fun p e s m below meth c ls C hn hl hB => ?_)
  have I := iv_start hB
  generalize va_A (cs_X8_change G a_M a_M_now a_M_kept a_M_aside a_M_errors a_M_meetsFound a_M_deedsFound a_M_ahead a_M_NAMED a_M_code a_M_named a_M_pile a_M_often a_M_trace a_M_widths a_M_sizes a_M_numbers a_M_carried M_images M_at M_open M_use M_isWrong M_coded M_traced M_kind M_number M_told M_now M_errors) sz = A at I ⊢
  have C : Cx p s m [.ref a_M, .int x1, .int x2, .int x3].toArray meth c cX8_change 4 RX8 (some .int) := C
  have hl : lv_has ls 4 [(0, .ref a_M), (1, .int x1), (2, .int x2), (3, .int x3)] := hl
  refine x_aload_n C hl 0 dX8_change_0 rfl ?_
  refine x_iload_n C hl 1 dX8_change_1 rfl ?_
  refine x_ro (run_V (As := [.int x1]) (rest := []) C hl (wk_X8_isSoul l G a_M a_M_now a_M_kept a_M_aside a_M_errors a_M_meetsFound a_M_deedsFound a_M_ahead a_M_NAMED a_M_code a_M_named a_M_pile a_M_often a_M_trace a_M_widths a_M_sizes a_M_numbers a_M_carried M_images M_at M_open M_use M_isWrong M_coded M_traced M_kind M_number M_told M_now x1 _ hw) gm_X8_193 ⟨⟨rfl, rfl⟩, cn_X8_isSoul, ⟨(Nat.le_of_ble_eq_true rfl), (Nat.le_of_ble_eq_true rfl)⟩⟩ (pr_blind _ _ _) (x_recv I.1 0 rfl rfl) (pr_of I.1 [0, 1] rfl) rfl rfl (Nat.le_of_ble_eq_true rfl) ⟨Nat.le_of_ble_eq_true rfl, Nat.le_of_ble_eq_true rfl⟩ dX8_change_2) (fun r1 hw => ?_)
  refine x_if_eq C 31 dX8_change_5 (by decide) (fun c2 => ?_) (fun c2 => ?_)
  · have hw := And.left hw c2
    exact lk_X8_change_31 G a_M a_M_now a_M_kept a_M_aside a_M_errors a_M_meetsFound a_M_deedsFound a_M_ahead a_M_NAMED a_M_code a_M_named a_M_pile a_M_often a_M_trace a_M_widths a_M_sizes a_M_numbers a_M_carried C x1 x2 x3 M_images M_at M_open M_use M_isWrong M_coded M_traced M_kind M_number M_told Q M_now M_errors s.heap [] ls hw I (lv_sub hl [0] rfl)
  · have hw := And.right hw c2
    refine x_iload_n C hl 2 dX8_change_8 rfl ?_
    refine x_iload_n C hl 3 dX8_change_9 rfl ?_
    refine x_ro (run_S (As := [.int x2, .int x3]) (rest := []) C hl (wk_X8_mayBe l G x2 x3 _ hw) gm_X8_205 ⟨⟨rfl, rfl⟩, cn_X8_mayBe, ⟨(Nat.le_of_ble_eq_true rfl), (Nat.le_of_ble_eq_true rfl)⟩⟩ (pr_blind _ _ _) (pr_of I.1 [] rfl) rfl rfl (Nat.le_of_ble_eq_true rfl) ⟨Nat.le_of_ble_eq_true rfl, Nat.le_of_ble_eq_true rfl⟩ dX8_change_10) (fun r5 hw => ?_)
    refine x_if_eq C 31 dX8_change_13 (by decide) (fun c6 => ?_) (fun c6 => ?_)
    · have hw := And.left hw c6
      exact lk_X8_change_31 G a_M a_M_now a_M_kept a_M_aside a_M_errors a_M_meetsFound a_M_deedsFound a_M_ahead a_M_NAMED a_M_code a_M_named a_M_pile a_M_often a_M_trace a_M_widths a_M_sizes a_M_numbers a_M_carried C x1 x2 x3 M_images M_at M_open M_use M_isWrong M_coded M_traced M_kind M_number M_told Q M_now M_errors s.heap [] ls hw I (lv_sub hl [0] rfl)
    · have hw := And.right hw c6
      refine x_aload_n C hl 0 dX8_change_16 rfl ?_
      refine x_iload_n C hl 1 dX8_change_17 rfl ?_
      refine x_iconst C dX8_change_18 ic_2 ?_
      refine x_iload_n C hl 2 dX8_change_19 rfl ?_
      refine x_iadd C dX8_change_20 ?_
      refine x_ro (run_S (As := [.int x1, .int ((2 : Int32) + x2)]) (rest := [.ref a_M]) C hl (wk_X8_soulAt l G x1 ((2 : Int32) + x2) _ hw) gm_X8_171 ⟨⟨rfl, rfl⟩, cn_X8_soulAt, ⟨(Nat.le_of_ble_eq_true rfl), (Nat.le_of_ble_eq_true rfl)⟩⟩ (pr_blind _ _ _) (pr_of I.1 [] rfl) rfl rfl (Nat.le_of_ble_eq_true rfl) ⟨Nat.le_of_ble_eq_true rfl, Nat.le_of_ble_eq_true rfl⟩ dX8_change_21) (fun r7 hw => ?_)
      refine x_iload_n C hl 3 dX8_change_24 rfl ?_
      refine x_mui (wk := cs_X8_turn G a_M a_M_now a_M_kept a_M_aside a_M_errors a_M_meetsFound a_M_deedsFound a_M_ahead a_M_NAMED a_M_code a_M_named a_M_pile a_M_often a_M_trace a_M_widths a_M_sizes a_M_numbers a_M_carried M_images M_at M_open M_use M_isWrong M_coded M_traced M_kind M_number M_told M_now) (wr := [(a_M_errors, .inl (cI G, 6, .inl M_errors))]) (isC := [0, 1]) (isR := [2]) I ⟨⟨rfl, rfl⟩, rfl, rfl, rfl⟩ [1, 2, 0] (fun u => cs_X8_change G a_M a_M_now a_M_kept a_M_aside a_M_errors a_M_meetsFound a_M_deedsFound a_M_ahead a_M_NAMED a_M_code a_M_named a_M_pile a_M_often a_M_trace a_M_widths a_M_sizes a_M_numbers a_M_carried M_images M_at M_open M_use M_isWrong M_coded M_traced M_kind M_number M_told u M_errors) (fun _ => rfl) rfl (run_V (As := [.int r7, .int x3]) (rest := []) C hl (wk_X8_turn l G a_M a_M_now a_M_kept a_M_aside a_M_errors a_M_meetsFound a_M_deedsFound a_M_ahead a_M_NAMED a_M_code a_M_named a_M_pile a_M_often a_M_trace a_M_widths a_M_sizes a_M_numbers a_M_carried s.heap.size M_images M_at M_open M_use M_isWrong M_coded M_traced M_kind M_number M_told M_now r7 x3 _ hw) gm_X8_208 ⟨⟨rfl, rfl⟩, cn_X8_turn, ⟨(Nat.le_of_ble_eq_true rfl), (Nat.le_of_ble_eq_true rfl)⟩⟩ (pb_blind _ _ _ _) (x_recv I.1 0 rfl rfl) (pb_of I [0, 1] rfl rfl) rfl rfl (Nat.le_of_ble_eq_true rfl) ⟨Nat.le_of_ble_eq_true rfl, Nat.le_of_ble_eq_true rfl⟩ dX8_change_25) (fun r9 u Hx lx hw I => ?_)
      obtain ⟨o8, eo8⟩ : ∃ z, z = u := ⟨_, rfl⟩
      subst eo8
      have I : Iv G A s (cs_X8_change G a_M a_M_now a_M_kept a_M_aside a_M_errors a_M_meetsFound a_M_deedsFound a_M_ahead a_M_NAMED a_M_code a_M_named a_M_pile a_M_often a_M_trace a_M_widths a_M_sizes a_M_numbers a_M_carried M_images M_at M_open M_use M_isWrong M_coded M_traced M_kind M_number M_told o8 M_errors) Hx lx := I
      refine x_goto C 37 dX8_change_28 (by decide) ?_
      exact x_ret1 C I (o8, M_errors) rfl hw dX8_change_37
/-! X8_become -/
abbrev rm_X8_become : Room := { frames := 2, cells := 0, slots := 0, locals := 43 }
abbrev cs_X8_become (G : Gt) (a_M : Nat) (a_M_now : Nat) (a_M_kept : Nat) (a_M_aside : Nat) (a_M_errors : Nat) (a_M_meetsFound : Nat) (a_M_deedsFound : Nat) (a_M_ahead : Nat) (a_M_NAMED : Nat) (a_M_code : Nat) (a_M_named : Nat) (a_M_pile : Nat) (a_M_often : Nat) (a_M_trace : Nat) (a_M_widths : Nat) (a_M_sizes : Nat) (a_M_numbers : Nat) (a_M_carried : Nat) (M_images : Int32) (M_at : Int32) (M_open : Int32) (M_use : Int32) (M_isWrong : Int32) (M_coded : Int32) (M_traced : Int32) (M_kind : Int32) (M_number : Int32) (M_told : Int32) (M_now : Nat → Int32) (M_errors : Nat → Int32) : va_W := [(a_M, .inr (8, [.ref a_M_now, .ref a_M_kept, .ref a_M_aside, .int M_images, .ref a_M_errors, .ref a_M_meetsFound, .ref a_M_deedsFound, .ref a_M_ahead, .ref a_M_NAMED, .int M_at, .int M_open, .int M_use, .int M_isWrong, .ref a_M_code, .int M_coded, .ref a_M_named, .ref a_M_pile, .ref a_M_often, .ref a_M_trace, .int M_traced, .int M_kind, .int M_number, .int M_told, .ref a_M_widths, .ref a_M_sizes, .ref a_M_numbers, .ref a_M_carried])), (a_M_now, .inl (cI G, 228, .inl M_now)), (a_M_errors, .inl (cI G, 6, .inl M_errors))]
abbrev qc_X8_become (G : Gt) (a_M : Nat) (a_M_now : Nat) (a_M_kept : Nat) (a_M_aside : Nat) (a_M_errors : Nat) (a_M_meetsFound : Nat) (a_M_deedsFound : Nat) (a_M_ahead : Nat) (a_M_NAMED : Nat) (a_M_code : Nat) (a_M_named : Nat) (a_M_pile : Nat) (a_M_often : Nat) (a_M_trace : Nat) (a_M_widths : Nat) (a_M_sizes : Nat) (a_M_numbers : Nat) (a_M_carried : Nat) (M_images : Int32) (M_at : Int32) (M_open : Int32) (M_use : Int32) (M_isWrong : Int32) (M_coded : Int32) (M_traced : Int32) (M_kind : Int32) (M_number : Int32) (M_told : Int32) (A : Nat → Prop) (Q : Int32 → (Nat → Int32) → (Nat → Int32) → Prop) : Array Value → State → Outcome → State → Prop := Qi1 G A (fun r (u : (Nat → Int32) × (Nat → Int32)) => Q r u.1 u.2) (fun u => cs_X8_become G a_M a_M_now a_M_kept a_M_aside a_M_errors a_M_meetsFound a_M_deedsFound a_M_ahead a_M_NAMED a_M_code a_M_named a_M_pile a_M_often a_M_trace a_M_widths a_M_sizes a_M_numbers a_M_carried M_images M_at M_open M_use M_isWrong M_coded M_traced M_kind M_number M_told u.1 u.2)
def lb_X8_become_15 (x1 : Int32) (x2 : Int32) (Q : Int32 → (Nat → Int32) → (Nat → Int32) → Prop) (w_M_now : Nat → Int32) (w_M_errors : Nat → Int32) : Prop := (wp_X8_finding (-1000000001 : Int32) w_M_errors (fun r4 o3 => (Q r4 w_M_now o3)))
set_option maxHeartbeats 4000000 in
set_option maxRecDepth 100000 in
theorem lk_X8_become_15 {p : Program} {l : Launch} {e : Env} {s : State} {m : MethodId} {args : Array Value} {below : List Frame} {meth : Method} {c : Code} {A : Nat → Prop} (G : Gt) (a_M : Nat) (a_M_now : Nat) (a_M_kept : Nat) (a_M_aside : Nat) (a_M_errors : Nat) (a_M_meetsFound : Nat) (a_M_deedsFound : Nat) (a_M_ahead : Nat) (a_M_NAMED : Nat) (a_M_code : Nat) (a_M_named : Nat) (a_M_pile : Nat) (a_M_often : Nat) (a_M_trace : Nat) (a_M_widths : Nat) (a_M_sizes : Nat) (a_M_numbers : Nat) (a_M_carried : Nat) (C : Cx p s m args meth c cX8_become 3 RX8 (some .int)) (x1 : Int32) (x2 : Int32) (M_images : Int32) (M_at : Int32) (M_open : Int32) (M_use : Int32) (M_isWrong : Int32) (M_coded : Int32) (M_traced : Int32) (M_kind : Int32) (M_number : Int32) (M_told : Int32) (Q : Int32 → (Nat → Int32) → (Nat → Int32) → Prop) : ∀ (w_M_now : Nat → Int32) (w_M_errors : Nat → Int32) (Hx : Heap) (lx : List Loc) (ls : Array Slot), lb_X8_become_15 x1 x2 Q w_M_now w_M_errors → Iv G A s (cs_X8_become G a_M a_M_now a_M_kept a_M_aside a_M_errors a_M_meetsFound a_M_deedsFound a_M_ahead a_M_NAMED a_M_code a_M_named a_M_pile a_M_often a_M_trace a_M_widths a_M_sizes a_M_numbers a_M_carried M_images M_at M_open M_use M_isWrong M_coded M_traced M_kind M_number M_told w_M_now w_M_errors) Hx lx → lv_has ls 3 [(0, .ref a_M)] → W p l e rm_X8_become s m args below meth c Hx lx 0 0 (MQ below (qc_X8_become G a_M a_M_now a_M_kept a_M_aside a_M_errors a_M_meetsFound a_M_deedsFound a_M_ahead a_M_NAMED a_M_code a_M_named a_M_pile a_M_often a_M_trace a_M_widths a_M_sizes a_M_numbers a_M_carried M_images M_at M_open M_use M_isWrong M_coded M_traced M_kind M_number M_told A Q) args s 0 0 A) (F0 m 15 ls []) := by
  intro w_M_now w_M_errors Hx lx  ls hw I hl
  refine x_aload_n C hl 0 dX8_become_15 rfl ?_
  refine x_ldc C wd_931 dX8_become_16 ?_
  refine x_mui (wk := cs_X8_finding G a_M a_M_now a_M_kept a_M_aside a_M_errors a_M_meetsFound a_M_deedsFound a_M_ahead a_M_NAMED a_M_code a_M_named a_M_pile a_M_often a_M_trace a_M_widths a_M_sizes a_M_numbers a_M_carried M_images M_at M_open M_use M_isWrong M_coded M_traced M_kind M_number M_told w_M_errors) (wr := [(a_M_now, .inl (cI G, 228, .inl w_M_now))]) (isC := [0, 2]) (isR := [1]) I ⟨⟨rfl, rfl⟩, rfl, rfl, rfl⟩ [1, 0, 2] (fun u => cs_X8_become G a_M a_M_now a_M_kept a_M_aside a_M_errors a_M_meetsFound a_M_deedsFound a_M_ahead a_M_NAMED a_M_code a_M_named a_M_pile a_M_often a_M_trace a_M_widths a_M_sizes a_M_numbers a_M_carried M_images M_at M_open M_use M_isWrong M_coded M_traced M_kind M_number M_told w_M_now u) (fun _ => rfl) rfl (run_V (As := [.int (-1000000001 : Int32)]) (rest := []) C hl (wk_X8_finding l G a_M a_M_now a_M_kept a_M_aside a_M_errors a_M_meetsFound a_M_deedsFound a_M_ahead a_M_NAMED a_M_code a_M_named a_M_pile a_M_often a_M_trace a_M_widths a_M_sizes a_M_numbers a_M_carried Hx.size M_images M_at M_open M_use M_isWrong M_coded M_traced M_kind M_number M_told w_M_errors (-1000000001 : Int32) _ hw) gm_X8_87 ⟨⟨rfl, rfl⟩, cn_X8_finding, ⟨(Nat.le_of_ble_eq_true rfl), (Nat.le_of_ble_eq_true rfl)⟩⟩ (pb_blind _ _ _ _) (x_recv I.1 0 rfl rfl) (pb_of I [0, 2] rfl rfl) rfl rfl (Nat.le_of_ble_eq_true rfl) ⟨Nat.le_of_ble_eq_true rfl, Nat.le_of_ble_eq_true rfl⟩ dX8_become_18) (fun r4 u Hx lx hw I => ?_)
  obtain ⟨o3, eo3⟩ : ∃ z, z = u := ⟨_, rfl⟩
  subst eo3
  have I : Iv G A s (cs_X8_become G a_M a_M_now a_M_kept a_M_aside a_M_errors a_M_meetsFound a_M_deedsFound a_M_ahead a_M_NAMED a_M_code a_M_named a_M_pile a_M_often a_M_trace a_M_widths a_M_sizes a_M_numbers a_M_carried M_images M_at M_open M_use M_isWrong M_coded M_traced M_kind M_number M_told w_M_now o3) Hx lx := I
  exact x_ret1 C I (w_M_now, o3) rfl hw dX8_become_21
def wp_X8_become (x1 : Int32) (x2 : Int32) (M_now : Nat → Int32) (M_errors : Nat → Int32) (Q : Int32 → (Nat → Int32) → (Nat → Int32) → Prop) : Prop := (wp_X8_isSoul x1 M_now (fun r1 => ((r1 = (0) → (lb_X8_become_15 x1 x2 Q M_now M_errors)) ∧ (¬ r1 = (0) → (wp_X8_isKindM x2 (fun r5 => ((¬ r5 = (0) → (wp_X8_soulAt x1 (1 : Int32) (fun r7 => (∀ v8 : Int32, v8 = (jrem x2 (10 : Int32)) → (vp_in r7 228 ∧ (wp_X8_soulAt x1 (0 : Int32) (fun r9 => (wp_X8_turn r9 (x2 / (10 : Int32)) (upd M_now (r7).toNatClampNeg v8) (fun r11 o10 => (Q r11 o10 M_errors)))))))))) ∧ (r5 = (0) → (lb_X8_become_15 x1 x2 Q M_now M_errors)))))))))
set_option maxHeartbeats 4000000 in
set_option maxRecDepth 100000 in
theorem wk_X8_become (l : Launch) (G : Gt) (a_M : Nat) (a_M_now : Nat) (a_M_kept : Nat) (a_M_aside : Nat) (a_M_errors : Nat) (a_M_meetsFound : Nat) (a_M_deedsFound : Nat) (a_M_ahead : Nat) (a_M_NAMED : Nat) (a_M_code : Nat) (a_M_named : Nat) (a_M_pile : Nat) (a_M_often : Nat) (a_M_trace : Nat) (a_M_widths : Nat) (a_M_sizes : Nat) (a_M_numbers : Nat) (a_M_carried : Nat) (sz : Nat) (M_images : Int32) (M_at : Int32) (M_open : Int32) (M_use : Int32) (M_isWrong : Int32) (M_coded : Int32) (M_traced : Int32) (M_kind : Int32) (M_number : Int32) (M_told : Int32) (M_now : Nat → Int32) (M_errors : Nat → Int32) (x1 : Int32) (x2 : Int32) (Q : Int32 → (Nat → Int32) → (Nat → Int32) → Prop) (hw : wp_X8_become x1 x2 M_now M_errors Q) : Met l yX8_become (wc yX8_become cX8_become 3 (some .int)) rm_X8_become (va_Pc [.ref a_M, .int x1, .int x2] (PB G (cs_X8_become G a_M a_M_now a_M_kept a_M_aside a_M_errors a_M_meetsFound a_M_deedsFound a_M_ahead a_M_NAMED a_M_code a_M_named a_M_pile a_M_often a_M_trace a_M_widths a_M_sizes a_M_numbers a_M_carried M_images M_at M_open M_use M_isWrong M_coded M_traced M_kind M_number M_told M_now M_errors) sz)) (qc_X8_become G a_M a_M_now a_M_kept a_M_aside a_M_errors a_M_meetsFound a_M_deedsFound a_M_ahead a_M_NAMED a_M_code a_M_named a_M_pile a_M_often a_M_trace a_M_widths a_M_sizes a_M_numbers a_M_carried M_images M_at M_open M_use M_isWrong M_coded M_traced M_kind M_number M_told (va_A (cs_X8_become G a_M a_M_now a_M_kept a_M_aside a_M_errors a_M_meetsFound a_M_deedsFound a_M_ahead a_M_NAMED a_M_code a_M_named a_M_pile a_M_often a_M_trace a_M_widths a_M_sizes a_M_numbers a_M_carried M_images M_at M_open M_use M_isWrong M_coded M_traced M_kind M_number M_told M_now M_errors) sz) Q) 0 0 (va_A (cs_X8_become G a_M a_M_now a_M_kept a_M_aside a_M_errors a_M_meetsFound a_M_deedsFound a_M_ahead a_M_NAMED a_M_code a_M_named a_M_pile a_M_often a_M_trace a_M_widths a_M_sizes a_M_numbers a_M_carried M_images M_at M_open M_use M_isWrong M_coded M_traced M_kind M_number M_told M_now M_errors) sz) := by
  refine x_start pn_X8 (Nat.le_of_ble_eq_true rfl) (fun p e s m below meth c ls C hn hl hB => ?_)
  have I := iv_start hB
  generalize va_A (cs_X8_become G a_M a_M_now a_M_kept a_M_aside a_M_errors a_M_meetsFound a_M_deedsFound a_M_ahead a_M_NAMED a_M_code a_M_named a_M_pile a_M_often a_M_trace a_M_widths a_M_sizes a_M_numbers a_M_carried M_images M_at M_open M_use M_isWrong M_coded M_traced M_kind M_number M_told M_now M_errors) sz = A at I ⊢
  have C : Cx p s m [.ref a_M, .int x1, .int x2].toArray meth c cX8_become 3 RX8 (some .int) := C
  have hl : lv_has ls 3 [(0, .ref a_M), (1, .int x1), (2, .int x2)] := hl
  refine x_aload_n C hl 0 dX8_become_0 rfl ?_
  refine x_iload_n C hl 1 dX8_become_1 rfl ?_
  refine x_ro (run_V (As := [.int x1]) (rest := []) C hl (wk_X8_isSoul l G a_M a_M_now a_M_kept a_M_aside a_M_errors a_M_meetsFound a_M_deedsFound a_M_ahead a_M_NAMED a_M_code a_M_named a_M_pile a_M_often a_M_trace a_M_widths a_M_sizes a_M_numbers a_M_carried M_images M_at M_open M_use M_isWrong M_coded M_traced M_kind M_number M_told M_now x1 _ hw) gm_X8_193 ⟨⟨rfl, rfl⟩, cn_X8_isSoul, ⟨(Nat.le_of_ble_eq_true rfl), (Nat.le_of_ble_eq_true rfl)⟩⟩ (pr_blind _ _ _) (x_recv I.1 0 rfl rfl) (pr_of I.1 [0, 1] rfl) rfl rfl (Nat.le_of_ble_eq_true rfl) ⟨Nat.le_of_ble_eq_true rfl, Nat.le_of_ble_eq_true rfl⟩ dX8_become_2) (fun r1 hw => ?_)
  refine x_if_eq C 15 dX8_become_5 (by decide) (fun c2 => ?_) (fun c2 => ?_)
  · have hw := And.left hw c2
    exact lk_X8_become_15 G a_M a_M_now a_M_kept a_M_aside a_M_errors a_M_meetsFound a_M_deedsFound a_M_ahead a_M_NAMED a_M_code a_M_named a_M_pile a_M_often a_M_trace a_M_widths a_M_sizes a_M_numbers a_M_carried C x1 x2 M_images M_at M_open M_use M_isWrong M_coded M_traced M_kind M_number M_told Q M_now M_errors s.heap [] ls hw I (lv_sub hl [0] rfl)
  · have hw := And.right hw c2
    refine x_iload_n C hl 2 dX8_become_8 rfl ?_
    refine x_ro (run_S (As := [.int x2]) (rest := []) C hl (wk_X8_isKindM l G x2 _ hw) gm_X8_174 ⟨⟨rfl, rfl⟩, cn_X8_isKindM, ⟨(Nat.le_of_ble_eq_true rfl), (Nat.le_of_ble_eq_true rfl)⟩⟩ (pr_blind _ _ _) (pr_of I.1 [] rfl) rfl rfl (Nat.le_of_ble_eq_true rfl) ⟨Nat.le_of_ble_eq_true rfl, Nat.le_of_ble_eq_true rfl⟩ dX8_become_9) (fun r5 hw => ?_)
    refine x_if_ne C 22 dX8_become_12 (by decide) (fun c6 => ?_) (fun c6 => ?_)
    · have hw := And.left hw c6
      refine x_aload_n C hl 0 dX8_become_22 rfl ?_
      refine x_get C I.1 fl_X8_9 0 rfl rfl dX8_become_23 ?_
      refine x_iload_n C hl 1 dX8_become_26 rfl ?_
      refine x_iconst C dX8_become_27 ic_1 ?_
      refine x_ro (run_S (As := [.int x1, .int (1 : Int32)]) (rest := [.ref a_M_now]) C hl (wk_X8_soulAt l G x1 (1 : Int32) _ hw) gm_X8_171 ⟨⟨rfl, rfl⟩, cn_X8_soulAt, ⟨(Nat.le_of_ble_eq_true rfl), (Nat.le_of_ble_eq_true rfl)⟩⟩ (pr_blind _ _ _) (pr_of I.1 [] rfl) rfl rfl (Nat.le_of_ble_eq_true rfl) ⟨Nat.le_of_ble_eq_true rfl, Nat.le_of_ble_eq_true rfl⟩ dX8_become_28) (fun r7 hw => ?_)
      refine x_iload_n C hl 2 dX8_become_31 rfl ?_
      refine x_bipush C dX8_become_32 bp_10 ?_
      refine x_irem C nz_10 dX8_become_34 ?_
      refine lv_topi (fun v8 ev8 => ?_)
      have hw := hw v8 ev8
      refine x_iast C I 1 (cs_X8_become G a_M a_M_now a_M_kept a_M_aside a_M_errors a_M_meetsFound a_M_deedsFound a_M_ahead a_M_NAMED a_M_code a_M_named a_M_pile a_M_often a_M_trace a_M_widths a_M_sizes a_M_numbers a_M_carried M_images M_at M_open M_use M_isWrong M_coded M_traced M_kind M_number M_told (upd M_now (r7).toNatClampNeg v8) M_errors) rfl (And.left hw) rfl dX8_become_35 (fun Hx lx I => ?_)
      have hw := And.right hw
      refine x_aload_n C hl 0 dX8_become_36 rfl ?_
      refine x_iload_n C hl 1 dX8_become_37 rfl ?_
      refine x_iconst C dX8_become_38 ic_0 ?_
      refine x_ro (run_S (As := [.int x1, .int (0 : Int32)]) (rest := [.ref a_M]) C hl (wk_X8_soulAt l G x1 (0 : Int32) _ hw) gm_X8_171 ⟨⟨rfl, rfl⟩, cn_X8_soulAt, ⟨(Nat.le_of_ble_eq_true rfl), (Nat.le_of_ble_eq_true rfl)⟩⟩ (pr_blind _ _ _) (pr_of I.1 [] rfl) rfl rfl (Nat.le_of_ble_eq_true rfl) ⟨Nat.le_of_ble_eq_true rfl, Nat.le_of_ble_eq_true rfl⟩ dX8_become_39) (fun r9 hw => ?_)
      refine x_iload_n C hl 2 dX8_become_42 rfl ?_
      refine x_bipush C dX8_become_43 bp_10 ?_
      refine x_idiv C nz_10 dX8_become_45 ?_
      refine x_mui (wk := cs_X8_turn G a_M a_M_now a_M_kept a_M_aside a_M_errors a_M_meetsFound a_M_deedsFound a_M_ahead a_M_NAMED a_M_code a_M_named a_M_pile a_M_often a_M_trace a_M_widths a_M_sizes a_M_numbers a_M_carried M_images M_at M_open M_use M_isWrong M_coded M_traced M_kind M_number M_told (upd M_now (r7).toNatClampNeg v8)) (wr := [(a_M_errors, .inl (cI G, 6, .inl M_errors))]) (isC := [0, 1]) (isR := [2]) I ⟨⟨rfl, rfl⟩, rfl, rfl, rfl⟩ [1, 2, 0] (fun u => cs_X8_become G a_M a_M_now a_M_kept a_M_aside a_M_errors a_M_meetsFound a_M_deedsFound a_M_ahead a_M_NAMED a_M_code a_M_named a_M_pile a_M_often a_M_trace a_M_widths a_M_sizes a_M_numbers a_M_carried M_images M_at M_open M_use M_isWrong M_coded M_traced M_kind M_number M_told u M_errors) (fun _ => rfl) rfl (run_V (As := [.int r9, .int (x2 / (10 : Int32))]) (rest := []) C hl (wk_X8_turn l G a_M a_M_now a_M_kept a_M_aside a_M_errors a_M_meetsFound a_M_deedsFound a_M_ahead a_M_NAMED a_M_code a_M_named a_M_pile a_M_often a_M_trace a_M_widths a_M_sizes a_M_numbers a_M_carried Hx.size M_images M_at M_open M_use M_isWrong M_coded M_traced M_kind M_number M_told (upd M_now (r7).toNatClampNeg v8) r9 (x2 / (10 : Int32)) _ hw) gm_X8_208 ⟨⟨rfl, rfl⟩, cn_X8_turn, ⟨(Nat.le_of_ble_eq_true rfl), (Nat.le_of_ble_eq_true rfl)⟩⟩ (pb_blind _ _ _ _) (x_recv I.1 0 rfl rfl) (pb_of I [0, 1] rfl rfl) rfl rfl (Nat.le_of_ble_eq_true rfl) ⟨Nat.le_of_ble_eq_true rfl, Nat.le_of_ble_eq_true rfl⟩ dX8_become_46) (fun r11 u Hx lx hw I => ?_)
      obtain ⟨o10, eo10⟩ : ∃ z, z = u := ⟨_, rfl⟩
      subst eo10
      have I : Iv G A s (cs_X8_become G a_M a_M_now a_M_kept a_M_aside a_M_errors a_M_meetsFound a_M_deedsFound a_M_ahead a_M_NAMED a_M_code a_M_named a_M_pile a_M_often a_M_trace a_M_widths a_M_sizes a_M_numbers a_M_carried M_images M_at M_open M_use M_isWrong M_coded M_traced M_kind M_number M_told o10 M_errors) Hx lx := I
      exact x_ret1 C I (o10, M_errors) rfl hw dX8_become_49
    · have hw := And.right hw c6
      exact lk_X8_become_15 G a_M a_M_now a_M_kept a_M_aside a_M_errors a_M_meetsFound a_M_deedsFound a_M_ahead a_M_NAMED a_M_code a_M_named a_M_pile a_M_often a_M_trace a_M_widths a_M_sizes a_M_numbers a_M_carried C x1 x2 M_images M_at M_open M_use M_isWrong M_coded M_traced M_kind M_number M_told Q M_now M_errors s.heap [] ls hw I (lv_sub hl [0] rfl)
/-! X8_as -/
abbrev rm_X8_as : Room := { frames := 2, cells := 0, slots := 0, locals := 43 }
abbrev cs_X8_as (G : Gt) (a_M : Nat) (a_M_now : Nat) (a_M_kept : Nat) (a_M_aside : Nat) (a_M_errors : Nat) (a_M_meetsFound : Nat) (a_M_deedsFound : Nat) (a_M_ahead : Nat) (a_M_NAMED : Nat) (a_M_code : Nat) (a_M_named : Nat) (a_M_pile : Nat) (a_M_often : Nat) (a_M_trace : Nat) (a_M_widths : Nat) (a_M_sizes : Nat) (a_M_numbers : Nat) (a_M_carried : Nat) (M_images : Int32) (M_at : Int32) (M_open : Int32) (M_use : Int32) (M_isWrong : Int32) (M_coded : Int32) (M_traced : Int32) (M_kind : Int32) (M_number : Int32) (M_told : Int32) (M_now : Nat → Int32) (M_errors : Nat → Int32) : va_W := [(a_M, .inr (8, [.ref a_M_now, .ref a_M_kept, .ref a_M_aside, .int M_images, .ref a_M_errors, .ref a_M_meetsFound, .ref a_M_deedsFound, .ref a_M_ahead, .ref a_M_NAMED, .int M_at, .int M_open, .int M_use, .int M_isWrong, .ref a_M_code, .int M_coded, .ref a_M_named, .ref a_M_pile, .ref a_M_often, .ref a_M_trace, .int M_traced, .int M_kind, .int M_number, .int M_told, .ref a_M_widths, .ref a_M_sizes, .ref a_M_numbers, .ref a_M_carried])), (a_M_now, .inl (cI G, 228, .inl M_now)), (a_M_errors, .inl (cI G, 6, .inl M_errors))]
abbrev qc_X8_as (G : Gt) (a_M : Nat) (a_M_now : Nat) (a_M_kept : Nat) (a_M_aside : Nat) (a_M_errors : Nat) (a_M_meetsFound : Nat) (a_M_deedsFound : Nat) (a_M_ahead : Nat) (a_M_NAMED : Nat) (a_M_code : Nat) (a_M_named : Nat) (a_M_pile : Nat) (a_M_often : Nat) (a_M_trace : Nat) (a_M_widths : Nat) (a_M_sizes : Nat) (a_M_numbers : Nat) (a_M_carried : Nat) (M_images : Int32) (M_at : Int32) (M_open : Int32) (M_use : Int32) (M_isWrong : Int32) (M_coded : Int32) (M_traced : Int32) (M_kind : Int32) (M_number : Int32) (M_told : Int32) (M_now : Nat → Int32) (A : Nat → Prop) (Q : Int32 → (Nat → Int32) → Prop) : Array Value → State → Outcome → State → Prop := Qi1 G A (fun r (u : (Nat → Int32)) => Q r u) (fun u => cs_X8_as G a_M a_M_now a_M_kept a_M_aside a_M_errors a_M_meetsFound a_M_deedsFound a_M_ahead a_M_NAMED a_M_code a_M_named a_M_pile a_M_often a_M_trace a_M_widths a_M_sizes a_M_numbers a_M_carried M_images M_at M_open M_use M_isWrong M_coded M_traced M_kind M_number M_told M_now u)
def lb_X8_as_18 (x1 : Int32) (x2 : Int32) (M_now : Nat → Int32) (Q : Int32 → (Nat → Int32) → Prop) (w_M_errors : Nat → Int32) : Prop := (wp_X8_finding (-1000000001 : Int32) w_M_errors (fun r4 o3 => (Q r4 o3)))
set_option maxHeartbeats 4000000 in
set_option maxRecDepth 100000 in
theorem lk_X8_as_18 {p : Program} {l : Launch} {e : Env} {s : State} {m : MethodId} {args : Array Value} {below : List Frame} {meth : Method} {c : Code} {A : Nat → Prop} (G : Gt) (a_M : Nat) (a_M_now : Nat) (a_M_kept : Nat) (a_M_aside : Nat) (a_M_errors : Nat) (a_M_meetsFound : Nat) (a_M_deedsFound : Nat) (a_M_ahead : Nat) (a_M_NAMED : Nat) (a_M_code : Nat) (a_M_named : Nat) (a_M_pile : Nat) (a_M_often : Nat) (a_M_trace : Nat) (a_M_widths : Nat) (a_M_sizes : Nat) (a_M_numbers : Nat) (a_M_carried : Nat) (C : Cx p s m args meth c cX8_as 3 RX8 (some .int)) (x1 : Int32) (x2 : Int32) (M_now : Nat → Int32) (M_images : Int32) (M_at : Int32) (M_open : Int32) (M_use : Int32) (M_isWrong : Int32) (M_coded : Int32) (M_traced : Int32) (M_kind : Int32) (M_number : Int32) (M_told : Int32) (Q : Int32 → (Nat → Int32) → Prop) : ∀ (w_M_errors : Nat → Int32) (Hx : Heap) (lx : List Loc) (ls : Array Slot), lb_X8_as_18 x1 x2 M_now Q w_M_errors → Iv G A s (cs_X8_as G a_M a_M_now a_M_kept a_M_aside a_M_errors a_M_meetsFound a_M_deedsFound a_M_ahead a_M_NAMED a_M_code a_M_named a_M_pile a_M_often a_M_trace a_M_widths a_M_sizes a_M_numbers a_M_carried M_images M_at M_open M_use M_isWrong M_coded M_traced M_kind M_number M_told M_now w_M_errors) Hx lx → lv_has ls 3 [(0, .ref a_M)] → W p l e rm_X8_as s m args below meth c Hx lx 0 0 (MQ below (qc_X8_as G a_M a_M_now a_M_kept a_M_aside a_M_errors a_M_meetsFound a_M_deedsFound a_M_ahead a_M_NAMED a_M_code a_M_named a_M_pile a_M_often a_M_trace a_M_widths a_M_sizes a_M_numbers a_M_carried M_images M_at M_open M_use M_isWrong M_coded M_traced M_kind M_number M_told M_now A Q) args s 0 0 A) (F0 m 18 ls []) := by
  intro w_M_errors Hx lx  ls hw I hl
  refine x_aload_n C hl 0 dX8_as_18 rfl ?_
  refine x_ldc C wd_931 dX8_as_19 ?_
  refine x_mui (wk := cs_X8_finding G a_M a_M_now a_M_kept a_M_aside a_M_errors a_M_meetsFound a_M_deedsFound a_M_ahead a_M_NAMED a_M_code a_M_named a_M_pile a_M_often a_M_trace a_M_widths a_M_sizes a_M_numbers a_M_carried M_images M_at M_open M_use M_isWrong M_coded M_traced M_kind M_number M_told w_M_errors) (wr := [(a_M_now, .inl (cI G, 228, .inl M_now))]) (isC := [0, 2]) (isR := [1]) I ⟨⟨rfl, rfl⟩, rfl, rfl, rfl⟩ [1, 0, 2] (fun u => cs_X8_as G a_M a_M_now a_M_kept a_M_aside a_M_errors a_M_meetsFound a_M_deedsFound a_M_ahead a_M_NAMED a_M_code a_M_named a_M_pile a_M_often a_M_trace a_M_widths a_M_sizes a_M_numbers a_M_carried M_images M_at M_open M_use M_isWrong M_coded M_traced M_kind M_number M_told M_now u) (fun _ => rfl) rfl (run_V (As := [.int (-1000000001 : Int32)]) (rest := []) C hl (wk_X8_finding l G a_M a_M_now a_M_kept a_M_aside a_M_errors a_M_meetsFound a_M_deedsFound a_M_ahead a_M_NAMED a_M_code a_M_named a_M_pile a_M_often a_M_trace a_M_widths a_M_sizes a_M_numbers a_M_carried Hx.size M_images M_at M_open M_use M_isWrong M_coded M_traced M_kind M_number M_told w_M_errors (-1000000001 : Int32) _ hw) gm_X8_87 ⟨⟨rfl, rfl⟩, cn_X8_finding, ⟨(Nat.le_of_ble_eq_true rfl), (Nat.le_of_ble_eq_true rfl)⟩⟩ (pb_blind _ _ _ _) (x_recv I.1 0 rfl rfl) (pb_of I [0, 2] rfl rfl) rfl rfl (Nat.le_of_ble_eq_true rfl) ⟨Nat.le_of_ble_eq_true rfl, Nat.le_of_ble_eq_true rfl⟩ dX8_as_21) (fun r4 u Hx lx hw I => ?_)
  obtain ⟨o3, eo3⟩ : ∃ z, z = u := ⟨_, rfl⟩
  subst eo3
  have I : Iv G A s (cs_X8_as G a_M a_M_now a_M_kept a_M_aside a_M_errors a_M_meetsFound a_M_deedsFound a_M_ahead a_M_NAMED a_M_code a_M_named a_M_pile a_M_often a_M_trace a_M_widths a_M_sizes a_M_numbers a_M_carried M_images M_at M_open M_use M_isWrong M_coded M_traced M_kind M_number M_told M_now o3) Hx lx := I
  exact x_ret1 C I o3 rfl hw dX8_as_24
def wp_X8_as (x1 : Int32) (x2 : Int32) (M_now : Nat → Int32) (M_errors : Nat → Int32) (Q : Int32 → (Nat → Int32) → Prop) : Prop := (wp_X8_isSoul x1 M_now (fun r1 => ((r1 = (0) → (lb_X8_as_18 x1 x2 M_now Q M_errors)) ∧ (¬ r1 = (0) → (wp_X8_within x2 (0 : Int32) (6 : Int32) (fun r5 => ((¬ r5 = (0) → (wp_X8_soulIs x1 (0 : Int32) M_now (fun r7 => (wp_X8_isUnder r7 x2 (fun r8 => ((r8 = (0) → (wp_X8_finding (-1000000005 : Int32) M_errors (fun r11 o10 => (Q r11 o10)))) ∧ (¬ r8 = (0) → (wp_X8_soulIs x1 (1 : Int32) M_now (fun r12 => (Q r12 M_errors)))))))))) ∧ (r5 = (0) → (lb_X8_as_18 x1 x2 M_now Q M_errors)))))))))
set_option maxHeartbeats 4000000 in
set_option maxRecDepth 100000 in
theorem wk_X8_as (l : Launch) (G : Gt) (a_M : Nat) (a_M_now : Nat) (a_M_kept : Nat) (a_M_aside : Nat) (a_M_errors : Nat) (a_M_meetsFound : Nat) (a_M_deedsFound : Nat) (a_M_ahead : Nat) (a_M_NAMED : Nat) (a_M_code : Nat) (a_M_named : Nat) (a_M_pile : Nat) (a_M_often : Nat) (a_M_trace : Nat) (a_M_widths : Nat) (a_M_sizes : Nat) (a_M_numbers : Nat) (a_M_carried : Nat) (sz : Nat) (M_images : Int32) (M_at : Int32) (M_open : Int32) (M_use : Int32) (M_isWrong : Int32) (M_coded : Int32) (M_traced : Int32) (M_kind : Int32) (M_number : Int32) (M_told : Int32) (M_now : Nat → Int32) (M_errors : Nat → Int32) (x1 : Int32) (x2 : Int32) (Q : Int32 → (Nat → Int32) → Prop) (hw : wp_X8_as x1 x2 M_now M_errors Q) : Met l yX8_as (wc yX8_as cX8_as 3 (some .int)) rm_X8_as (va_Pc [.ref a_M, .int x1, .int x2] (PB G (cs_X8_as G a_M a_M_now a_M_kept a_M_aside a_M_errors a_M_meetsFound a_M_deedsFound a_M_ahead a_M_NAMED a_M_code a_M_named a_M_pile a_M_often a_M_trace a_M_widths a_M_sizes a_M_numbers a_M_carried M_images M_at M_open M_use M_isWrong M_coded M_traced M_kind M_number M_told M_now M_errors) sz)) (qc_X8_as G a_M a_M_now a_M_kept a_M_aside a_M_errors a_M_meetsFound a_M_deedsFound a_M_ahead a_M_NAMED a_M_code a_M_named a_M_pile a_M_often a_M_trace a_M_widths a_M_sizes a_M_numbers a_M_carried M_images M_at M_open M_use M_isWrong M_coded M_traced M_kind M_number M_told M_now (va_A (cs_X8_as G a_M a_M_now a_M_kept a_M_aside a_M_errors a_M_meetsFound a_M_deedsFound a_M_ahead a_M_NAMED a_M_code a_M_named a_M_pile a_M_often a_M_trace a_M_widths a_M_sizes a_M_numbers a_M_carried M_images M_at M_open M_use M_isWrong M_coded M_traced M_kind M_number M_told M_now M_errors) sz) Q) 0 0 (va_A (cs_X8_as G a_M a_M_now a_M_kept a_M_aside a_M_errors a_M_meetsFound a_M_deedsFound a_M_ahead a_M_NAMED a_M_code a_M_named a_M_pile a_M_often a_M_trace a_M_widths a_M_sizes a_M_numbers a_M_carried M_images M_at M_open M_use M_isWrong M_coded M_traced M_kind M_number M_told M_now M_errors) sz) := by
  refine x_start pn_X8 (Nat.le_of_ble_eq_true rfl) (fun p e s m below meth c ls C hn hl hB => ?_)
  have I := iv_start hB
  generalize va_A (cs_X8_as G a_M a_M_now a_M_kept a_M_aside a_M_errors a_M_meetsFound a_M_deedsFound a_M_ahead a_M_NAMED a_M_code a_M_named a_M_pile a_M_often a_M_trace a_M_widths a_M_sizes a_M_numbers a_M_carried M_images M_at M_open M_use M_isWrong M_coded M_traced M_kind M_number M_told M_now M_errors) sz = A at I ⊢
  have C : Cx p s m [.ref a_M, .int x1, .int x2].toArray meth c cX8_as 3 RX8 (some .int) := C
  have hl : lv_has ls 3 [(0, .ref a_M), (1, .int x1), (2, .int x2)] := hl
  refine x_aload_n C hl 0 dX8_as_0 rfl ?_
  refine x_iload_n C hl 1 dX8_as_1 rfl ?_
  refine x_ro (run_V (As := [.int x1]) (rest := []) C hl (wk_X8_isSoul l G a_M a_M_now a_M_kept a_M_aside a_M_errors a_M_meetsFound a_M_deedsFound a_M_ahead a_M_NAMED a_M_code a_M_named a_M_pile a_M_often a_M_trace a_M_widths a_M_sizes a_M_numbers a_M_carried M_images M_at M_open M_use M_isWrong M_coded M_traced M_kind M_number M_told M_now x1 _ hw) gm_X8_193 ⟨⟨rfl, rfl⟩, cn_X8_isSoul, ⟨(Nat.le_of_ble_eq_true rfl), (Nat.le_of_ble_eq_true rfl)⟩⟩ (pr_blind _ _ _) (x_recv I.1 0 rfl rfl) (pr_of I.1 [0, 1] rfl) rfl rfl (Nat.le_of_ble_eq_true rfl) ⟨Nat.le_of_ble_eq_true rfl, Nat.le_of_ble_eq_true rfl⟩ dX8_as_2) (fun r1 hw => ?_)
  refine x_if_eq C 18 dX8_as_5 (by decide) (fun c2 => ?_) (fun c2 => ?_)
  · have hw := And.left hw c2
    exact lk_X8_as_18 G a_M a_M_now a_M_kept a_M_aside a_M_errors a_M_meetsFound a_M_deedsFound a_M_ahead a_M_NAMED a_M_code a_M_named a_M_pile a_M_often a_M_trace a_M_widths a_M_sizes a_M_numbers a_M_carried C x1 x2 M_now M_images M_at M_open M_use M_isWrong M_coded M_traced M_kind M_number M_told Q M_errors s.heap [] ls hw I (lv_sub hl [0] rfl)
  · have hw := And.right hw c2
    refine x_iload_n C hl 2 dX8_as_8 rfl ?_
    refine x_iconst C dX8_as_9 ic_0 ?_
    refine x_bipush C dX8_as_10 bp_6 ?_
    refine x_ro (run_S (As := [.int x2, .int (0 : Int32), .int (6 : Int32)]) (rest := []) C hl (wk_X8_within l G x2 (0 : Int32) (6 : Int32) _ hw) gm_X8_82 ⟨⟨rfl, rfl⟩, cn_X8_within, ⟨(Nat.le_of_ble_eq_true rfl), (Nat.le_of_ble_eq_true rfl)⟩⟩ (pr_blind _ _ _) (pr_of I.1 [] rfl) rfl rfl (Nat.le_of_ble_eq_true rfl) ⟨Nat.le_of_ble_eq_true rfl, Nat.le_of_ble_eq_true rfl⟩ dX8_as_12) (fun r5 hw => ?_)
    refine x_if_ne C 25 dX8_as_15 (by decide) (fun c6 => ?_) (fun c6 => ?_)
    · have hw := And.left hw c6
      refine x_aload_n C hl 0 dX8_as_25 rfl ?_
      refine x_iload_n C hl 1 dX8_as_26 rfl ?_
      refine x_iconst C dX8_as_27 ic_0 ?_
      refine x_ro (run_V (As := [.int x1, .int (0 : Int32)]) (rest := []) C hl (wk_X8_soulIs l G a_M a_M_now a_M_kept a_M_aside a_M_errors a_M_meetsFound a_M_deedsFound a_M_ahead a_M_NAMED a_M_code a_M_named a_M_pile a_M_often a_M_trace a_M_widths a_M_sizes a_M_numbers a_M_carried M_images M_at M_open M_use M_isWrong M_coded M_traced M_kind M_number M_told M_now x1 (0 : Int32) _ hw) gm_X8_186 ⟨⟨rfl, rfl⟩, cn_X8_soulIs, ⟨(Nat.le_of_ble_eq_true rfl), (Nat.le_of_ble_eq_true rfl)⟩⟩ (pr_blind _ _ _) (x_recv I.1 0 rfl rfl) (pr_of I.1 [0, 1] rfl) rfl rfl (Nat.le_of_ble_eq_true rfl) ⟨Nat.le_of_ble_eq_true rfl, Nat.le_of_ble_eq_true rfl⟩ dX8_as_28) (fun r7 hw => ?_)
      refine x_iload_n C hl 2 dX8_as_31 rfl ?_
      refine x_ro (run_S (As := [.int r7, .int x2]) (rest := []) C hl (wk_X8_isUnder l G r7 x2 _ hw) gm_X8_189 ⟨⟨rfl, rfl⟩, cn_X8_isUnder, ⟨(Nat.le_of_ble_eq_true rfl), (Nat.le_of_ble_eq_true rfl)⟩⟩ (pr_blind _ _ _) (pr_of I.1 [] rfl) rfl rfl (Nat.le_of_ble_eq_true rfl) ⟨Nat.le_of_ble_eq_true rfl, Nat.le_of_ble_eq_true rfl⟩ dX8_as_32) (fun r8 hw => ?_)
      refine x_if_eq C 47 dX8_as_35 (by decide) (fun c9 => ?_) (fun c9 => ?_)
      · have hw := And.left hw c9
        refine x_aload_n C hl 0 dX8_as_47 rfl ?_
        refine x_ldc C wd_1125 dX8_as_48 ?_
        refine x_mui (wk := cs_X8_finding G a_M a_M_now a_M_kept a_M_aside a_M_errors a_M_meetsFound a_M_deedsFound a_M_ahead a_M_NAMED a_M_code a_M_named a_M_pile a_M_often a_M_trace a_M_widths a_M_sizes a_M_numbers a_M_carried M_images M_at M_open M_use M_isWrong M_coded M_traced M_kind M_number M_told M_errors) (wr := [(a_M_now, .inl (cI G, 228, .inl M_now))]) (isC := [0, 2]) (isR := [1]) I ⟨⟨rfl, rfl⟩, rfl, rfl, rfl⟩ [1, 0, 2] (fun u => cs_X8_as G a_M a_M_now a_M_kept a_M_aside a_M_errors a_M_meetsFound a_M_deedsFound a_M_ahead a_M_NAMED a_M_code a_M_named a_M_pile a_M_often a_M_trace a_M_widths a_M_sizes a_M_numbers a_M_carried M_images M_at M_open M_use M_isWrong M_coded M_traced M_kind M_number M_told M_now u) (fun _ => rfl) rfl (run_V (As := [.int (-1000000005 : Int32)]) (rest := []) C hl (wk_X8_finding l G a_M a_M_now a_M_kept a_M_aside a_M_errors a_M_meetsFound a_M_deedsFound a_M_ahead a_M_NAMED a_M_code a_M_named a_M_pile a_M_often a_M_trace a_M_widths a_M_sizes a_M_numbers a_M_carried s.heap.size M_images M_at M_open M_use M_isWrong M_coded M_traced M_kind M_number M_told M_errors (-1000000005 : Int32) _ hw) gm_X8_87 ⟨⟨rfl, rfl⟩, cn_X8_finding, ⟨(Nat.le_of_ble_eq_true rfl), (Nat.le_of_ble_eq_true rfl)⟩⟩ (pb_blind _ _ _ _) (x_recv I.1 0 rfl rfl) (pb_of I [0, 2] rfl rfl) rfl rfl (Nat.le_of_ble_eq_true rfl) ⟨Nat.le_of_ble_eq_true rfl, Nat.le_of_ble_eq_true rfl⟩ dX8_as_50) (fun r11 u Hx lx hw I => ?_)
        obtain ⟨o10, eo10⟩ : ∃ z, z = u := ⟨_, rfl⟩
        subst eo10
        have I : Iv G A s (cs_X8_as G a_M a_M_now a_M_kept a_M_aside a_M_errors a_M_meetsFound a_M_deedsFound a_M_ahead a_M_NAMED a_M_code a_M_named a_M_pile a_M_often a_M_trace a_M_widths a_M_sizes a_M_numbers a_M_carried M_images M_at M_open M_use M_isWrong M_coded M_traced M_kind M_number M_told M_now o10) Hx lx := I
        exact x_ret1 C I o10 rfl hw dX8_as_53
      · have hw := And.right hw c9
        refine x_aload_n C hl 0 dX8_as_38 rfl ?_
        refine x_iload_n C hl 1 dX8_as_39 rfl ?_
        refine x_iconst C dX8_as_40 ic_1 ?_
        refine x_ro (run_V (As := [.int x1, .int (1 : Int32)]) (rest := []) C hl (wk_X8_soulIs l G a_M a_M_now a_M_kept a_M_aside a_M_errors a_M_meetsFound a_M_deedsFound a_M_ahead a_M_NAMED a_M_code a_M_named a_M_pile a_M_often a_M_trace a_M_widths a_M_sizes a_M_numbers a_M_carried M_images M_at M_open M_use M_isWrong M_coded M_traced M_kind M_number M_told M_now x1 (1 : Int32) _ hw) gm_X8_186 ⟨⟨rfl, rfl⟩, cn_X8_soulIs, ⟨(Nat.le_of_ble_eq_true rfl), (Nat.le_of_ble_eq_true rfl)⟩⟩ (pr_blind _ _ _) (x_recv I.1 0 rfl rfl) (pr_of I.1 [0, 1] rfl) rfl rfl (Nat.le_of_ble_eq_true rfl) ⟨Nat.le_of_ble_eq_true rfl, Nat.le_of_ble_eq_true rfl⟩ dX8_as_41) (fun r12 hw => ?_)
        refine x_goto C 53 dX8_as_44 (by decide) ?_
        exact x_ret1 C I M_errors rfl hw dX8_as_53
    · have hw := And.right hw c6
      exact lk_X8_as_18 G a_M a_M_now a_M_kept a_M_aside a_M_errors a_M_meetsFound a_M_deedsFound a_M_ahead a_M_NAMED a_M_code a_M_named a_M_pile a_M_often a_M_trace a_M_widths a_M_sizes a_M_numbers a_M_carried C x1 x2 M_now M_images M_at M_open M_use M_isWrong M_coded M_traced M_kind M_number M_told Q M_errors s.heap [] ls hw I (lv_sub hl [0] rfl)
