/-! J6_bitCount_0f7a4 -/
abbrev rm_J6_bitCount_0f7a4 : Room := { frames := 0, cells := 0, slots := 0, locals := 0 }
abbrev cs_J6_bitCount_0f7a4 (G : Gt) : va_W := []
def wp_J6_bitCount_0f7a4 (x0 : Int32) (Q : Int32 → Prop) : Prop := (∀ v1 : Int32, v1 = (x0 - ((jushr x0 (1 : Int32)) &&& (1431655765 : Int32))) → (∀ v2 : Int32, v2 = ((v1 &&& (858993459 : Int32)) + ((jushr v1 (2 : Int32)) &&& (858993459 : Int32))) → (∀ v3 : Int32, v3 = ((v2 + (jushr v2 (4 : Int32))) &&& (252645135 : Int32)) → (∀ v4 : Int32, v4 = (v3 + (jushr v3 (8 : Int32))) → (∀ v5 : Int32, v5 = (v4 + (jushr v4 (16 : Int32))) → (Q (v5 &&& (63 : Int32))))))))
set_option maxHeartbeats 4000000 in
set_option maxRecDepth 100000 in
theorem wk_J6_bitCount_0f7a4 (l : Launch) (G : Gt) (x0 : Int32) (Q : Int32 → Prop) (hw : wp_J6_bitCount_0f7a4 x0 Q) : Met l yJ6_bitCount_0f7a4 (wc yJ6_bitCount_0f7a4 cJ6_bitCount_0f7a4 1 (some .int)) rm_J6_bitCount_0f7a4 (va_Pc [.int x0] (PR G (cs_J6_bitCount_0f7a4 G ))) (vp_Si Q) 0 0 (fun _ => False) := by
  refine x_start pn_J6 (Nat.le_of_ble_eq_true rfl) (fun p e s m below meth c ls C hn hl hB => ?_)
  have I := rd_start hB
  have C : Cx p s m [.int x0].toArray meth c cJ6_bitCount_0f7a4 1 RJ6 (some .int) := C
  have hl : lv_has ls 1 [(0, .int x0)] := hl
  refine x_iload_n C hl 0 dJ6_bitCount_0f7a4_0 rfl ?_
  refine x_iload_n C hl 0 dJ6_bitCount_0f7a4_1 rfl ?_
  refine x_iconst C dJ6_bitCount_0f7a4_2 ic_1 ?_
  refine x_iushr C dJ6_bitCount_0f7a4_3 ?_
  refine x_ldcw C wd_439 dJ6_bitCount_0f7a4_4 ?_
  refine x_iand C dJ6_bitCount_0f7a4_7 ?_
  refine x_isub C dJ6_bitCount_0f7a4_8 ?_
  refine lv_topi (fun v1 ev1 => ?_)
  have hw := hw v1 ev1
  refine x_istore_n C hl [(0, .int v1)] dJ6_bitCount_0f7a4_9 (Nat.le_of_ble_eq_true rfl) rfl (fun ls hl => ?_)
  refine x_iload_n C hl 0 dJ6_bitCount_0f7a4_10 rfl ?_
  refine x_ldcw C wd_440 dJ6_bitCount_0f7a4_11 ?_
  refine x_iand C dJ6_bitCount_0f7a4_14 ?_
  refine x_iload_n C hl 0 dJ6_bitCount_0f7a4_15 rfl ?_
  refine x_iconst C dJ6_bitCount_0f7a4_16 ic_2 ?_
  refine x_iushr C dJ6_bitCount_0f7a4_17 ?_
  refine x_ldcw C wd_440 dJ6_bitCount_0f7a4_18 ?_
  refine x_iand C dJ6_bitCount_0f7a4_21 ?_
  refine x_iadd C dJ6_bitCount_0f7a4_22 ?_
  refine lv_topi (fun v2 ev2 => ?_)
  have hw := hw v2 ev2
  refine x_istore_n C hl [(0, .int v2)] dJ6_bitCount_0f7a4_23 (Nat.le_of_ble_eq_true rfl) rfl (fun ls hl => ?_)
  refine x_iload_n C hl 0 dJ6_bitCount_0f7a4_24 rfl ?_
  refine x_iload_n C hl 0 dJ6_bitCount_0f7a4_25 rfl ?_
  refine x_iconst C dJ6_bitCount_0f7a4_26 ic_4 ?_
  refine x_iushr C dJ6_bitCount_0f7a4_27 ?_
  refine x_iadd C dJ6_bitCount_0f7a4_28 ?_
  refine x_ldcw C wd_441 dJ6_bitCount_0f7a4_29 ?_
  refine x_iand C dJ6_bitCount_0f7a4_32 ?_
  refine lv_topi (fun v3 ev3 => ?_)
  have hw := hw v3 ev3
  refine x_istore_n C hl [(0, .int v3)] dJ6_bitCount_0f7a4_33 (Nat.le_of_ble_eq_true rfl) rfl (fun ls hl => ?_)
  refine x_iload_n C hl 0 dJ6_bitCount_0f7a4_34 rfl ?_
  refine x_iload_n C hl 0 dJ6_bitCount_0f7a4_35 rfl ?_
  refine x_bipush C dJ6_bitCount_0f7a4_36 bp_8 ?_
  refine x_iushr C dJ6_bitCount_0f7a4_38 ?_
  refine x_iadd C dJ6_bitCount_0f7a4_39 ?_
  refine lv_topi (fun v4 ev4 => ?_)
  have hw := hw v4 ev4
  refine x_istore_n C hl [(0, .int v4)] dJ6_bitCount_0f7a4_40 (Nat.le_of_ble_eq_true rfl) rfl (fun ls hl => ?_)
  refine x_iload_n C hl 0 dJ6_bitCount_0f7a4_41 rfl ?_
  refine x_iload_n C hl 0 dJ6_bitCount_0f7a4_42 rfl ?_
  refine x_bipush C dJ6_bitCount_0f7a4_43 bp_16 ?_
  refine x_iushr C dJ6_bitCount_0f7a4_45 ?_
  refine x_iadd C dJ6_bitCount_0f7a4_46 ?_
  refine lv_topi (fun v5 ev5 => ?_)
  have hw := hw v5 ev5
  refine x_istore_n C hl [(0, .int v5)] dJ6_bitCount_0f7a4_47 (Nat.le_of_ble_eq_true rfl) rfl (fun ls hl => ?_)
  refine x_iload_n C hl 0 dJ6_bitCount_0f7a4_48 rfl ?_
  refine x_bipush C dJ6_bitCount_0f7a4_49 bp_63 ?_
  refine x_iand C dJ6_bitCount_0f7a4_51 ?_
  exact x_ret0 C hw dJ6_bitCount_0f7a4_52
/-! X0_copy -/
abbrev rm_X0_copy : Room := { frames := 1, cells := 0, slots := 0, locals := 40 }
abbrev cs_X0_copy (G : Gt) (a_O : Nat) (a_O_meeting : Nat) (a_O_deed : Nat) (a_O_kind : Nat) (a_O_m : Nat) (a_O_at : Nat) (a_O_free : Nat) (a_O_gloved : Nat) (a_O_deeds : Nat) (a_O_handed : Nat) (a_O_crowd : Nat) (a_F : Nat) (a_F_meeting : Nat) (a_F_deed : Nat) (a_F_kind : Nat) (a_F_m : Nat) (a_F_at : Nat) (a_F_free : Nat) (a_F_gloved : Nat) (a_F_deeds : Nat) (a_F_handed : Nat) (a_F_crowd : Nat) (O_size : Int32) (O_step : Int32) (O_loss : Int32) (F_size : Int32) (F_step : Int32) (F_loss : Int32) (O_kind : Nat → Int32) (F_kind : Nat → Int32) (O_m : Nat → Int32) (F_m : Nat → Int32) (O_at : Nat → Int32) (F_at : Nat → Int32) (O_free : Nat → Int32) (F_free : Nat → Int32) (O_gloved : Nat → Int32) (F_gloved : Nat → Int32) (O_deeds : Nat → Int32) (F_deeds : Nat → Int32) : va_W := [(a_O, .inr (0, [.ref a_O_meeting, .ref a_O_deed, .ref a_O_kind, .ref a_O_m, .ref a_O_at, .ref a_O_free, .ref a_O_gloved, .ref a_O_deeds, .ref a_O_handed, .ref a_O_crowd, .int O_size, .int O_step, .int O_loss])), (a_F, .inr (0, [.ref a_F_meeting, .ref a_F_deed, .ref a_F_kind, .ref a_F_m, .ref a_F_at, .ref a_F_free, .ref a_F_gloved, .ref a_F_deeds, .ref a_F_handed, .ref a_F_crowd, .int F_size, .int F_step, .int F_loss])), (a_O_kind, .inl (cI G, 8, .inl O_kind)), (a_F_kind, .inl (cI G, 8, .inl F_kind)), (a_O_m, .inl (cI G, 8, .inl O_m)), (a_F_m, .inl (cI G, 8, .inl F_m)), (a_O_at, .inl (cI G, 8, .inl O_at)), (a_F_at, .inl (cI G, 8, .inl F_at)), (a_O_free, .inl (cI G, 8, .inl O_free)), (a_F_free, .inl (cI G, 8, .inl F_free)), (a_O_gloved, .inl (cI G, 8, .inl O_gloved)), (a_F_gloved, .inl (cI G, 8, .inl F_gloved)), (a_O_deeds, .inl (cI G, 8, .inl O_deeds)), (a_F_deeds, .inl (cI G, 8, .inl F_deeds))]
abbrev qc_X0_copy (G : Gt) (a_O : Nat) (a_O_meeting : Nat) (a_O_deed : Nat) (a_O_kind : Nat) (a_O_m : Nat) (a_O_at : Nat) (a_O_free : Nat) (a_O_gloved : Nat) (a_O_deeds : Nat) (a_O_handed : Nat) (a_O_crowd : Nat) (a_F : Nat) (a_F_meeting : Nat) (a_F_deed : Nat) (a_F_kind : Nat) (a_F_m : Nat) (a_F_at : Nat) (a_F_free : Nat) (a_F_gloved : Nat) (a_F_deeds : Nat) (a_F_handed : Nat) (a_F_crowd : Nat) (O_size : Int32) (O_step : Int32) (O_loss : Int32) (O_kind : Nat → Int32) (O_m : Nat → Int32) (O_at : Nat → Int32) (O_free : Nat → Int32) (O_gloved : Nat → Int32) (O_deeds : Nat → Int32) (A : Nat → Prop) (Q : Int32 → Int32 → Int32 → (Nat → Int32) → (Nat → Int32) → (Nat → Int32) → (Nat → Int32) → (Nat → Int32) → (Nat → Int32) → Prop) : Array Value → State → Outcome → State → Prop := Qv1 G A (fun (u : Int32 × Int32 × Int32 × (Nat → Int32) × (Nat → Int32) × (Nat → Int32) × (Nat → Int32) × (Nat → Int32) × (Nat → Int32)) => Q u.1 u.2.1 u.2.2.1 u.2.2.2.1 u.2.2.2.2.1 u.2.2.2.2.2.1 u.2.2.2.2.2.2.1 u.2.2.2.2.2.2.2.1 u.2.2.2.2.2.2.2.2) (fun u => cs_X0_copy G a_O a_O_meeting a_O_deed a_O_kind a_O_m a_O_at a_O_free a_O_gloved a_O_deeds a_O_handed a_O_crowd a_F a_F_meeting a_F_deed a_F_kind a_F_m a_F_at a_F_free a_F_gloved a_F_deeds a_F_handed a_F_crowd O_size O_step O_loss u.1 u.2.1 u.2.2.1 O_kind u.2.2.2.1 O_m u.2.2.2.2.1 O_at u.2.2.2.2.2.1 O_free u.2.2.2.2.2.2.1 O_gloved u.2.2.2.2.2.2.2.1 O_deeds u.2.2.2.2.2.2.2.2)
def wp_X0_copy (O_size : Int32) (O_step : Int32) (O_loss : Int32) (F_size : Int32) (F_step : Int32) (F_loss : Int32) (O_kind : Nat → Int32) (F_kind : Nat → Int32) (O_m : Nat → Int32) (F_m : Nat → Int32) (O_at : Nat → Int32) (F_at : Nat → Int32) (O_free : Nat → Int32) (F_free : Nat → Int32) (O_gloved : Nat → Int32) (F_gloved : Nat → Int32) (O_deeds : Nat → Int32) (F_deeds : Nat → Int32) (Q : Int32 → Int32 → Int32 → (Nat → Int32) → (Nat → Int32) → (Nat → Int32) → (Nat → Int32) → (Nat → Int32) → (Nat → Int32) → Prop) : Prop := (Q O_size O_step O_loss (va_cpy O_kind F_kind ((0 : Int32)).toNatClampNeg ((0 : Int32)).toNatClampNeg ((8 : Int32)).toNatClampNeg) (va_cpy O_m F_m ((0 : Int32)).toNatClampNeg ((0 : Int32)).toNatClampNeg ((8 : Int32)).toNatClampNeg) (va_cpy O_at F_at ((0 : Int32)).toNatClampNeg ((0 : Int32)).toNatClampNeg ((8 : Int32)).toNatClampNeg) (va_cpy O_free F_free ((0 : Int32)).toNatClampNeg ((0 : Int32)).toNatClampNeg ((8 : Int32)).toNatClampNeg) (va_cpy O_gloved F_gloved ((0 : Int32)).toNatClampNeg ((0 : Int32)).toNatClampNeg ((8 : Int32)).toNatClampNeg) (va_cpy O_deeds F_deeds ((0 : Int32)).toNatClampNeg ((0 : Int32)).toNatClampNeg ((8 : Int32)).toNatClampNeg))
set_option maxHeartbeats 4000000 in
set_option maxRecDepth 100000 in
theorem wk_X0_copy (l : Launch) (G : Gt) (a_O : Nat) (a_O_meeting : Nat) (a_O_deed : Nat) (a_O_kind : Nat) (a_O_m : Nat) (a_O_at : Nat) (a_O_free : Nat) (a_O_gloved : Nat) (a_O_deeds : Nat) (a_O_handed : Nat) (a_O_crowd : Nat) (a_F : Nat) (a_F_meeting : Nat) (a_F_deed : Nat) (a_F_kind : Nat) (a_F_m : Nat) (a_F_at : Nat) (a_F_free : Nat) (a_F_gloved : Nat) (a_F_deeds : Nat) (a_F_handed : Nat) (a_F_crowd : Nat) (sz : Nat) (O_size : Int32) (O_step : Int32) (O_loss : Int32) (F_size : Int32) (F_step : Int32) (F_loss : Int32) (O_kind : Nat → Int32) (F_kind : Nat → Int32) (O_m : Nat → Int32) (F_m : Nat → Int32) (O_at : Nat → Int32) (F_at : Nat → Int32) (O_free : Nat → Int32) (F_free : Nat → Int32) (O_gloved : Nat → Int32) (F_gloved : Nat → Int32) (O_deeds : Nat → Int32) (F_deeds : Nat → Int32) (Q : Int32 → Int32 → Int32 → (Nat → Int32) → (Nat → Int32) → (Nat → Int32) → (Nat → Int32) → (Nat → Int32) → (Nat → Int32) → Prop) (hw : wp_X0_copy O_size O_step O_loss F_size F_step F_loss O_kind F_kind O_m F_m O_at F_at O_free F_free O_gloved F_gloved O_deeds F_deeds Q) : Met l yX0_copy (wc yX0_copy cX0_copy 2 none) rm_X0_copy (va_Pc [.ref a_F, .ref a_O] (PB G (cs_X0_copy G a_O a_O_meeting a_O_deed a_O_kind a_O_m a_O_at a_O_free a_O_gloved a_O_deeds a_O_handed a_O_crowd a_F a_F_meeting a_F_deed a_F_kind a_F_m a_F_at a_F_free a_F_gloved a_F_deeds a_F_handed a_F_crowd O_size O_step O_loss F_size F_step F_loss O_kind F_kind O_m F_m O_at F_at O_free F_free O_gloved F_gloved O_deeds F_deeds) sz)) (qc_X0_copy G a_O a_O_meeting a_O_deed a_O_kind a_O_m a_O_at a_O_free a_O_gloved a_O_deeds a_O_handed a_O_crowd a_F a_F_meeting a_F_deed a_F_kind a_F_m a_F_at a_F_free a_F_gloved a_F_deeds a_F_handed a_F_crowd O_size O_step O_loss O_kind O_m O_at O_free O_gloved O_deeds (va_A (cs_X0_copy G a_O a_O_meeting a_O_deed a_O_kind a_O_m a_O_at a_O_free a_O_gloved a_O_deeds a_O_handed a_O_crowd a_F a_F_meeting a_F_deed a_F_kind a_F_m a_F_at a_F_free a_F_gloved a_F_deeds a_F_handed a_F_crowd O_size O_step O_loss F_size F_step F_loss O_kind F_kind O_m F_m O_at F_at O_free F_free O_gloved F_gloved O_deeds F_deeds) sz) Q) 0 0 (va_A (cs_X0_copy G a_O a_O_meeting a_O_deed a_O_kind a_O_m a_O_at a_O_free a_O_gloved a_O_deeds a_O_handed a_O_crowd a_F a_F_meeting a_F_deed a_F_kind a_F_m a_F_at a_F_free a_F_gloved a_F_deeds a_F_handed a_F_crowd O_size O_step O_loss F_size F_step F_loss O_kind F_kind O_m F_m O_at F_at O_free F_free O_gloved F_gloved O_deeds F_deeds) sz) := by
  refine x_start pn_X0 (Nat.le_of_ble_eq_true rfl) (fun p e s m below meth c ls C hn hl hB => ?_)
  have I := iv_start hB
  generalize va_A (cs_X0_copy G a_O a_O_meeting a_O_deed a_O_kind a_O_m a_O_at a_O_free a_O_gloved a_O_deeds a_O_handed a_O_crowd a_F a_F_meeting a_F_deed a_F_kind a_F_m a_F_at a_F_free a_F_gloved a_F_deeds a_F_handed a_F_crowd O_size O_step O_loss F_size F_step F_loss O_kind F_kind O_m F_m O_at F_at O_free F_free O_gloved F_gloved O_deeds F_deeds) sz = A at I ⊢
  have C : Cx p s m [.ref a_F, .ref a_O].toArray meth c cX0_copy 2 RX0 none := C
  have hl : lv_has ls 2 [(0, .ref a_F), (1, .ref a_O)] := hl
  refine x_aload_n C hl 1 dX0_copy_0 rfl ?_
  refine x_get C I.1 fl_X0_9 0 rfl rfl dX0_copy_1 ?_
  refine x_iconst C dX0_copy_4 ic_0 ?_
  refine x_aload_n C hl 0 dX0_copy_5 rfl ?_
  refine x_get C I.1 fl_X0_9 1 rfl rfl dX0_copy_6 ?_
  refine x_iconst C dX0_copy_9 ic_0 ?_
  refine x_bipush C dX0_copy_10 bp_8 ?_
  refine x_copy C hl I wd_634 wd_486 wd_485 wd_86 2 3 (cs_X0_copy G a_O a_O_meeting a_O_deed a_O_kind a_O_m a_O_at a_O_free a_O_gloved a_O_deeds a_O_handed a_O_crowd a_F a_F_meeting a_F_deed a_F_kind a_F_m a_F_at a_F_free a_F_gloved a_F_deeds a_F_handed a_F_crowd O_size O_step O_loss F_size F_step F_loss O_kind (va_cpy O_kind F_kind ((0 : Int32)).toNatClampNeg ((0 : Int32)).toNatClampNeg ((8 : Int32)).toNatClampNeg) O_m F_m O_at F_at O_free F_free O_gloved F_gloved O_deeds F_deeds) rfl rfl (by decide) (by decide) (by decide) (by decide) (by decide) (Nat.le_of_ble_eq_true rfl) (Nat.le_of_ble_eq_true rfl) rfl dX0_copy_12 (fun Hx lx I => ?_)
  refine x_aload_n C hl 1 dX0_copy_15 rfl ?_
  refine x_get C I.1 fl_X0_15 0 rfl rfl dX0_copy_16 ?_
  refine x_iconst C dX0_copy_19 ic_0 ?_
  refine x_aload_n C hl 0 dX0_copy_20 rfl ?_
  refine x_get C I.1 fl_X0_15 1 rfl rfl dX0_copy_21 ?_
  refine x_iconst C dX0_copy_24 ic_0 ?_
  refine x_bipush C dX0_copy_25 bp_8 ?_
  refine x_copy C hl I wd_634 wd_486 wd_485 wd_86 4 5 (cs_X0_copy G a_O a_O_meeting a_O_deed a_O_kind a_O_m a_O_at a_O_free a_O_gloved a_O_deeds a_O_handed a_O_crowd a_F a_F_meeting a_F_deed a_F_kind a_F_m a_F_at a_F_free a_F_gloved a_F_deeds a_F_handed a_F_crowd O_size O_step O_loss F_size F_step F_loss O_kind (va_cpy O_kind F_kind ((0 : Int32)).toNatClampNeg ((0 : Int32)).toNatClampNeg ((8 : Int32)).toNatClampNeg) O_m (va_cpy O_m F_m ((0 : Int32)).toNatClampNeg ((0 : Int32)).toNatClampNeg ((8 : Int32)).toNatClampNeg) O_at F_at O_free F_free O_gloved F_gloved O_deeds F_deeds) rfl rfl (by decide) (by decide) (by decide) (by decide) (by decide) (Nat.le_of_ble_eq_true rfl) (Nat.le_of_ble_eq_true rfl) rfl dX0_copy_27 (fun Hx lx I => ?_)
  refine x_aload_n C hl 1 dX0_copy_30 rfl ?_
  refine x_get C I.1 fl_X0_18 0 rfl rfl dX0_copy_31 ?_
  refine x_iconst C dX0_copy_34 ic_0 ?_
  refine x_aload_n C hl 0 dX0_copy_35 rfl ?_
  refine x_get C I.1 fl_X0_18 1 rfl rfl dX0_copy_36 ?_
  refine x_iconst C dX0_copy_39 ic_0 ?_
  refine x_bipush C dX0_copy_40 bp_8 ?_
  refine x_copy C hl I wd_634 wd_486 wd_485 wd_86 6 7 (cs_X0_copy G a_O a_O_meeting a_O_deed a_O_kind a_O_m a_O_at a_O_free a_O_gloved a_O_deeds a_O_handed a_O_crowd a_F a_F_meeting a_F_deed a_F_kind a_F_m a_F_at a_F_free a_F_gloved a_F_deeds a_F_handed a_F_crowd O_size O_step O_loss F_size F_step F_loss O_kind (va_cpy O_kind F_kind ((0 : Int32)).toNatClampNeg ((0 : Int32)).toNatClampNeg ((8 : Int32)).toNatClampNeg) O_m (va_cpy O_m F_m ((0 : Int32)).toNatClampNeg ((0 : Int32)).toNatClampNeg ((8 : Int32)).toNatClampNeg) O_at (va_cpy O_at F_at ((0 : Int32)).toNatClampNeg ((0 : Int32)).toNatClampNeg ((8 : Int32)).toNatClampNeg) O_free F_free O_gloved F_gloved O_deeds F_deeds) rfl rfl (by decide) (by decide) (by decide) (by decide) (by decide) (Nat.le_of_ble_eq_true rfl) (Nat.le_of_ble_eq_true rfl) rfl dX0_copy_42 (fun Hx lx I => ?_)
  refine x_aload_n C hl 1 dX0_copy_45 rfl ?_
  refine x_get C I.1 fl_X0_21 0 rfl rfl dX0_copy_46 ?_
  refine x_iconst C dX0_copy_49 ic_0 ?_
  refine x_aload_n C hl 0 dX0_copy_50 rfl ?_
  refine x_get C I.1 fl_X0_21 1 rfl rfl dX0_copy_51 ?_
  refine x_iconst C dX0_copy_54 ic_0 ?_
  refine x_bipush C dX0_copy_55 bp_8 ?_
  refine x_copy C hl I wd_634 wd_486 wd_485 wd_86 8 9 (cs_X0_copy G a_O a_O_meeting a_O_deed a_O_kind a_O_m a_O_at a_O_free a_O_gloved a_O_deeds a_O_handed a_O_crowd a_F a_F_meeting a_F_deed a_F_kind a_F_m a_F_at a_F_free a_F_gloved a_F_deeds a_F_handed a_F_crowd O_size O_step O_loss F_size F_step F_loss O_kind (va_cpy O_kind F_kind ((0 : Int32)).toNatClampNeg ((0 : Int32)).toNatClampNeg ((8 : Int32)).toNatClampNeg) O_m (va_cpy O_m F_m ((0 : Int32)).toNatClampNeg ((0 : Int32)).toNatClampNeg ((8 : Int32)).toNatClampNeg) O_at (va_cpy O_at F_at ((0 : Int32)).toNatClampNeg ((0 : Int32)).toNatClampNeg ((8 : Int32)).toNatClampNeg) O_free (va_cpy O_free F_free ((0 : Int32)).toNatClampNeg ((0 : Int32)).toNatClampNeg ((8 : Int32)).toNatClampNeg) O_gloved F_gloved O_deeds F_deeds) rfl rfl (by decide) (by decide) (by decide) (by decide) (by decide) (Nat.le_of_ble_eq_true rfl) (Nat.le_of_ble_eq_true rfl) rfl dX0_copy_57 (fun Hx lx I => ?_)
  refine x_aload_n C hl 1 dX0_copy_60 rfl ?_
  refine x_get C I.1 fl_X0_24 0 rfl rfl dX0_copy_61 ?_
  refine x_iconst C dX0_copy_64 ic_0 ?_
  refine x_aload_n C hl 0 dX0_copy_65 rfl ?_
  refine x_get C I.1 fl_X0_24 1 rfl rfl dX0_copy_66 ?_
  refine x_iconst C dX0_copy_69 ic_0 ?_
  refine x_bipush C dX0_copy_70 bp_8 ?_
  refine x_copy C hl I wd_634 wd_486 wd_485 wd_86 10 11 (cs_X0_copy G a_O a_O_meeting a_O_deed a_O_kind a_O_m a_O_at a_O_free a_O_gloved a_O_deeds a_O_handed a_O_crowd a_F a_F_meeting a_F_deed a_F_kind a_F_m a_F_at a_F_free a_F_gloved a_F_deeds a_F_handed a_F_crowd O_size O_step O_loss F_size F_step F_loss O_kind (va_cpy O_kind F_kind ((0 : Int32)).toNatClampNeg ((0 : Int32)).toNatClampNeg ((8 : Int32)).toNatClampNeg) O_m (va_cpy O_m F_m ((0 : Int32)).toNatClampNeg ((0 : Int32)).toNatClampNeg ((8 : Int32)).toNatClampNeg) O_at (va_cpy O_at F_at ((0 : Int32)).toNatClampNeg ((0 : Int32)).toNatClampNeg ((8 : Int32)).toNatClampNeg) O_free (va_cpy O_free F_free ((0 : Int32)).toNatClampNeg ((0 : Int32)).toNatClampNeg ((8 : Int32)).toNatClampNeg) O_gloved (va_cpy O_gloved F_gloved ((0 : Int32)).toNatClampNeg ((0 : Int32)).toNatClampNeg ((8 : Int32)).toNatClampNeg) O_deeds F_deeds) rfl rfl (by decide) (by decide) (by decide) (by decide) (by decide) (Nat.le_of_ble_eq_true rfl) (Nat.le_of_ble_eq_true rfl) rfl dX0_copy_72 (fun Hx lx I => ?_)
  refine x_aload_n C hl 1 dX0_copy_75 rfl ?_
  refine x_get C I.1 fl_X0_27 0 rfl rfl dX0_copy_76 ?_
  refine x_iconst C dX0_copy_79 ic_0 ?_
  refine x_aload_n C hl 0 dX0_copy_80 rfl ?_
  refine x_get C I.1 fl_X0_27 1 rfl rfl dX0_copy_81 ?_
  refine x_iconst C dX0_copy_84 ic_0 ?_
  refine x_bipush C dX0_copy_85 bp_8 ?_
  refine x_copy C hl I wd_634 wd_486 wd_485 wd_86 12 13 (cs_X0_copy G a_O a_O_meeting a_O_deed a_O_kind a_O_m a_O_at a_O_free a_O_gloved a_O_deeds a_O_handed a_O_crowd a_F a_F_meeting a_F_deed a_F_kind a_F_m a_F_at a_F_free a_F_gloved a_F_deeds a_F_handed a_F_crowd O_size O_step O_loss F_size F_step F_loss O_kind (va_cpy O_kind F_kind ((0 : Int32)).toNatClampNeg ((0 : Int32)).toNatClampNeg ((8 : Int32)).toNatClampNeg) O_m (va_cpy O_m F_m ((0 : Int32)).toNatClampNeg ((0 : Int32)).toNatClampNeg ((8 : Int32)).toNatClampNeg) O_at (va_cpy O_at F_at ((0 : Int32)).toNatClampNeg ((0 : Int32)).toNatClampNeg ((8 : Int32)).toNatClampNeg) O_free (va_cpy O_free F_free ((0 : Int32)).toNatClampNeg ((0 : Int32)).toNatClampNeg ((8 : Int32)).toNatClampNeg) O_gloved (va_cpy O_gloved F_gloved ((0 : Int32)).toNatClampNeg ((0 : Int32)).toNatClampNeg ((8 : Int32)).toNatClampNeg) O_deeds (va_cpy O_deeds F_deeds ((0 : Int32)).toNatClampNeg ((0 : Int32)).toNatClampNeg ((8 : Int32)).toNatClampNeg)) rfl rfl (by decide) (by decide) (by decide) (by decide) (by decide) (Nat.le_of_ble_eq_true rfl) (Nat.le_of_ble_eq_true rfl) rfl dX0_copy_87 (fun Hx lx I => ?_)
  refine x_aload_n C hl 0 dX0_copy_90 rfl ?_
  refine x_aload_n C hl 1 dX0_copy_91 rfl ?_
  refine x_get C I.1 fl_X0_43 0 rfl rfl dX0_copy_92 ?_
  refine x_put C I fl_X0_43 tyX0 tyX0_ok nmX0 rfl 1 (cs_X0_copy G a_O a_O_meeting a_O_deed a_O_kind a_O_m a_O_at a_O_free a_O_gloved a_O_deeds a_O_handed a_O_crowd a_F a_F_meeting a_F_deed a_F_kind a_F_m a_F_at a_F_free a_F_gloved a_F_deeds a_F_handed a_F_crowd O_size O_step O_loss O_size F_step F_loss O_kind (va_cpy O_kind F_kind ((0 : Int32)).toNatClampNeg ((0 : Int32)).toNatClampNeg ((8 : Int32)).toNatClampNeg) O_m (va_cpy O_m F_m ((0 : Int32)).toNatClampNeg ((0 : Int32)).toNatClampNeg ((8 : Int32)).toNatClampNeg) O_at (va_cpy O_at F_at ((0 : Int32)).toNatClampNeg ((0 : Int32)).toNatClampNeg ((8 : Int32)).toNatClampNeg) O_free (va_cpy O_free F_free ((0 : Int32)).toNatClampNeg ((0 : Int32)).toNatClampNeg ((8 : Int32)).toNatClampNeg) O_gloved (va_cpy O_gloved F_gloved ((0 : Int32)).toNatClampNeg ((0 : Int32)).toNatClampNeg ((8 : Int32)).toNatClampNeg) O_deeds (va_cpy O_deeds F_deeds ((0 : Int32)).toNatClampNeg ((0 : Int32)).toNatClampNeg ((8 : Int32)).toNatClampNeg)) rfl rfl rfl (Nat.le_of_ble_eq_true rfl) rfl dX0_copy_95 (fun Hx lx I => ?_)
  refine x_aload_n C hl 0 dX0_copy_98 rfl ?_
  refine x_aload_n C hl 1 dX0_copy_99 rfl ?_
  refine x_get C I.1 fl_X0_47 0 rfl rfl dX0_copy_100 ?_
  refine x_put C I fl_X0_47 tyX0 tyX0_ok nmX0 rfl 1 (cs_X0_copy G a_O a_O_meeting a_O_deed a_O_kind a_O_m a_O_at a_O_free a_O_gloved a_O_deeds a_O_handed a_O_crowd a_F a_F_meeting a_F_deed a_F_kind a_F_m a_F_at a_F_free a_F_gloved a_F_deeds a_F_handed a_F_crowd O_size O_step O_loss O_size O_step F_loss O_kind (va_cpy O_kind F_kind ((0 : Int32)).toNatClampNeg ((0 : Int32)).toNatClampNeg ((8 : Int32)).toNatClampNeg) O_m (va_cpy O_m F_m ((0 : Int32)).toNatClampNeg ((0 : Int32)).toNatClampNeg ((8 : Int32)).toNatClampNeg) O_at (va_cpy O_at F_at ((0 : Int32)).toNatClampNeg ((0 : Int32)).toNatClampNeg ((8 : Int32)).toNatClampNeg) O_free (va_cpy O_free F_free ((0 : Int32)).toNatClampNeg ((0 : Int32)).toNatClampNeg ((8 : Int32)).toNatClampNeg) O_gloved (va_cpy O_gloved F_gloved ((0 : Int32)).toNatClampNeg ((0 : Int32)).toNatClampNeg ((8 : Int32)).toNatClampNeg) O_deeds (va_cpy O_deeds F_deeds ((0 : Int32)).toNatClampNeg ((0 : Int32)).toNatClampNeg ((8 : Int32)).toNatClampNeg)) rfl rfl rfl (Nat.le_of_ble_eq_true rfl) rfl dX0_copy_103 (fun Hx lx I => ?_)
  refine x_aload_n C hl 0 dX0_copy_106 rfl ?_
  refine x_aload_n C hl 1 dX0_copy_107 rfl ?_
  refine x_get C I.1 fl_X0_50 0 rfl rfl dX0_copy_108 ?_
  refine x_put C I fl_X0_50 tyX0 tyX0_ok nmX0 rfl 1 (cs_X0_copy G a_O a_O_meeting a_O_deed a_O_kind a_O_m a_O_at a_O_free a_O_gloved a_O_deeds a_O_handed a_O_crowd a_F a_F_meeting a_F_deed a_F_kind a_F_m a_F_at a_F_free a_F_gloved a_F_deeds a_F_handed a_F_crowd O_size O_step O_loss O_size O_step O_loss O_kind (va_cpy O_kind F_kind ((0 : Int32)).toNatClampNeg ((0 : Int32)).toNatClampNeg ((8 : Int32)).toNatClampNeg) O_m (va_cpy O_m F_m ((0 : Int32)).toNatClampNeg ((0 : Int32)).toNatClampNeg ((8 : Int32)).toNatClampNeg) O_at (va_cpy O_at F_at ((0 : Int32)).toNatClampNeg ((0 : Int32)).toNatClampNeg ((8 : Int32)).toNatClampNeg) O_free (va_cpy O_free F_free ((0 : Int32)).toNatClampNeg ((0 : Int32)).toNatClampNeg ((8 : Int32)).toNatClampNeg) O_gloved (va_cpy O_gloved F_gloved ((0 : Int32)).toNatClampNeg ((0 : Int32)).toNatClampNeg ((8 : Int32)).toNatClampNeg) O_deeds (va_cpy O_deeds F_deeds ((0 : Int32)).toNatClampNeg ((0 : Int32)).toNatClampNeg ((8 : Int32)).toNatClampNeg)) rfl rfl rfl (Nat.le_of_ble_eq_true rfl) rfl dX0_copy_111 (fun Hx lx I => ?_)
  exact x_retv C I (O_size, O_step, O_loss, (va_cpy O_kind F_kind ((0 : Int32)).toNatClampNeg ((0 : Int32)).toNatClampNeg ((8 : Int32)).toNatClampNeg), (va_cpy O_m F_m ((0 : Int32)).toNatClampNeg ((0 : Int32)).toNatClampNeg ((8 : Int32)).toNatClampNeg), (va_cpy O_at F_at ((0 : Int32)).toNatClampNeg ((0 : Int32)).toNatClampNeg ((8 : Int32)).toNatClampNeg), (va_cpy O_free F_free ((0 : Int32)).toNatClampNeg ((0 : Int32)).toNatClampNeg ((8 : Int32)).toNatClampNeg), (va_cpy O_gloved F_gloved ((0 : Int32)).toNatClampNeg ((0 : Int32)).toNatClampNeg ((8 : Int32)).toNatClampNeg), (va_cpy O_deeds F_deeds ((0 : Int32)).toNatClampNeg ((0 : Int32)).toNatClampNeg ((8 : Int32)).toNatClampNeg)) rfl hw dX0_copy_114
/-! X0_turnInto -/
abbrev rm_X0_turnInto : Room := { frames := 0, cells := 0, slots := 0, locals := 0 }
abbrev cs_X0_turnInto (G : Gt) (a_F : Nat) (a_F_meeting : Nat) (a_F_deed : Nat) (a_F_kind : Nat) (a_F_m : Nat) (a_F_at : Nat) (a_F_free : Nat) (a_F_gloved : Nat) (a_F_deeds : Nat) (a_F_handed : Nat) (a_F_crowd : Nat) (F_size : Int32) (F_step : Int32) (F_loss : Int32) (F_kind : Nat → Int32) (F_m : Nat → Int32) : va_W := [(a_F, .inr (0, [.ref a_F_meeting, .ref a_F_deed, .ref a_F_kind, .ref a_F_m, .ref a_F_at, .ref a_F_free, .ref a_F_gloved, .ref a_F_deeds, .ref a_F_handed, .ref a_F_crowd, .int F_size, .int F_step, .int F_loss])), (a_F_kind, .inl (cI G, 8, .inl F_kind)), (a_F_m, .inl (cI G, 8, .inl F_m))]
abbrev qc_X0_turnInto (G : Gt) (a_F : Nat) (a_F_meeting : Nat) (a_F_deed : Nat) (a_F_kind : Nat) (a_F_m : Nat) (a_F_at : Nat) (a_F_free : Nat) (a_F_gloved : Nat) (a_F_deeds : Nat) (a_F_handed : Nat) (a_F_crowd : Nat) (F_size : Int32) (F_step : Int32) (F_loss : Int32) (A : Nat → Prop) (Q : (Nat → Int32) → (Nat → Int32) → Prop) : Array Value → State → Outcome → State → Prop := Qv1 G A (fun (u : (Nat → Int32) × (Nat → Int32)) => Q u.1 u.2) (fun u => cs_X0_turnInto G a_F a_F_meeting a_F_deed a_F_kind a_F_m a_F_at a_F_free a_F_gloved a_F_deeds a_F_handed a_F_crowd F_size F_step F_loss u.1 u.2)
def wp_X0_turnInto (x1 : Int32) (x2 : Int32) (F_kind : Nat → Int32) (F_m : Nat → Int32) (Q : (Nat → Int32) → (Nat → Int32) → Prop) : Prop := (∀ v1 : Int32, v1 = (x2 / (10 : Int32)) → (vp_in x1 8 ∧ (∀ v2 : Int32, v2 = (jrem x2 (10 : Int32)) → (vp_in x1 8 ∧ (Q (upd F_kind (x1).toNatClampNeg v1) (upd F_m (x1).toNatClampNeg v2))))))
set_option maxHeartbeats 4000000 in
set_option maxRecDepth 100000 in
theorem wk_X0_turnInto (l : Launch) (G : Gt) (a_F : Nat) (a_F_meeting : Nat) (a_F_deed : Nat) (a_F_kind : Nat) (a_F_m : Nat) (a_F_at : Nat) (a_F_free : Nat) (a_F_gloved : Nat) (a_F_deeds : Nat) (a_F_handed : Nat) (a_F_crowd : Nat) (sz : Nat) (F_size : Int32) (F_step : Int32) (F_loss : Int32) (F_kind : Nat → Int32) (F_m : Nat → Int32) (x1 : Int32) (x2 : Int32) (Q : (Nat → Int32) → (Nat → Int32) → Prop) (hw : wp_X0_turnInto x1 x2 F_kind F_m Q) : Met l yX0_turnInto (wc yX0_turnInto cX0_turnInto 3 none) rm_X0_turnInto (va_Pc [.ref a_F, .int x1, .int x2] (PB G (cs_X0_turnInto G a_F a_F_meeting a_F_deed a_F_kind a_F_m a_F_at a_F_free a_F_gloved a_F_deeds a_F_handed a_F_crowd F_size F_step F_loss F_kind F_m) sz)) (qc_X0_turnInto G a_F a_F_meeting a_F_deed a_F_kind a_F_m a_F_at a_F_free a_F_gloved a_F_deeds a_F_handed a_F_crowd F_size F_step F_loss (va_A (cs_X0_turnInto G a_F a_F_meeting a_F_deed a_F_kind a_F_m a_F_at a_F_free a_F_gloved a_F_deeds a_F_handed a_F_crowd F_size F_step F_loss F_kind F_m) sz) Q) 0 0 (va_A (cs_X0_turnInto G a_F a_F_meeting a_F_deed a_F_kind a_F_m a_F_at a_F_free a_F_gloved a_F_deeds a_F_handed a_F_crowd F_size F_step F_loss F_kind F_m) sz) := by
  refine x_start pn_X0 (Nat.le_of_ble_eq_true rfl) (fun p e s m below meth c ls C hn hl hB => ?_)
  have I := iv_start hB
  generalize va_A (cs_X0_turnInto G a_F a_F_meeting a_F_deed a_F_kind a_F_m a_F_at a_F_free a_F_gloved a_F_deeds a_F_handed a_F_crowd F_size F_step F_loss F_kind F_m) sz = A at I ⊢
  have C : Cx p s m [.ref a_F, .int x1, .int x2].toArray meth c cX0_turnInto 3 RX0 none := C
  have hl : lv_has ls 3 [(0, .ref a_F), (1, .int x1), (2, .int x2)] := hl
  refine x_aload_n C hl 0 dX0_turnInto_0 rfl ?_
  refine x_get C I.1 fl_X0_9 0 rfl rfl dX0_turnInto_1 ?_
  refine x_iload_n C hl 1 dX0_turnInto_4 rfl ?_
  refine x_iload_n C hl 2 dX0_turnInto_5 rfl ?_
  refine x_bipush C dX0_turnInto_6 bp_10 ?_
  refine x_idiv C nz_10 dX0_turnInto_8 ?_
  refine lv_topi (fun v1 ev1 => ?_)
  have hw := hw v1 ev1
  refine x_iast C I 1 (cs_X0_turnInto G a_F a_F_meeting a_F_deed a_F_kind a_F_m a_F_at a_F_free a_F_gloved a_F_deeds a_F_handed a_F_crowd F_size F_step F_loss (upd F_kind (x1).toNatClampNeg v1) F_m) rfl (And.left hw) rfl dX0_turnInto_9 (fun Hx lx I => ?_)
  have hw := And.right hw
  refine x_aload_n C hl 0 dX0_turnInto_10 rfl ?_
  refine x_get C I.1 fl_X0_15 0 rfl rfl dX0_turnInto_11 ?_
  refine x_iload_n C hl 1 dX0_turnInto_14 rfl ?_
  refine x_iload_n C hl 2 dX0_turnInto_15 rfl ?_
  refine x_bipush C dX0_turnInto_16 bp_10 ?_
  refine x_irem C nz_10 dX0_turnInto_18 ?_
  refine lv_topi (fun v2 ev2 => ?_)
  have hw := hw v2 ev2
  refine x_iast C I 2 (cs_X0_turnInto G a_F a_F_meeting a_F_deed a_F_kind a_F_m a_F_at a_F_free a_F_gloved a_F_deeds a_F_handed a_F_crowd F_size F_step F_loss (upd F_kind (x1).toNatClampNeg v1) (upd F_m (x1).toNatClampNeg v2)) rfl (And.left hw) rfl dX0_turnInto_19 (fun Hx lx I => ?_)
  have hw := And.right hw
  exact x_retv C I ((upd F_kind (x1).toNatClampNeg v1), (upd F_m (x1).toNatClampNeg v2)) rfl hw dX0_turnInto_20
/-! X0_runsOf -/
abbrev rm_X0_runsOf : Room := { frames := 0, cells := 0, slots := 0, locals := 0 }
abbrev cs_X0_runsOf (G : Gt) (a_F : Nat) (a_F_meeting : Nat) (a_F_deed : Nat) (a_F_kind : Nat) (a_F_m : Nat) (a_F_at : Nat) (a_F_free : Nat) (a_F_gloved : Nat) (a_F_deeds : Nat) (a_F_handed : Nat) (a_F_crowd : Nat) (F_size : Int32) (F_step : Int32) (F_loss : Int32) (F_kind : Nat → Int32) (F_m : Nat → Int32) : va_W := [(a_F, .inr (0, [.ref a_F_meeting, .ref a_F_deed, .ref a_F_kind, .ref a_F_m, .ref a_F_at, .ref a_F_free, .ref a_F_gloved, .ref a_F_deeds, .ref a_F_handed, .ref a_F_crowd, .int F_size, .int F_step, .int F_loss])), (a_F_kind, .inl (cI G, 8, .inl F_kind)), (a_F_m, .inl (cI G, 8, .inl F_m))]
def wp_X0_runsOf (x1 : Int32) (F_kind : Nat → Int32) (F_m : Nat → Int32) (Q : Int32 → Prop) : Prop := (vp_in x1 8 ∧ (((F_kind (x1).toNatClampNeg) = (2 : Int32) → (Q (2 : Int32))) ∧ ((F_kind (x1).toNatClampNeg) = (3 : Int32) → (vp_in x1 8 ∧ (Q ((1 : Int32) + (jrem (F_m (x1).toNatClampNeg) (2 : Int32)))))) ∧ ((F_kind (x1).toNatClampNeg) = (4 : Int32) → (Q (1 : Int32))) ∧ ((F_kind (x1).toNatClampNeg) = (5 : Int32) → (Q (3 : Int32))) ∧ ((F_kind (x1).toNatClampNeg) = (6 : Int32) → (Q (0 : Int32))) ∧ (¬ (F_kind (x1).toNatClampNeg) = (2 : Int32) → ¬ (F_kind (x1).toNatClampNeg) = (3 : Int32) → ¬ (F_kind (x1).toNatClampNeg) = (4 : Int32) → ¬ (F_kind (x1).toNatClampNeg) = (5 : Int32) → ¬ (F_kind (x1).toNatClampNeg) = (6 : Int32) → (Q (1 : Int32)))))
set_option maxHeartbeats 4000000 in
set_option maxRecDepth 100000 in
theorem wk_X0_runsOf (l : Launch) (G : Gt) (a_F : Nat) (a_F_meeting : Nat) (a_F_deed : Nat) (a_F_kind : Nat) (a_F_m : Nat) (a_F_at : Nat) (a_F_free : Nat) (a_F_gloved : Nat) (a_F_deeds : Nat) (a_F_handed : Nat) (a_F_crowd : Nat) (F_size : Int32) (F_step : Int32) (F_loss : Int32) (F_kind : Nat → Int32) (F_m : Nat → Int32) (x1 : Int32) (Q : Int32 → Prop) (hw : wp_X0_runsOf x1 F_kind F_m Q) : Met l yX0_runsOf (wc yX0_runsOf cX0_runsOf 2 (some .int)) rm_X0_runsOf (va_Pc [.ref a_F, .int x1] (PR G (cs_X0_runsOf G a_F a_F_meeting a_F_deed a_F_kind a_F_m a_F_at a_F_free a_F_gloved a_F_deeds a_F_handed a_F_crowd F_size F_step F_loss F_kind F_m))) (vp_Si Q) 0 0 (fun _ => False) := by
  refine x_start pn_X0 (Nat.le_of_ble_eq_true rfl) (fun p e s m below meth c ls C hn hl hB => ?_)
  have I := rd_start hB
  have C : Cx p s m [.ref a_F, .int x1].toArray meth c cX0_runsOf 2 RX0 (some .int) := C
  have hl : lv_has ls 2 [(0, .ref a_F), (1, .int x1)] := hl
  refine x_aload_n C hl 0 dX0_runsOf_0 rfl ?_
  refine x_get C I fl_X0_9 0 rfl rfl dX0_runsOf_1 ?_
  refine x_iload_n C hl 1 dX0_runsOf_4 rfl ?_
  refine x_iald C I 1 rfl (And.left hw) dX0_runsOf_5 ?_
  have hw := And.right hw
  by_cases c1 : (F_kind (x1).toNatClampNeg) = (2 : Int32)
  · have hw := (And.left (hw)) c1
    refine x_table C (2 : Int32) 40 dX0_runsOf_6 c1 (by decide) (by decide) rfl (by decide) ?_
    refine x_iconst C dX0_runsOf_40 ic_2 ?_
    exact x_ret0 C hw dX0_runsOf_41
  by_cases c2 : (F_kind (x1).toNatClampNeg) = (3 : Int32)
  · have hw := (And.left (And.right (hw))) c2
    refine x_table C (3 : Int32) 44 dX0_runsOf_6 c2 (by decide) (by decide) rfl (by decide) ?_
    refine x_iconst C dX0_runsOf_44 ic_1 ?_
    refine x_aload_n C hl 0 dX0_runsOf_45 rfl ?_
    refine x_get C I fl_X0_15 0 rfl rfl dX0_runsOf_46 ?_
    refine x_iload_n C hl 1 dX0_runsOf_49 rfl ?_
    refine x_iald C I 2 rfl (And.left hw) dX0_runsOf_50 ?_
    have hw := And.right hw
    refine x_iconst C dX0_runsOf_51 ic_2 ?_
    refine x_irem C nz_2 dX0_runsOf_52 ?_
    refine x_iadd C dX0_runsOf_53 ?_
    exact x_ret0 C hw dX0_runsOf_54
  by_cases c3 : (F_kind (x1).toNatClampNeg) = (4 : Int32)
  · have hw := (And.left (And.right (And.right (hw)))) c3
    refine x_table C (4 : Int32) 57 dX0_runsOf_6 c3 (by decide) (by decide) rfl (by decide) ?_
    refine x_iconst C dX0_runsOf_57 ic_1 ?_
    exact x_ret0 C hw dX0_runsOf_58
  by_cases c4 : (F_kind (x1).toNatClampNeg) = (5 : Int32)
  · have hw := (And.left (And.right (And.right (And.right (hw))))) c4
    refine x_table C (5 : Int32) 42 dX0_runsOf_6 c4 (by decide) (by decide) rfl (by decide) ?_
    refine x_iconst C dX0_runsOf_42 ic_3 ?_
    exact x_ret0 C hw dX0_runsOf_43
  by_cases c5 : (F_kind (x1).toNatClampNeg) = (6 : Int32)
  · have hw := (And.left (And.right (And.right (And.right (And.right (hw)))))) c5
    refine x_table C (6 : Int32) 55 dX0_runsOf_6 c5 (by decide) (by decide) rfl (by decide) ?_
    refine x_iconst C dX0_runsOf_55 ic_0 ?_
    exact x_ret0 C hw dX0_runsOf_56
  have hw := (And.right (And.right (And.right (And.right (And.right (hw)))))) c1 c2 c3 c4 c5
  refine x_tableO C 57 dX0_runsOf_6 (tb_out (lo := 2) (n := 5) ⟨c1, c2, c3, c4, c5, trivial⟩) (by decide) ?_
  refine x_iconst C dX0_runsOf_57 ic_1 ?_
  exact x_ret0 C hw dX0_runsOf_58
/-! X0_canTouch -/
abbrev rm_X0_canTouch : Room := { frames := 0, cells := 0, slots := 0, locals := 0 }
abbrev cs_X0_canTouch (G : Gt) (a_F : Nat) (a_F_meeting : Nat) (a_F_deed : Nat) (a_F_kind : Nat) (a_F_m : Nat) (a_F_at : Nat) (a_F_free : Nat) (a_F_gloved : Nat) (a_F_deeds : Nat) (a_F_handed : Nat) (a_F_crowd : Nat) (F_size : Int32) (F_step : Int32) (F_loss : Int32) (F_at : Nat → Int32) (F_gloved : Nat → Int32) : va_W := [(a_F, .inr (0, [.ref a_F_meeting, .ref a_F_deed, .ref a_F_kind, .ref a_F_m, .ref a_F_at, .ref a_F_free, .ref a_F_gloved, .ref a_F_deeds, .ref a_F_handed, .ref a_F_crowd, .int F_size, .int F_step, .int F_loss])), (a_F_at, .inl (cI G, 8, .inl F_at)), (a_F_gloved, .inl (cI G, 8, .inl F_gloved))]
def wp_X0_canTouch (x1 : Int32) (x2 : Int32) (F_at : Nat → Int32) (F_gloved : Nat → Int32) (Q : Int32 → Prop) : Prop := (vp_in x1 8 ∧ (vp_in x2 8 ∧ ((¬ (F_at (x1).toNatClampNeg) = (F_at (x2).toNatClampNeg) → (Q (0 : Int32))) ∧ ((F_at (x1).toNatClampNeg) = (F_at (x2).toNatClampNeg) → (vp_in x1 8 ∧ ((¬ (F_gloved (x1).toNatClampNeg) = (0) → (Q (0 : Int32))) ∧ ((F_gloved (x1).toNatClampNeg) = (0) → (vp_in x2 8 ∧ ((¬ (F_gloved (x2).toNatClampNeg) = (0) → (Q (0 : Int32))) ∧ ((F_gloved (x2).toNatClampNeg) = (0) → (Q (1 : Int32))))))))))))
set_option maxHeartbeats 4000000 in
set_option maxRecDepth 100000 in
theorem wk_X0_canTouch (l : Launch) (G : Gt) (a_F : Nat) (a_F_meeting : Nat) (a_F_deed : Nat) (a_F_kind : Nat) (a_F_m : Nat) (a_F_at : Nat) (a_F_free : Nat) (a_F_gloved : Nat) (a_F_deeds : Nat) (a_F_handed : Nat) (a_F_crowd : Nat) (F_size : Int32) (F_step : Int32) (F_loss : Int32) (F_at : Nat → Int32) (F_gloved : Nat → Int32) (x1 : Int32) (x2 : Int32) (Q : Int32 → Prop) (hw : wp_X0_canTouch x1 x2 F_at F_gloved Q) : Met l yX0_canTouch (wc yX0_canTouch cX0_canTouch 3 (some .boolean)) rm_X0_canTouch (va_Pc [.ref a_F, .int x1, .int x2] (PR G (cs_X0_canTouch G a_F a_F_meeting a_F_deed a_F_kind a_F_m a_F_at a_F_free a_F_gloved a_F_deeds a_F_handed a_F_crowd F_size F_step F_loss F_at F_gloved))) (vp_Si Q) 0 0 (fun _ => False) := by
  refine x_start pn_X0 (Nat.le_of_ble_eq_true rfl) (fun p e s m below meth c ls C hn hl hB => ?_)
  have I := rd_start hB
  have C : Cx p s m [.ref a_F, .int x1, .int x2].toArray meth c cX0_canTouch 3 RX0 (some .boolean) := C
  have hl : lv_has ls 3 [(0, .ref a_F), (1, .int x1), (2, .int x2)] := hl
  refine x_aload_n C hl 0 dX0_canTouch_0 rfl ?_
  refine x_get C I fl_X0_18 0 rfl rfl dX0_canTouch_1 ?_
  refine x_iload_n C hl 1 dX0_canTouch_4 rfl ?_
  refine x_iald C I 1 rfl (And.left hw) dX0_canTouch_5 ?_
  have hw := And.right hw
  refine x_aload_n C hl 0 dX0_canTouch_6 rfl ?_
  refine x_get C I fl_X0_18 0 rfl rfl dX0_canTouch_7 ?_
  refine x_iload_n C hl 2 dX0_canTouch_10 rfl ?_
  refine x_iald C I 1 rfl (And.left hw) dX0_canTouch_11 ?_
  have hw := And.right hw
  refine x_icmp_ne C 37 dX0_canTouch_12 (by decide) (fun c1 => ?_) (fun c1 => ?_)
  · have hw := And.left hw c1
    refine x_iconst C dX0_canTouch_37 ic_0 ?_
    exact x_ret0z C bz_0 hw dX0_canTouch_38
  · have hw := And.right hw c1
    refine x_aload_n C hl 0 dX0_canTouch_15 rfl ?_
    refine x_get C I fl_X0_24 0 rfl rfl dX0_canTouch_16 ?_
    refine x_iload_n C hl 1 dX0_canTouch_19 rfl ?_
    refine x_iald C I 2 rfl (And.left hw) dX0_canTouch_20 ?_
    have hw := And.right hw
    refine x_if_ne C 37 dX0_canTouch_21 (by decide) (fun c2 => ?_) (fun c2 => ?_)
    · have hw := And.left hw c2
      refine x_iconst C dX0_canTouch_37 ic_0 ?_
      exact x_ret0z C bz_0 hw dX0_canTouch_38
    · have hw := And.right hw c2
      refine x_aload_n C hl 0 dX0_canTouch_24 rfl ?_
      refine x_get C I fl_X0_24 0 rfl rfl dX0_canTouch_25 ?_
      refine x_iload_n C hl 2 dX0_canTouch_28 rfl ?_
      refine x_iald C I 2 rfl (And.left hw) dX0_canTouch_29 ?_
      have hw := And.right hw
      refine x_if_ne C 37 dX0_canTouch_30 (by decide) (fun c3 => ?_) (fun c3 => ?_)
      · have hw := And.left hw c3
        refine x_iconst C dX0_canTouch_37 ic_0 ?_
        exact x_ret0z C bz_0 hw dX0_canTouch_38
      · have hw := And.right hw c3
        refine x_iconst C dX0_canTouch_33 ic_1 ?_
        refine x_goto C 38 dX0_canTouch_34 (by decide) ?_
        exact x_ret0z C bz_1 hw dX0_canTouch_38
/-! X0_whoAt -/
abbrev rm_X0_whoAt : Room := { frames := 0, cells := 0, slots := 0, locals := 0 }
abbrev cs_X0_whoAt (G : Gt) (a_F : Nat) (a_F_meeting : Nat) (a_F_deed : Nat) (a_F_kind : Nat) (a_F_m : Nat) (a_F_at : Nat) (a_F_free : Nat) (a_F_gloved : Nat) (a_F_deeds : Nat) (a_F_handed : Nat) (a_F_crowd : Nat) (F_size : Int32) (F_step : Int32) (F_loss : Int32) (F_at : Nat → Int32) : va_W := [(a_F, .inr (0, [.ref a_F_meeting, .ref a_F_deed, .ref a_F_kind, .ref a_F_m, .ref a_F_at, .ref a_F_free, .ref a_F_gloved, .ref a_F_deeds, .ref a_F_handed, .ref a_F_crowd, .int F_size, .int F_step, .int F_loss])), (a_F_at, .inl (cI G, 8, .inl F_at))]
def lb_X0_whoAt_4 (x1 : Int32) (F_size : Int32) (F_at : Nat → Int32) (Q : Int32 → Prop) : Nat → Int32 → Int32 → Prop
  | 0 => fun _ _ => False
  | k + 1 => fun (y2 : Int32) (y3 : Int32) => ((F_size ≤ y3 → (Q y2)) ∧ (¬ F_size ≤ y3 → (vp_in y3 8 ∧ ((¬ (F_at (y3).toNatClampNeg) = x1 → (∀ v3 : Int32, v3 = (y2 ||| (0 : Int32)) → (lb_X0_whoAt_4 x1 F_size F_at Q k v3 (y3 + (1 : Int32))))) ∧ ((F_at (y3).toNatClampNeg) = x1 → (∀ v4 : Int32, v4 = (y2 ||| (jshl (1 : Int32) y3)) → (lb_X0_whoAt_4 x1 F_size F_at Q k v4 (y3 + (1 : Int32)))))))))
set_option maxHeartbeats 4000000 in
set_option maxRecDepth 100000 in
theorem lk_X0_whoAt_4 {p : Program} {l : Launch} {e : Env} {s : State} {m : MethodId} {args : Array Value} {below : List Frame} {meth : Method} {c : Code} (G : Gt) (a_F : Nat) (a_F_meeting : Nat) (a_F_deed : Nat) (a_F_kind : Nat) (a_F_m : Nat) (a_F_at : Nat) (a_F_free : Nat) (a_F_gloved : Nat) (a_F_deeds : Nat) (a_F_handed : Nat) (a_F_crowd : Nat) (C : Cx p s m args meth c cX0_whoAt 4 RX0 (some .int)) (x1 : Int32) (F_size : Int32) (F_at : Nat → Int32) (F_step : Int32) (F_loss : Int32) (Q : Int32 → Prop) : ∀ (n : Nat) (y2 : Int32) (y3 : Int32) (ls : Array Slot), lb_X0_whoAt_4 x1 F_size F_at Q n y2 y3 → Rd G (fun _ => False) s (cs_X0_whoAt G a_F a_F_meeting a_F_deed a_F_kind a_F_m a_F_at a_F_free a_F_gloved a_F_deeds a_F_handed a_F_crowd F_size F_step F_loss F_at) s.heap [] → lv_has ls 4 [(0, .ref a_F), (1, .int x1), (2, .int y2), (3, .int y3)] → W p l e rm_X0_whoAt s m args below meth c s.heap [] 0 0 (MQ below (vp_Si Q) args s 0 0 (fun _ => False)) (F0 m 4 ls []) := by
  intro n
  induction n with
  | zero => intro y2 y3  ls hw I hl; exact False.elim hw
  | succ k ih =>
    intro y2 y3  ls hw I hl
    refine x_iload_n C hl 3 dX0_whoAt_4 rfl ?_
    refine x_aload_n C hl 0 dX0_whoAt_5 rfl ?_
    refine x_get C I fl_X0_43 0 rfl rfl dX0_whoAt_6 ?_
    refine x_icmp_ge C 38 dX0_whoAt_9 (by decide) (fun c1 => ?_) (fun c1 => ?_)
    · have hw := And.left hw c1
      refine x_iload_n C hl 2 dX0_whoAt_38 rfl ?_
      exact x_ret0 C hw dX0_whoAt_39
    · have hw := And.right hw c1
      refine x_iload_n C hl 2 dX0_whoAt_12 rfl ?_
      refine x_aload_n C hl 0 dX0_whoAt_13 rfl ?_
      refine x_get C I fl_X0_18 0 rfl rfl dX0_whoAt_14 ?_
      refine x_iload_n C hl 3 dX0_whoAt_17 rfl ?_
      refine x_iald C I 1 rfl (And.left hw) dX0_whoAt_18 ?_
      have hw := And.right hw
      refine x_iload_n C hl 1 dX0_whoAt_19 rfl ?_
      refine x_icmp_ne C 29 dX0_whoAt_20 (by decide) (fun c2 => ?_) (fun c2 => ?_)
      · have hw := And.left hw c2
        refine x_iconst C dX0_whoAt_29 ic_0 ?_
        refine x_ior C dX0_whoAt_30 ?_
        refine lv_topi (fun v3 ev3 => ?_)
        have hw := hw v3 ev3
        refine x_istore_n C hl [(2, .int v3), (0, .ref a_F), (1, .int x1), (3, .int y3)] dX0_whoAt_31 (Nat.le_of_ble_eq_true rfl) rfl (fun ls hl => ?_)
        refine x_iinc C hl 3 [(3, .int (y3 + (1 : Int32))), (2, .int v3), (0, .ref a_F), (1, .int x1)] (y3 + (1 : Int32)) dX0_whoAt_32 rfl (congrArg _ ic_1) (Nat.le_of_ble_eq_true rfl) rfl (fun ls hl => ?_)
        refine x_goto C 4 dX0_whoAt_35 (by decide) ?_
        exact ih v3 (y3 + (1 : Int32)) ls hw I (lv_sub hl [2, 3, 1, 0] rfl)
      · have hw := And.right hw c2
        refine x_iconst C dX0_whoAt_23 ic_1 ?_
        refine x_iload_n C hl 3 dX0_whoAt_24 rfl ?_
        refine x_ishl C dX0_whoAt_25 ?_
        refine x_goto C 30 dX0_whoAt_26 (by decide) ?_
        refine x_ior C dX0_whoAt_30 ?_
        refine lv_topi (fun v4 ev4 => ?_)
        have hw := hw v4 ev4
        refine x_istore_n C hl [(2, .int v4), (0, .ref a_F), (1, .int x1), (3, .int y3)] dX0_whoAt_31 (Nat.le_of_ble_eq_true rfl) rfl (fun ls hl => ?_)
        refine x_iinc C hl 3 [(3, .int (y3 + (1 : Int32))), (2, .int v4), (0, .ref a_F), (1, .int x1)] (y3 + (1 : Int32)) dX0_whoAt_32 rfl (congrArg _ ic_1) (Nat.le_of_ble_eq_true rfl) rfl (fun ls hl => ?_)
        refine x_goto C 4 dX0_whoAt_35 (by decide) ?_
        exact ih v4 (y3 + (1 : Int32)) ls hw I (lv_sub hl [2, 3, 1, 0] rfl)
def wp_X0_whoAt (x1 : Int32) (F_size : Int32) (F_at : Nat → Int32) (Q : Int32 → Prop) : Prop := (∃ n, lb_X0_whoAt_4 x1 F_size F_at Q n (0 : Int32) (0 : Int32))
set_option maxHeartbeats 4000000 in
set_option maxRecDepth 100000 in
theorem wk_X0_whoAt (l : Launch) (G : Gt) (a_F : Nat) (a_F_meeting : Nat) (a_F_deed : Nat) (a_F_kind : Nat) (a_F_m : Nat) (a_F_at : Nat) (a_F_free : Nat) (a_F_gloved : Nat) (a_F_deeds : Nat) (a_F_handed : Nat) (a_F_crowd : Nat) (F_size : Int32) (F_step : Int32) (F_loss : Int32) (F_at : Nat → Int32) (x1 : Int32) (Q : Int32 → Prop) (hw : wp_X0_whoAt x1 F_size F_at Q) : Met l yX0_whoAt (wc yX0_whoAt cX0_whoAt 4 (some .int)) rm_X0_whoAt (va_Pc [.ref a_F, .int x1] (PR G (cs_X0_whoAt G a_F a_F_meeting a_F_deed a_F_kind a_F_m a_F_at a_F_free a_F_gloved a_F_deeds a_F_handed a_F_crowd F_size F_step F_loss F_at))) (vp_Si Q) 0 0 (fun _ => False) := by
  refine x_start pn_X0 (Nat.le_of_ble_eq_true rfl) (fun p e s m below meth c ls C hn hl hB => ?_)
  have I := rd_start hB
  have C : Cx p s m [.ref a_F, .int x1].toArray meth c cX0_whoAt 4 RX0 (some .int) := C
  have hl : lv_has ls 4 [(0, .ref a_F), (1, .int x1)] := hl
  refine x_iconst C dX0_whoAt_0 ic_0 ?_
  refine x_istore_n C hl [(2, .int (0 : Int32)), (0, .ref a_F), (1, .int x1)] dX0_whoAt_1 (Nat.le_of_ble_eq_true rfl) rfl (fun ls hl => ?_)
  refine x_iconst C dX0_whoAt_2 ic_0 ?_
  refine x_istore_n C hl [(3, .int (0 : Int32)), (2, .int (0 : Int32)), (0, .ref a_F), (1, .int x1)] dX0_whoAt_3 (Nat.le_of_ble_eq_true rfl) rfl (fun ls hl => ?_)
  obtain ⟨n, hw⟩ := hw
  exact lk_X0_whoAt_4 G a_F a_F_meeting a_F_deed a_F_kind a_F_m a_F_at a_F_free a_F_gloved a_F_deeds a_F_handed a_F_crowd C x1 F_size F_at F_step F_loss Q n (0 : Int32) (0 : Int32) ls hw I (lv_sub hl [2, 3, 1, 0] rfl)
/-! X0_whoFreeAt -/
abbrev rm_X0_whoFreeAt : Room := { frames := 0, cells := 0, slots := 0, locals := 0 }
abbrev cs_X0_whoFreeAt (G : Gt) (a_F : Nat) (a_F_meeting : Nat) (a_F_deed : Nat) (a_F_kind : Nat) (a_F_m : Nat) (a_F_at : Nat) (a_F_free : Nat) (a_F_gloved : Nat) (a_F_deeds : Nat) (a_F_handed : Nat) (a_F_crowd : Nat) (F_size : Int32) (F_step : Int32) (F_loss : Int32) (F_at : Nat → Int32) (F_free : Nat → Int32) : va_W := [(a_F, .inr (0, [.ref a_F_meeting, .ref a_F_deed, .ref a_F_kind, .ref a_F_m, .ref a_F_at, .ref a_F_free, .ref a_F_gloved, .ref a_F_deeds, .ref a_F_handed, .ref a_F_crowd, .int F_size, .int F_step, .int F_loss])), (a_F_at, .inl (cI G, 8, .inl F_at)), (a_F_free, .inl (cI G, 8, .inl F_free))]
def lb_X0_whoFreeAt_4 (x1 : Int32) (F_size : Int32) (F_at : Nat → Int32) (F_free : Nat → Int32) (Q : Int32 → Prop) : Nat → Int32 → Int32 → Prop
  | 0 => fun _ _ => False
  | k + 1 => fun (y2 : Int32) (y3 : Int32) => ((F_size ≤ y3 → (Q y2)) ∧ (¬ F_size ≤ y3 → (vp_in y3 8 ∧ ((¬ (F_at (y3).toNatClampNeg) = x1 → (∀ v3 : Int32, v3 = (y2 ||| (0 : Int32)) → (lb_X0_whoFreeAt_4 x1 F_size F_at F_free Q k v3 (y3 + (1 : Int32))))) ∧ ((F_at (y3).toNatClampNeg) = x1 → (vp_in y3 8 ∧ (((F_free (y3).toNatClampNeg) ≤ (0) → (∀ v5 : Int32, v5 = (y2 ||| (0 : Int32)) → (lb_X0_whoFreeAt_4 x1 F_size F_at F_free Q k v5 (y3 + (1 : Int32))))) ∧ (¬ (F_free (y3).toNatClampNeg) ≤ (0) → (∀ v6 : Int32, v6 = (y2 ||| (jshl (1 : Int32) y3)) → (lb_X0_whoFreeAt_4 x1 F_size F_at F_free Q k v6 (y3 + (1 : Int32))))))))))))
set_option maxHeartbeats 4000000 in
set_option maxRecDepth 100000 in
theorem lk_X0_whoFreeAt_4 {p : Program} {l : Launch} {e : Env} {s : State} {m : MethodId} {args : Array Value} {below : List Frame} {meth : Method} {c : Code} (G : Gt) (a_F : Nat) (a_F_meeting : Nat) (a_F_deed : Nat) (a_F_kind : Nat) (a_F_m : Nat) (a_F_at : Nat) (a_F_free : Nat) (a_F_gloved : Nat) (a_F_deeds : Nat) (a_F_handed : Nat) (a_F_crowd : Nat) (C : Cx p s m args meth c cX0_whoFreeAt 4 RX0 (some .int)) (x1 : Int32) (F_size : Int32) (F_at : Nat → Int32) (F_free : Nat → Int32) (F_step : Int32) (F_loss : Int32) (Q : Int32 → Prop) : ∀ (n : Nat) (y2 : Int32) (y3 : Int32) (ls : Array Slot), lb_X0_whoFreeAt_4 x1 F_size F_at F_free Q n y2 y3 → Rd G (fun _ => False) s (cs_X0_whoFreeAt G a_F a_F_meeting a_F_deed a_F_kind a_F_m a_F_at a_F_free a_F_gloved a_F_deeds a_F_handed a_F_crowd F_size F_step F_loss F_at F_free) s.heap [] → lv_has ls 4 [(0, .ref a_F), (1, .int x1), (2, .int y2), (3, .int y3)] → W p l e rm_X0_whoFreeAt s m args below meth c s.heap [] 0 0 (MQ below (vp_Si Q) args s 0 0 (fun _ => False)) (F0 m 4 ls []) := by
  intro n
  induction n with
  | zero => intro y2 y3  ls hw I hl; exact False.elim hw
  | succ k ih =>
    intro y2 y3  ls hw I hl
    refine x_iload_n C hl 3 dX0_whoFreeAt_4 rfl ?_
    refine x_aload_n C hl 0 dX0_whoFreeAt_5 rfl ?_
    refine x_get C I fl_X0_43 0 rfl rfl dX0_whoFreeAt_6 ?_
    refine x_icmp_ge C 47 dX0_whoFreeAt_9 (by decide) (fun c1 => ?_) (fun c1 => ?_)
    · have hw := And.left hw c1
      refine x_iload_n C hl 2 dX0_whoFreeAt_47 rfl ?_
      exact x_ret0 C hw dX0_whoFreeAt_48
    · have hw := And.right hw c1
      refine x_iload_n C hl 2 dX0_whoFreeAt_12 rfl ?_
      refine x_aload_n C hl 0 dX0_whoFreeAt_13 rfl ?_
      refine x_get C I fl_X0_18 0 rfl rfl dX0_whoFreeAt_14 ?_
      refine x_iload_n C hl 3 dX0_whoFreeAt_17 rfl ?_
      refine x_iald C I 1 rfl (And.left hw) dX0_whoFreeAt_18 ?_
      have hw := And.right hw
      refine x_iload_n C hl 1 dX0_whoFreeAt_19 rfl ?_
      refine x_icmp_ne C 38 dX0_whoFreeAt_20 (by decide) (fun c2 => ?_) (fun c2 => ?_)
      · have hw := And.left hw c2
        refine x_iconst C dX0_whoFreeAt_38 ic_0 ?_
        refine x_ior C dX0_whoFreeAt_39 ?_
        refine lv_topi (fun v3 ev3 => ?_)
        have hw := hw v3 ev3
        refine x_istore_n C hl [(2, .int v3), (0, .ref a_F), (1, .int x1), (3, .int y3)] dX0_whoFreeAt_40 (Nat.le_of_ble_eq_true rfl) rfl (fun ls hl => ?_)
        refine x_iinc C hl 3 [(3, .int (y3 + (1 : Int32))), (2, .int v3), (0, .ref a_F), (1, .int x1)] (y3 + (1 : Int32)) dX0_whoFreeAt_41 rfl (congrArg _ ic_1) (Nat.le_of_ble_eq_true rfl) rfl (fun ls hl => ?_)
        refine x_goto C 4 dX0_whoFreeAt_44 (by decide) ?_
        exact ih v3 (y3 + (1 : Int32)) ls hw I (lv_sub hl [2, 3, 1, 0] rfl)
      · have hw := And.right hw c2
        refine x_aload_n C hl 0 dX0_whoFreeAt_23 rfl ?_
        refine x_get C I fl_X0_21 0 rfl rfl dX0_whoFreeAt_24 ?_
        refine x_iload_n C hl 3 dX0_whoFreeAt_27 rfl ?_
        refine x_iald C I 2 rfl (And.left hw) dX0_whoFreeAt_28 ?_
        have hw := And.right hw
        refine x_if_le C 38 dX0_whoFreeAt_29 (by decide) (fun c4 => ?_) (fun c4 => ?_)
        · have hw := And.left hw c4
          refine x_iconst C dX0_whoFreeAt_38 ic_0 ?_
          refine x_ior C dX0_whoFreeAt_39 ?_
          refine lv_topi (fun v5 ev5 => ?_)
          have hw := hw v5 ev5
          refine x_istore_n C hl [(2, .int v5), (0, .ref a_F), (1, .int x1), (3, .int y3)] dX0_whoFreeAt_40 (Nat.le_of_ble_eq_true rfl) rfl (fun ls hl => ?_)
          refine x_iinc C hl 3 [(3, .int (y3 + (1 : Int32))), (2, .int v5), (0, .ref a_F), (1, .int x1)] (y3 + (1 : Int32)) dX0_whoFreeAt_41 rfl (congrArg _ ic_1) (Nat.le_of_ble_eq_true rfl) rfl (fun ls hl => ?_)
          refine x_goto C 4 dX0_whoFreeAt_44 (by decide) ?_
          exact ih v5 (y3 + (1 : Int32)) ls hw I (lv_sub hl [2, 3, 1, 0] rfl)
        · have hw := And.right hw c4
          refine x_iconst C dX0_whoFreeAt_32 ic_1 ?_
          refine x_iload_n C hl 3 dX0_whoFreeAt_33 rfl ?_
          refine x_ishl C dX0_whoFreeAt_34 ?_
          refine x_goto C 39 dX0_whoFreeAt_35 (by decide) ?_
          refine x_ior C dX0_whoFreeAt_39 ?_
          refine lv_topi (fun v6 ev6 => ?_)
          have hw := hw v6 ev6
          refine x_istore_n C hl [(2, .int v6), (0, .ref a_F), (1, .int x1), (3, .int y3)] dX0_whoFreeAt_40 (Nat.le_of_ble_eq_true rfl) rfl (fun ls hl => ?_)
          refine x_iinc C hl 3 [(3, .int (y3 + (1 : Int32))), (2, .int v6), (0, .ref a_F), (1, .int x1)] (y3 + (1 : Int32)) dX0_whoFreeAt_41 rfl (congrArg _ ic_1) (Nat.le_of_ble_eq_true rfl) rfl (fun ls hl => ?_)
          refine x_goto C 4 dX0_whoFreeAt_44 (by decide) ?_
          exact ih v6 (y3 + (1 : Int32)) ls hw I (lv_sub hl [2, 3, 1, 0] rfl)
def wp_X0_whoFreeAt (x1 : Int32) (F_size : Int32) (F_at : Nat → Int32) (F_free : Nat → Int32) (Q : Int32 → Prop) : Prop := (∃ n, lb_X0_whoFreeAt_4 x1 F_size F_at F_free Q n (0 : Int32) (0 : Int32))
set_option maxHeartbeats 4000000 in
set_option maxRecDepth 100000 in
theorem wk_X0_whoFreeAt (l : Launch) (G : Gt) (a_F : Nat) (a_F_meeting : Nat) (a_F_deed : Nat) (a_F_kind : Nat) (a_F_m : Nat) (a_F_at : Nat) (a_F_free : Nat) (a_F_gloved : Nat) (a_F_deeds : Nat) (a_F_handed : Nat) (a_F_crowd : Nat) (F_size : Int32) (F_step : Int32) (F_loss : Int32) (F_at : Nat → Int32) (F_free : Nat → Int32) (x1 : Int32) (Q : Int32 → Prop) (hw : wp_X0_whoFreeAt x1 F_size F_at F_free Q) : Met l yX0_whoFreeAt (wc yX0_whoFreeAt cX0_whoFreeAt 4 (some .int)) rm_X0_whoFreeAt (va_Pc [.ref a_F, .int x1] (PR G (cs_X0_whoFreeAt G a_F a_F_meeting a_F_deed a_F_kind a_F_m a_F_at a_F_free a_F_gloved a_F_deeds a_F_handed a_F_crowd F_size F_step F_loss F_at F_free))) (vp_Si Q) 0 0 (fun _ => False) := by
  refine x_start pn_X0 (Nat.le_of_ble_eq_true rfl) (fun p e s m below meth c ls C hn hl hB => ?_)
  have I := rd_start hB
  have C : Cx p s m [.ref a_F, .int x1].toArray meth c cX0_whoFreeAt 4 RX0 (some .int) := C
  have hl : lv_has ls 4 [(0, .ref a_F), (1, .int x1)] := hl
  refine x_iconst C dX0_whoFreeAt_0 ic_0 ?_
  refine x_istore_n C hl [(2, .int (0 : Int32)), (0, .ref a_F), (1, .int x1)] dX0_whoFreeAt_1 (Nat.le_of_ble_eq_true rfl) rfl (fun ls hl => ?_)
  refine x_iconst C dX0_whoFreeAt_2 ic_0 ?_
  refine x_istore_n C hl [(3, .int (0 : Int32)), (2, .int (0 : Int32)), (0, .ref a_F), (1, .int x1)] dX0_whoFreeAt_3 (Nat.le_of_ble_eq_true rfl) rfl (fun ls hl => ?_)
  obtain ⟨n, hw⟩ := hw
  exact lk_X0_whoFreeAt_4 G a_F a_F_meeting a_F_deed a_F_kind a_F_m a_F_at a_F_free a_F_gloved a_F_deeds a_F_handed a_F_crowd C x1 F_size F_at F_free F_step F_loss Q n (0 : Int32) (0 : Int32) ls hw I (lv_sub hl [2, 3, 1, 0] rfl)
/-! X0_whoWearGloves -/
abbrev rm_X0_whoWearGloves : Room := { frames := 0, cells := 0, slots := 0, locals := 0 }
abbrev cs_X0_whoWearGloves (G : Gt) (a_F : Nat) (a_F_meeting : Nat) (a_F_deed : Nat) (a_F_kind : Nat) (a_F_m : Nat) (a_F_at : Nat) (a_F_free : Nat) (a_F_gloved : Nat) (a_F_deeds : Nat) (a_F_handed : Nat) (a_F_crowd : Nat) (F_size : Int32) (F_step : Int32) (F_loss : Int32) (F_gloved : Nat → Int32) : va_W := [(a_F, .inr (0, [.ref a_F_meeting, .ref a_F_deed, .ref a_F_kind, .ref a_F_m, .ref a_F_at, .ref a_F_free, .ref a_F_gloved, .ref a_F_deeds, .ref a_F_handed, .ref a_F_crowd, .int F_size, .int F_step, .int F_loss])), (a_F_gloved, .inl (cI G, 8, .inl F_gloved))]
def lb_X0_whoWearGloves_4 (F_size : Int32) (F_gloved : Nat → Int32) (Q : Int32 → Prop) : Nat → Int32 → Int32 → Prop
  | 0 => fun _ _ => False
  | k + 1 => fun (y1 : Int32) (y2 : Int32) => ((F_size ≤ y2 → (Q y1)) ∧ (¬ F_size ≤ y2 → (vp_in y2 8 ∧ (((F_gloved (y2).toNatClampNeg) = (0) → (∀ v3 : Int32, v3 = (y1 ||| (0 : Int32)) → (lb_X0_whoWearGloves_4 F_size F_gloved Q k v3 (y2 + (1 : Int32))))) ∧ (¬ (F_gloved (y2).toNatClampNeg) = (0) → (∀ v4 : Int32, v4 = (y1 ||| (jshl (1 : Int32) y2)) → (lb_X0_whoWearGloves_4 F_size F_gloved Q k v4 (y2 + (1 : Int32)))))))))
set_option maxHeartbeats 4000000 in
set_option maxRecDepth 100000 in
theorem lk_X0_whoWearGloves_4 {p : Program} {l : Launch} {e : Env} {s : State} {m : MethodId} {args : Array Value} {below : List Frame} {meth : Method} {c : Code} (G : Gt) (a_F : Nat) (a_F_meeting : Nat) (a_F_deed : Nat) (a_F_kind : Nat) (a_F_m : Nat) (a_F_at : Nat) (a_F_free : Nat) (a_F_gloved : Nat) (a_F_deeds : Nat) (a_F_handed : Nat) (a_F_crowd : Nat) (C : Cx p s m args meth c cX0_whoWearGloves 3 RX0 (some .int)) (F_size : Int32) (F_gloved : Nat → Int32) (F_step : Int32) (F_loss : Int32) (Q : Int32 → Prop) : ∀ (n : Nat) (y1 : Int32) (y2 : Int32) (ls : Array Slot), lb_X0_whoWearGloves_4 F_size F_gloved Q n y1 y2 → Rd G (fun _ => False) s (cs_X0_whoWearGloves G a_F a_F_meeting a_F_deed a_F_kind a_F_m a_F_at a_F_free a_F_gloved a_F_deeds a_F_handed a_F_crowd F_size F_step F_loss F_gloved) s.heap [] → lv_has ls 3 [(0, .ref a_F), (1, .int y1), (2, .int y2)] → W p l e rm_X0_whoWearGloves s m args below meth c s.heap [] 0 0 (MQ below (vp_Si Q) args s 0 0 (fun _ => False)) (F0 m 4 ls []) := by
  intro n
  induction n with
  | zero => intro y1 y2  ls hw I hl; exact False.elim hw
  | succ k ih =>
    intro y1 y2  ls hw I hl
    refine x_iload_n C hl 2 dX0_whoWearGloves_4 rfl ?_
    refine x_aload_n C hl 0 dX0_whoWearGloves_5 rfl ?_
    refine x_get C I fl_X0_43 0 rfl rfl dX0_whoWearGloves_6 ?_
    refine x_icmp_ge C 37 dX0_whoWearGloves_9 (by decide) (fun c1 => ?_) (fun c1 => ?_)
    · have hw := And.left hw c1
      refine x_iload_n C hl 1 dX0_whoWearGloves_37 rfl ?_
      exact x_ret0 C hw dX0_whoWearGloves_38
    · have hw := And.right hw c1
      refine x_iload_n C hl 1 dX0_whoWearGloves_12 rfl ?_
      refine x_aload_n C hl 0 dX0_whoWearGloves_13 rfl ?_
      refine x_get C I fl_X0_24 0 rfl rfl dX0_whoWearGloves_14 ?_
      refine x_iload_n C hl 2 dX0_whoWearGloves_17 rfl ?_
      refine x_iald C I 1 rfl (And.left hw) dX0_whoWearGloves_18 ?_
      have hw := And.right hw
      refine x_if_eq C 28 dX0_whoWearGloves_19 (by decide) (fun c2 => ?_) (fun c2 => ?_)
      · have hw := And.left hw c2
        refine x_iconst C dX0_whoWearGloves_28 ic_0 ?_
        refine x_ior C dX0_whoWearGloves_29 ?_
        refine lv_topi (fun v3 ev3 => ?_)
        have hw := hw v3 ev3
        refine x_istore_n C hl [(1, .int v3), (0, .ref a_F), (2, .int y2)] dX0_whoWearGloves_30 (Nat.le_of_ble_eq_true rfl) rfl (fun ls hl => ?_)
        refine x_iinc C hl 2 [(2, .int (y2 + (1 : Int32))), (1, .int v3), (0, .ref a_F)] (y2 + (1 : Int32)) dX0_whoWearGloves_31 rfl (congrArg _ ic_1) (Nat.le_of_ble_eq_true rfl) rfl (fun ls hl => ?_)
        refine x_goto C 4 dX0_whoWearGloves_34 (by decide) ?_
        exact ih v3 (y2 + (1 : Int32)) ls hw I (lv_sub hl [2, 1, 0] rfl)
      · have hw := And.right hw c2
        refine x_iconst C dX0_whoWearGloves_22 ic_1 ?_
        refine x_iload_n C hl 2 dX0_whoWearGloves_23 rfl ?_
        refine x_ishl C dX0_whoWearGloves_24 ?_
        refine x_goto C 29 dX0_whoWearGloves_25 (by decide) ?_
        refine x_ior C dX0_whoWearGloves_29 ?_
        refine lv_topi (fun v4 ev4 => ?_)
        have hw := hw v4 ev4
        refine x_istore_n C hl [(1, .int v4), (0, .ref a_F), (2, .int y2)] dX0_whoWearGloves_30 (Nat.le_of_ble_eq_true rfl) rfl (fun ls hl => ?_)
        refine x_iinc C hl 2 [(2, .int (y2 + (1 : Int32))), (1, .int v4), (0, .ref a_F)] (y2 + (1 : Int32)) dX0_whoWearGloves_31 rfl (congrArg _ ic_1) (Nat.le_of_ble_eq_true rfl) rfl (fun ls hl => ?_)
        refine x_goto C 4 dX0_whoWearGloves_34 (by decide) ?_
        exact ih v4 (y2 + (1 : Int32)) ls hw I (lv_sub hl [2, 1, 0] rfl)
def wp_X0_whoWearGloves (F_size : Int32) (F_gloved : Nat → Int32) (Q : Int32 → Prop) : Prop := (∃ n, lb_X0_whoWearGloves_4 F_size F_gloved Q n (0 : Int32) (0 : Int32))
set_option maxHeartbeats 4000000 in
set_option maxRecDepth 100000 in
theorem wk_X0_whoWearGloves (l : Launch) (G : Gt) (a_F : Nat) (a_F_meeting : Nat) (a_F_deed : Nat) (a_F_kind : Nat) (a_F_m : Nat) (a_F_at : Nat) (a_F_free : Nat) (a_F_gloved : Nat) (a_F_deeds : Nat) (a_F_handed : Nat) (a_F_crowd : Nat) (F_size : Int32) (F_step : Int32) (F_loss : Int32) (F_gloved : Nat → Int32) (Q : Int32 → Prop) (hw : wp_X0_whoWearGloves F_size F_gloved Q) : Met l yX0_whoWearGloves (wc yX0_whoWearGloves cX0_whoWearGloves 3 (some .int)) rm_X0_whoWearGloves (va_Pc [.ref a_F] (PR G (cs_X0_whoWearGloves G a_F a_F_meeting a_F_deed a_F_kind a_F_m a_F_at a_F_free a_F_gloved a_F_deeds a_F_handed a_F_crowd F_size F_step F_loss F_gloved))) (vp_Si Q) 0 0 (fun _ => False) := by
  refine x_start pn_X0 (Nat.le_of_ble_eq_true rfl) (fun p e s m below meth c ls C hn hl hB => ?_)
  have I := rd_start hB
  have C : Cx p s m [.ref a_F].toArray meth c cX0_whoWearGloves 3 RX0 (some .int) := C
  have hl : lv_has ls 3 [(0, .ref a_F)] := hl
  refine x_iconst C dX0_whoWearGloves_0 ic_0 ?_
  refine x_istore_n C hl [(1, .int (0 : Int32)), (0, .ref a_F)] dX0_whoWearGloves_1 (Nat.le_of_ble_eq_true rfl) rfl (fun ls hl => ?_)
  refine x_iconst C dX0_whoWearGloves_2 ic_0 ?_
  refine x_istore_n C hl [(2, .int (0 : Int32)), (1, .int (0 : Int32)), (0, .ref a_F)] dX0_whoWearGloves_3 (Nat.le_of_ble_eq_true rfl) rfl (fun ls hl => ?_)
  obtain ⟨n, hw⟩ := hw
  exact lk_X0_whoWearGloves_4 G a_F a_F_meeting a_F_deed a_F_kind a_F_m a_F_at a_F_free a_F_gloved a_F_deeds a_F_handed a_F_crowd C F_size F_gloved F_step F_loss Q n (0 : Int32) (0 : Int32) ls hw I (lv_sub hl [2, 1, 0] rfl)
/-! X0_howManyAt -/
abbrev rm_X0_howManyAt : Room := { frames := 1, cells := 0, slots := 0, locals := 23 }
abbrev cs_X0_howManyAt (G : Gt) (a_F : Nat) (a_F_meeting : Nat) (a_F_deed : Nat) (a_F_kind : Nat) (a_F_m : Nat) (a_F_at : Nat) (a_F_free : Nat) (a_F_gloved : Nat) (a_F_deeds : Nat) (a_F_handed : Nat) (a_F_crowd : Nat) (F_size : Int32) (F_step : Int32) (F_loss : Int32) (F_at : Nat → Int32) : va_W := [(a_F, .inr (0, [.ref a_F_meeting, .ref a_F_deed, .ref a_F_kind, .ref a_F_m, .ref a_F_at, .ref a_F_free, .ref a_F_gloved, .ref a_F_deeds, .ref a_F_handed, .ref a_F_crowd, .int F_size, .int F_step, .int F_loss])), (a_F_at, .inl (cI G, 8, .inl F_at))]
def wp_X0_howManyAt (x1 : Int32) (F_size : Int32) (F_at : Nat → Int32) (Q : Int32 → Prop) : Prop := (wp_X0_whoAt x1 F_size F_at (fun r1 => (wp_J6_bitCount_0f7a4 r1 (fun r2 => (Q r2)))))
set_option maxHeartbeats 4000000 in
set_option maxRecDepth 100000 in
theorem wk_X0_howManyAt (l : Launch) (G : Gt) (a_F : Nat) (a_F_meeting : Nat) (a_F_deed : Nat) (a_F_kind : Nat) (a_F_m : Nat) (a_F_at : Nat) (a_F_free : Nat) (a_F_gloved : Nat) (a_F_deeds : Nat) (a_F_handed : Nat) (a_F_crowd : Nat) (F_size : Int32) (F_step : Int32) (F_loss : Int32) (F_at : Nat → Int32) (x1 : Int32) (Q : Int32 → Prop) (hw : wp_X0_howManyAt x1 F_size F_at Q) : Met l yX0_howManyAt (wc yX0_howManyAt cX0_howManyAt 2 (some .int)) rm_X0_howManyAt (va_Pc [.ref a_F, .int x1] (PR G (cs_X0_howManyAt G a_F a_F_meeting a_F_deed a_F_kind a_F_m a_F_at a_F_free a_F_gloved a_F_deeds a_F_handed a_F_crowd F_size F_step F_loss F_at))) (vp_Si Q) 0 0 (fun _ => False) := by
  refine x_start pn_X0 (Nat.le_of_ble_eq_true rfl) (fun p e s m below meth c ls C hn hl hB => ?_)
  have I := rd_start hB
  have C : Cx p s m [.ref a_F, .int x1].toArray meth c cX0_howManyAt 2 RX0 (some .int) := C
  have hl : lv_has ls 2 [(0, .ref a_F), (1, .int x1)] := hl
  refine x_aload_n C hl 0 dX0_howManyAt_0 rfl ?_
  refine x_iload_n C hl 1 dX0_howManyAt_1 rfl ?_
  refine x_ro (run_V (As := [.int x1]) (rest := []) C hl (wk_X0_whoAt l G a_F a_F_meeting a_F_deed a_F_kind a_F_m a_F_at a_F_free a_F_gloved a_F_deeds a_F_handed a_F_crowd F_size F_step F_loss F_at x1 _ hw) gm_X0_93 ⟨⟨rfl, rfl⟩, cn_X0_whoAt, ⟨(Nat.le_of_ble_eq_true rfl), (Nat.le_of_ble_eq_true rfl)⟩⟩ (pr_blind _ _ _) (x_recv I 0 rfl rfl) (pr_of I [0, 1] rfl) rfl rfl (Nat.le_of_ble_eq_true rfl) ⟨Nat.le_of_ble_eq_true rfl, Nat.le_of_ble_eq_true rfl⟩ dX0_howManyAt_2) (fun r1 hw => ?_)
  refine x_ro (run_SO (As := [.int r1]) (rest := []) C hl (wk_J6_bitCount_0f7a4 l G r1 _ hw) gm_X0_96 ⟨⟨rfl, rfl⟩, cn_J6_bitCount_0f7a4, ⟨(Nat.le_of_ble_eq_true rfl), (Nat.le_of_ble_eq_true rfl)⟩⟩ (pr_blind _ _ _) (pr_of I [] rfl) rfl rfl (Nat.le_of_ble_eq_true rfl) ⟨Nat.le_of_ble_eq_true rfl, Nat.le_of_ble_eq_true rfl⟩ dX0_howManyAt_5) (fun r2 hw => ?_)
  exact x_ret0 C hw dX0_howManyAt_8
/-! X0_howManyFree -/
abbrev rm_X0_howManyFree : Room := { frames := 0, cells := 0, slots := 0, locals := 0 }
abbrev cs_X0_howManyFree (G : Gt) (a_F : Nat) (a_F_meeting : Nat) (a_F_deed : Nat) (a_F_kind : Nat) (a_F_m : Nat) (a_F_at : Nat) (a_F_free : Nat) (a_F_gloved : Nat) (a_F_deeds : Nat) (a_F_handed : Nat) (a_F_crowd : Nat) (F_size : Int32) (F_step : Int32) (F_loss : Int32) (F_free : Nat → Int32) : va_W := [(a_F, .inr (0, [.ref a_F_meeting, .ref a_F_deed, .ref a_F_kind, .ref a_F_m, .ref a_F_at, .ref a_F_free, .ref a_F_gloved, .ref a_F_deeds, .ref a_F_handed, .ref a_F_crowd, .int F_size, .int F_step, .int F_loss])), (a_F_free, .inl (cI G, 8, .inl F_free))]
def lb_X0_howManyFree_4 (F_size : Int32) (F_free : Nat → Int32) (Q : Int32 → Prop) : Nat → Int32 → Int32 → Prop
  | 0 => fun _ _ => False
  | k + 1 => fun (y1 : Int32) (y2 : Int32) => ((F_size ≤ y2 → (Q y1)) ∧ (¬ F_size ≤ y2 → (vp_in y2 8 ∧ (((F_free (y2).toNatClampNeg) ≤ (0) → (∀ v3 : Int32, v3 = (y1 + (0 : Int32)) → (lb_X0_howManyFree_4 F_size F_free Q k v3 (y2 + (1 : Int32))))) ∧ (¬ (F_free (y2).toNatClampNeg) ≤ (0) → (∀ v4 : Int32, v4 = (y1 + (1 : Int32)) → (lb_X0_howManyFree_4 F_size F_free Q k v4 (y2 + (1 : Int32)))))))))
set_option maxHeartbeats 4000000 in
set_option maxRecDepth 100000 in
theorem lk_X0_howManyFree_4 {p : Program} {l : Launch} {e : Env} {s : State} {m : MethodId} {args : Array Value} {below : List Frame} {meth : Method} {c : Code} (G : Gt) (a_F : Nat) (a_F_meeting : Nat) (a_F_deed : Nat) (a_F_kind : Nat) (a_F_m : Nat) (a_F_at : Nat) (a_F_free : Nat) (a_F_gloved : Nat) (a_F_deeds : Nat) (a_F_handed : Nat) (a_F_crowd : Nat) (C : Cx p s m args meth c cX0_howManyFree 3 RX0 (some .int)) (F_size : Int32) (F_free : Nat → Int32) (F_step : Int32) (F_loss : Int32) (Q : Int32 → Prop) : ∀ (n : Nat) (y1 : Int32) (y2 : Int32) (ls : Array Slot), lb_X0_howManyFree_4 F_size F_free Q n y1 y2 → Rd G (fun _ => False) s (cs_X0_howManyFree G a_F a_F_meeting a_F_deed a_F_kind a_F_m a_F_at a_F_free a_F_gloved a_F_deeds a_F_handed a_F_crowd F_size F_step F_loss F_free) s.heap [] → lv_has ls 3 [(0, .ref a_F), (1, .int y1), (2, .int y2)] → W p l e rm_X0_howManyFree s m args below meth c s.heap [] 0 0 (MQ below (vp_Si Q) args s 0 0 (fun _ => False)) (F0 m 4 ls []) := by
  intro n
  induction n with
  | zero => intro y1 y2  ls hw I hl; exact False.elim hw
  | succ k ih =>
    intro y1 y2  ls hw I hl
    refine x_iload_n C hl 2 dX0_howManyFree_4 rfl ?_
    refine x_aload_n C hl 0 dX0_howManyFree_5 rfl ?_
    refine x_get C I fl_X0_43 0 rfl rfl dX0_howManyFree_6 ?_
    refine x_icmp_ge C 35 dX0_howManyFree_9 (by decide) (fun c1 => ?_) (fun c1 => ?_)
    · have hw := And.left hw c1
      refine x_iload_n C hl 1 dX0_howManyFree_35 rfl ?_
      exact x_ret0 C hw dX0_howManyFree_36
    · have hw := And.right hw c1
      refine x_iload_n C hl 1 dX0_howManyFree_12 rfl ?_
      refine x_aload_n C hl 0 dX0_howManyFree_13 rfl ?_
      refine x_get C I fl_X0_21 0 rfl rfl dX0_howManyFree_14 ?_
      refine x_iload_n C hl 2 dX0_howManyFree_17 rfl ?_
      refine x_iald C I 1 rfl (And.left hw) dX0_howManyFree_18 ?_
      have hw := And.right hw
      refine x_if_le C 26 dX0_howManyFree_19 (by decide) (fun c2 => ?_) (fun c2 => ?_)
      · have hw := And.left hw c2
        refine x_iconst C dX0_howManyFree_26 ic_0 ?_
        refine x_iadd C dX0_howManyFree_27 ?_
        refine lv_topi (fun v3 ev3 => ?_)
        have hw := hw v3 ev3
        refine x_istore_n C hl [(1, .int v3), (0, .ref a_F), (2, .int y2)] dX0_howManyFree_28 (Nat.le_of_ble_eq_true rfl) rfl (fun ls hl => ?_)
        refine x_iinc C hl 2 [(2, .int (y2 + (1 : Int32))), (1, .int v3), (0, .ref a_F)] (y2 + (1 : Int32)) dX0_howManyFree_29 rfl (congrArg _ ic_1) (Nat.le_of_ble_eq_true rfl) rfl (fun ls hl => ?_)
        refine x_goto C 4 dX0_howManyFree_32 (by decide) ?_
        exact ih v3 (y2 + (1 : Int32)) ls hw I (lv_sub hl [2, 1, 0] rfl)
      · have hw := And.right hw c2
        refine x_iconst C dX0_howManyFree_22 ic_1 ?_
        refine x_goto C 27 dX0_howManyFree_23 (by decide) ?_
        refine x_iadd C dX0_howManyFree_27 ?_
        refine lv_topi (fun v4 ev4 => ?_)
        have hw := hw v4 ev4
        refine x_istore_n C hl [(1, .int v4), (0, .ref a_F), (2, .int y2)] dX0_howManyFree_28 (Nat.le_of_ble_eq_true rfl) rfl (fun ls hl => ?_)
        refine x_iinc C hl 2 [(2, .int (y2 + (1 : Int32))), (1, .int v4), (0, .ref a_F)] (y2 + (1 : Int32)) dX0_howManyFree_29 rfl (congrArg _ ic_1) (Nat.le_of_ble_eq_true rfl) rfl (fun ls hl => ?_)
        refine x_goto C 4 dX0_howManyFree_32 (by decide) ?_
        exact ih v4 (y2 + (1 : Int32)) ls hw I (lv_sub hl [2, 1, 0] rfl)
def wp_X0_howManyFree (F_size : Int32) (F_free : Nat → Int32) (Q : Int32 → Prop) : Prop := (∃ n, lb_X0_howManyFree_4 F_size F_free Q n (0 : Int32) (0 : Int32))
set_option maxHeartbeats 4000000 in
set_option maxRecDepth 100000 in
theorem wk_X0_howManyFree (l : Launch) (G : Gt) (a_F : Nat) (a_F_meeting : Nat) (a_F_deed : Nat) (a_F_kind : Nat) (a_F_m : Nat) (a_F_at : Nat) (a_F_free : Nat) (a_F_gloved : Nat) (a_F_deeds : Nat) (a_F_handed : Nat) (a_F_crowd : Nat) (F_size : Int32) (F_step : Int32) (F_loss : Int32) (F_free : Nat → Int32) (Q : Int32 → Prop) (hw : wp_X0_howManyFree F_size F_free Q) : Met l yX0_howManyFree (wc yX0_howManyFree cX0_howManyFree 3 (some .int)) rm_X0_howManyFree (va_Pc [.ref a_F] (PR G (cs_X0_howManyFree G a_F a_F_meeting a_F_deed a_F_kind a_F_m a_F_at a_F_free a_F_gloved a_F_deeds a_F_handed a_F_crowd F_size F_step F_loss F_free))) (vp_Si Q) 0 0 (fun _ => False) := by
  refine x_start pn_X0 (Nat.le_of_ble_eq_true rfl) (fun p e s m below meth c ls C hn hl hB => ?_)
  have I := rd_start hB
  have C : Cx p s m [.ref a_F].toArray meth c cX0_howManyFree 3 RX0 (some .int) := C
  have hl : lv_has ls 3 [(0, .ref a_F)] := hl
  refine x_iconst C dX0_howManyFree_0 ic_0 ?_
  refine x_istore_n C hl [(1, .int (0 : Int32)), (0, .ref a_F)] dX0_howManyFree_1 (Nat.le_of_ble_eq_true rfl) rfl (fun ls hl => ?_)
  refine x_iconst C dX0_howManyFree_2 ic_0 ?_
  refine x_istore_n C hl [(2, .int (0 : Int32)), (1, .int (0 : Int32)), (0, .ref a_F)] dX0_howManyFree_3 (Nat.le_of_ble_eq_true rfl) rfl (fun ls hl => ?_)
  obtain ⟨n, hw⟩ := hw
  exact lk_X0_howManyFree_4 G a_F a_F_meeting a_F_deed a_F_kind a_F_m a_F_at a_F_free a_F_gloved a_F_deeds a_F_handed a_F_crowd C F_size F_free F_step F_loss Q n (0 : Int32) (0 : Int32) ls hw I (lv_sub hl [2, 1, 0] rfl)
/-! X0_freeTogether -/
abbrev rm_X0_freeTogether : Room := { frames := 0, cells := 0, slots := 0, locals := 0 }
abbrev cs_X0_freeTogether (G : Gt) (a_F : Nat) (a_F_meeting : Nat) (a_F_deed : Nat) (a_F_kind : Nat) (a_F_m : Nat) (a_F_at : Nat) (a_F_free : Nat) (a_F_gloved : Nat) (a_F_deeds : Nat) (a_F_handed : Nat) (a_F_crowd : Nat) (F_size : Int32) (F_step : Int32) (F_loss : Int32) (F_free : Nat → Int32) : va_W := [(a_F, .inr (0, [.ref a_F_meeting, .ref a_F_deed, .ref a_F_kind, .ref a_F_m, .ref a_F_at, .ref a_F_free, .ref a_F_gloved, .ref a_F_deeds, .ref a_F_handed, .ref a_F_crowd, .int F_size, .int F_step, .int F_loss])), (a_F_free, .inl (cI G, 8, .inl F_free))]
def lb_X0_freeTogether_4 (F_size : Int32) (F_free : Nat → Int32) (Q : Int32 → Prop) : Nat → Int32 → Int32 → Prop
  | 0 => fun _ _ => False
  | k + 1 => fun (y1 : Int32) (y2 : Int32) => ((F_size ≤ y2 → (Q y1)) ∧ (¬ F_size ≤ y2 → (vp_in y2 8 ∧ (∀ v2 : Int32, v2 = (y1 + (F_free (y2).toNatClampNeg)) → (lb_X0_freeTogether_4 F_size F_free Q k v2 (y2 + (1 : Int32)))))))
set_option maxHeartbeats 4000000 in
set_option maxRecDepth 100000 in
theorem lk_X0_freeTogether_4 {p : Program} {l : Launch} {e : Env} {s : State} {m : MethodId} {args : Array Value} {below : List Frame} {meth : Method} {c : Code} (G : Gt) (a_F : Nat) (a_F_meeting : Nat) (a_F_deed : Nat) (a_F_kind : Nat) (a_F_m : Nat) (a_F_at : Nat) (a_F_free : Nat) (a_F_gloved : Nat) (a_F_deeds : Nat) (a_F_handed : Nat) (a_F_crowd : Nat) (C : Cx p s m args meth c cX0_freeTogether 3 RX0 (some .int)) (F_size : Int32) (F_free : Nat → Int32) (F_step : Int32) (F_loss : Int32) (Q : Int32 → Prop) : ∀ (n : Nat) (y1 : Int32) (y2 : Int32) (ls : Array Slot), lb_X0_freeTogether_4 F_size F_free Q n y1 y2 → Rd G (fun _ => False) s (cs_X0_freeTogether G a_F a_F_meeting a_F_deed a_F_kind a_F_m a_F_at a_F_free a_F_gloved a_F_deeds a_F_handed a_F_crowd F_size F_step F_loss F_free) s.heap [] → lv_has ls 3 [(0, .ref a_F), (1, .int y1), (2, .int y2)] → W p l e rm_X0_freeTogether s m args below meth c s.heap [] 0 0 (MQ below (vp_Si Q) args s 0 0 (fun _ => False)) (F0 m 4 ls []) := by
  intro n
  induction n with
  | zero => intro y1 y2  ls hw I hl; exact False.elim hw
  | succ k ih =>
    intro y1 y2  ls hw I hl
    refine x_iload_n C hl 2 dX0_freeTogether_4 rfl ?_
    refine x_aload_n C hl 0 dX0_freeTogether_5 rfl ?_
    refine x_get C I fl_X0_43 0 rfl rfl dX0_freeTogether_6 ?_
    refine x_icmp_ge C 27 dX0_freeTogether_9 (by decide) (fun c1 => ?_) (fun c1 => ?_)
    · have hw := And.left hw c1
      refine x_iload_n C hl 1 dX0_freeTogether_27 rfl ?_
      exact x_ret0 C hw dX0_freeTogether_28
    · have hw := And.right hw c1
      refine x_iload_n C hl 1 dX0_freeTogether_12 rfl ?_
      refine x_aload_n C hl 0 dX0_freeTogether_13 rfl ?_
      refine x_get C I fl_X0_21 0 rfl rfl dX0_freeTogether_14 ?_
      refine x_iload_n C hl 2 dX0_freeTogether_17 rfl ?_
      refine x_iald C I 1 rfl (And.left hw) dX0_freeTogether_18 ?_
      have hw := And.right hw
      refine x_iadd C dX0_freeTogether_19 ?_
      refine lv_topi (fun v2 ev2 => ?_)
      have hw := hw v2 ev2
      refine x_istore_n C hl [(1, .int v2), (0, .ref a_F), (2, .int y2)] dX0_freeTogether_20 (Nat.le_of_ble_eq_true rfl) rfl (fun ls hl => ?_)
      refine x_iinc C hl 2 [(2, .int (y2 + (1 : Int32))), (1, .int v2), (0, .ref a_F)] (y2 + (1 : Int32)) dX0_freeTogether_21 rfl (congrArg _ ic_1) (Nat.le_of_ble_eq_true rfl) rfl (fun ls hl => ?_)
      refine x_goto C 4 dX0_freeTogether_24 (by decide) ?_
      exact ih v2 (y2 + (1 : Int32)) ls hw I (lv_sub hl [2, 1, 0] rfl)
def wp_X0_freeTogether (F_size : Int32) (F_free : Nat → Int32) (Q : Int32 → Prop) : Prop := (∃ n, lb_X0_freeTogether_4 F_size F_free Q n (0 : Int32) (0 : Int32))
set_option maxHeartbeats 4000000 in
set_option maxRecDepth 100000 in
theorem wk_X0_freeTogether (l : Launch) (G : Gt) (a_F : Nat) (a_F_meeting : Nat) (a_F_deed : Nat) (a_F_kind : Nat) (a_F_m : Nat) (a_F_at : Nat) (a_F_free : Nat) (a_F_gloved : Nat) (a_F_deeds : Nat) (a_F_handed : Nat) (a_F_crowd : Nat) (F_size : Int32) (F_step : Int32) (F_loss : Int32) (F_free : Nat → Int32) (Q : Int32 → Prop) (hw : wp_X0_freeTogether F_size F_free Q) : Met l yX0_freeTogether (wc yX0_freeTogether cX0_freeTogether 3 (some .int)) rm_X0_freeTogether (va_Pc [.ref a_F] (PR G (cs_X0_freeTogether G a_F a_F_meeting a_F_deed a_F_kind a_F_m a_F_at a_F_free a_F_gloved a_F_deeds a_F_handed a_F_crowd F_size F_step F_loss F_free))) (vp_Si Q) 0 0 (fun _ => False) := by
  refine x_start pn_X0 (Nat.le_of_ble_eq_true rfl) (fun p e s m below meth c ls C hn hl hB => ?_)
  have I := rd_start hB
  have C : Cx p s m [.ref a_F].toArray meth c cX0_freeTogether 3 RX0 (some .int) := C
  have hl : lv_has ls 3 [(0, .ref a_F)] := hl
  refine x_iconst C dX0_freeTogether_0 ic_0 ?_
  refine x_istore_n C hl [(1, .int (0 : Int32)), (0, .ref a_F)] dX0_freeTogether_1 (Nat.le_of_ble_eq_true rfl) rfl (fun ls hl => ?_)
  refine x_iconst C dX0_freeTogether_2 ic_0 ?_
  refine x_istore_n C hl [(2, .int (0 : Int32)), (1, .int (0 : Int32)), (0, .ref a_F)] dX0_freeTogether_3 (Nat.le_of_ble_eq_true rfl) rfl (fun ls hl => ?_)
  obtain ⟨n, hw⟩ := hw
  exact lk_X0_freeTogether_4 G a_F a_F_meeting a_F_deed a_F_kind a_F_m a_F_at a_F_free a_F_gloved a_F_deeds a_F_handed a_F_crowd C F_size F_free F_step F_loss Q n (0 : Int32) (0 : Int32) ls hw I (lv_sub hl [2, 1, 0] rfl)
/-! X0_deedsTogether -/
abbrev rm_X0_deedsTogether : Room := { frames := 0, cells := 0, slots := 0, locals := 0 }
abbrev cs_X0_deedsTogether (G : Gt) (a_F : Nat) (a_F_meeting : Nat) (a_F_deed : Nat) (a_F_kind : Nat) (a_F_m : Nat) (a_F_at : Nat) (a_F_free : Nat) (a_F_gloved : Nat) (a_F_deeds : Nat) (a_F_handed : Nat) (a_F_crowd : Nat) (F_size : Int32) (F_step : Int32) (F_loss : Int32) (F_deeds : Nat → Int32) : va_W := [(a_F, .inr (0, [.ref a_F_meeting, .ref a_F_deed, .ref a_F_kind, .ref a_F_m, .ref a_F_at, .ref a_F_free, .ref a_F_gloved, .ref a_F_deeds, .ref a_F_handed, .ref a_F_crowd, .int F_size, .int F_step, .int F_loss])), (a_F_deeds, .inl (cI G, 8, .inl F_deeds))]
def lb_X0_deedsTogether_4 (F_size : Int32) (F_deeds : Nat → Int32) (Q : Int32 → Prop) : Nat → Int32 → Int32 → Prop
  | 0 => fun _ _ => False
  | k + 1 => fun (y1 : Int32) (y2 : Int32) => ((F_size ≤ y2 → (Q y1)) ∧ (¬ F_size ≤ y2 → (vp_in y2 8 ∧ (∀ v2 : Int32, v2 = (y1 + (F_deeds (y2).toNatClampNeg)) → (lb_X0_deedsTogether_4 F_size F_deeds Q k v2 (y2 + (1 : Int32)))))))
set_option maxHeartbeats 4000000 in
set_option maxRecDepth 100000 in
theorem lk_X0_deedsTogether_4 {p : Program} {l : Launch} {e : Env} {s : State} {m : MethodId} {args : Array Value} {below : List Frame} {meth : Method} {c : Code} (G : Gt) (a_F : Nat) (a_F_meeting : Nat) (a_F_deed : Nat) (a_F_kind : Nat) (a_F_m : Nat) (a_F_at : Nat) (a_F_free : Nat) (a_F_gloved : Nat) (a_F_deeds : Nat) (a_F_handed : Nat) (a_F_crowd : Nat) (C : Cx p s m args meth c cX0_deedsTogether 3 RX0 (some .int)) (F_size : Int32) (F_deeds : Nat → Int32) (F_step : Int32) (F_loss : Int32) (Q : Int32 → Prop) : ∀ (n : Nat) (y1 : Int32) (y2 : Int32) (ls : Array Slot), lb_X0_deedsTogether_4 F_size F_deeds Q n y1 y2 → Rd G (fun _ => False) s (cs_X0_deedsTogether G a_F a_F_meeting a_F_deed a_F_kind a_F_m a_F_at a_F_free a_F_gloved a_F_deeds a_F_handed a_F_crowd F_size F_step F_loss F_deeds) s.heap [] → lv_has ls 3 [(0, .ref a_F), (1, .int y1), (2, .int y2)] → W p l e rm_X0_deedsTogether s m args below meth c s.heap [] 0 0 (MQ below (vp_Si Q) args s 0 0 (fun _ => False)) (F0 m 4 ls []) := by
  intro n
  induction n with
  | zero => intro y1 y2  ls hw I hl; exact False.elim hw
  | succ k ih =>
    intro y1 y2  ls hw I hl
    refine x_iload_n C hl 2 dX0_deedsTogether_4 rfl ?_
    refine x_aload_n C hl 0 dX0_deedsTogether_5 rfl ?_
    refine x_get C I fl_X0_43 0 rfl rfl dX0_deedsTogether_6 ?_
    refine x_icmp_ge C 27 dX0_deedsTogether_9 (by decide) (fun c1 => ?_) (fun c1 => ?_)
    · have hw := And.left hw c1
      refine x_iload_n C hl 1 dX0_deedsTogether_27 rfl ?_
      exact x_ret0 C hw dX0_deedsTogether_28
    · have hw := And.right hw c1
      refine x_iload_n C hl 1 dX0_deedsTogether_12 rfl ?_
      refine x_aload_n C hl 0 dX0_deedsTogether_13 rfl ?_
      refine x_get C I fl_X0_27 0 rfl rfl dX0_deedsTogether_14 ?_
      refine x_iload_n C hl 2 dX0_deedsTogether_17 rfl ?_
      refine x_iald C I 1 rfl (And.left hw) dX0_deedsTogether_18 ?_
      have hw := And.right hw
      refine x_iadd C dX0_deedsTogether_19 ?_
      refine lv_topi (fun v2 ev2 => ?_)
      have hw := hw v2 ev2
      refine x_istore_n C hl [(1, .int v2), (0, .ref a_F), (2, .int y2)] dX0_deedsTogether_20 (Nat.le_of_ble_eq_true rfl) rfl (fun ls hl => ?_)
      refine x_iinc C hl 2 [(2, .int (y2 + (1 : Int32))), (1, .int v2), (0, .ref a_F)] (y2 + (1 : Int32)) dX0_deedsTogether_21 rfl (congrArg _ ic_1) (Nat.le_of_ble_eq_true rfl) rfl (fun ls hl => ?_)
      refine x_goto C 4 dX0_deedsTogether_24 (by decide) ?_
      exact ih v2 (y2 + (1 : Int32)) ls hw I (lv_sub hl [2, 1, 0] rfl)
def wp_X0_deedsTogether (F_size : Int32) (F_deeds : Nat → Int32) (Q : Int32 → Prop) : Prop := (∃ n, lb_X0_deedsTogether_4 F_size F_deeds Q n (0 : Int32) (0 : Int32))
set_option maxHeartbeats 4000000 in
set_option maxRecDepth 100000 in
theorem wk_X0_deedsTogether (l : Launch) (G : Gt) (a_F : Nat) (a_F_meeting : Nat) (a_F_deed : Nat) (a_F_kind : Nat) (a_F_m : Nat) (a_F_at : Nat) (a_F_free : Nat) (a_F_gloved : Nat) (a_F_deeds : Nat) (a_F_handed : Nat) (a_F_crowd : Nat) (F_size : Int32) (F_step : Int32) (F_loss : Int32) (F_deeds : Nat → Int32) (Q : Int32 → Prop) (hw : wp_X0_deedsTogether F_size F_deeds Q) : Met l yX0_deedsTogether (wc yX0_deedsTogether cX0_deedsTogether 3 (some .int)) rm_X0_deedsTogether (va_Pc [.ref a_F] (PR G (cs_X0_deedsTogether G a_F a_F_meeting a_F_deed a_F_kind a_F_m a_F_at a_F_free a_F_gloved a_F_deeds a_F_handed a_F_crowd F_size F_step F_loss F_deeds))) (vp_Si Q) 0 0 (fun _ => False) := by
  refine x_start pn_X0 (Nat.le_of_ble_eq_true rfl) (fun p e s m below meth c ls C hn hl hB => ?_)
  have I := rd_start hB
  have C : Cx p s m [.ref a_F].toArray meth c cX0_deedsTogether 3 RX0 (some .int) := C
  have hl : lv_has ls 3 [(0, .ref a_F)] := hl
  refine x_iconst C dX0_deedsTogether_0 ic_0 ?_
  refine x_istore_n C hl [(1, .int (0 : Int32)), (0, .ref a_F)] dX0_deedsTogether_1 (Nat.le_of_ble_eq_true rfl) rfl (fun ls hl => ?_)
  refine x_iconst C dX0_deedsTogether_2 ic_0 ?_
  refine x_istore_n C hl [(2, .int (0 : Int32)), (1, .int (0 : Int32)), (0, .ref a_F)] dX0_deedsTogether_3 (Nat.le_of_ble_eq_true rfl) rfl (fun ls hl => ?_)
  obtain ⟨n, hw⟩ := hw
  exact lk_X0_deedsTogether_4 G a_F a_F_meeting a_F_deed a_F_kind a_F_m a_F_at a_F_free a_F_gloved a_F_deeds a_F_handed a_F_crowd C F_size F_deeds F_step F_loss Q n (0 : Int32) (0 : Int32) ls hw I (lv_sub hl [2, 1, 0] rfl)
/-! X0_putGlovesOn -/
abbrev rm_X0_putGlovesOn : Room := { frames := 0, cells := 0, slots := 0, locals := 0 }
abbrev cs_X0_putGlovesOn (G : Gt) (a_F : Nat) (a_F_meeting : Nat) (a_F_deed : Nat) (a_F_kind : Nat) (a_F_m : Nat) (a_F_at : Nat) (a_F_free : Nat) (a_F_gloved : Nat) (a_F_deeds : Nat) (a_F_handed : Nat) (a_F_crowd : Nat) (F_size : Int32) (F_step : Int32) (F_loss : Int32) (F_gloved : Nat → Int32) : va_W := [(a_F, .inr (0, [.ref a_F_meeting, .ref a_F_deed, .ref a_F_kind, .ref a_F_m, .ref a_F_at, .ref a_F_free, .ref a_F_gloved, .ref a_F_deeds, .ref a_F_handed, .ref a_F_crowd, .int F_size, .int F_step, .int F_loss])), (a_F_gloved, .inl (cI G, 8, .inl F_gloved))]
abbrev qc_X0_putGlovesOn (G : Gt) (a_F : Nat) (a_F_meeting : Nat) (a_F_deed : Nat) (a_F_kind : Nat) (a_F_m : Nat) (a_F_at : Nat) (a_F_free : Nat) (a_F_gloved : Nat) (a_F_deeds : Nat) (a_F_handed : Nat) (a_F_crowd : Nat) (F_size : Int32) (F_step : Int32) (F_loss : Int32) (A : Nat → Prop) (Q : (Nat → Int32) → Prop) : Array Value → State → Outcome → State → Prop := Qv1 G A (fun (u : (Nat → Int32)) => Q u) (fun u => cs_X0_putGlovesOn G a_F a_F_meeting a_F_deed a_F_kind a_F_m a_F_at a_F_free a_F_gloved a_F_deeds a_F_handed a_F_crowd F_size F_step F_loss u)
def lb_X0_putGlovesOn_2 (x1 : Int32) (F_size : Int32) (Q : (Nat → Int32) → Prop) : Nat → Int32 → (Nat → Int32) → Prop
  | 0 => fun _ _ => False
  | k + 1 => fun (y2 : Int32) (w_F_gloved : Nat → Int32) => ((F_size ≤ y2 → (Q w_F_gloved)) ∧ (¬ F_size ≤ y2 → ((¬ ((jshr x1 y2) &&& (1 : Int32)) = (1 : Int32) → (lb_X0_putGlovesOn_2 x1 F_size Q k (y2 + (1 : Int32)) w_F_gloved)) ∧ (((jshr x1 y2) &&& (1 : Int32)) = (1 : Int32) → (vp_in y2 8 ∧ (lb_X0_putGlovesOn_2 x1 F_size Q k (y2 + (1 : Int32)) (upd w_F_gloved (y2).toNatClampNeg (1 : Int32))))))))
set_option maxHeartbeats 4000000 in
set_option maxRecDepth 100000 in
theorem lk_X0_putGlovesOn_2 {p : Program} {l : Launch} {e : Env} {s : State} {m : MethodId} {args : Array Value} {below : List Frame} {meth : Method} {c : Code} {A : Nat → Prop} (G : Gt) (a_F : Nat) (a_F_meeting : Nat) (a_F_deed : Nat) (a_F_kind : Nat) (a_F_m : Nat) (a_F_at : Nat) (a_F_free : Nat) (a_F_gloved : Nat) (a_F_deeds : Nat) (a_F_handed : Nat) (a_F_crowd : Nat) (C : Cx p s m args meth c cX0_putGlovesOn 3 RX0 none) (x1 : Int32) (F_size : Int32) (F_step : Int32) (F_loss : Int32) (Q : (Nat → Int32) → Prop) : ∀ (n : Nat) (y2 : Int32) (w_F_gloved : Nat → Int32) (Hx : Heap) (lx : List Loc) (ls : Array Slot), lb_X0_putGlovesOn_2 x1 F_size Q n y2 w_F_gloved → Iv G A s (cs_X0_putGlovesOn G a_F a_F_meeting a_F_deed a_F_kind a_F_m a_F_at a_F_free a_F_gloved a_F_deeds a_F_handed a_F_crowd F_size F_step F_loss w_F_gloved) Hx lx → lv_has ls 3 [(0, .ref a_F), (1, .int x1), (2, .int y2)] → W p l e rm_X0_putGlovesOn s m args below meth c Hx lx 0 0 (MQ below (qc_X0_putGlovesOn G a_F a_F_meeting a_F_deed a_F_kind a_F_m a_F_at a_F_free a_F_gloved a_F_deeds a_F_handed a_F_crowd F_size F_step F_loss A Q) args s 0 0 A) (F0 m 2 ls []) := by
  intro n
  induction n with
  | zero => intro y2 w_F_gloved Hx lx  ls hw I hl; exact False.elim hw
  | succ k ih =>
    intro y2 w_F_gloved Hx lx  ls hw I hl
    refine x_iload_n C hl 2 dX0_putGlovesOn_2 rfl ?_
    refine x_aload_n C hl 0 dX0_putGlovesOn_3 rfl ?_
    refine x_get C I.1 fl_X0_43 0 rfl rfl dX0_putGlovesOn_4 ?_
    refine x_icmp_ge C 32 dX0_putGlovesOn_7 (by decide) (fun c1 => ?_) (fun c1 => ?_)
    · have hw := And.left hw c1
      exact x_retv C I w_F_gloved rfl hw dX0_putGlovesOn_32
    · have hw := And.right hw c1
      refine x_iload_n C hl 1 dX0_putGlovesOn_10 rfl ?_
      refine x_iload_n C hl 2 dX0_putGlovesOn_11 rfl ?_
      refine x_ishr C dX0_putGlovesOn_12 ?_
      refine x_iconst C dX0_putGlovesOn_13 ic_1 ?_
      refine x_iand C dX0_putGlovesOn_14 ?_
      refine x_iconst C dX0_putGlovesOn_15 ic_1 ?_
      refine x_icmp_ne C 26 dX0_putGlovesOn_16 (by decide) (fun c2 => ?_) (fun c2 => ?_)
      · have hw := And.left hw c2
        refine x_iinc C hl 2 [(2, .int (y2 + (1 : Int32))), (0, .ref a_F), (1, .int x1)] (y2 + (1 : Int32)) dX0_putGlovesOn_26 rfl (congrArg _ ic_1) (Nat.le_of_ble_eq_true rfl) rfl (fun ls hl => ?_)
        refine x_goto C 2 dX0_putGlovesOn_29 (by decide) ?_
        exact ih (y2 + (1 : Int32)) w_F_gloved Hx lx ls hw I (lv_sub hl [1, 2, 0] rfl)
      · have hw := And.right hw c2
        refine x_aload_n C hl 0 dX0_putGlovesOn_19 rfl ?_
        refine x_get C I.1 fl_X0_24 0 rfl rfl dX0_putGlovesOn_20 ?_
        refine x_iload_n C hl 2 dX0_putGlovesOn_23 rfl ?_
        refine x_iconst C dX0_putGlovesOn_24 ic_1 ?_
        refine x_iast C I 1 (cs_X0_putGlovesOn G a_F a_F_meeting a_F_deed a_F_kind a_F_m a_F_at a_F_free a_F_gloved a_F_deeds a_F_handed a_F_crowd F_size F_step F_loss (upd w_F_gloved (y2).toNatClampNeg (1 : Int32))) rfl (And.left hw) rfl dX0_putGlovesOn_25 (fun Hx lx I => ?_)
        have hw := And.right hw
        refine x_iinc C hl 2 [(2, .int (y2 + (1 : Int32))), (0, .ref a_F), (1, .int x1)] (y2 + (1 : Int32)) dX0_putGlovesOn_26 rfl (congrArg _ ic_1) (Nat.le_of_ble_eq_true rfl) rfl (fun ls hl => ?_)
        refine x_goto C 2 dX0_putGlovesOn_29 (by decide) ?_
        exact ih (y2 + (1 : Int32)) (upd w_F_gloved (y2).toNatClampNeg (1 : Int32)) Hx lx ls hw I (lv_sub hl [1, 2, 0] rfl)
def wp_X0_putGlovesOn (x1 : Int32) (F_size : Int32) (F_gloved : Nat → Int32) (Q : (Nat → Int32) → Prop) : Prop := (∃ n, lb_X0_putGlovesOn_2 x1 F_size Q n (0 : Int32) F_gloved)
set_option maxHeartbeats 4000000 in
set_option maxRecDepth 100000 in
theorem wk_X0_putGlovesOn (l : Launch) (G : Gt) (a_F : Nat) (a_F_meeting : Nat) (a_F_deed : Nat) (a_F_kind : Nat) (a_F_m : Nat) (a_F_at : Nat) (a_F_free : Nat) (a_F_gloved : Nat) (a_F_deeds : Nat) (a_F_handed : Nat) (a_F_crowd : Nat) (sz : Nat) (F_size : Int32) (F_step : Int32) (F_loss : Int32) (F_gloved : Nat → Int32) (x1 : Int32) (Q : (Nat → Int32) → Prop) (hw : wp_X0_putGlovesOn x1 F_size F_gloved Q) : Met l yX0_putGlovesOn (wc yX0_putGlovesOn cX0_putGlovesOn 3 none) rm_X0_putGlovesOn (va_Pc [.ref a_F, .int x1] (PB G (cs_X0_putGlovesOn G a_F a_F_meeting a_F_deed a_F_kind a_F_m a_F_at a_F_free a_F_gloved a_F_deeds a_F_handed a_F_crowd F_size F_step F_loss F_gloved) sz)) (qc_X0_putGlovesOn G a_F a_F_meeting a_F_deed a_F_kind a_F_m a_F_at a_F_free a_F_gloved a_F_deeds a_F_handed a_F_crowd F_size F_step F_loss (va_A (cs_X0_putGlovesOn G a_F a_F_meeting a_F_deed a_F_kind a_F_m a_F_at a_F_free a_F_gloved a_F_deeds a_F_handed a_F_crowd F_size F_step F_loss F_gloved) sz) Q) 0 0 (va_A (cs_X0_putGlovesOn G a_F a_F_meeting a_F_deed a_F_kind a_F_m a_F_at a_F_free a_F_gloved a_F_deeds a_F_handed a_F_crowd F_size F_step F_loss F_gloved) sz) := by
  refine x_start pn_X0 (Nat.le_of_ble_eq_true rfl) (fun p e s m below meth c ls C hn hl hB => ?_)
  have I := iv_start hB
  generalize va_A (cs_X0_putGlovesOn G a_F a_F_meeting a_F_deed a_F_kind a_F_m a_F_at a_F_free a_F_gloved a_F_deeds a_F_handed a_F_crowd F_size F_step F_loss F_gloved) sz = A at I ⊢
  have C : Cx p s m [.ref a_F, .int x1].toArray meth c cX0_putGlovesOn 3 RX0 none := C
  have hl : lv_has ls 3 [(0, .ref a_F), (1, .int x1)] := hl
  refine x_iconst C dX0_putGlovesOn_0 ic_0 ?_
  refine x_istore_n C hl [(2, .int (0 : Int32)), (0, .ref a_F), (1, .int x1)] dX0_putGlovesOn_1 (Nat.le_of_ble_eq_true rfl) rfl (fun ls hl => ?_)
  obtain ⟨n, hw⟩ := hw
  exact lk_X0_putGlovesOn_2 G a_F a_F_meeting a_F_deed a_F_kind a_F_m a_F_at a_F_free a_F_gloved a_F_deeds a_F_handed a_F_crowd C x1 F_size F_step F_loss Q n (0 : Int32) F_gloved s.heap [] ls hw I (lv_sub hl [1, 2, 0] rfl)
/-! X0_leaveFreeOnly -/
abbrev rm_X0_leaveFreeOnly : Room := { frames := 0, cells := 0, slots := 0, locals := 0 }
abbrev cs_X0_leaveFreeOnly (G : Gt) (a_F : Nat) (a_F_meeting : Nat) (a_F_deed : Nat) (a_F_kind : Nat) (a_F_m : Nat) (a_F_at : Nat) (a_F_free : Nat) (a_F_gloved : Nat) (a_F_deeds : Nat) (a_F_handed : Nat) (a_F_crowd : Nat) (F_size : Int32) (F_step : Int32) (F_loss : Int32) (F_free : Nat → Int32) : va_W := [(a_F, .inr (0, [.ref a_F_meeting, .ref a_F_deed, .ref a_F_kind, .ref a_F_m, .ref a_F_at, .ref a_F_free, .ref a_F_gloved, .ref a_F_deeds, .ref a_F_handed, .ref a_F_crowd, .int F_size, .int F_step, .int F_loss])), (a_F_free, .inl (cI G, 8, .inl F_free))]
abbrev qc_X0_leaveFreeOnly (G : Gt) (a_F : Nat) (a_F_meeting : Nat) (a_F_deed : Nat) (a_F_kind : Nat) (a_F_m : Nat) (a_F_at : Nat) (a_F_free : Nat) (a_F_gloved : Nat) (a_F_deeds : Nat) (a_F_handed : Nat) (a_F_crowd : Nat) (F_size : Int32) (F_step : Int32) (F_loss : Int32) (A : Nat → Prop) (Q : (Nat → Int32) → Prop) : Array Value → State → Outcome → State → Prop := Qv1 G A (fun (u : (Nat → Int32)) => Q u) (fun u => cs_X0_leaveFreeOnly G a_F a_F_meeting a_F_deed a_F_kind a_F_m a_F_at a_F_free a_F_gloved a_F_deeds a_F_handed a_F_crowd F_size F_step F_loss u)
def lb_X0_leaveFreeOnly_2 (x1 : Int32) (F_size : Int32) (Q : (Nat → Int32) → Prop) : Nat → Int32 → (Nat → Int32) → Prop
  | 0 => fun _ _ => False
  | k + 1 => fun (y2 : Int32) (w_F_free : Nat → Int32) => ((F_size ≤ y2 → (Q w_F_free)) ∧ (¬ F_size ≤ y2 → ((y2 = x1 → (lb_X0_leaveFreeOnly_2 x1 F_size Q k (y2 + (1 : Int32)) w_F_free)) ∧ (¬ y2 = x1 → (vp_in y2 8 ∧ (lb_X0_leaveFreeOnly_2 x1 F_size Q k (y2 + (1 : Int32)) (upd w_F_free (y2).toNatClampNeg (0 : Int32))))))))
set_option maxHeartbeats 4000000 in
set_option maxRecDepth 100000 in
theorem lk_X0_leaveFreeOnly_2 {p : Program} {l : Launch} {e : Env} {s : State} {m : MethodId} {args : Array Value} {below : List Frame} {meth : Method} {c : Code} {A : Nat → Prop} (G : Gt) (a_F : Nat) (a_F_meeting : Nat) (a_F_deed : Nat) (a_F_kind : Nat) (a_F_m : Nat) (a_F_at : Nat) (a_F_free : Nat) (a_F_gloved : Nat) (a_F_deeds : Nat) (a_F_handed : Nat) (a_F_crowd : Nat) (C : Cx p s m args meth c cX0_leaveFreeOnly 3 RX0 none) (x1 : Int32) (F_size : Int32) (F_step : Int32) (F_loss : Int32) (Q : (Nat → Int32) → Prop) : ∀ (n : Nat) (y2 : Int32) (w_F_free : Nat → Int32) (Hx : Heap) (lx : List Loc) (ls : Array Slot), lb_X0_leaveFreeOnly_2 x1 F_size Q n y2 w_F_free → Iv G A s (cs_X0_leaveFreeOnly G a_F a_F_meeting a_F_deed a_F_kind a_F_m a_F_at a_F_free a_F_gloved a_F_deeds a_F_handed a_F_crowd F_size F_step F_loss w_F_free) Hx lx → lv_has ls 3 [(0, .ref a_F), (1, .int x1), (2, .int y2)] → W p l e rm_X0_leaveFreeOnly s m args below meth c Hx lx 0 0 (MQ below (qc_X0_leaveFreeOnly G a_F a_F_meeting a_F_deed a_F_kind a_F_m a_F_at a_F_free a_F_gloved a_F_deeds a_F_handed a_F_crowd F_size F_step F_loss A Q) args s 0 0 A) (F0 m 2 ls []) := by
  intro n
  induction n with
  | zero => intro y2 w_F_free Hx lx  ls hw I hl; exact False.elim hw
  | succ k ih =>
    intro y2 w_F_free Hx lx  ls hw I hl
    refine x_iload_n C hl 2 dX0_leaveFreeOnly_2 rfl ?_
    refine x_aload_n C hl 0 dX0_leaveFreeOnly_3 rfl ?_
    refine x_get C I.1 fl_X0_43 0 rfl rfl dX0_leaveFreeOnly_4 ?_
    refine x_icmp_ge C 28 dX0_leaveFreeOnly_7 (by decide) (fun c1 => ?_) (fun c1 => ?_)
    · have hw := And.left hw c1
      exact x_retv C I w_F_free rfl hw dX0_leaveFreeOnly_28
    · have hw := And.right hw c1
      refine x_iload_n C hl 2 dX0_leaveFreeOnly_10 rfl ?_
      refine x_iload_n C hl 1 dX0_leaveFreeOnly_11 rfl ?_
      refine x_icmp_eq C 22 dX0_leaveFreeOnly_12 (by decide) (fun c2 => ?_) (fun c2 => ?_)
      · have hw := And.left hw c2
        refine x_iinc C hl 2 [(2, .int (y2 + (1 : Int32))), (0, .ref a_F), (1, .int x1)] (y2 + (1 : Int32)) dX0_leaveFreeOnly_22 rfl (congrArg _ ic_1) (Nat.le_of_ble_eq_true rfl) rfl (fun ls hl => ?_)
        refine x_goto C 2 dX0_leaveFreeOnly_25 (by decide) ?_
        exact ih (y2 + (1 : Int32)) w_F_free Hx lx ls hw I (lv_sub hl [1, 2, 0] rfl)
      · have hw := And.right hw c2
        refine x_aload_n C hl 0 dX0_leaveFreeOnly_15 rfl ?_
        refine x_get C I.1 fl_X0_21 0 rfl rfl dX0_leaveFreeOnly_16 ?_
        refine x_iload_n C hl 2 dX0_leaveFreeOnly_19 rfl ?_
        refine x_iconst C dX0_leaveFreeOnly_20 ic_0 ?_
        refine x_iast C I 1 (cs_X0_leaveFreeOnly G a_F a_F_meeting a_F_deed a_F_kind a_F_m a_F_at a_F_free a_F_gloved a_F_deeds a_F_handed a_F_crowd F_size F_step F_loss (upd w_F_free (y2).toNatClampNeg (0 : Int32))) rfl (And.left hw) rfl dX0_leaveFreeOnly_21 (fun Hx lx I => ?_)
        have hw := And.right hw
        refine x_iinc C hl 2 [(2, .int (y2 + (1 : Int32))), (0, .ref a_F), (1, .int x1)] (y2 + (1 : Int32)) dX0_leaveFreeOnly_22 rfl (congrArg _ ic_1) (Nat.le_of_ble_eq_true rfl) rfl (fun ls hl => ?_)
        refine x_goto C 2 dX0_leaveFreeOnly_25 (by decide) ?_
        exact ih (y2 + (1 : Int32)) (upd w_F_free (y2).toNatClampNeg (0 : Int32)) Hx lx ls hw I (lv_sub hl [1, 2, 0] rfl)
def wp_X0_leaveFreeOnly (x1 : Int32) (F_size : Int32) (F_free : Nat → Int32) (Q : (Nat → Int32) → Prop) : Prop := (∃ n, lb_X0_leaveFreeOnly_2 x1 F_size Q n (0 : Int32) F_free)
set_option maxHeartbeats 4000000 in
set_option maxRecDepth 100000 in
theorem wk_X0_leaveFreeOnly (l : Launch) (G : Gt) (a_F : Nat) (a_F_meeting : Nat) (a_F_deed : Nat) (a_F_kind : Nat) (a_F_m : Nat) (a_F_at : Nat) (a_F_free : Nat) (a_F_gloved : Nat) (a_F_deeds : Nat) (a_F_handed : Nat) (a_F_crowd : Nat) (sz : Nat) (F_size : Int32) (F_step : Int32) (F_loss : Int32) (F_free : Nat → Int32) (x1 : Int32) (Q : (Nat → Int32) → Prop) (hw : wp_X0_leaveFreeOnly x1 F_size F_free Q) : Met l yX0_leaveFreeOnly (wc yX0_leaveFreeOnly cX0_leaveFreeOnly 3 none) rm_X0_leaveFreeOnly (va_Pc [.ref a_F, .int x1] (PB G (cs_X0_leaveFreeOnly G a_F a_F_meeting a_F_deed a_F_kind a_F_m a_F_at a_F_free a_F_gloved a_F_deeds a_F_handed a_F_crowd F_size F_step F_loss F_free) sz)) (qc_X0_leaveFreeOnly G a_F a_F_meeting a_F_deed a_F_kind a_F_m a_F_at a_F_free a_F_gloved a_F_deeds a_F_handed a_F_crowd F_size F_step F_loss (va_A (cs_X0_leaveFreeOnly G a_F a_F_meeting a_F_deed a_F_kind a_F_m a_F_at a_F_free a_F_gloved a_F_deeds a_F_handed a_F_crowd F_size F_step F_loss F_free) sz) Q) 0 0 (va_A (cs_X0_leaveFreeOnly G a_F a_F_meeting a_F_deed a_F_kind a_F_m a_F_at a_F_free a_F_gloved a_F_deeds a_F_handed a_F_crowd F_size F_step F_loss F_free) sz) := by
  refine x_start pn_X0 (Nat.le_of_ble_eq_true rfl) (fun p e s m below meth c ls C hn hl hB => ?_)
  have I := iv_start hB
  generalize va_A (cs_X0_leaveFreeOnly G a_F a_F_meeting a_F_deed a_F_kind a_F_m a_F_at a_F_free a_F_gloved a_F_deeds a_F_handed a_F_crowd F_size F_step F_loss F_free) sz = A at I ⊢
  have C : Cx p s m [.ref a_F, .int x1].toArray meth c cX0_leaveFreeOnly 3 RX0 none := C
  have hl : lv_has ls 3 [(0, .ref a_F), (1, .int x1)] := hl
  refine x_iconst C dX0_leaveFreeOnly_0 ic_0 ?_
  refine x_istore_n C hl [(2, .int (0 : Int32)), (0, .ref a_F), (1, .int x1)] dX0_leaveFreeOnly_1 (Nat.le_of_ble_eq_true rfl) rfl (fun ls hl => ?_)
  obtain ⟨n, hw⟩ := hw
  exact lk_X0_leaveFreeOnly_2 G a_F a_F_meeting a_F_deed a_F_kind a_F_m a_F_at a_F_free a_F_gloved a_F_deeds a_F_handed a_F_crowd C x1 F_size F_step F_loss Q n (0 : Int32) F_free s.heap [] ls hw I (lv_sub hl [1, 2, 0] rfl)
