/-! X0_handOnAt -/
abbrev rm_X0_handOnAt : Room := { frames := 1, cells := 0, slots := 0, locals := 22 }
abbrev cs_X0_handOnAt (G : Gt) (a_F : Nat) (a_F_meeting : Nat) (a_F_deed : Nat) (a_F_kind : Nat) (a_F_m : Nat) (a_F_at : Nat) (a_F_free : Nat) (a_F_gloved : Nat) (a_F_deeds : Nat) (a_F_handed : Nat) (a_F_crowd : Nat) (F_size : Int32) (F_step : Int32) (F_loss : Int32) (F_at : Nat → Int32) (F_gloved : Nat → Int32) (F_free : Nat → Int32) (F_handed : Nat → Int32) : va_W := [(a_F, .inr (0, [.ref a_F_meeting, .ref a_F_deed, .ref a_F_kind, .ref a_F_m, .ref a_F_at, .ref a_F_free, .ref a_F_gloved, .ref a_F_deeds, .ref a_F_handed, .ref a_F_crowd, .int F_size, .int F_step, .int F_loss])), (a_F_at, .inl (cI G, 8, .inl F_at)), (a_F_gloved, .inl (cI G, 8, .inl F_gloved)), (a_F_free, .inl (cI G, 8, .inl F_free)), (a_F_handed, .inl (cI G, 8, .inl F_handed))]
abbrev qc_X0_handOnAt (G : Gt) (a_F : Nat) (a_F_meeting : Nat) (a_F_deed : Nat) (a_F_kind : Nat) (a_F_m : Nat) (a_F_at : Nat) (a_F_free : Nat) (a_F_gloved : Nat) (a_F_deeds : Nat) (a_F_handed : Nat) (a_F_crowd : Nat) (F_size : Int32) (F_step : Int32) (F_loss : Int32) (F_at : Nat → Int32) (F_gloved : Nat → Int32) (F_handed : Nat → Int32) (A : Nat → Prop) (Q : (Nat → Int32) → Prop) : Array Value → State → Outcome → State → Prop := Qv1 G A (fun (u : (Nat → Int32)) => Q u) (fun u => cs_X0_handOnAt G a_F a_F_meeting a_F_deed a_F_kind a_F_m a_F_at a_F_free a_F_gloved a_F_deeds a_F_handed a_F_crowd F_size F_step F_loss F_at F_gloved u F_handed)
def lb_X0_handOnAt_12 (x1 : Int32) (F_size : Int32) (F_at : Nat → Int32) (F_gloved : Nat → Int32) (F_handed : Nat → Int32) (Q : (Nat → Int32) → Prop) (K2 : Int32 → (Nat → Int32) → Prop) : Nat → Int32 → Int32 → (Nat → Int32) → Prop
  | 0 => fun _ _ _ => False
  | k + 1 => fun (y2 : Int32) (y3 : Int32) (w_F_free : Nat → Int32) => (vp_in y2 8 ∧ ((¬ (F_at (y2).toNatClampNeg) = x1 → (K2 (y2 + (1 : Int32)) w_F_free)) ∧ ((F_at (y2).toNatClampNeg) = x1 → ((F_size ≤ y3 → (K2 (y2 + (1 : Int32)) w_F_free)) ∧ (¬ F_size ≤ y3 → ((y2 = y3 → (lb_X0_handOnAt_12 x1 F_size F_at F_gloved F_handed Q K2 k y2 (y3 + (1 : Int32)) w_F_free)) ∧ (¬ y2 = y3 → (wp_X0_canTouch y2 y3 F_at F_gloved (fun r5 => ((r5 = (0) → (lb_X0_handOnAt_12 x1 F_size F_at F_gloved F_handed Q K2 k y2 (y3 + (1 : Int32)) w_F_free)) ∧ (¬ r5 = (0) → (vp_in y2 8 ∧ (vp_in y3 8 ∧ (∀ v7 : Int32, v7 = (jmax (w_F_free (y2).toNatClampNeg) (F_handed (y3).toNatClampNeg)) → (vp_in y2 8 ∧ (lb_X0_handOnAt_12 x1 F_size F_at F_gloved F_handed Q K2 k y2 (y3 + (1 : Int32)) (upd w_F_free (y2).toNatClampNeg v7)))))))))))))))))
set_option maxHeartbeats 4000000 in
set_option maxRecDepth 100000 in
theorem lk_X0_handOnAt_12 {p : Program} {l : Launch} {e : Env} {s : State} {m : MethodId} {args : Array Value} {below : List Frame} {meth : Method} {c : Code} {A : Nat → Prop} (G : Gt) (a_F : Nat) (a_F_meeting : Nat) (a_F_deed : Nat) (a_F_kind : Nat) (a_F_m : Nat) (a_F_at : Nat) (a_F_free : Nat) (a_F_gloved : Nat) (a_F_deeds : Nat) (a_F_handed : Nat) (a_F_crowd : Nat) (C : Cx p s m args meth c cX0_handOnAt 4 RX0 none) (x1 : Int32) (F_size : Int32) (F_at : Nat → Int32) (F_gloved : Nat → Int32) (F_handed : Nat → Int32) (F_step : Int32) (F_loss : Int32) (Q : (Nat → Int32) → Prop) (K2 : Int32 → (Nat → Int32) → Prop) (hK2 : ∀ (y2 : Int32) (w_F_free : Nat → Int32) (Hx : Heap) (lx : List Loc) (ls : Array Slot), K2 y2 w_F_free → Iv G A s (cs_X0_handOnAt G a_F a_F_meeting a_F_deed a_F_kind a_F_m a_F_at a_F_free a_F_gloved a_F_deeds a_F_handed a_F_crowd F_size F_step F_loss F_at F_gloved w_F_free F_handed) Hx lx → lv_has ls 4 [(0, .ref a_F), (1, .int x1), (2, .int y2)] → W p l e rm_X0_handOnAt s m args below meth c Hx lx 0 0 (MQ below (qc_X0_handOnAt G a_F a_F_meeting a_F_deed a_F_kind a_F_m a_F_at a_F_free a_F_gloved a_F_deeds a_F_handed a_F_crowd F_size F_step F_loss F_at F_gloved F_handed A Q) args s 0 0 A) (F0 m 2 ls [])) : ∀ (n : Nat) (y2 : Int32) (y3 : Int32) (w_F_free : Nat → Int32) (Hx : Heap) (lx : List Loc) (ls : Array Slot), lb_X0_handOnAt_12 x1 F_size F_at F_gloved F_handed Q K2 n y2 y3 w_F_free → Iv G A s (cs_X0_handOnAt G a_F a_F_meeting a_F_deed a_F_kind a_F_m a_F_at a_F_free a_F_gloved a_F_deeds a_F_handed a_F_crowd F_size F_step F_loss F_at F_gloved w_F_free F_handed) Hx lx → lv_has ls 4 [(0, .ref a_F), (1, .int x1), (2, .int y2), (3, .int y3)] → W p l e rm_X0_handOnAt s m args below meth c Hx lx 0 0 (MQ below (qc_X0_handOnAt G a_F a_F_meeting a_F_deed a_F_kind a_F_m a_F_at a_F_free a_F_gloved a_F_deeds a_F_handed a_F_crowd F_size F_step F_loss F_at F_gloved F_handed A Q) args s 0 0 A) (F0 m 12 ls []) := by
  intro n
  induction n with
  | zero => intro y2 y3 w_F_free Hx lx  ls hw I hl; exact False.elim hw
  | succ k ih =>
    intro y2 y3 w_F_free Hx lx  ls hw I hl
    refine x_aload_n C hl 0 dX0_handOnAt_12 rfl ?_
    refine x_get C I.1 fl_X0_18 0 rfl rfl dX0_handOnAt_13 ?_
    refine x_iload_n C hl 2 dX0_handOnAt_16 rfl ?_
    refine x_iald C I.1 1 rfl (And.left hw) dX0_handOnAt_17 ?_
    have hw := And.right hw
    refine x_iload_n C hl 1 dX0_handOnAt_18 rfl ?_
    refine x_icmp_ne C 71 dX0_handOnAt_19 (by decide) (fun c2 => ?_) (fun c2 => ?_)
    · have hw := And.left hw c2
      refine x_iinc C hl 2 [(2, .int (y2 + (1 : Int32))), (0, .ref a_F), (1, .int x1), (3, .int y3)] (y2 + (1 : Int32)) dX0_handOnAt_71 rfl (congrArg _ ic_1) (Nat.le_of_ble_eq_true rfl) rfl (fun ls hl => ?_)
      refine x_goto C 2 dX0_handOnAt_74 (by decide) ?_
      exact hK2 (y2 + (1 : Int32)) w_F_free Hx lx ls hw I (lv_sub hl [1, 2, 0] rfl)
    · have hw := And.right hw c2
      refine x_iload_n C hl 3 dX0_handOnAt_22 rfl ?_
      refine x_aload_n C hl 0 dX0_handOnAt_23 rfl ?_
      refine x_get C I.1 fl_X0_43 0 rfl rfl dX0_handOnAt_24 ?_
      refine x_icmp_ge C 71 dX0_handOnAt_27 (by decide) (fun c3 => ?_) (fun c3 => ?_)
      · have hw := And.left hw c3
        refine x_iinc C hl 2 [(2, .int (y2 + (1 : Int32))), (0, .ref a_F), (1, .int x1), (3, .int y3)] (y2 + (1 : Int32)) dX0_handOnAt_71 rfl (congrArg _ ic_1) (Nat.le_of_ble_eq_true rfl) rfl (fun ls hl => ?_)
        refine x_goto C 2 dX0_handOnAt_74 (by decide) ?_
        exact hK2 (y2 + (1 : Int32)) w_F_free Hx lx ls hw I (lv_sub hl [1, 2, 0] rfl)
      · have hw := And.right hw c3
        refine x_iload_n C hl 2 dX0_handOnAt_30 rfl ?_
        refine x_iload_n C hl 3 dX0_handOnAt_31 rfl ?_
        refine x_icmp_eq C 65 dX0_handOnAt_32 (by decide) (fun c4 => ?_) (fun c4 => ?_)
        · have hw := And.left hw c4
          refine x_iinc C hl 3 [(3, .int (y3 + (1 : Int32))), (0, .ref a_F), (1, .int x1), (2, .int y2)] (y3 + (1 : Int32)) dX0_handOnAt_65 rfl (congrArg _ ic_1) (Nat.le_of_ble_eq_true rfl) rfl (fun ls hl => ?_)
          refine x_goto C 12 dX0_handOnAt_68 (by decide) ?_
          exact ih y2 (y3 + (1 : Int32)) w_F_free Hx lx ls hw I (lv_sub hl [1, 2, 3, 0] rfl)
        · have hw := And.right hw c4
          refine x_aload_n C hl 0 dX0_handOnAt_35 rfl ?_
          refine x_iload_n C hl 2 dX0_handOnAt_36 rfl ?_
          refine x_iload_n C hl 3 dX0_handOnAt_37 rfl ?_
          refine x_ro (run_V (As := [.int y2, .int y3]) (rest := []) C hl (wk_X0_canTouch l G a_F a_F_meeting a_F_deed a_F_kind a_F_m a_F_at a_F_free a_F_gloved a_F_deeds a_F_handed a_F_crowd F_size F_step F_loss F_at F_gloved y2 y3 _ hw) gm_X0_136 ⟨⟨rfl, rfl⟩, cn_X0_canTouch, ⟨(Nat.le_of_ble_eq_true rfl), (Nat.le_of_ble_eq_true rfl)⟩⟩ (pr_blind _ _ _) (x_recv I.1 0 rfl rfl) (pr_of I.1 [0, 1, 2] rfl) rfl rfl (Nat.le_of_ble_eq_true rfl) ⟨Nat.le_of_ble_eq_true rfl, Nat.le_of_ble_eq_true rfl⟩ dX0_handOnAt_38) (fun r5 hw => ?_)
          refine x_if_eq C 65 dX0_handOnAt_41 (by decide) (fun c6 => ?_) (fun c6 => ?_)
          · have hw := And.left hw c6
            refine x_iinc C hl 3 [(3, .int (y3 + (1 : Int32))), (0, .ref a_F), (1, .int x1), (2, .int y2)] (y3 + (1 : Int32)) dX0_handOnAt_65 rfl (congrArg _ ic_1) (Nat.le_of_ble_eq_true rfl) rfl (fun ls hl => ?_)
            refine x_goto C 12 dX0_handOnAt_68 (by decide) ?_
            exact ih y2 (y3 + (1 : Int32)) w_F_free Hx lx ls hw I (lv_sub hl [1, 2, 3, 0] rfl)
          · have hw := And.right hw c6
            refine x_aload_n C hl 0 dX0_handOnAt_44 rfl ?_
            refine x_get C I.1 fl_X0_21 0 rfl rfl dX0_handOnAt_45 ?_
            refine x_iload_n C hl 2 dX0_handOnAt_48 rfl ?_
            refine x_aload_n C hl 0 dX0_handOnAt_49 rfl ?_
            refine x_get C I.1 fl_X0_21 0 rfl rfl dX0_handOnAt_50 ?_
            refine x_iload_n C hl 2 dX0_handOnAt_53 rfl ?_
            refine x_iald C I.1 3 rfl (And.left hw) dX0_handOnAt_54 ?_
            have hw := And.right hw
            refine x_aload_n C hl 0 dX0_handOnAt_55 rfl ?_
            refine x_get C I.1 fl_X0_30 0 rfl rfl dX0_handOnAt_56 ?_
            refine x_iload_n C hl 3 dX0_handOnAt_59 rfl ?_
            refine x_iald C I.1 4 rfl (And.left hw) dX0_handOnAt_60 ?_
            have hw := And.right hw
            refine x_mmax C hl wd_575 (Nat.le_of_ble_eq_true rfl) (Nat.le_of_ble_eq_true rfl) (Nat.le_of_ble_eq_true rfl) (Nat.le_of_ble_eq_true rfl) wd_189 wd_80 wd_190 dX0_handOnAt_61 ?_
            refine lv_topi (fun v7 ev7 => ?_)
            have hw := hw v7 ev7
            refine x_iast C I 3 (cs_X0_handOnAt G a_F a_F_meeting a_F_deed a_F_kind a_F_m a_F_at a_F_free a_F_gloved a_F_deeds a_F_handed a_F_crowd F_size F_step F_loss F_at F_gloved (upd w_F_free (y2).toNatClampNeg v7) F_handed) rfl (And.left hw) rfl dX0_handOnAt_64 (fun Hx lx I => ?_)
            have hw := And.right hw
            refine x_iinc C hl 3 [(3, .int (y3 + (1 : Int32))), (0, .ref a_F), (1, .int x1), (2, .int y2)] (y3 + (1 : Int32)) dX0_handOnAt_65 rfl (congrArg _ ic_1) (Nat.le_of_ble_eq_true rfl) rfl (fun ls hl => ?_)
            refine x_goto C 12 dX0_handOnAt_68 (by decide) ?_
            exact ih y2 (y3 + (1 : Int32)) (upd w_F_free (y2).toNatClampNeg v7) Hx lx ls hw I (lv_sub hl [1, 2, 3, 0] rfl)
def lb_X0_handOnAt_2 (x1 : Int32) (F_size : Int32) (F_at : Nat → Int32) (F_gloved : Nat → Int32) (F_handed : Nat → Int32) (Q : (Nat → Int32) → Prop) : Nat → Int32 → (Nat → Int32) → Prop
  | 0 => fun _ _ => False
  | k + 1 => fun (y2 : Int32) (w_F_free : Nat → Int32) => ((F_size ≤ y2 → (Q w_F_free)) ∧ (¬ F_size ≤ y2 → (∃ n, lb_X0_handOnAt_12 x1 F_size F_at F_gloved F_handed Q (lb_X0_handOnAt_2 x1 F_size F_at F_gloved F_handed Q k) n y2 (0 : Int32) w_F_free)))
set_option maxHeartbeats 4000000 in
set_option maxRecDepth 100000 in
theorem lk_X0_handOnAt_2 {p : Program} {l : Launch} {e : Env} {s : State} {m : MethodId} {args : Array Value} {below : List Frame} {meth : Method} {c : Code} {A : Nat → Prop} (G : Gt) (a_F : Nat) (a_F_meeting : Nat) (a_F_deed : Nat) (a_F_kind : Nat) (a_F_m : Nat) (a_F_at : Nat) (a_F_free : Nat) (a_F_gloved : Nat) (a_F_deeds : Nat) (a_F_handed : Nat) (a_F_crowd : Nat) (C : Cx p s m args meth c cX0_handOnAt 4 RX0 none) (x1 : Int32) (F_size : Int32) (F_at : Nat → Int32) (F_gloved : Nat → Int32) (F_handed : Nat → Int32) (F_step : Int32) (F_loss : Int32) (Q : (Nat → Int32) → Prop) : ∀ (n : Nat) (y2 : Int32) (w_F_free : Nat → Int32) (Hx : Heap) (lx : List Loc) (ls : Array Slot), lb_X0_handOnAt_2 x1 F_size F_at F_gloved F_handed Q n y2 w_F_free → Iv G A s (cs_X0_handOnAt G a_F a_F_meeting a_F_deed a_F_kind a_F_m a_F_at a_F_free a_F_gloved a_F_deeds a_F_handed a_F_crowd F_size F_step F_loss F_at F_gloved w_F_free F_handed) Hx lx → lv_has ls 4 [(0, .ref a_F), (1, .int x1), (2, .int y2)] → W p l e rm_X0_handOnAt s m args below meth c Hx lx 0 0 (MQ below (qc_X0_handOnAt G a_F a_F_meeting a_F_deed a_F_kind a_F_m a_F_at a_F_free a_F_gloved a_F_deeds a_F_handed a_F_crowd F_size F_step F_loss F_at F_gloved F_handed A Q) args s 0 0 A) (F0 m 2 ls []) := by
  intro n
  induction n with
  | zero => intro y2 w_F_free Hx lx  ls hw I hl; exact False.elim hw
  | succ k ih =>
    intro y2 w_F_free Hx lx  ls hw I hl
    refine x_iload_n C hl 2 dX0_handOnAt_2 rfl ?_
    refine x_aload_n C hl 0 dX0_handOnAt_3 rfl ?_
    refine x_get C I.1 fl_X0_43 0 rfl rfl dX0_handOnAt_4 ?_
    refine x_icmp_ge C 77 dX0_handOnAt_7 (by decide) (fun c1 => ?_) (fun c1 => ?_)
    · have hw := And.left hw c1
      exact x_retv C I w_F_free rfl hw dX0_handOnAt_77
    · have hw := And.right hw c1
      refine x_iconst C dX0_handOnAt_10 ic_0 ?_
      refine x_istore_n C hl [(3, .int (0 : Int32)), (0, .ref a_F), (1, .int x1), (2, .int y2)] dX0_handOnAt_11 (Nat.le_of_ble_eq_true rfl) rfl (fun ls hl => ?_)
      obtain ⟨n, hw⟩ := hw
      exact lk_X0_handOnAt_12 G a_F a_F_meeting a_F_deed a_F_kind a_F_m a_F_at a_F_free a_F_gloved a_F_deeds a_F_handed a_F_crowd C x1 F_size F_at F_gloved F_handed F_step F_loss Q (lb_X0_handOnAt_2 x1 F_size F_at F_gloved F_handed Q k) ih n y2 (0 : Int32) w_F_free Hx lx ls hw I (lv_sub hl [1, 2, 3, 0] rfl)
def wp_X0_handOnAt (x1 : Int32) (F_size : Int32) (F_at : Nat → Int32) (F_gloved : Nat → Int32) (F_free : Nat → Int32) (F_handed : Nat → Int32) (Q : (Nat → Int32) → Prop) : Prop := (∃ n, lb_X0_handOnAt_2 x1 F_size F_at F_gloved F_handed Q n (0 : Int32) F_free)
set_option maxHeartbeats 4000000 in
set_option maxRecDepth 100000 in
theorem wk_X0_handOnAt (l : Launch) (G : Gt) (a_F : Nat) (a_F_meeting : Nat) (a_F_deed : Nat) (a_F_kind : Nat) (a_F_m : Nat) (a_F_at : Nat) (a_F_free : Nat) (a_F_gloved : Nat) (a_F_deeds : Nat) (a_F_handed : Nat) (a_F_crowd : Nat) (sz : Nat) (F_size : Int32) (F_step : Int32) (F_loss : Int32) (F_at : Nat → Int32) (F_gloved : Nat → Int32) (F_free : Nat → Int32) (F_handed : Nat → Int32) (x1 : Int32) (Q : (Nat → Int32) → Prop) (hw : wp_X0_handOnAt x1 F_size F_at F_gloved F_free F_handed Q) : Met l yX0_handOnAt (wc yX0_handOnAt cX0_handOnAt 4 none) rm_X0_handOnAt (va_Pc [.ref a_F, .int x1] (PB G (cs_X0_handOnAt G a_F a_F_meeting a_F_deed a_F_kind a_F_m a_F_at a_F_free a_F_gloved a_F_deeds a_F_handed a_F_crowd F_size F_step F_loss F_at F_gloved F_free F_handed) sz)) (qc_X0_handOnAt G a_F a_F_meeting a_F_deed a_F_kind a_F_m a_F_at a_F_free a_F_gloved a_F_deeds a_F_handed a_F_crowd F_size F_step F_loss F_at F_gloved F_handed (va_A (cs_X0_handOnAt G a_F a_F_meeting a_F_deed a_F_kind a_F_m a_F_at a_F_free a_F_gloved a_F_deeds a_F_handed a_F_crowd F_size F_step F_loss F_at F_gloved F_free F_handed) sz) Q) 0 0 (va_A (cs_X0_handOnAt G a_F a_F_meeting a_F_deed a_F_kind a_F_m a_F_at a_F_free a_F_gloved a_F_deeds a_F_handed a_F_crowd F_size F_step F_loss F_at F_gloved F_free F_handed) sz) := by
  refine x_start pn_X0 (Nat.le_of_ble_eq_true rfl) (fun p e s m below meth c ls C hn hl hB => ?_)
  have I := iv_start hB
  generalize va_A (cs_X0_handOnAt G a_F a_F_meeting a_F_deed a_F_kind a_F_m a_F_at a_F_free a_F_gloved a_F_deeds a_F_handed a_F_crowd F_size F_step F_loss F_at F_gloved F_free F_handed) sz = A at I ⊢
  have C : Cx p s m [.ref a_F, .int x1].toArray meth c cX0_handOnAt 4 RX0 none := C
  have hl : lv_has ls 4 [(0, .ref a_F), (1, .int x1)] := hl
  refine x_iconst C dX0_handOnAt_0 ic_0 ?_
  refine x_istore_n C hl [(2, .int (0 : Int32)), (0, .ref a_F), (1, .int x1)] dX0_handOnAt_1 (Nat.le_of_ble_eq_true rfl) rfl (fun ls hl => ?_)
  obtain ⟨n, hw⟩ := hw
  exact lk_X0_handOnAt_2 G a_F a_F_meeting a_F_deed a_F_kind a_F_m a_F_at a_F_free a_F_gloved a_F_deeds a_F_handed a_F_crowd C x1 F_size F_at F_gloved F_handed F_step F_loss Q n (0 : Int32) F_free s.heap [] ls hw I (lv_sub hl [1, 2, 0] rfl)
/-! X0_runOut -/
abbrev rm_X0_runOut : Room := { frames := 1, cells := 0, slots := 0, locals := 21 }
abbrev cs_X0_runOut (G : Gt) (a_F : Nat) (a_F_meeting : Nat) (a_F_deed : Nat) (a_F_kind : Nat) (a_F_m : Nat) (a_F_at : Nat) (a_F_free : Nat) (a_F_gloved : Nat) (a_F_deeds : Nat) (a_F_handed : Nat) (a_F_crowd : Nat) (F_size : Int32) (F_step : Int32) (F_loss : Int32) (F_free : Nat → Int32) (F_kind : Nat → Int32) (F_m : Nat → Int32) : va_W := [(a_F, .inr (0, [.ref a_F_meeting, .ref a_F_deed, .ref a_F_kind, .ref a_F_m, .ref a_F_at, .ref a_F_free, .ref a_F_gloved, .ref a_F_deeds, .ref a_F_handed, .ref a_F_crowd, .int F_size, .int F_step, .int F_loss])), (a_F_free, .inl (cI G, 8, .inl F_free)), (a_F_kind, .inl (cI G, 8, .inl F_kind)), (a_F_m, .inl (cI G, 8, .inl F_m))]
abbrev qc_X0_runOut (G : Gt) (a_F : Nat) (a_F_meeting : Nat) (a_F_deed : Nat) (a_F_kind : Nat) (a_F_m : Nat) (a_F_at : Nat) (a_F_free : Nat) (a_F_gloved : Nat) (a_F_deeds : Nat) (a_F_handed : Nat) (a_F_crowd : Nat) (F_size : Int32) (F_step : Int32) (F_loss : Int32) (F_kind : Nat → Int32) (F_m : Nat → Int32) (A : Nat → Prop) (Q : (Nat → Int32) → Prop) : Array Value → State → Outcome → State → Prop := Qv1 G A (fun (u : (Nat → Int32)) => Q u) (fun u => cs_X0_runOut G a_F a_F_meeting a_F_deed a_F_kind a_F_m a_F_at a_F_free a_F_gloved a_F_deeds a_F_handed a_F_crowd F_size F_step F_loss u F_kind F_m)
def lb_X0_runOut_2 (F_size : Int32) (F_kind : Nat → Int32) (F_m : Nat → Int32) (Q : (Nat → Int32) → Prop) : Nat → Int32 → (Nat → Int32) → Prop
  | 0 => fun _ _ => False
  | k + 1 => fun (y1 : Int32) (w_F_free : Nat → Int32) => ((F_size ≤ y1 → (Q w_F_free)) ∧ (¬ F_size ≤ y1 → (vp_in y1 8 ∧ (wp_X0_runsOf y1 F_kind F_m (fun r2 => (∀ v3 : Int32, v3 = (jmax (0 : Int32) ((w_F_free (y1).toNatClampNeg) - r2)) → (vp_in y1 8 ∧ (lb_X0_runOut_2 F_size F_kind F_m Q k (y1 + (1 : Int32)) (upd w_F_free (y1).toNatClampNeg v3)))))))))
set_option maxHeartbeats 4000000 in
set_option maxRecDepth 100000 in
theorem lk_X0_runOut_2 {p : Program} {l : Launch} {e : Env} {s : State} {m : MethodId} {args : Array Value} {below : List Frame} {meth : Method} {c : Code} {A : Nat → Prop} (G : Gt) (a_F : Nat) (a_F_meeting : Nat) (a_F_deed : Nat) (a_F_kind : Nat) (a_F_m : Nat) (a_F_at : Nat) (a_F_free : Nat) (a_F_gloved : Nat) (a_F_deeds : Nat) (a_F_handed : Nat) (a_F_crowd : Nat) (C : Cx p s m args meth c cX0_runOut 2 RX0 none) (F_size : Int32) (F_kind : Nat → Int32) (F_m : Nat → Int32) (F_step : Int32) (F_loss : Int32) (Q : (Nat → Int32) → Prop) : ∀ (n : Nat) (y1 : Int32) (w_F_free : Nat → Int32) (Hx : Heap) (lx : List Loc) (ls : Array Slot), lb_X0_runOut_2 F_size F_kind F_m Q n y1 w_F_free → Iv G A s (cs_X0_runOut G a_F a_F_meeting a_F_deed a_F_kind a_F_m a_F_at a_F_free a_F_gloved a_F_deeds a_F_handed a_F_crowd F_size F_step F_loss w_F_free F_kind F_m) Hx lx → lv_has ls 2 [(0, .ref a_F), (1, .int y1)] → W p l e rm_X0_runOut s m args below meth c Hx lx 0 0 (MQ below (qc_X0_runOut G a_F a_F_meeting a_F_deed a_F_kind a_F_m a_F_at a_F_free a_F_gloved a_F_deeds a_F_handed a_F_crowd F_size F_step F_loss F_kind F_m A Q) args s 0 0 A) (F0 m 2 ls []) := by
  intro n
  induction n with
  | zero => intro y1 w_F_free Hx lx  ls hw I hl; exact False.elim hw
  | succ k ih =>
    intro y1 w_F_free Hx lx  ls hw I hl
    refine x_iload_n C hl 1 dX0_runOut_2 rfl ?_
    refine x_aload_n C hl 0 dX0_runOut_3 rfl ?_
    refine x_get C I.1 fl_X0_43 0 rfl rfl dX0_runOut_4 ?_
    refine x_icmp_ge C 38 dX0_runOut_7 (by decide) (fun c1 => ?_) (fun c1 => ?_)
    · have hw := And.left hw c1
      exact x_retv C I w_F_free rfl hw dX0_runOut_38
    · have hw := And.right hw c1
      refine x_aload_n C hl 0 dX0_runOut_10 rfl ?_
      refine x_get C I.1 fl_X0_21 0 rfl rfl dX0_runOut_11 ?_
      refine x_iload_n C hl 1 dX0_runOut_14 rfl ?_
      refine x_iconst C dX0_runOut_15 ic_0 ?_
      refine x_aload_n C hl 0 dX0_runOut_16 rfl ?_
      refine x_get C I.1 fl_X0_21 0 rfl rfl dX0_runOut_17 ?_
      refine x_iload_n C hl 1 dX0_runOut_20 rfl ?_
      refine x_iald C I.1 1 rfl (And.left hw) dX0_runOut_21 ?_
      have hw := And.right hw
      refine x_aload_n C hl 0 dX0_runOut_22 rfl ?_
      refine x_iload_n C hl 1 dX0_runOut_23 rfl ?_
      refine x_ro (run_V (As := [.int y1]) (rest := [.int (w_F_free (y1).toNatClampNeg), .int (0 : Int32), .int y1, .ref a_F_free]) C hl (wk_X0_runsOf l G a_F a_F_meeting a_F_deed a_F_kind a_F_m a_F_at a_F_free a_F_gloved a_F_deeds a_F_handed a_F_crowd F_size F_step F_loss F_kind F_m y1 _ hw) gm_X0_142 ⟨⟨rfl, rfl⟩, cn_X0_runsOf, ⟨(Nat.le_of_ble_eq_true rfl), (Nat.le_of_ble_eq_true rfl)⟩⟩ (pr_blind _ _ _) (x_recv I.1 0 rfl rfl) (pr_of I.1 [0, 2, 3] rfl) rfl rfl (Nat.le_of_ble_eq_true rfl) ⟨Nat.le_of_ble_eq_true rfl, Nat.le_of_ble_eq_true rfl⟩ dX0_runOut_24) (fun r2 hw => ?_)
      refine x_isub C dX0_runOut_27 ?_
      refine x_mmax C hl wd_575 (Nat.le_of_ble_eq_true rfl) (Nat.le_of_ble_eq_true rfl) (Nat.le_of_ble_eq_true rfl) (Nat.le_of_ble_eq_true rfl) wd_189 wd_80 wd_190 dX0_runOut_28 ?_
      refine lv_topi (fun v3 ev3 => ?_)
      have hw := hw v3 ev3
      refine x_iast C I 1 (cs_X0_runOut G a_F a_F_meeting a_F_deed a_F_kind a_F_m a_F_at a_F_free a_F_gloved a_F_deeds a_F_handed a_F_crowd F_size F_step F_loss (upd w_F_free (y1).toNatClampNeg v3) F_kind F_m) rfl (And.left hw) rfl dX0_runOut_31 (fun Hx lx I => ?_)
      have hw := And.right hw
      refine x_iinc C hl 1 [(1, .int (y1 + (1 : Int32))), (0, .ref a_F)] (y1 + (1 : Int32)) dX0_runOut_32 rfl (congrArg _ ic_1) (Nat.le_of_ble_eq_true rfl) rfl (fun ls hl => ?_)
      refine x_goto C 2 dX0_runOut_35 (by decide) ?_
      exact ih (y1 + (1 : Int32)) (upd w_F_free (y1).toNatClampNeg v3) Hx lx ls hw I (lv_sub hl [1, 0] rfl)
def wp_X0_runOut (F_size : Int32) (F_free : Nat → Int32) (F_kind : Nat → Int32) (F_m : Nat → Int32) (Q : (Nat → Int32) → Prop) : Prop := (∃ n, lb_X0_runOut_2 F_size F_kind F_m Q n (0 : Int32) F_free)
set_option maxHeartbeats 4000000 in
set_option maxRecDepth 100000 in
theorem wk_X0_runOut (l : Launch) (G : Gt) (a_F : Nat) (a_F_meeting : Nat) (a_F_deed : Nat) (a_F_kind : Nat) (a_F_m : Nat) (a_F_at : Nat) (a_F_free : Nat) (a_F_gloved : Nat) (a_F_deeds : Nat) (a_F_handed : Nat) (a_F_crowd : Nat) (sz : Nat) (F_size : Int32) (F_step : Int32) (F_loss : Int32) (F_free : Nat → Int32) (F_kind : Nat → Int32) (F_m : Nat → Int32) (Q : (Nat → Int32) → Prop) (hw : wp_X0_runOut F_size F_free F_kind F_m Q) : Met l yX0_runOut (wc yX0_runOut cX0_runOut 2 none) rm_X0_runOut (va_Pc [.ref a_F] (PB G (cs_X0_runOut G a_F a_F_meeting a_F_deed a_F_kind a_F_m a_F_at a_F_free a_F_gloved a_F_deeds a_F_handed a_F_crowd F_size F_step F_loss F_free F_kind F_m) sz)) (qc_X0_runOut G a_F a_F_meeting a_F_deed a_F_kind a_F_m a_F_at a_F_free a_F_gloved a_F_deeds a_F_handed a_F_crowd F_size F_step F_loss F_kind F_m (va_A (cs_X0_runOut G a_F a_F_meeting a_F_deed a_F_kind a_F_m a_F_at a_F_free a_F_gloved a_F_deeds a_F_handed a_F_crowd F_size F_step F_loss F_free F_kind F_m) sz) Q) 0 0 (va_A (cs_X0_runOut G a_F a_F_meeting a_F_deed a_F_kind a_F_m a_F_at a_F_free a_F_gloved a_F_deeds a_F_handed a_F_crowd F_size F_step F_loss F_free F_kind F_m) sz) := by
  refine x_start pn_X0 (Nat.le_of_ble_eq_true rfl) (fun p e s m below meth c ls C hn hl hB => ?_)
  have I := iv_start hB
  generalize va_A (cs_X0_runOut G a_F a_F_meeting a_F_deed a_F_kind a_F_m a_F_at a_F_free a_F_gloved a_F_deeds a_F_handed a_F_crowd F_size F_step F_loss F_free F_kind F_m) sz = A at I ⊢
  have C : Cx p s m [.ref a_F].toArray meth c cX0_runOut 2 RX0 none := C
  have hl : lv_has ls 2 [(0, .ref a_F)] := hl
  refine x_iconst C dX0_runOut_0 ic_0 ?_
  refine x_istore_n C hl [(1, .int (0 : Int32)), (0, .ref a_F)] dX0_runOut_1 (Nat.le_of_ble_eq_true rfl) rfl (fun ls hl => ?_)
  obtain ⟨n, hw⟩ := hw
  exact lk_X0_runOut_2 G a_F a_F_meeting a_F_deed a_F_kind a_F_m a_F_at a_F_free a_F_gloved a_F_deeds a_F_handed a_F_crowd C F_size F_kind F_m F_step F_loss Q n (0 : Int32) F_free s.heap [] ls hw I (lv_sub hl [1, 0] rfl)
/-! X1_next -/
abbrev rm_X1_next : Room := { frames := 0, cells := 0, slots := 0, locals := 0 }
abbrev cs_X1_next (G : Gt) (a_D : Nat) (a_D_rule : Nat) (a_D_bytes : Nat) (a_D_bytes_items : Nat) (D_firstName : Int32) (D_place : Int32) (D_bytes_size : Int32) (D_bytes_items : Nat → Int32) : va_W := [(a_D, .inr (1, [.ref a_D_rule, .ref a_D_bytes, .int D_firstName, .int D_place])), (a_D_bytes, .inr (4, [.ref a_D_bytes_items, .int D_bytes_size])), (a_D_bytes_items, .inl (cI G, 50, .inl D_bytes_items))]
def wp_X1_next (D_place : Int32) (D_bytes_size : Int32) (D_bytes_items : Nat → Int32) (Q : Int32 → Prop) : Prop := ((D_bytes_size ≤ D_place → (Q (-1 : Int32))) ∧ (¬ D_bytes_size ≤ D_place → (vp_in D_place 50 ∧ (Q (D_bytes_items (D_place).toNatClampNeg)))))
set_option maxHeartbeats 4000000 in
set_option maxRecDepth 100000 in
theorem wk_X1_next (l : Launch) (G : Gt) (a_D : Nat) (a_D_rule : Nat) (a_D_bytes : Nat) (a_D_bytes_items : Nat) (D_firstName : Int32) (D_place : Int32) (D_bytes_size : Int32) (D_bytes_items : Nat → Int32) (Q : Int32 → Prop) (hw : wp_X1_next D_place D_bytes_size D_bytes_items Q) : Met l yX1_next (wc yX1_next cX1_next 1 (some .int)) rm_X1_next (va_Pc [.ref a_D] (PR G (cs_X1_next G a_D a_D_rule a_D_bytes a_D_bytes_items D_firstName D_place D_bytes_size D_bytes_items))) (vp_Si Q) 0 0 (fun _ => False) := by
  refine x_start pn_X1 (Nat.le_of_ble_eq_true rfl) (fun p e s m below meth c ls C hn hl hB => ?_)
  have I := rd_start hB
  have C : Cx p s m [.ref a_D].toArray meth c cX1_next 1 RX1 (some .int) := C
  have hl : lv_has ls 1 [(0, .ref a_D)] := hl
  refine x_aload_n C hl 0 dX1_next_0 rfl ?_
  refine x_get C I fl_X1_31 0 rfl rfl dX1_next_1 ?_
  refine x_aload_n C hl 0 dX1_next_4 rfl ?_
  refine x_get C I fl_X1_23 0 rfl rfl dX1_next_5 ?_
  refine x_get C I fl_X1_45 1 rfl rfl dX1_next_8 ?_
  refine x_icmp_ge C 29 dX1_next_11 (by decide) (fun c1 => ?_) (fun c1 => ?_)
  · have hw := And.left hw c1
    refine x_iconst C dX1_next_29 ic_m1 ?_
    exact x_ret0 C hw dX1_next_30
  · have hw := And.right hw c1
    refine x_aload_n C hl 0 dX1_next_14 rfl ?_
    refine x_get C I fl_X1_23 0 rfl rfl dX1_next_15 ?_
    refine x_get C I fl_X1_48 1 rfl rfl dX1_next_18 ?_
    refine x_aload_n C hl 0 dX1_next_21 rfl ?_
    refine x_get C I fl_X1_31 0 rfl rfl dX1_next_22 ?_
    refine x_iald C I 2 rfl (And.left hw) dX1_next_25 ?_
    have hw := And.right hw
    refine x_goto C 30 dX1_next_26 (by decide) ?_
    exact x_ret0 C hw dX1_next_30
/-! X1_isDigit -/
abbrev rm_X1_isDigit : Room := { frames := 0, cells := 0, slots := 0, locals := 0 }
abbrev cs_X1_isDigit (G : Gt) : va_W := []
def wp_X1_isDigit (x0 : Int32) (Q : Int32 → Prop) : Prop := ((x0 < (48 : Int32) → (Q (0 : Int32))) ∧ (¬ x0 < (48 : Int32) → (((57 : Int32) < x0 → (Q (0 : Int32))) ∧ (¬ (57 : Int32) < x0 → (Q (1 : Int32))))))
set_option maxHeartbeats 4000000 in
set_option maxRecDepth 100000 in
theorem wk_X1_isDigit (l : Launch) (G : Gt) (x0 : Int32) (Q : Int32 → Prop) (hw : wp_X1_isDigit x0 Q) : Met l yX1_isDigit (wc yX1_isDigit cX1_isDigit 1 (some .boolean)) rm_X1_isDigit (va_Pc [.int x0] (PR G (cs_X1_isDigit G ))) (vp_Si Q) 0 0 (fun _ => False) := by
  refine x_start pn_X1 (Nat.le_of_ble_eq_true rfl) (fun p e s m below meth c ls C hn hl hB => ?_)
  have I := rd_start hB
  have C : Cx p s m [.int x0].toArray meth c cX1_isDigit 1 RX1 (some .boolean) := C
  have hl : lv_has ls 1 [(0, .int x0)] := hl
  refine x_iload_n C hl 0 dX1_isDigit_0 rfl ?_
  refine x_bipush C dX1_isDigit_1 bp_48 ?_
  refine x_icmp_lt C 16 dX1_isDigit_3 (by decide) (fun c1 => ?_) (fun c1 => ?_)
  · have hw := And.left hw c1
    refine x_iconst C dX1_isDigit_16 ic_0 ?_
    exact x_ret0z C bz_0 hw dX1_isDigit_17
  · have hw := And.right hw c1
    refine x_iload_n C hl 0 dX1_isDigit_6 rfl ?_
    refine x_bipush C dX1_isDigit_7 bp_57 ?_
    refine x_icmp_gt C 16 dX1_isDigit_9 (by decide) (fun c2 => ?_) (fun c2 => ?_)
    · have hw := And.left hw c2
      refine x_iconst C dX1_isDigit_16 ic_0 ?_
      exact x_ret0z C bz_0 hw dX1_isDigit_17
    · have hw := And.right hw c2
      refine x_iconst C dX1_isDigit_12 ic_1 ?_
      refine x_goto C 17 dX1_isDigit_13 (by decide) ?_
      exact x_ret0z C bz_1 hw dX1_isDigit_17
/-! X2_isMissing -/
abbrev rm_X2_isMissing : Room := { frames := 0, cells := 0, slots := 0, locals := 0 }
abbrev cs_X2_isMissing (G : Gt) (a_W : Nat) (a_W_numbers : Nat) (W_bits : Int32) (W_size : Int32) : va_W := [(a_W, .inr (2, [.ref a_W_numbers, .int W_bits, .int W_size]))]
def wp_X2_isMissing (W_bits : Int32) (Q : Int32 → Prop) : Prop := ((¬ W_bits = (0) → (Q (0 : Int32))) ∧ (W_bits = (0) → (Q (1 : Int32))))
set_option maxHeartbeats 4000000 in
set_option maxRecDepth 100000 in
theorem wk_X2_isMissing (l : Launch) (G : Gt) (a_W : Nat) (a_W_numbers : Nat) (W_bits : Int32) (W_size : Int32) (Q : Int32 → Prop) (hw : wp_X2_isMissing W_bits Q) : Met l yX2_isMissing (wc yX2_isMissing cX2_isMissing 1 (some .boolean)) rm_X2_isMissing (va_Pc [.ref a_W] (PR G (cs_X2_isMissing G a_W a_W_numbers W_bits W_size))) (vp_Si Q) 0 0 (fun _ => False) := by
  refine x_start pn_X2 (Nat.le_of_ble_eq_true rfl) (fun p e s m below meth c ls C hn hl hB => ?_)
  have I := rd_start hB
  have C : Cx p s m [.ref a_W].toArray meth c cX2_isMissing 1 RX2 (some .boolean) := C
  have hl : lv_has ls 1 [(0, .ref a_W)] := hl
  refine x_aload_n C hl 0 dX2_isMissing_0 rfl ?_
  refine x_get C I fl_X2_15 0 rfl rfl dX2_isMissing_1 ?_
  refine x_if_ne C 11 dX2_isMissing_4 (by decide) (fun c1 => ?_) (fun c1 => ?_)
  · have hw := And.left hw c1
    refine x_iconst C dX2_isMissing_11 ic_0 ?_
    exact x_ret0z C bz_0 hw dX2_isMissing_12
  · have hw := And.right hw c1
    refine x_iconst C dX2_isMissing_7 ic_1 ?_
    refine x_goto C 12 dX2_isMissing_8 (by decide) ?_
    exact x_ret0z C bz_1 hw dX2_isMissing_12
/-! X2_lowestBits -/
abbrev rm_X2_lowestBits : Room := { frames := 0, cells := 0, slots := 0, locals := 0 }
abbrev cs_X2_lowestBits (G : Gt) (a_W : Nat) (a_W_numbers : Nat) (W_bits : Int32) (W_size : Int32) : va_W := [(a_W, .inr (2, [.ref a_W_numbers, .int W_bits, .int W_size]))]
def wp_X2_lowestBits (x1 : Int32) (W_bits : Int32) (Q : Int32 → Prop) : Prop := ((¬ W_bits = (8 : Int32) → ((¬ W_bits = (16 : Int32) → (Q x1)) ∧ (W_bits = (16 : Int32) → (Q (x1 &&& (65535 : Int32)))))) ∧ (W_bits = (8 : Int32) → (Q (x1 &&& (255 : Int32)))))
set_option maxHeartbeats 4000000 in
set_option maxRecDepth 100000 in
theorem wk_X2_lowestBits (l : Launch) (G : Gt) (a_W : Nat) (a_W_numbers : Nat) (W_bits : Int32) (W_size : Int32) (x1 : Int32) (Q : Int32 → Prop) (hw : wp_X2_lowestBits x1 W_bits Q) : Met l yX2_lowestBits (wc yX2_lowestBits cX2_lowestBits 2 (some .int)) rm_X2_lowestBits (va_Pc [.ref a_W, .int x1] (PR G (cs_X2_lowestBits G a_W a_W_numbers W_bits W_size))) (vp_Si Q) 0 0 (fun _ => False) := by
  refine x_start pn_X2 (Nat.le_of_ble_eq_true rfl) (fun p e s m below meth c ls C hn hl hB => ?_)
  have I := rd_start hB
  have C : Cx p s m [.ref a_W, .int x1].toArray meth c cX2_lowestBits 2 RX2 (some .int) := C
  have hl : lv_has ls 2 [(0, .ref a_W), (1, .int x1)] := hl
  refine x_aload_n C hl 0 dX2_lowestBits_0 rfl ?_
  refine x_get C I fl_X2_15 0 rfl rfl dX2_lowestBits_1 ?_
  refine x_bipush C dX2_lowestBits_4 bp_8 ?_
  refine x_icmp_ne C 17 dX2_lowestBits_6 (by decide) (fun c1 => ?_) (fun c1 => ?_)
  · have hw := And.left hw c1
    refine x_aload_n C hl 0 dX2_lowestBits_17 rfl ?_
    refine x_get C I fl_X2_15 0 rfl rfl dX2_lowestBits_18 ?_
    refine x_bipush C dX2_lowestBits_21 bp_16 ?_
    refine x_icmp_ne C 33 dX2_lowestBits_23 (by decide) (fun c2 => ?_) (fun c2 => ?_)
    · have hw := And.left hw c2
      refine x_iload_n C hl 1 dX2_lowestBits_33 rfl ?_
      exact x_ret0 C hw dX2_lowestBits_34
    · have hw := And.right hw c2
      refine x_iload_n C hl 1 dX2_lowestBits_26 rfl ?_
      refine x_ldc C wd_774 dX2_lowestBits_27 ?_
      refine x_iand C dX2_lowestBits_29 ?_
      refine x_goto C 34 dX2_lowestBits_30 (by decide) ?_
      exact x_ret0 C hw dX2_lowestBits_34
  · have hw := And.right hw c1
    refine x_iload_n C hl 1 dX2_lowestBits_9 rfl ?_
    refine x_sipush C dX2_lowestBits_10 sp_255 ?_
    refine x_iand C dX2_lowestBits_13 ?_
    refine x_goto C 34 dX2_lowestBits_14 (by decide) ?_
    exact x_ret0 C hw dX2_lowestBits_34
/-! X2_holds -/
abbrev rm_X2_holds : Room := { frames := 0, cells := 0, slots := 0, locals := 0 }
abbrev cs_X2_holds (G : Gt) (a_W : Nat) (a_W_numbers : Nat) (W_bits : Int32) (W_size : Int32) : va_W := [(a_W, .inr (2, [.ref a_W_numbers, .int W_bits, .int W_size]))]
def wp_X2_holds (x1 : Int32) (x2 : Int32) (W_size : Int32) (Q : Int32 → Prop) : Prop := ((x2 < (0) → (Q (0 : Int32))) ∧ (¬ x2 < (0) → ((x1 < (0) → (Q (0 : Int32))) ∧ (¬ x1 < (0) → ((W_size < x2 → (Q (0 : Int32))) ∧ (¬ W_size < x2 → (((W_size - x2) < x1 → (Q (0 : Int32))) ∧ (¬ (W_size - x2) < x1 → (Q (1 : Int32))))))))))
set_option maxHeartbeats 4000000 in
set_option maxRecDepth 100000 in
theorem wk_X2_holds (l : Launch) (G : Gt) (a_W : Nat) (a_W_numbers : Nat) (W_bits : Int32) (W_size : Int32) (x1 : Int32) (x2 : Int32) (Q : Int32 → Prop) (hw : wp_X2_holds x1 x2 W_size Q) : Met l yX2_holds (wc yX2_holds cX2_holds 3 (some .boolean)) rm_X2_holds (va_Pc [.ref a_W, .int x1, .int x2] (PR G (cs_X2_holds G a_W a_W_numbers W_bits W_size))) (vp_Si Q) 0 0 (fun _ => False) := by
  refine x_start pn_X2 (Nat.le_of_ble_eq_true rfl) (fun p e s m below meth c ls C hn hl hB => ?_)
  have I := rd_start hB
  have C : Cx p s m [.ref a_W, .int x1, .int x2].toArray meth c cX2_holds 3 RX2 (some .boolean) := C
  have hl : lv_has ls 3 [(0, .ref a_W), (1, .int x1), (2, .int x2)] := hl
  refine x_iload_n C hl 2 dX2_holds_0 rfl ?_
  refine x_if_lt C 30 dX2_holds_1 (by decide) (fun c1 => ?_) (fun c1 => ?_)
  · have hw := And.left hw c1
    refine x_iconst C dX2_holds_30 ic_0 ?_
    exact x_ret0z C bz_0 hw dX2_holds_31
  · have hw := And.right hw c1
    refine x_iload_n C hl 1 dX2_holds_4 rfl ?_
    refine x_if_lt C 30 dX2_holds_5 (by decide) (fun c2 => ?_) (fun c2 => ?_)
    · have hw := And.left hw c2
      refine x_iconst C dX2_holds_30 ic_0 ?_
      exact x_ret0z C bz_0 hw dX2_holds_31
    · have hw := And.right hw c2
      refine x_iload_n C hl 2 dX2_holds_8 rfl ?_
      refine x_aload_n C hl 0 dX2_holds_9 rfl ?_
      refine x_get C I fl_X2_19 0 rfl rfl dX2_holds_10 ?_
      refine x_icmp_gt C 30 dX2_holds_13 (by decide) (fun c3 => ?_) (fun c3 => ?_)
      · have hw := And.left hw c3
        refine x_iconst C dX2_holds_30 ic_0 ?_
        exact x_ret0z C bz_0 hw dX2_holds_31
      · have hw := And.right hw c3
        refine x_iload_n C hl 1 dX2_holds_16 rfl ?_
        refine x_aload_n C hl 0 dX2_holds_17 rfl ?_
        refine x_get C I fl_X2_19 0 rfl rfl dX2_holds_18 ?_
        refine x_iload_n C hl 2 dX2_holds_21 rfl ?_
        refine x_isub C dX2_holds_22 ?_
        refine x_icmp_gt C 30 dX2_holds_23 (by decide) (fun c4 => ?_) (fun c4 => ?_)
        · have hw := And.left hw c4
          refine x_iconst C dX2_holds_30 ic_0 ?_
          exact x_ret0z C bz_0 hw dX2_holds_31
        · have hw := And.right hw c4
          refine x_iconst C dX2_holds_26 ic_1 ?_
          refine x_goto C 31 dX2_holds_27 (by decide) ?_
          exact x_ret0z C bz_1 hw dX2_holds_31
/-! X3_isEmpty -/
abbrev rm_X3_isEmpty : Room := { frames := 0, cells := 0, slots := 0, locals := 0 }
abbrev cs_X3_isEmpty (G : Gt) (a_U : Nat) (a_U_signs : Nat) (a_U_numbers : Nat) (a_U_pile : Nat) (U_size : Int32) : va_W := [(a_U, .inr (3, [.ref a_U_signs, .ref a_U_numbers, .ref a_U_pile, .int U_size]))]
def wp_X3_isEmpty (U_size : Int32) (Q : Int32 → Prop) : Prop := ((¬ U_size = (0) → (Q (0 : Int32))) ∧ (U_size = (0) → (Q (1 : Int32))))
set_option maxHeartbeats 4000000 in
set_option maxRecDepth 100000 in
theorem wk_X3_isEmpty (l : Launch) (G : Gt) (a_U : Nat) (a_U_signs : Nat) (a_U_numbers : Nat) (a_U_pile : Nat) (U_size : Int32) (Q : Int32 → Prop) (hw : wp_X3_isEmpty U_size Q) : Met l yX3_isEmpty (wc yX3_isEmpty cX3_isEmpty 1 (some .boolean)) rm_X3_isEmpty (va_Pc [.ref a_U] (PR G (cs_X3_isEmpty G a_U a_U_signs a_U_numbers a_U_pile U_size))) (vp_Si Q) 0 0 (fun _ => False) := by
  refine x_start pn_X3 (Nat.le_of_ble_eq_true rfl) (fun p e s m below meth c ls C hn hl hB => ?_)
  have I := rd_start hB
  have C : Cx p s m [.ref a_U].toArray meth c cX3_isEmpty 1 RX3 (some .boolean) := C
  have hl : lv_has ls 1 [(0, .ref a_U)] := hl
  refine x_aload_n C hl 0 dX3_isEmpty_0 rfl ?_
  refine x_get C I fl_X3_21 0 rfl rfl dX3_isEmpty_1 ?_
  refine x_if_ne C 11 dX3_isEmpty_4 (by decide) (fun c1 => ?_) (fun c1 => ?_)
  · have hw := And.left hw c1
    refine x_iconst C dX3_isEmpty_11 ic_0 ?_
    exact x_ret0z C bz_0 hw dX3_isEmpty_12
  · have hw := And.right hw c1
    refine x_iconst C dX3_isEmpty_7 ic_1 ?_
    refine x_goto C 12 dX3_isEmpty_8 (by decide) ?_
    exact x_ret0z C bz_1 hw dX3_isEmpty_12
/-! X3_clear -/
abbrev rm_X3_clear : Room := { frames := 0, cells := 0, slots := 0, locals := 0 }
abbrev cs_X3_clear (G : Gt) (a_U : Nat) (a_U_signs : Nat) (a_U_numbers : Nat) (a_U_pile : Nat) (U_size : Int32) : va_W := [(a_U, .inr (3, [.ref a_U_signs, .ref a_U_numbers, .ref a_U_pile, .int U_size]))]
abbrev qc_X3_clear (G : Gt) (a_U : Nat) (a_U_signs : Nat) (a_U_numbers : Nat) (a_U_pile : Nat) (A : Nat → Prop) (Q : Int32 → Prop) : Array Value → State → Outcome → State → Prop := Qv1 G A (fun (u : Int32) => Q u) (fun u => cs_X3_clear G a_U a_U_signs a_U_numbers a_U_pile u)
def wp_X3_clear (U_size : Int32) (Q : Int32 → Prop) : Prop := (Q (0 : Int32))
set_option maxHeartbeats 4000000 in
set_option maxRecDepth 100000 in
theorem wk_X3_clear (l : Launch) (G : Gt) (a_U : Nat) (a_U_signs : Nat) (a_U_numbers : Nat) (a_U_pile : Nat) (sz : Nat) (U_size : Int32) (Q : Int32 → Prop) (hw : wp_X3_clear U_size Q) : Met l yX3_clear (wc yX3_clear cX3_clear 1 none) rm_X3_clear (va_Pc [.ref a_U] (PB G (cs_X3_clear G a_U a_U_signs a_U_numbers a_U_pile U_size) sz)) (qc_X3_clear G a_U a_U_signs a_U_numbers a_U_pile (va_A (cs_X3_clear G a_U a_U_signs a_U_numbers a_U_pile U_size) sz) Q) 0 0 (va_A (cs_X3_clear G a_U a_U_signs a_U_numbers a_U_pile U_size) sz) := by
  refine x_start pn_X3 (Nat.le_of_ble_eq_true rfl) (fun p e s m below meth c ls C hn hl hB => ?_)
  have I := iv_start hB
  generalize va_A (cs_X3_clear G a_U a_U_signs a_U_numbers a_U_pile U_size) sz = A at I ⊢
  have C : Cx p s m [.ref a_U].toArray meth c cX3_clear 1 RX3 none := C
  have hl : lv_has ls 1 [(0, .ref a_U)] := hl
  refine x_aload_n C hl 0 dX3_clear_0 rfl ?_
  refine x_iconst C dX3_clear_1 ic_0 ?_
  refine x_put C I fl_X3_21 tyX3 tyX3_ok nmX3 rfl 0 (cs_X3_clear G a_U a_U_signs a_U_numbers a_U_pile (0 : Int32)) rfl rfl rfl (Nat.le_of_ble_eq_true rfl) rfl dX3_clear_2 (fun Hx lx I => ?_)
  exact x_retv C I (0 : Int32) rfl hw dX3_clear_5
/-! X3_add -/
abbrev rm_X3_add : Room := { frames := 0, cells := 0, slots := 0, locals := 0 }
abbrev cs_X3_add (G : Gt) (a_U : Nat) (a_U_signs : Nat) (a_U_numbers : Nat) (a_U_pile : Nat) (U_size : Int32) (U_signs : Nat → Int32) (U_numbers : Nat → Int32) : va_W := [(a_U, .inr (3, [.ref a_U_signs, .ref a_U_numbers, .ref a_U_pile, .int U_size])), (a_U_signs, .inl (cI G, 50, .inl U_signs)), (a_U_numbers, .inl (cI G, 50, .inl U_numbers))]
abbrev qc_X3_add (G : Gt) (a_U : Nat) (a_U_signs : Nat) (a_U_numbers : Nat) (a_U_pile : Nat) (A : Nat → Prop) (Q : Int32 → (Nat → Int32) → (Nat → Int32) → Prop) : Array Value → State → Outcome → State → Prop := Qv1 G A (fun (u : Int32 × (Nat → Int32) × (Nat → Int32)) => Q u.1 u.2.1 u.2.2) (fun u => cs_X3_add G a_U a_U_signs a_U_numbers a_U_pile u.1 u.2.1 u.2.2)
def wp_X3_add (x1 : Int32) (x2 : Int32) (U_size : Int32) (U_signs : Nat → Int32) (U_numbers : Nat → Int32) (Q : Int32 → (Nat → Int32) → (Nat → Int32) → Prop) : Prop := (((50 : Int32) ≤ U_size → (Q U_size U_signs U_numbers)) ∧ (¬ (50 : Int32) ≤ U_size → (vp_in U_size 50 ∧ (vp_in U_size 50 ∧ (∀ v2 : Int32, v2 = (U_size + (1 : Int32)) → (Q v2 (upd U_signs (U_size).toNatClampNeg x1) (upd U_numbers (U_size).toNatClampNeg x2)))))))
set_option maxHeartbeats 4000000 in
set_option maxRecDepth 100000 in
theorem wk_X3_add (l : Launch) (G : Gt) (a_U : Nat) (a_U_signs : Nat) (a_U_numbers : Nat) (a_U_pile : Nat) (sz : Nat) (U_size : Int32) (U_signs : Nat → Int32) (U_numbers : Nat → Int32) (x1 : Int32) (x2 : Int32) (Q : Int32 → (Nat → Int32) → (Nat → Int32) → Prop) (hw : wp_X3_add x1 x2 U_size U_signs U_numbers Q) : Met l yX3_add (wc yX3_add cX3_add 3 none) rm_X3_add (va_Pc [.ref a_U, .int x1, .int x2] (PB G (cs_X3_add G a_U a_U_signs a_U_numbers a_U_pile U_size U_signs U_numbers) sz)) (qc_X3_add G a_U a_U_signs a_U_numbers a_U_pile (va_A (cs_X3_add G a_U a_U_signs a_U_numbers a_U_pile U_size U_signs U_numbers) sz) Q) 0 0 (va_A (cs_X3_add G a_U a_U_signs a_U_numbers a_U_pile U_size U_signs U_numbers) sz) := by
  refine x_start pn_X3 (Nat.le_of_ble_eq_true rfl) (fun p e s m below meth c ls C hn hl hB => ?_)
  have I := iv_start hB
  generalize va_A (cs_X3_add G a_U a_U_signs a_U_numbers a_U_pile U_size U_signs U_numbers) sz = A at I ⊢
  have C : Cx p s m [.ref a_U, .int x1, .int x2].toArray meth c cX3_add 3 RX3 none := C
  have hl : lv_has ls 3 [(0, .ref a_U), (1, .int x1), (2, .int x2)] := hl
  refine x_aload_n C hl 0 dX3_add_0 rfl ?_
  refine x_get C I.1 fl_X3_21 0 rfl rfl dX3_add_1 ?_
  refine x_bipush C dX3_add_4 bp_50 ?_
  refine x_icmp_ge C 39 dX3_add_6 (by decide) (fun c1 => ?_) (fun c1 => ?_)
  · have hw := And.left hw c1
    exact x_retv C I (U_size, U_signs, U_numbers) rfl hw dX3_add_39
  · have hw := And.right hw c1
    refine x_aload_n C hl 0 dX3_add_9 rfl ?_
    refine x_get C I.1 fl_X3_9 0 rfl rfl dX3_add_10 ?_
    refine x_aload_n C hl 0 dX3_add_13 rfl ?_
    refine x_get C I.1 fl_X3_21 0 rfl rfl dX3_add_14 ?_
    refine x_iload_n C hl 1 dX3_add_17 rfl ?_
    refine x_iast C I 1 (cs_X3_add G a_U a_U_signs a_U_numbers a_U_pile U_size (upd U_signs (U_size).toNatClampNeg x1) U_numbers) rfl (And.left hw) rfl dX3_add_18 (fun Hx lx I => ?_)
    have hw := And.right hw
    refine x_aload_n C hl 0 dX3_add_19 rfl ?_
    refine x_get C I.1 fl_X3_15 0 rfl rfl dX3_add_20 ?_
    refine x_aload_n C hl 0 dX3_add_23 rfl ?_
    refine x_get C I.1 fl_X3_21 0 rfl rfl dX3_add_24 ?_
    refine x_iload_n C hl 2 dX3_add_27 rfl ?_
    refine x_iast C I 2 (cs_X3_add G a_U a_U_signs a_U_numbers a_U_pile U_size (upd U_signs (U_size).toNatClampNeg x1) (upd U_numbers (U_size).toNatClampNeg x2)) rfl (And.left hw) rfl dX3_add_28 (fun Hx lx I => ?_)
    have hw := And.right hw
    refine x_aload_n C hl 0 dX3_add_29 rfl ?_
    refine x_dup C dX3_add_30 rfl ?_
    refine x_get C I.1 fl_X3_21 0 rfl rfl dX3_add_31 ?_
    refine x_iconst C dX3_add_34 ic_1 ?_
    refine x_iadd C dX3_add_35 ?_
    refine lv_topi (fun v2 ev2 => ?_)
    have hw := hw v2 ev2
    refine x_put C I fl_X3_21 tyX3 tyX3_ok nmX3 rfl 0 (cs_X3_add G a_U a_U_signs a_U_numbers a_U_pile v2 (upd U_signs (U_size).toNatClampNeg x1) (upd U_numbers (U_size).toNatClampNeg x2)) rfl rfl rfl (Nat.le_of_ble_eq_true rfl) rfl dX3_add_36 (fun Hx lx I => ?_)
    exact x_retv C I (v2, (upd U_signs (U_size).toNatClampNeg x1), (upd U_numbers (U_size).toNatClampNeg x2)) rfl hw dX3_add_39
/-! X3_copy -/
abbrev rm_X3_copy : Room := { frames := 1, cells := 0, slots := 0, locals := 40 }
abbrev cs_X3_copy (G : Gt) (a_O : Nat) (a_O_signs : Nat) (a_O_numbers : Nat) (a_O_pile : Nat) (a_U : Nat) (a_U_signs : Nat) (a_U_numbers : Nat) (a_U_pile : Nat) (O_size : Int32) (U_size : Int32) (O_signs : Nat → Int32) (U_signs : Nat → Int32) (O_numbers : Nat → Int32) (U_numbers : Nat → Int32) : va_W := [(a_O, .inr (3, [.ref a_O_signs, .ref a_O_numbers, .ref a_O_pile, .int O_size])), (a_U, .inr (3, [.ref a_U_signs, .ref a_U_numbers, .ref a_U_pile, .int U_size])), (a_O_signs, .inl (cI G, 50, .inl O_signs)), (a_U_signs, .inl (cI G, 50, .inl U_signs)), (a_O_numbers, .inl (cI G, 50, .inl O_numbers)), (a_U_numbers, .inl (cI G, 50, .inl U_numbers))]
abbrev qc_X3_copy (G : Gt) (a_O : Nat) (a_O_signs : Nat) (a_O_numbers : Nat) (a_O_pile : Nat) (a_U : Nat) (a_U_signs : Nat) (a_U_numbers : Nat) (a_U_pile : Nat) (O_size : Int32) (O_signs : Nat → Int32) (O_numbers : Nat → Int32) (A : Nat → Prop) (Q : Int32 → (Nat → Int32) → (Nat → Int32) → Prop) : Array Value → State → Outcome → State → Prop := Qv1 G A (fun (u : Int32 × (Nat → Int32) × (Nat → Int32)) => Q u.1 u.2.1 u.2.2) (fun u => cs_X3_copy G a_O a_O_signs a_O_numbers a_O_pile a_U a_U_signs a_U_numbers a_U_pile O_size u.1 O_signs u.2.1 O_numbers u.2.2)
def wp_X3_copy (O_size : Int32) (U_size : Int32) (O_signs : Nat → Int32) (U_signs : Nat → Int32) (O_numbers : Nat → Int32) (U_numbers : Nat → Int32) (Q : Int32 → (Nat → Int32) → (Nat → Int32) → Prop) : Prop := (Q O_size (va_cpy O_signs U_signs ((0 : Int32)).toNatClampNeg ((0 : Int32)).toNatClampNeg ((50 : Int32)).toNatClampNeg) (va_cpy O_numbers U_numbers ((0 : Int32)).toNatClampNeg ((0 : Int32)).toNatClampNeg ((50 : Int32)).toNatClampNeg))
set_option maxHeartbeats 4000000 in
set_option maxRecDepth 100000 in
theorem wk_X3_copy (l : Launch) (G : Gt) (a_O : Nat) (a_O_signs : Nat) (a_O_numbers : Nat) (a_O_pile : Nat) (a_U : Nat) (a_U_signs : Nat) (a_U_numbers : Nat) (a_U_pile : Nat) (sz : Nat) (O_size : Int32) (U_size : Int32) (O_signs : Nat → Int32) (U_signs : Nat → Int32) (O_numbers : Nat → Int32) (U_numbers : Nat → Int32) (Q : Int32 → (Nat → Int32) → (Nat → Int32) → Prop) (hw : wp_X3_copy O_size U_size O_signs U_signs O_numbers U_numbers Q) : Met l yX3_copy (wc yX3_copy cX3_copy 2 none) rm_X3_copy (va_Pc [.ref a_U, .ref a_O] (PB G (cs_X3_copy G a_O a_O_signs a_O_numbers a_O_pile a_U a_U_signs a_U_numbers a_U_pile O_size U_size O_signs U_signs O_numbers U_numbers) sz)) (qc_X3_copy G a_O a_O_signs a_O_numbers a_O_pile a_U a_U_signs a_U_numbers a_U_pile O_size O_signs O_numbers (va_A (cs_X3_copy G a_O a_O_signs a_O_numbers a_O_pile a_U a_U_signs a_U_numbers a_U_pile O_size U_size O_signs U_signs O_numbers U_numbers) sz) Q) 0 0 (va_A (cs_X3_copy G a_O a_O_signs a_O_numbers a_O_pile a_U a_U_signs a_U_numbers a_U_pile O_size U_size O_signs U_signs O_numbers U_numbers) sz) := by
  refine x_start pn_X3 (Nat.le_of_ble_eq_true rfl) (fun p e s m below meth c ls C hn hl hB => ?_)
  have I := iv_start hB
  generalize va_A (cs_X3_copy G a_O a_O_signs a_O_numbers a_O_pile a_U a_U_signs a_U_numbers a_U_pile O_size U_size O_signs U_signs O_numbers U_numbers) sz = A at I ⊢
  have C : Cx p s m [.ref a_U, .ref a_O].toArray meth c cX3_copy 2 RX3 none := C
  have hl : lv_has ls 2 [(0, .ref a_U), (1, .ref a_O)] := hl
  refine x_aload_n C hl 1 dX3_copy_0 rfl ?_
  refine x_get C I.1 fl_X3_9 0 rfl rfl dX3_copy_1 ?_
  refine x_iconst C dX3_copy_4 ic_0 ?_
  refine x_aload_n C hl 0 dX3_copy_5 rfl ?_
  refine x_get C I.1 fl_X3_9 1 rfl rfl dX3_copy_6 ?_
  refine x_iconst C dX3_copy_9 ic_0 ?_
  refine x_bipush C dX3_copy_10 bp_50 ?_
  refine x_copy C hl I wd_552 wd_486 wd_485 wd_86 2 3 (cs_X3_copy G a_O a_O_signs a_O_numbers a_O_pile a_U a_U_signs a_U_numbers a_U_pile O_size U_size O_signs (va_cpy O_signs U_signs ((0 : Int32)).toNatClampNeg ((0 : Int32)).toNatClampNeg ((50 : Int32)).toNatClampNeg) O_numbers U_numbers) rfl rfl (by decide) (by decide) (by decide) (by decide) (by decide) (Nat.le_of_ble_eq_true rfl) (Nat.le_of_ble_eq_true rfl) rfl dX3_copy_12 (fun Hx lx I => ?_)
  refine x_aload_n C hl 1 dX3_copy_15 rfl ?_
  refine x_get C I.1 fl_X3_15 0 rfl rfl dX3_copy_16 ?_
  refine x_iconst C dX3_copy_19 ic_0 ?_
  refine x_aload_n C hl 0 dX3_copy_20 rfl ?_
  refine x_get C I.1 fl_X3_15 1 rfl rfl dX3_copy_21 ?_
  refine x_iconst C dX3_copy_24 ic_0 ?_
  refine x_bipush C dX3_copy_25 bp_50 ?_
  refine x_copy C hl I wd_552 wd_486 wd_485 wd_86 4 5 (cs_X3_copy G a_O a_O_signs a_O_numbers a_O_pile a_U a_U_signs a_U_numbers a_U_pile O_size U_size O_signs (va_cpy O_signs U_signs ((0 : Int32)).toNatClampNeg ((0 : Int32)).toNatClampNeg ((50 : Int32)).toNatClampNeg) O_numbers (va_cpy O_numbers U_numbers ((0 : Int32)).toNatClampNeg ((0 : Int32)).toNatClampNeg ((50 : Int32)).toNatClampNeg)) rfl rfl (by decide) (by decide) (by decide) (by decide) (by decide) (Nat.le_of_ble_eq_true rfl) (Nat.le_of_ble_eq_true rfl) rfl dX3_copy_27 (fun Hx lx I => ?_)
  refine x_aload_n C hl 0 dX3_copy_30 rfl ?_
  refine x_aload_n C hl 1 dX3_copy_31 rfl ?_
  refine x_get C I.1 fl_X3_21 0 rfl rfl dX3_copy_32 ?_
  refine x_put C I fl_X3_21 tyX3 tyX3_ok nmX3 rfl 1 (cs_X3_copy G a_O a_O_signs a_O_numbers a_O_pile a_U a_U_signs a_U_numbers a_U_pile O_size O_size O_signs (va_cpy O_signs U_signs ((0 : Int32)).toNatClampNeg ((0 : Int32)).toNatClampNeg ((50 : Int32)).toNatClampNeg) O_numbers (va_cpy O_numbers U_numbers ((0 : Int32)).toNatClampNeg ((0 : Int32)).toNatClampNeg ((50 : Int32)).toNatClampNeg)) rfl rfl rfl (Nat.le_of_ble_eq_true rfl) rfl dX3_copy_35 (fun Hx lx I => ?_)
  exact x_retv C I (O_size, (va_cpy O_signs U_signs ((0 : Int32)).toNatClampNeg ((0 : Int32)).toNatClampNeg ((50 : Int32)).toNatClampNeg), (va_cpy O_numbers U_numbers ((0 : Int32)).toNatClampNeg ((0 : Int32)).toNatClampNeg ((50 : Int32)).toNatClampNeg)) rfl hw dX3_copy_38
/-! X3_single -/
abbrev rm_X3_single : Room := { frames := 0, cells := 0, slots := 0, locals := 0 }
abbrev cs_X3_single (G : Gt) : va_W := []
def wp_X3_single (x0 : Int32) (x1 : Int32) (x2 : Int32) (x3 : Int32) (x4 : Int32) (Q : Int32 → Prop) : Prop := ((x0 = (1 : Int32) → (Q x2)) ∧ (x0 = (2 : Int32) → (Q x3)) ∧ (x0 = (3 : Int32) → (Q x4)) ∧ (¬ x0 = (1 : Int32) → ¬ x0 = (2 : Int32) → ¬ x0 = (3 : Int32) → (Q x1)))
set_option maxHeartbeats 4000000 in
set_option maxRecDepth 100000 in
theorem wk_X3_single (l : Launch) (G : Gt) (x0 : Int32) (x1 : Int32) (x2 : Int32) (x3 : Int32) (x4 : Int32) (Q : Int32 → Prop) (hw : wp_X3_single x0 x1 x2 x3 x4 Q) : Met l yX3_single (wc yX3_single cX3_single 5 (some .int)) rm_X3_single (va_Pc [.int x0, .int x1, .int x2, .int x3, .int x4] (PR G (cs_X3_single G ))) (vp_Si Q) 0 0 (fun _ => False) := by
  refine x_start pn_X3 (Nat.le_of_ble_eq_true rfl) (fun p e s m below meth c ls C hn hl hB => ?_)
  have I := rd_start hB
  have C : Cx p s m [.int x0, .int x1, .int x2, .int x3, .int x4].toArray meth c cX3_single 5 RX3 (some .int) := C
  have hl : lv_has ls 5 [(0, .int x0), (1, .int x1), (2, .int x2), (3, .int x3), (4, .int x4)] := hl
  refine x_iload_n C hl 0 dX3_single_0 rfl ?_
  by_cases c1 : x0 = (1 : Int32)
  · have hw := (And.left (hw)) c1
    refine x_table C (1 : Int32) 28 dX3_single_1 c1 (by decide) (by decide) rfl (by decide) ?_
    refine x_iload_n C hl 2 dX3_single_28 rfl ?_
    exact x_ret0 C hw dX3_single_29
  by_cases c2 : x0 = (2 : Int32)
  · have hw := (And.left (And.right (hw))) c2
    refine x_table C (2 : Int32) 30 dX3_single_1 c2 (by decide) (by decide) rfl (by decide) ?_
    refine x_iload_n C hl 3 dX3_single_30 rfl ?_
    exact x_ret0 C hw dX3_single_31
  by_cases c3 : x0 = (3 : Int32)
  · have hw := (And.left (And.right (And.right (hw)))) c3
    refine x_table C (3 : Int32) 32 dX3_single_1 c3 (by decide) (by decide) rfl (by decide) ?_
    refine x_iload C hl 4 dX3_single_32 rfl ?_
    exact x_ret0 C hw dX3_single_34
  have hw := (And.right (And.right (And.right (hw)))) c1 c2 c3
  refine x_tableO C 35 dX3_single_1 (tb_out (lo := 1) (n := 3) ⟨c1, c2, c3, trivial⟩) (by decide) ?_
  refine x_iload_n C hl 1 dX3_single_35 rfl ?_
  exact x_ret0 C hw dX3_single_36
/-! X3_joined -/
abbrev rm_X3_joined : Room := { frames := 0, cells := 0, slots := 0, locals := 0 }
abbrev cs_X3_joined (G : Gt) : va_W := []
def wp_X3_joined (x0 : Int32) (x1 : Int32) (x2 : Int32) (Q : Int32 → Prop) : Prop := ((x0 = (37 : Int32) → ((¬ x2 = (0) → ((¬ x2 = 0) ∧ (Q (jrem x1 x2)))) ∧ (x2 = (0) → (Q (0 : Int32))))) ∧ (x0 = (38 : Int32) → ((x1 = (0) → (Q (0 : Int32))) ∧ (¬ x1 = (0) → ((x2 = (0) → (Q (0 : Int32))) ∧ (¬ x2 = (0) → (Q (1 : Int32))))))) ∧ (x0 = (42 : Int32) → (Q (x1 * x2))) ∧ (x0 = (43 : Int32) → (Q (x1 + x2))) ∧ (x0 = (45 : Int32) → (Q (x1 - x2))) ∧ (x0 = (47 : Int32) → ((¬ x2 = (0) → ((¬ x2 = 0) ∧ (Q (x1 / x2)))) ∧ (x2 = (0) → (Q (0 : Int32))))) ∧ (x0 = (60 : Int32) → ((x2 ≤ x1 → (Q (0 : Int32))) ∧ (¬ x2 ≤ x1 → (Q (1 : Int32))))) ∧ (x0 = (61 : Int32) → ((¬ x1 = x2 → (Q (0 : Int32))) ∧ (x1 = x2 → (Q (1 : Int32))))) ∧ (x0 = (62 : Int32) → ((x1 ≤ x2 → (Q (0 : Int32))) ∧ (¬ x1 ≤ x2 → (Q (1 : Int32))))) ∧ (x0 = (124 : Int32) → ((¬ x1 = (0) → (Q (1 : Int32))) ∧ (x1 = (0) → ((x2 = (0) → (Q (0 : Int32))) ∧ (¬ x2 = (0) → (Q (1 : Int32))))))) ∧ (¬ x0 = (37 : Int32) → ¬ x0 = (38 : Int32) → ¬ x0 = (42 : Int32) → ¬ x0 = (43 : Int32) → ¬ x0 = (45 : Int32) → ¬ x0 = (47 : Int32) → ¬ x0 = (60 : Int32) → ¬ x0 = (61 : Int32) → ¬ x0 = (62 : Int32) → ¬ x0 = (124 : Int32) → (Q (0 : Int32))))
set_option maxHeartbeats 4000000 in
set_option maxRecDepth 100000 in
theorem wk_X3_joined (l : Launch) (G : Gt) (x0 : Int32) (x1 : Int32) (x2 : Int32) (Q : Int32 → Prop) (hw : wp_X3_joined x0 x1 x2 Q) : Met l yX3_joined (wc yX3_joined cX3_joined 3 (some .int)) rm_X3_joined (va_Pc [.int x0, .int x1, .int x2] (PR G (cs_X3_joined G ))) (vp_Si Q) 0 0 (fun _ => False) := by
  refine x_start pn_X3 (Nat.le_of_ble_eq_true rfl) (fun p e s m below meth c ls C hn hl hB => ?_)
  have I := rd_start hB
  have C : Cx p s m [.int x0, .int x1, .int x2].toArray meth c cX3_joined 3 RX3 (some .int) := C
  have hl : lv_has ls 3 [(0, .int x0), (1, .int x1), (2, .int x2)] := hl
  refine x_iload_n C hl 0 dX3_joined_0 rfl ?_
  by_cases c1 : x0 = (37 : Int32)
  · have hw := (And.left (hw)) c1
    refine x_lookup C (off := (176)) 177 dX3_joined_1 rfl (lk_in c1 rfl) (by decide) ?_
    refine x_iload_n C hl 2 dX3_joined_177 rfl ?_
    refine x_if_ne C 185 dX3_joined_178 (by decide) (fun c2 => ?_) (fun c2 => ?_)
    · have hw := And.left hw c2
      refine x_iload_n C hl 1 dX3_joined_185 rfl ?_
      refine x_iload_n C hl 2 dX3_joined_186 rfl ?_
      refine x_irem C (And.left hw) dX3_joined_187 ?_
      have hw := And.right hw
      exact x_ret0 C hw dX3_joined_188
    · have hw := And.right hw c2
      refine x_iconst C dX3_joined_181 ic_0 ?_
      refine x_goto C 188 dX3_joined_182 (by decide) ?_
      exact x_ret0 C hw dX3_joined_188
  by_cases c3 : x0 = (38 : Int32)
  · have hw := (And.left (And.right (hw))) c3
    refine x_lookup C (off := (105)) 106 dX3_joined_1 rfl (lk_in c3 rfl) (by decide) ?_
    refine x_iload_n C hl 1 dX3_joined_106 rfl ?_
    refine x_if_eq C 118 dX3_joined_107 (by decide) (fun c4 => ?_) (fun c4 => ?_)
    · have hw := And.left hw c4
      refine x_iconst C dX3_joined_118 ic_0 ?_
      exact x_ret0 C hw dX3_joined_119
    · have hw := And.right hw c4
      refine x_iload_n C hl 2 dX3_joined_110 rfl ?_
      refine x_if_eq C 118 dX3_joined_111 (by decide) (fun c5 => ?_) (fun c5 => ?_)
      · have hw := And.left hw c5
        refine x_iconst C dX3_joined_118 ic_0 ?_
        exact x_ret0 C hw dX3_joined_119
      · have hw := And.right hw c5
        refine x_iconst C dX3_joined_114 ic_1 ?_
        refine x_goto C 119 dX3_joined_115 (by decide) ?_
        exact x_ret0 C hw dX3_joined_119
  by_cases c6 : x0 = (42 : Int32)
  · have hw := (And.left (And.right (And.right (hw)))) c6
    refine x_lookup C (off := (160)) 161 dX3_joined_1 rfl (lk_in c6 rfl) (by decide) ?_
    refine x_iload_n C hl 1 dX3_joined_161 rfl ?_
    refine x_iload_n C hl 2 dX3_joined_162 rfl ?_
    refine x_imul C dX3_joined_163 ?_
    exact x_ret0 C hw dX3_joined_164
  by_cases c7 : x0 = (43 : Int32)
  · have hw := (And.left (And.right (And.right (And.right (hw))))) c7
    refine x_lookup C (off := (152)) 153 dX3_joined_1 rfl (lk_in c7 rfl) (by decide) ?_
    refine x_iload_n C hl 1 dX3_joined_153 rfl ?_
    refine x_iload_n C hl 2 dX3_joined_154 rfl ?_
    refine x_iadd C dX3_joined_155 ?_
    exact x_ret0 C hw dX3_joined_156
  by_cases c8 : x0 = (45 : Int32)
  · have hw := (And.left (And.right (And.right (And.right (And.right (hw)))))) c8
    refine x_lookup C (off := (156)) 157 dX3_joined_1 rfl (lk_in c8 rfl) (by decide) ?_
    refine x_iload_n C hl 1 dX3_joined_157 rfl ?_
    refine x_iload_n C hl 2 dX3_joined_158 rfl ?_
    refine x_isub C dX3_joined_159 ?_
    exact x_ret0 C hw dX3_joined_160
  by_cases c9 : x0 = (47 : Int32)
  · have hw := (And.left (And.right (And.right (And.right (And.right (And.right (hw))))))) c9
    refine x_lookup C (off := (164)) 165 dX3_joined_1 rfl (lk_in c9 rfl) (by decide) ?_
    refine x_iload_n C hl 2 dX3_joined_165 rfl ?_
    refine x_if_ne C 173 dX3_joined_166 (by decide) (fun c10 => ?_) (fun c10 => ?_)
    · have hw := And.left hw c10
      refine x_iload_n C hl 1 dX3_joined_173 rfl ?_
      refine x_iload_n C hl 2 dX3_joined_174 rfl ?_
      refine x_idiv C (And.left hw) dX3_joined_175 ?_
      have hw := And.right hw
      exact x_ret0 C hw dX3_joined_176
    · have hw := And.right hw c10
      refine x_iconst C dX3_joined_169 ic_0 ?_
      refine x_goto C 176 dX3_joined_170 (by decide) ?_
      exact x_ret0 C hw dX3_joined_176
  by_cases c11 : x0 = (60 : Int32)
  · have hw := (And.left (And.right (And.right (And.right (And.right (And.right (And.right (hw)))))))) c11
    refine x_lookup C (off := (119)) 120 dX3_joined_1 rfl (lk_in c11 rfl) (by decide) ?_
    refine x_iload_n C hl 1 dX3_joined_120 rfl ?_
    refine x_iload_n C hl 2 dX3_joined_121 rfl ?_
    refine x_icmp_ge C 129 dX3_joined_122 (by decide) (fun c12 => ?_) (fun c12 => ?_)
    · have hw := And.left hw c12
      refine x_iconst C dX3_joined_129 ic_0 ?_
      exact x_ret0 C hw dX3_joined_130
    · have hw := And.right hw c12
      refine x_iconst C dX3_joined_125 ic_1 ?_
      refine x_goto C 130 dX3_joined_126 (by decide) ?_
      exact x_ret0 C hw dX3_joined_130
  by_cases c13 : x0 = (61 : Int32)
  · have hw := (And.left (And.right (And.right (And.right (And.right (And.right (And.right (And.right (hw))))))))) c13
    refine x_lookup C (off := (130)) 131 dX3_joined_1 rfl (lk_in c13 rfl) (by decide) ?_
    refine x_iload_n C hl 1 dX3_joined_131 rfl ?_
    refine x_iload_n C hl 2 dX3_joined_132 rfl ?_
    refine x_icmp_ne C 140 dX3_joined_133 (by decide) (fun c14 => ?_) (fun c14 => ?_)
    · have hw := And.left hw c14
      refine x_iconst C dX3_joined_140 ic_0 ?_
      exact x_ret0 C hw dX3_joined_141
    · have hw := And.right hw c14
      refine x_iconst C dX3_joined_136 ic_1 ?_
      refine x_goto C 141 dX3_joined_137 (by decide) ?_
      exact x_ret0 C hw dX3_joined_141
  by_cases c15 : x0 = (62 : Int32)
  · have hw := (And.left (And.right (And.right (And.right (And.right (And.right (And.right (And.right (And.right (hw)))))))))) c15
    refine x_lookup C (off := (141)) 142 dX3_joined_1 rfl (lk_in c15 rfl) (by decide) ?_
    refine x_iload_n C hl 1 dX3_joined_142 rfl ?_
    refine x_iload_n C hl 2 dX3_joined_143 rfl ?_
    refine x_icmp_le C 151 dX3_joined_144 (by decide) (fun c16 => ?_) (fun c16 => ?_)
    · have hw := And.left hw c16
      refine x_iconst C dX3_joined_151 ic_0 ?_
      exact x_ret0 C hw dX3_joined_152
    · have hw := And.right hw c16
      refine x_iconst C dX3_joined_147 ic_1 ?_
      refine x_goto C 152 dX3_joined_148 (by decide) ?_
      exact x_ret0 C hw dX3_joined_152
  by_cases c17 : x0 = (124 : Int32)
  · have hw := (And.left (And.right (And.right (And.right (And.right (And.right (And.right (And.right (And.right (And.right (hw))))))))))) c17
    refine x_lookup C (off := (91)) 92 dX3_joined_1 rfl (lk_in c17 rfl) (by decide) ?_
    refine x_iload_n C hl 1 dX3_joined_92 rfl ?_
    refine x_if_ne C 100 dX3_joined_93 (by decide) (fun c18 => ?_) (fun c18 => ?_)
    · have hw := And.left hw c18
      refine x_iconst C dX3_joined_100 ic_1 ?_
      refine x_goto C 105 dX3_joined_101 (by decide) ?_
      exact x_ret0 C hw dX3_joined_105
    · have hw := And.right hw c18
      refine x_iload_n C hl 2 dX3_joined_96 rfl ?_
      refine x_if_eq C 104 dX3_joined_97 (by decide) (fun c19 => ?_) (fun c19 => ?_)
      · have hw := And.left hw c19
        refine x_iconst C dX3_joined_104 ic_0 ?_
        exact x_ret0 C hw dX3_joined_105
      · have hw := And.right hw c19
        refine x_iconst C dX3_joined_100 ic_1 ?_
        refine x_goto C 105 dX3_joined_101 (by decide) ?_
        exact x_ret0 C hw dX3_joined_105
  have hw := (And.right (And.right (And.right (And.right (And.right (And.right (And.right (And.right (And.right (And.right (hw))))))))))) c1 c3 c6 c7 c8 c9 c11 c13 c15 c17
  refine x_lookup C (off := (188)) 189 dX3_joined_1 rfl (lk_out ⟨c1, c3, c6, c7, c8, c9, c11, c13, c15, c17, trivial⟩) (by decide) ?_
  refine x_iconst C dX3_joined_189 ic_0 ?_
  exact x_ret0 C hw dX3_joined_190
/-! X4_add -/
abbrev rm_X4_add : Room := { frames := 0, cells := 0, slots := 0, locals := 0 }
abbrev cs_X4_add (G : Gt) (a_S : Nat) (a_S_items : Nat) (LEN : Nat) (S_size : Int32) (S_items : Nat → Int32) : va_W := [(a_S, .inr (4, [.ref a_S_items, .int S_size])), (a_S_items, .inl (cI G, LEN, .inl S_items))]
abbrev qc_X4_add (G : Gt) (a_S : Nat) (a_S_items : Nat) (LEN : Nat) (A : Nat → Prop) (Q : Int32 → (Nat → Int32) → Prop) : Array Value → State → Outcome → State → Prop := Qv1 G A (fun (u : Int32 × (Nat → Int32)) => Q u.1 u.2) (fun u => cs_X4_add G a_S a_S_items LEN u.1 u.2)
def wp_X4_add (x1 : Int32) (LEN : Nat) (S_size : Int32) (S_items : Nat → Int32) (Q : Int32 → (Nat → Int32) → Prop) : Prop := (((Int32.ofNat LEN) ≤ S_size → (Q S_size S_items)) ∧ (¬ (Int32.ofNat LEN) ≤ S_size → (vp_in S_size LEN ∧ (∀ v2 : Int32, v2 = (S_size + (1 : Int32)) → (Q v2 (upd S_items (S_size).toNatClampNeg x1))))))
set_option maxHeartbeats 4000000 in
set_option maxRecDepth 100000 in
theorem wk_X4_add (l : Launch) (G : Gt) (a_S : Nat) (a_S_items : Nat) (sz : Nat) (LEN : Nat) (S_size : Int32) (S_items : Nat → Int32) (x1 : Int32) (Q : Int32 → (Nat → Int32) → Prop) (hw : wp_X4_add x1 LEN S_size S_items Q) : Met l yX4_add (wc yX4_add cX4_add 2 none) rm_X4_add (va_Pc [.ref a_S, .int x1] (PB G (cs_X4_add G a_S a_S_items LEN S_size S_items) sz)) (qc_X4_add G a_S a_S_items LEN (va_A (cs_X4_add G a_S a_S_items LEN S_size S_items) sz) Q) 0 0 (va_A (cs_X4_add G a_S a_S_items LEN S_size S_items) sz) := by
  refine x_start pn_X4 (Nat.le_of_ble_eq_true rfl) (fun p e s m below meth c ls C hn hl hB => ?_)
  have I := iv_start hB
  generalize va_A (cs_X4_add G a_S a_S_items LEN S_size S_items) sz = A at I ⊢
  have C : Cx p s m [.ref a_S, .int x1].toArray meth c cX4_add 2 RX4 none := C
  have hl : lv_has ls 2 [(0, .ref a_S), (1, .int x1)] := hl
  refine x_aload_n C hl 0 dX4_add_0 rfl ?_
  refine x_get C I.1 fl_X4_19 0 rfl rfl dX4_add_1 ?_
  refine x_aload_n C hl 0 dX4_add_4 rfl ?_
  refine x_get C I.1 fl_X4_13 0 rfl rfl dX4_add_5 ?_
  refine x_alen C I.1 1 (Int32.ofNat LEN) rfl rfl dX4_add_8 ?_
  refine x_icmp_ge C 32 dX4_add_9 (by decide) (fun c1 => ?_) (fun c1 => ?_)
  · have hw := And.left hw c1
    exact x_retv C I (S_size, S_items) rfl hw dX4_add_32
  · have hw := And.right hw c1
    refine x_aload_n C hl 0 dX4_add_12 rfl ?_
    refine x_get C I.1 fl_X4_13 0 rfl rfl dX4_add_13 ?_
    refine x_aload_n C hl 0 dX4_add_16 rfl ?_
    refine x_get C I.1 fl_X4_19 0 rfl rfl dX4_add_17 ?_
    refine x_iload_n C hl 1 dX4_add_20 rfl ?_
    refine x_iast C I 1 (cs_X4_add G a_S a_S_items LEN S_size (upd S_items (S_size).toNatClampNeg x1)) rfl (And.left hw) rfl dX4_add_21 (fun Hx lx I => ?_)
    have hw := And.right hw
    refine x_aload_n C hl 0 dX4_add_22 rfl ?_
    refine x_dup C dX4_add_23 rfl ?_
    refine x_get C I.1 fl_X4_19 0 rfl rfl dX4_add_24 ?_
    refine x_iconst C dX4_add_27 ic_1 ?_
    refine x_iadd C dX4_add_28 ?_
    refine lv_topi (fun v2 ev2 => ?_)
    have hw := hw v2 ev2
    refine x_put C I fl_X4_19 tyX4 tyX4_ok nmX4 rfl 0 (cs_X4_add G a_S a_S_items LEN v2 (upd S_items (S_size).toNatClampNeg x1)) rfl rfl rfl (Nat.le_of_ble_eq_true rfl) rfl dX4_add_29 (fun Hx lx I => ?_)
    exact x_retv C I (v2, (upd S_items (S_size).toNatClampNeg x1)) rfl hw dX4_add_32
/-! X4_clear -/
abbrev rm_X4_clear : Room := { frames := 0, cells := 0, slots := 0, locals := 0 }
abbrev cs_X4_clear (G : Gt) (a_S : Nat) (a_S_items : Nat) (S_size : Int32) : va_W := [(a_S, .inr (4, [.ref a_S_items, .int S_size]))]
abbrev qc_X4_clear (G : Gt) (a_S : Nat) (a_S_items : Nat) (A : Nat → Prop) (Q : Int32 → Prop) : Array Value → State → Outcome → State → Prop := Qv1 G A (fun (u : Int32) => Q u) (fun u => cs_X4_clear G a_S a_S_items u)
def wp_X4_clear (S_size : Int32) (Q : Int32 → Prop) : Prop := (Q (0 : Int32))
set_option maxHeartbeats 4000000 in
set_option maxRecDepth 100000 in
theorem wk_X4_clear (l : Launch) (G : Gt) (a_S : Nat) (a_S_items : Nat) (sz : Nat) (S_size : Int32) (Q : Int32 → Prop) (hw : wp_X4_clear S_size Q) : Met l yX4_clear (wc yX4_clear cX4_clear 1 none) rm_X4_clear (va_Pc [.ref a_S] (PB G (cs_X4_clear G a_S a_S_items S_size) sz)) (qc_X4_clear G a_S a_S_items (va_A (cs_X4_clear G a_S a_S_items S_size) sz) Q) 0 0 (va_A (cs_X4_clear G a_S a_S_items S_size) sz) := by
  refine x_start pn_X4 (Nat.le_of_ble_eq_true rfl) (fun p e s m below meth c ls C hn hl hB => ?_)
  have I := iv_start hB
  generalize va_A (cs_X4_clear G a_S a_S_items S_size) sz = A at I ⊢
  have C : Cx p s m [.ref a_S].toArray meth c cX4_clear 1 RX4 none := C
  have hl : lv_has ls 1 [(0, .ref a_S)] := hl
  refine x_aload_n C hl 0 dX4_clear_0 rfl ?_
  refine x_iconst C dX4_clear_1 ic_0 ?_
  refine x_put C I fl_X4_19 tyX4 tyX4_ok nmX4 rfl 0 (cs_X4_clear G a_S a_S_items (0 : Int32)) rfl rfl rfl (Nat.le_of_ble_eq_true rfl) rfl dX4_clear_2 (fun Hx lx I => ?_)
  exact x_retv C I (0 : Int32) rfl hw dX4_clear_5
/-! X4_copy -/
abbrev rm_X4_copy : Room := { frames := 1, cells := 0, slots := 0, locals := 40 }
abbrev cs_X4_copy (G : Gt) (a_S : Nat) (a_S_items : Nat) (a_O : Nat) (a_O_items : Nat) (LEN : Nat) (S_size : Int32) (S_items : Nat → Int32) (O_size : Int32) (O_items : Nat → Int32) : va_W := [(a_S, .inr (4, [.ref a_S_items, .int S_size])), (a_S_items, .inl (cI G, LEN, .inl S_items)), (a_O, .inr (4, [.ref a_O_items, .int O_size])), (a_O_items, .inl (cI G, LEN, .inl O_items))]
abbrev qc_X4_copy (G : Gt) (a_S : Nat) (a_S_items : Nat) (a_O : Nat) (a_O_items : Nat) (LEN : Nat) (O_size : Int32) (O_items : Nat → Int32) (A : Nat → Prop) (Q : Int32 → (Nat → Int32) → Prop) : Array Value → State → Outcome → State → Prop := Qv1 G A (fun (u : Int32 × (Nat → Int32)) => Q u.1 u.2) (fun u => cs_X4_copy G a_S a_S_items a_O a_O_items LEN u.1 u.2 O_size O_items)
def wp_X4_copy (LEN : Nat) (S_size : Int32) (S_items : Nat → Int32) (O_size : Int32) (O_items : Nat → Int32) (Q : Int32 → (Nat → Int32) → Prop) : Prop := (∀ v1 : Int32, v1 = (jmin (Int32.ofNat LEN) O_size) → (((¬ (0 : Int32) < 0) ∧ (¬ (0 : Int32) < 0) ∧ (¬ v1 < 0) ∧ (((0 : Int32)).toNatClampNeg + (v1).toNatClampNeg ≤ LEN) ∧ (((0 : Int32)).toNatClampNeg + (v1).toNatClampNeg ≤ LEN)) ∧ (Q v1 (va_cpy O_items S_items ((0 : Int32)).toNatClampNeg ((0 : Int32)).toNatClampNeg (v1).toNatClampNeg))))
set_option maxHeartbeats 4000000 in
set_option maxRecDepth 100000 in
theorem wk_X4_copy (l : Launch) (G : Gt) (a_S : Nat) (a_S_items : Nat) (a_O : Nat) (a_O_items : Nat) (sz : Nat) (LEN : Nat) (S_size : Int32) (S_items : Nat → Int32) (O_size : Int32) (O_items : Nat → Int32) (Q : Int32 → (Nat → Int32) → Prop) (hw : wp_X4_copy LEN S_size S_items O_size O_items Q) : Met l yX4_copy (wc yX4_copy cX4_copy 2 none) rm_X4_copy (va_Pc [.ref a_S, .ref a_O] (PB G (cs_X4_copy G a_S a_S_items a_O a_O_items LEN S_size S_items O_size O_items) sz)) (qc_X4_copy G a_S a_S_items a_O a_O_items LEN O_size O_items (va_A (cs_X4_copy G a_S a_S_items a_O a_O_items LEN S_size S_items O_size O_items) sz) Q) 0 0 (va_A (cs_X4_copy G a_S a_S_items a_O a_O_items LEN S_size S_items O_size O_items) sz) := by
  refine x_start pn_X4 (Nat.le_of_ble_eq_true rfl) (fun p e s m below meth c ls C hn hl hB => ?_)
  have I := iv_start hB
  generalize va_A (cs_X4_copy G a_S a_S_items a_O a_O_items LEN S_size S_items O_size O_items) sz = A at I ⊢
  have C : Cx p s m [.ref a_S, .ref a_O].toArray meth c cX4_copy 2 RX4 none := C
  have hl : lv_has ls 2 [(0, .ref a_S), (1, .ref a_O)] := hl
  refine x_aload_n C hl 0 dX4_copy_0 rfl ?_
  refine x_aload_n C hl 0 dX4_copy_1 rfl ?_
  refine x_get C I.1 fl_X4_13 0 rfl rfl dX4_copy_2 ?_
  refine x_alen C I.1 1 (Int32.ofNat LEN) rfl rfl dX4_copy_5 ?_
  refine x_aload_n C hl 1 dX4_copy_6 rfl ?_
  refine x_get C I.1 fl_X4_19 2 rfl rfl dX4_copy_7 ?_
  refine x_mmin C hl wd_483 (Nat.le_of_ble_eq_true rfl) (Nat.le_of_ble_eq_true rfl) (Nat.le_of_ble_eq_true rfl) (Nat.le_of_ble_eq_true rfl) wd_374 wd_80 wd_375 dX4_copy_10 ?_
  refine lv_topi (fun v1 ev1 => ?_)
  have hw := hw v1 ev1
  refine x_put C I fl_X4_19 tyX4 tyX4_ok nmX4 rfl 0 (cs_X4_copy G a_S a_S_items a_O a_O_items LEN v1 S_items O_size O_items) rfl rfl rfl (Nat.le_of_ble_eq_true rfl) rfl dX4_copy_13 (fun Hx lx I => ?_)
  refine x_aload_n C hl 1 dX4_copy_16 rfl ?_
  refine x_get C I.1 fl_X4_13 2 rfl rfl dX4_copy_17 ?_
  refine x_iconst C dX4_copy_20 ic_0 ?_
  refine x_aload_n C hl 0 dX4_copy_21 rfl ?_
  refine x_get C I.1 fl_X4_13 0 rfl rfl dX4_copy_22 ?_
  refine x_iconst C dX4_copy_25 ic_0 ?_
  refine x_aload_n C hl 0 dX4_copy_26 rfl ?_
  refine x_get C I.1 fl_X4_19 0 rfl rfl dX4_copy_27 ?_
  refine x_copy C hl I wd_484 wd_486 wd_485 wd_86 3 1 (cs_X4_copy G a_S a_S_items a_O a_O_items LEN v1 (va_cpy O_items S_items ((0 : Int32)).toNatClampNeg ((0 : Int32)).toNatClampNeg (v1).toNatClampNeg) O_size O_items) rfl rfl (And.left ((And.left hw))) (And.left (And.right ((And.left hw)))) (And.left (And.right (And.right ((And.left hw))))) (And.left (And.right (And.right (And.right ((And.left hw)))))) (And.right (And.right (And.right (And.right ((And.left hw)))))) (Nat.le_of_ble_eq_true rfl) (Nat.le_of_ble_eq_true rfl) rfl dX4_copy_30 (fun Hx lx I => ?_)
  have hw := And.right hw
  exact x_retv C I (v1, (va_cpy O_items S_items ((0 : Int32)).toNatClampNeg ((0 : Int32)).toNatClampNeg (v1).toNatClampNeg)) rfl hw dX4_copy_33
/-! X5_copy -/
abbrev rm_X5_copy : Room := { frames := 2, cells := 0, slots := 0, locals := 61 }
abbrev cs_X5_copy (G : Gt) (a_P : Nat) (a_P_meeting : Nat) (a_P_deed : Nat) (a_P_folk : Nat) (a_P_tape : Nat) (a_P_waiting : Nat) (a_O : Nat) (a_O_meeting : Nat) (a_O_deed : Nat) (a_O_folk : Nat) (a_O_tape : Nat) (a_O_waiting : Nat) (a_O_meeting_signs : Nat) (a_O_meeting_numbers : Nat) (a_O_meeting_pile : Nat) (a_P_meeting_signs : Nat) (a_P_meeting_numbers : Nat) (a_P_meeting_pile : Nat) (a_O_deed_signs : Nat) (a_O_deed_numbers : Nat) (a_O_deed_pile : Nat) (a_P_deed_signs : Nat) (a_P_deed_numbers : Nat) (a_P_deed_pile : Nat) (a_O_folk_kind : Nat) (a_O_folk_m : Nat) (a_O_folk_at : Nat) (a_O_folk_free : Nat) (a_O_folk_gloved : Nat) (a_O_folk_deeds : Nat) (a_O_folk_handed : Nat) (a_O_folk_crowd : Nat) (a_P_folk_kind : Nat) (a_P_folk_m : Nat) (a_P_folk_at : Nat) (a_P_folk_free : Nat) (a_P_folk_gloved : Nat) (a_P_folk_deeds : Nat) (a_P_folk_handed : Nat) (a_P_folk_crowd : Nat) (a_P_tape_items : Nat) (a_O_tape_items : Nat) (a_P_waiting_items : Nat) (a_O_waiting_items : Nat) (P_z : Int32) (O_z : Int32) (O_meeting_size : Int32) (P_meeting_size : Int32) (O_meeting_signs : Nat → Int32) (P_meeting_signs : Nat → Int32) (O_meeting_numbers : Nat → Int32) (P_meeting_numbers : Nat → Int32) (O_deed_size : Int32) (P_deed_size : Int32) (O_deed_signs : Nat → Int32) (P_deed_signs : Nat → Int32) (O_deed_numbers : Nat → Int32) (P_deed_numbers : Nat → Int32) (O_folk_size : Int32) (O_folk_step : Int32) (O_folk_loss : Int32) (P_folk_size : Int32) (P_folk_step : Int32) (P_folk_loss : Int32) (O_folk_kind : Nat → Int32) (P_folk_kind : Nat → Int32) (O_folk_m : Nat → Int32) (P_folk_m : Nat → Int32) (O_folk_at : Nat → Int32) (P_folk_at : Nat → Int32) (O_folk_free : Nat → Int32) (P_folk_free : Nat → Int32) (O_folk_gloved : Nat → Int32) (P_folk_gloved : Nat → Int32) (O_folk_deeds : Nat → Int32) (P_folk_deeds : Nat → Int32) (P_tape_size : Int32) (P_tape_items : Nat → Int32) (O_tape_size : Int32) (O_tape_items : Nat → Int32) (P_waiting_size : Int32) (P_waiting_items : Nat → Int32) (O_waiting_size : Int32) (O_waiting_items : Nat → Int32) : va_W := [(a_P, .inr (5, [.ref a_P_meeting, .ref a_P_deed, .ref a_P_folk, .ref a_P_tape, .ref a_P_waiting, .int P_z])), (a_O, .inr (5, [.ref a_O_meeting, .ref a_O_deed, .ref a_O_folk, .ref a_O_tape, .ref a_O_waiting, .int O_z])), (a_O_meeting, .inr (3, [.ref a_O_meeting_signs, .ref a_O_meeting_numbers, .ref a_O_meeting_pile, .int O_meeting_size])), (a_P_meeting, .inr (3, [.ref a_P_meeting_signs, .ref a_P_meeting_numbers, .ref a_P_meeting_pile, .int P_meeting_size])), (a_O_meeting_signs, .inl (cI G, 50, .inl O_meeting_signs)), (a_P_meeting_signs, .inl (cI G, 50, .inl P_meeting_signs)), (a_O_meeting_numbers, .inl (cI G, 50, .inl O_meeting_numbers)), (a_P_meeting_numbers, .inl (cI G, 50, .inl P_meeting_numbers)), (a_O_deed, .inr (3, [.ref a_O_deed_signs, .ref a_O_deed_numbers, .ref a_O_deed_pile, .int O_deed_size])), (a_P_deed, .inr (3, [.ref a_P_deed_signs, .ref a_P_deed_numbers, .ref a_P_deed_pile, .int P_deed_size])), (a_O_deed_signs, .inl (cI G, 50, .inl O_deed_signs)), (a_P_deed_signs, .inl (cI G, 50, .inl P_deed_signs)), (a_O_deed_numbers, .inl (cI G, 50, .inl O_deed_numbers)), (a_P_deed_numbers, .inl (cI G, 50, .inl P_deed_numbers)), (a_O_folk, .inr (0, [.ref a_O_meeting, .ref a_O_deed, .ref a_O_folk_kind, .ref a_O_folk_m, .ref a_O_folk_at, .ref a_O_folk_free, .ref a_O_folk_gloved, .ref a_O_folk_deeds, .ref a_O_folk_handed, .ref a_O_folk_crowd, .int O_folk_size, .int O_folk_step, .int O_folk_loss])), (a_P_folk, .inr (0, [.ref a_P_meeting, .ref a_P_deed, .ref a_P_folk_kind, .ref a_P_folk_m, .ref a_P_folk_at, .ref a_P_folk_free, .ref a_P_folk_gloved, .ref a_P_folk_deeds, .ref a_P_folk_handed, .ref a_P_folk_crowd, .int P_folk_size, .int P_folk_step, .int P_folk_loss])), (a_O_folk_kind, .inl (cI G, 8, .inl O_folk_kind)), (a_P_folk_kind, .inl (cI G, 8, .inl P_folk_kind)), (a_O_folk_m, .inl (cI G, 8, .inl O_folk_m)), (a_P_folk_m, .inl (cI G, 8, .inl P_folk_m)), (a_O_folk_at, .inl (cI G, 8, .inl O_folk_at)), (a_P_folk_at, .inl (cI G, 8, .inl P_folk_at)), (a_O_folk_free, .inl (cI G, 8, .inl O_folk_free)), (a_P_folk_free, .inl (cI G, 8, .inl P_folk_free)), (a_O_folk_gloved, .inl (cI G, 8, .inl O_folk_gloved)), (a_P_folk_gloved, .inl (cI G, 8, .inl P_folk_gloved)), (a_O_folk_deeds, .inl (cI G, 8, .inl O_folk_deeds)), (a_P_folk_deeds, .inl (cI G, 8, .inl P_folk_deeds)), (a_P_tape, .inr (4, [.ref a_P_tape_items, .int P_tape_size])), (a_P_tape_items, .inl (cI G, 50, .inl P_tape_items)), (a_O_tape, .inr (4, [.ref a_O_tape_items, .int O_tape_size])), (a_O_tape_items, .inl (cI G, 50, .inl O_tape_items)), (a_P_waiting, .inr (4, [.ref a_P_waiting_items, .int P_waiting_size])), (a_P_waiting_items, .inl (cI G, 20, .inl P_waiting_items)), (a_O_waiting, .inr (4, [.ref a_O_waiting_items, .int O_waiting_size])), (a_O_waiting_items, .inl (cI G, 20, .inl O_waiting_items))]
abbrev qc_X5_copy (G : Gt) (a_P : Nat) (a_P_meeting : Nat) (a_P_deed : Nat) (a_P_folk : Nat) (a_P_tape : Nat) (a_P_waiting : Nat) (a_O : Nat) (a_O_meeting : Nat) (a_O_deed : Nat) (a_O_folk : Nat) (a_O_tape : Nat) (a_O_waiting : Nat) (a_O_meeting_signs : Nat) (a_O_meeting_numbers : Nat) (a_O_meeting_pile : Nat) (a_P_meeting_signs : Nat) (a_P_meeting_numbers : Nat) (a_P_meeting_pile : Nat) (a_O_deed_signs : Nat) (a_O_deed_numbers : Nat) (a_O_deed_pile : Nat) (a_P_deed_signs : Nat) (a_P_deed_numbers : Nat) (a_P_deed_pile : Nat) (a_O_folk_kind : Nat) (a_O_folk_m : Nat) (a_O_folk_at : Nat) (a_O_folk_free : Nat) (a_O_folk_gloved : Nat) (a_O_folk_deeds : Nat) (a_O_folk_handed : Nat) (a_O_folk_crowd : Nat) (a_P_folk_kind : Nat) (a_P_folk_m : Nat) (a_P_folk_at : Nat) (a_P_folk_free : Nat) (a_P_folk_gloved : Nat) (a_P_folk_deeds : Nat) (a_P_folk_handed : Nat) (a_P_folk_crowd : Nat) (a_P_tape_items : Nat) (a_O_tape_items : Nat) (a_P_waiting_items : Nat) (a_O_waiting_items : Nat) (O_z : Int32) (O_meeting_size : Int32) (O_meeting_signs : Nat → Int32) (O_meeting_numbers : Nat → Int32) (O_deed_size : Int32) (O_deed_signs : Nat → Int32) (O_deed_numbers : Nat → Int32) (O_folk_size : Int32) (O_folk_step : Int32) (O_folk_loss : Int32) (O_folk_kind : Nat → Int32) (O_folk_m : Nat → Int32) (O_folk_at : Nat → Int32) (O_folk_free : Nat → Int32) (O_folk_gloved : Nat → Int32) (O_folk_deeds : Nat → Int32) (O_tape_size : Int32) (O_tape_items : Nat → Int32) (O_waiting_size : Int32) (O_waiting_items : Nat → Int32) (A : Nat → Prop) (Q : Int32 → Int32 → (Nat → Int32) → (Nat → Int32) → Int32 → (Nat → Int32) → (Nat → Int32) → Int32 → Int32 → Int32 → (Nat → Int32) → (Nat → Int32) → (Nat → Int32) → (Nat → Int32) → (Nat → Int32) → (Nat → Int32) → Int32 → (Nat → Int32) → Int32 → (Nat → Int32) → Prop) : Array Value → State → Outcome → State → Prop := Qv1 G A (fun (u : Int32 × Int32 × (Nat → Int32) × (Nat → Int32) × Int32 × (Nat → Int32) × (Nat → Int32) × Int32 × Int32 × Int32 × (Nat → Int32) × (Nat → Int32) × (Nat → Int32) × (Nat → Int32) × (Nat → Int32) × (Nat → Int32) × Int32 × (Nat → Int32) × Int32 × (Nat → Int32)) => Q u.1 u.2.1 u.2.2.1 u.2.2.2.1 u.2.2.2.2.1 u.2.2.2.2.2.1 u.2.2.2.2.2.2.1 u.2.2.2.2.2.2.2.1 u.2.2.2.2.2.2.2.2.1 u.2.2.2.2.2.2.2.2.2.1 u.2.2.2.2.2.2.2.2.2.2.1 u.2.2.2.2.2.2.2.2.2.2.2.1 u.2.2.2.2.2.2.2.2.2.2.2.2.1 u.2.2.2.2.2.2.2.2.2.2.2.2.2.1 u.2.2.2.2.2.2.2.2.2.2.2.2.2.2.1 u.2.2.2.2.2.2.2.2.2.2.2.2.2.2.2.1 u.2.2.2.2.2.2.2.2.2.2.2.2.2.2.2.2.1 u.2.2.2.2.2.2.2.2.2.2.2.2.2.2.2.2.2.1 u.2.2.2.2.2.2.2.2.2.2.2.2.2.2.2.2.2.2.1 u.2.2.2.2.2.2.2.2.2.2.2.2.2.2.2.2.2.2.2) (fun u => cs_X5_copy G a_P a_P_meeting a_P_deed a_P_folk a_P_tape a_P_waiting a_O a_O_meeting a_O_deed a_O_folk a_O_tape a_O_waiting a_O_meeting_signs a_O_meeting_numbers a_O_meeting_pile a_P_meeting_signs a_P_meeting_numbers a_P_meeting_pile a_O_deed_signs a_O_deed_numbers a_O_deed_pile a_P_deed_signs a_P_deed_numbers a_P_deed_pile a_O_folk_kind a_O_folk_m a_O_folk_at a_O_folk_free a_O_folk_gloved a_O_folk_deeds a_O_folk_handed a_O_folk_crowd a_P_folk_kind a_P_folk_m a_P_folk_at a_P_folk_free a_P_folk_gloved a_P_folk_deeds a_P_folk_handed a_P_folk_crowd a_P_tape_items a_O_tape_items a_P_waiting_items a_O_waiting_items u.1 O_z O_meeting_size u.2.1 O_meeting_signs u.2.2.1 O_meeting_numbers u.2.2.2.1 O_deed_size u.2.2.2.2.1 O_deed_signs u.2.2.2.2.2.1 O_deed_numbers u.2.2.2.2.2.2.1 O_folk_size O_folk_step O_folk_loss u.2.2.2.2.2.2.2.1 u.2.2.2.2.2.2.2.2.1 u.2.2.2.2.2.2.2.2.2.1 O_folk_kind u.2.2.2.2.2.2.2.2.2.2.1 O_folk_m u.2.2.2.2.2.2.2.2.2.2.2.1 O_folk_at u.2.2.2.2.2.2.2.2.2.2.2.2.1 O_folk_free u.2.2.2.2.2.2.2.2.2.2.2.2.2.1 O_folk_gloved u.2.2.2.2.2.2.2.2.2.2.2.2.2.2.1 O_folk_deeds u.2.2.2.2.2.2.2.2.2.2.2.2.2.2.2.1 u.2.2.2.2.2.2.2.2.2.2.2.2.2.2.2.2.1 u.2.2.2.2.2.2.2.2.2.2.2.2.2.2.2.2.2.1 O_tape_size O_tape_items u.2.2.2.2.2.2.2.2.2.2.2.2.2.2.2.2.2.2.1 u.2.2.2.2.2.2.2.2.2.2.2.2.2.2.2.2.2.2.2 O_waiting_size O_waiting_items)
def wp_X5_copy (P_z : Int32) (O_z : Int32) (O_meeting_size : Int32) (P_meeting_size : Int32) (O_meeting_signs : Nat → Int32) (P_meeting_signs : Nat → Int32) (O_meeting_numbers : Nat → Int32) (P_meeting_numbers : Nat → Int32) (O_deed_size : Int32) (P_deed_size : Int32) (O_deed_signs : Nat → Int32) (P_deed_signs : Nat → Int32) (O_deed_numbers : Nat → Int32) (P_deed_numbers : Nat → Int32) (O_folk_size : Int32) (O_folk_step : Int32) (O_folk_loss : Int32) (P_folk_size : Int32) (P_folk_step : Int32) (P_folk_loss : Int32) (O_folk_kind : Nat → Int32) (P_folk_kind : Nat → Int32) (O_folk_m : Nat → Int32) (P_folk_m : Nat → Int32) (O_folk_at : Nat → Int32) (P_folk_at : Nat → Int32) (O_folk_free : Nat → Int32) (P_folk_free : Nat → Int32) (O_folk_gloved : Nat → Int32) (P_folk_gloved : Nat → Int32) (O_folk_deeds : Nat → Int32) (P_folk_deeds : Nat → Int32) (P_tape_size : Int32) (P_tape_items : Nat → Int32) (O_tape_size : Int32) (O_tape_items : Nat → Int32) (P_waiting_size : Int32) (P_waiting_items : Nat → Int32) (O_waiting_size : Int32) (O_waiting_items : Nat → Int32) (Q : Int32 → Int32 → (Nat → Int32) → (Nat → Int32) → Int32 → (Nat → Int32) → (Nat → Int32) → Int32 → Int32 → Int32 → (Nat → Int32) → (Nat → Int32) → (Nat → Int32) → (Nat → Int32) → (Nat → Int32) → (Nat → Int32) → Int32 → (Nat → Int32) → Int32 → (Nat → Int32) → Prop) : Prop := (wp_X3_copy O_meeting_size P_meeting_size O_meeting_signs P_meeting_signs O_meeting_numbers P_meeting_numbers (fun o1 o2 o3 => (wp_X3_copy O_deed_size P_deed_size O_deed_signs P_deed_signs O_deed_numbers P_deed_numbers (fun o4 o5 o6 => (wp_X0_copy O_folk_size O_folk_step O_folk_loss P_folk_size P_folk_step P_folk_loss O_folk_kind P_folk_kind O_folk_m P_folk_m O_folk_at P_folk_at O_folk_free P_folk_free O_folk_gloved P_folk_gloved O_folk_deeds P_folk_deeds (fun o7 o8 o9 o10 o11 o12 o13 o14 o15 => (wp_X4_copy 50 P_tape_size P_tape_items O_tape_size O_tape_items (fun o16 o17 => (wp_X4_copy 20 P_waiting_size P_waiting_items O_waiting_size O_waiting_items (fun o18 o19 => (Q O_z o1 o2 o3 o4 o5 o6 o7 o8 o9 o10 o11 o12 o13 o14 o15 o16 o17 o18 o19)))))))))))
set_option maxHeartbeats 4000000 in
set_option maxRecDepth 100000 in
theorem wk_X5_copy (l : Launch) (G : Gt) (a_P : Nat) (a_P_meeting : Nat) (a_P_deed : Nat) (a_P_folk : Nat) (a_P_tape : Nat) (a_P_waiting : Nat) (a_O : Nat) (a_O_meeting : Nat) (a_O_deed : Nat) (a_O_folk : Nat) (a_O_tape : Nat) (a_O_waiting : Nat) (a_O_meeting_signs : Nat) (a_O_meeting_numbers : Nat) (a_O_meeting_pile : Nat) (a_P_meeting_signs : Nat) (a_P_meeting_numbers : Nat) (a_P_meeting_pile : Nat) (a_O_deed_signs : Nat) (a_O_deed_numbers : Nat) (a_O_deed_pile : Nat) (a_P_deed_signs : Nat) (a_P_deed_numbers : Nat) (a_P_deed_pile : Nat) (a_O_folk_kind : Nat) (a_O_folk_m : Nat) (a_O_folk_at : Nat) (a_O_folk_free : Nat) (a_O_folk_gloved : Nat) (a_O_folk_deeds : Nat) (a_O_folk_handed : Nat) (a_O_folk_crowd : Nat) (a_P_folk_kind : Nat) (a_P_folk_m : Nat) (a_P_folk_at : Nat) (a_P_folk_free : Nat) (a_P_folk_gloved : Nat) (a_P_folk_deeds : Nat) (a_P_folk_handed : Nat) (a_P_folk_crowd : Nat) (a_P_tape_items : Nat) (a_O_tape_items : Nat) (a_P_waiting_items : Nat) (a_O_waiting_items : Nat) (sz : Nat) (P_z : Int32) (O_z : Int32) (O_meeting_size : Int32) (P_meeting_size : Int32) (O_meeting_signs : Nat → Int32) (P_meeting_signs : Nat → Int32) (O_meeting_numbers : Nat → Int32) (P_meeting_numbers : Nat → Int32) (O_deed_size : Int32) (P_deed_size : Int32) (O_deed_signs : Nat → Int32) (P_deed_signs : Nat → Int32) (O_deed_numbers : Nat → Int32) (P_deed_numbers : Nat → Int32) (O_folk_size : Int32) (O_folk_step : Int32) (O_folk_loss : Int32) (P_folk_size : Int32) (P_folk_step : Int32) (P_folk_loss : Int32) (O_folk_kind : Nat → Int32) (P_folk_kind : Nat → Int32) (O_folk_m : Nat → Int32) (P_folk_m : Nat → Int32) (O_folk_at : Nat → Int32) (P_folk_at : Nat → Int32) (O_folk_free : Nat → Int32) (P_folk_free : Nat → Int32) (O_folk_gloved : Nat → Int32) (P_folk_gloved : Nat → Int32) (O_folk_deeds : Nat → Int32) (P_folk_deeds : Nat → Int32) (P_tape_size : Int32) (P_tape_items : Nat → Int32) (O_tape_size : Int32) (O_tape_items : Nat → Int32) (P_waiting_size : Int32) (P_waiting_items : Nat → Int32) (O_waiting_size : Int32) (O_waiting_items : Nat → Int32) (Q : Int32 → Int32 → (Nat → Int32) → (Nat → Int32) → Int32 → (Nat → Int32) → (Nat → Int32) → Int32 → Int32 → Int32 → (Nat → Int32) → (Nat → Int32) → (Nat → Int32) → (Nat → Int32) → (Nat → Int32) → (Nat → Int32) → Int32 → (Nat → Int32) → Int32 → (Nat → Int32) → Prop) (hw : wp_X5_copy P_z O_z O_meeting_size P_meeting_size O_meeting_signs P_meeting_signs O_meeting_numbers P_meeting_numbers O_deed_size P_deed_size O_deed_signs P_deed_signs O_deed_numbers P_deed_numbers O_folk_size O_folk_step O_folk_loss P_folk_size P_folk_step P_folk_loss O_folk_kind P_folk_kind O_folk_m P_folk_m O_folk_at P_folk_at O_folk_free P_folk_free O_folk_gloved P_folk_gloved O_folk_deeds P_folk_deeds P_tape_size P_tape_items O_tape_size O_tape_items P_waiting_size P_waiting_items O_waiting_size O_waiting_items Q) : Met l yX5_copy (wc yX5_copy cX5_copy 2 none) rm_X5_copy (va_Pc [.ref a_P, .ref a_O] (PB G (cs_X5_copy G a_P a_P_meeting a_P_deed a_P_folk a_P_tape a_P_waiting a_O a_O_meeting a_O_deed a_O_folk a_O_tape a_O_waiting a_O_meeting_signs a_O_meeting_numbers a_O_meeting_pile a_P_meeting_signs a_P_meeting_numbers a_P_meeting_pile a_O_deed_signs a_O_deed_numbers a_O_deed_pile a_P_deed_signs a_P_deed_numbers a_P_deed_pile a_O_folk_kind a_O_folk_m a_O_folk_at a_O_folk_free a_O_folk_gloved a_O_folk_deeds a_O_folk_handed a_O_folk_crowd a_P_folk_kind a_P_folk_m a_P_folk_at a_P_folk_free a_P_folk_gloved a_P_folk_deeds a_P_folk_handed a_P_folk_crowd a_P_tape_items a_O_tape_items a_P_waiting_items a_O_waiting_items P_z O_z O_meeting_size P_meeting_size O_meeting_signs P_meeting_signs O_meeting_numbers P_meeting_numbers O_deed_size P_deed_size O_deed_signs P_deed_signs O_deed_numbers P_deed_numbers O_folk_size O_folk_step O_folk_loss P_folk_size P_folk_step P_folk_loss O_folk_kind P_folk_kind O_folk_m P_folk_m O_folk_at P_folk_at O_folk_free P_folk_free O_folk_gloved P_folk_gloved O_folk_deeds P_folk_deeds P_tape_size P_tape_items O_tape_size O_tape_items P_waiting_size P_waiting_items O_waiting_size O_waiting_items) sz)) (qc_X5_copy G a_P a_P_meeting a_P_deed a_P_folk a_P_tape a_P_waiting a_O a_O_meeting a_O_deed a_O_folk a_O_tape a_O_waiting a_O_meeting_signs a_O_meeting_numbers a_O_meeting_pile a_P_meeting_signs a_P_meeting_numbers a_P_meeting_pile a_O_deed_signs a_O_deed_numbers a_O_deed_pile a_P_deed_signs a_P_deed_numbers a_P_deed_pile a_O_folk_kind a_O_folk_m a_O_folk_at a_O_folk_free a_O_folk_gloved a_O_folk_deeds a_O_folk_handed a_O_folk_crowd a_P_folk_kind a_P_folk_m a_P_folk_at a_P_folk_free a_P_folk_gloved a_P_folk_deeds a_P_folk_handed a_P_folk_crowd a_P_tape_items a_O_tape_items a_P_waiting_items a_O_waiting_items O_z O_meeting_size O_meeting_signs O_meeting_numbers O_deed_size O_deed_signs O_deed_numbers O_folk_size O_folk_step O_folk_loss O_folk_kind O_folk_m O_folk_at O_folk_free O_folk_gloved O_folk_deeds O_tape_size O_tape_items O_waiting_size O_waiting_items (va_A (cs_X5_copy G a_P a_P_meeting a_P_deed a_P_folk a_P_tape a_P_waiting a_O a_O_meeting a_O_deed a_O_folk a_O_tape a_O_waiting a_O_meeting_signs a_O_meeting_numbers a_O_meeting_pile a_P_meeting_signs a_P_meeting_numbers a_P_meeting_pile a_O_deed_signs a_O_deed_numbers a_O_deed_pile a_P_deed_signs a_P_deed_numbers a_P_deed_pile a_O_folk_kind a_O_folk_m a_O_folk_at a_O_folk_free a_O_folk_gloved a_O_folk_deeds a_O_folk_handed a_O_folk_crowd a_P_folk_kind a_P_folk_m a_P_folk_at a_P_folk_free a_P_folk_gloved a_P_folk_deeds a_P_folk_handed a_P_folk_crowd a_P_tape_items a_O_tape_items a_P_waiting_items a_O_waiting_items P_z O_z O_meeting_size P_meeting_size O_meeting_signs P_meeting_signs O_meeting_numbers P_meeting_numbers O_deed_size P_deed_size O_deed_signs P_deed_signs O_deed_numbers P_deed_numbers O_folk_size O_folk_step O_folk_loss P_folk_size P_folk_step P_folk_loss O_folk_kind P_folk_kind O_folk_m P_folk_m O_folk_at P_folk_at O_folk_free P_folk_free O_folk_gloved P_folk_gloved O_folk_deeds P_folk_deeds P_tape_size P_tape_items O_tape_size O_tape_items P_waiting_size P_waiting_items O_waiting_size O_waiting_items) sz) Q) 0 0 (va_A (cs_X5_copy G a_P a_P_meeting a_P_deed a_P_folk a_P_tape a_P_waiting a_O a_O_meeting a_O_deed a_O_folk a_O_tape a_O_waiting a_O_meeting_signs a_O_meeting_numbers a_O_meeting_pile a_P_meeting_signs a_P_meeting_numbers a_P_meeting_pile a_O_deed_signs a_O_deed_numbers a_O_deed_pile a_P_deed_signs a_P_deed_numbers a_P_deed_pile a_O_folk_kind a_O_folk_m a_O_folk_at a_O_folk_free a_O_folk_gloved a_O_folk_deeds a_O_folk_handed a_O_folk_crowd a_P_folk_kind a_P_folk_m a_P_folk_at a_P_folk_free a_P_folk_gloved a_P_folk_deeds a_P_folk_handed a_P_folk_crowd a_P_tape_items a_O_tape_items a_P_waiting_items a_O_waiting_items P_z O_z O_meeting_size P_meeting_size O_meeting_signs P_meeting_signs O_meeting_numbers P_meeting_numbers O_deed_size P_deed_size O_deed_signs P_deed_signs O_deed_numbers P_deed_numbers O_folk_size O_folk_step O_folk_loss P_folk_size P_folk_step P_folk_loss O_folk_kind P_folk_kind O_folk_m P_folk_m O_folk_at P_folk_at O_folk_free P_folk_free O_folk_gloved P_folk_gloved O_folk_deeds P_folk_deeds P_tape_size P_tape_items O_tape_size O_tape_items P_waiting_size P_waiting_items O_waiting_size O_waiting_items) sz) := by
  refine x_start pn_X5 (Nat.le_of_ble_eq_true rfl) (fun p e s m below meth c ls C hn hl hB => ?_)
  have I := iv_start hB
  generalize va_A (cs_X5_copy G a_P a_P_meeting a_P_deed a_P_folk a_P_tape a_P_waiting a_O a_O_meeting a_O_deed a_O_folk a_O_tape a_O_waiting a_O_meeting_signs a_O_meeting_numbers a_O_meeting_pile a_P_meeting_signs a_P_meeting_numbers a_P_meeting_pile a_O_deed_signs a_O_deed_numbers a_O_deed_pile a_P_deed_signs a_P_deed_numbers a_P_deed_pile a_O_folk_kind a_O_folk_m a_O_folk_at a_O_folk_free a_O_folk_gloved a_O_folk_deeds a_O_folk_handed a_O_folk_crowd a_P_folk_kind a_P_folk_m a_P_folk_at a_P_folk_free a_P_folk_gloved a_P_folk_deeds a_P_folk_handed a_P_folk_crowd a_P_tape_items a_O_tape_items a_P_waiting_items a_O_waiting_items P_z O_z O_meeting_size P_meeting_size O_meeting_signs P_meeting_signs O_meeting_numbers P_meeting_numbers O_deed_size P_deed_size O_deed_signs P_deed_signs O_deed_numbers P_deed_numbers O_folk_size O_folk_step O_folk_loss P_folk_size P_folk_step P_folk_loss O_folk_kind P_folk_kind O_folk_m P_folk_m O_folk_at P_folk_at O_folk_free P_folk_free O_folk_gloved P_folk_gloved O_folk_deeds P_folk_deeds P_tape_size P_tape_items O_tape_size O_tape_items P_waiting_size P_waiting_items O_waiting_size O_waiting_items) sz = A at I ⊢
  have C : Cx p s m [.ref a_P, .ref a_O].toArray meth c cX5_copy 2 RX5 none := C
  have hl : lv_has ls 2 [(0, .ref a_P), (1, .ref a_O)] := hl
  refine x_aload_n C hl 0 dX5_copy_0 rfl ?_
  refine x_get C I.1 fl_X5_12 0 rfl rfl dX5_copy_1 ?_
  refine x_aload_n C hl 1 dX5_copy_4 rfl ?_
  refine x_get C I.1 fl_X5_12 1 rfl rfl dX5_copy_5 ?_
  refine x_muv (wk := cs_X3_copy G a_O_meeting a_O_meeting_signs a_O_meeting_numbers a_O_meeting_pile a_P_meeting a_P_meeting_signs a_P_meeting_numbers a_P_meeting_pile O_meeting_size P_meeting_size O_meeting_signs P_meeting_signs O_meeting_numbers P_meeting_numbers) (wr := [(a_P, .inr (5, [.ref a_P_meeting, .ref a_P_deed, .ref a_P_folk, .ref a_P_tape, .ref a_P_waiting, .int P_z])), (a_O, .inr (5, [.ref a_O_meeting, .ref a_O_deed, .ref a_O_folk, .ref a_O_tape, .ref a_O_waiting, .int O_z])), (a_O_deed, .inr (3, [.ref a_O_deed_signs, .ref a_O_deed_numbers, .ref a_O_deed_pile, .int O_deed_size])), (a_P_deed, .inr (3, [.ref a_P_deed_signs, .ref a_P_deed_numbers, .ref a_P_deed_pile, .int P_deed_size])), (a_O_deed_signs, .inl (cI G, 50, .inl O_deed_signs)), (a_P_deed_signs, .inl (cI G, 50, .inl P_deed_signs)), (a_O_deed_numbers, .inl (cI G, 50, .inl O_deed_numbers)), (a_P_deed_numbers, .inl (cI G, 50, .inl P_deed_numbers)), (a_O_folk, .inr (0, [.ref a_O_meeting, .ref a_O_deed, .ref a_O_folk_kind, .ref a_O_folk_m, .ref a_O_folk_at, .ref a_O_folk_free, .ref a_O_folk_gloved, .ref a_O_folk_deeds, .ref a_O_folk_handed, .ref a_O_folk_crowd, .int O_folk_size, .int O_folk_step, .int O_folk_loss])), (a_P_folk, .inr (0, [.ref a_P_meeting, .ref a_P_deed, .ref a_P_folk_kind, .ref a_P_folk_m, .ref a_P_folk_at, .ref a_P_folk_free, .ref a_P_folk_gloved, .ref a_P_folk_deeds, .ref a_P_folk_handed, .ref a_P_folk_crowd, .int P_folk_size, .int P_folk_step, .int P_folk_loss])), (a_O_folk_kind, .inl (cI G, 8, .inl O_folk_kind)), (a_P_folk_kind, .inl (cI G, 8, .inl P_folk_kind)), (a_O_folk_m, .inl (cI G, 8, .inl O_folk_m)), (a_P_folk_m, .inl (cI G, 8, .inl P_folk_m)), (a_O_folk_at, .inl (cI G, 8, .inl O_folk_at)), (a_P_folk_at, .inl (cI G, 8, .inl P_folk_at)), (a_O_folk_free, .inl (cI G, 8, .inl O_folk_free)), (a_P_folk_free, .inl (cI G, 8, .inl P_folk_free)), (a_O_folk_gloved, .inl (cI G, 8, .inl O_folk_gloved)), (a_P_folk_gloved, .inl (cI G, 8, .inl P_folk_gloved)), (a_O_folk_deeds, .inl (cI G, 8, .inl O_folk_deeds)), (a_P_folk_deeds, .inl (cI G, 8, .inl P_folk_deeds)), (a_P_tape, .inr (4, [.ref a_P_tape_items, .int P_tape_size])), (a_P_tape_items, .inl (cI G, 50, .inl P_tape_items)), (a_O_tape, .inr (4, [.ref a_O_tape_items, .int O_tape_size])), (a_O_tape_items, .inl (cI G, 50, .inl O_tape_items)), (a_P_waiting, .inr (4, [.ref a_P_waiting_items, .int P_waiting_size])), (a_P_waiting_items, .inl (cI G, 20, .inl P_waiting_items)), (a_O_waiting, .inr (4, [.ref a_O_waiting_items, .int O_waiting_size])), (a_O_waiting_items, .inl (cI G, 20, .inl O_waiting_items))]) (isC := [2, 3, 4, 5, 6, 7]) (isR := [0, 1, 8, 9, 10, 11, 12, 13, 14, 15, 16, 17, 18, 19, 20, 21, 22, 23, 24, 25, 26, 27, 28, 29, 30, 31, 32, 33, 34, 35]) I ⟨⟨rfl, rfl⟩, rfl, rfl, rfl⟩ [0, 1, 30, 31, 32, 33, 34, 35, 2, 3, 4, 5, 6, 7, 8, 9, 10, 11, 12, 13, 14, 15, 16, 17, 18, 19, 20, 21, 22, 23, 24, 25, 26, 27, 28, 29] (fun u => cs_X5_copy G a_P a_P_meeting a_P_deed a_P_folk a_P_tape a_P_waiting a_O a_O_meeting a_O_deed a_O_folk a_O_tape a_O_waiting a_O_meeting_signs a_O_meeting_numbers a_O_meeting_pile a_P_meeting_signs a_P_meeting_numbers a_P_meeting_pile a_O_deed_signs a_O_deed_numbers a_O_deed_pile a_P_deed_signs a_P_deed_numbers a_P_deed_pile a_O_folk_kind a_O_folk_m a_O_folk_at a_O_folk_free a_O_folk_gloved a_O_folk_deeds a_O_folk_handed a_O_folk_crowd a_P_folk_kind a_P_folk_m a_P_folk_at a_P_folk_free a_P_folk_gloved a_P_folk_deeds a_P_folk_handed a_P_folk_crowd a_P_tape_items a_O_tape_items a_P_waiting_items a_O_waiting_items P_z O_z O_meeting_size u.1 O_meeting_signs u.2.1 O_meeting_numbers u.2.2 O_deed_size P_deed_size O_deed_signs P_deed_signs O_deed_numbers P_deed_numbers O_folk_size O_folk_step O_folk_loss P_folk_size P_folk_step P_folk_loss O_folk_kind P_folk_kind O_folk_m P_folk_m O_folk_at P_folk_at O_folk_free P_folk_free O_folk_gloved P_folk_gloved O_folk_deeds P_folk_deeds P_tape_size P_tape_items O_tape_size O_tape_items P_waiting_size P_waiting_items O_waiting_size O_waiting_items) (fun _ => rfl) rfl (run_V (As := [.ref a_O_meeting]) (rest := []) C hl (wk_X3_copy l G a_O_meeting a_O_meeting_signs a_O_meeting_numbers a_O_meeting_pile a_P_meeting a_P_meeting_signs a_P_meeting_numbers a_P_meeting_pile s.heap.size O_meeting_size P_meeting_size O_meeting_signs P_meeting_signs O_meeting_numbers P_meeting_numbers _ hw) gm_X5_46 ⟨⟨rfl, rfl⟩, cn_X3_copy, ⟨(Nat.le_of_ble_eq_true rfl), (Nat.le_of_ble_eq_true rfl)⟩⟩ (pb_blind _ _ _ _) (x_recv I.1 3 rfl rfl) (pb_of I [2, 3, 4, 5, 6, 7] rfl rfl) rfl rfl (Nat.le_of_ble_eq_true rfl) ⟨Nat.le_of_ble_eq_true rfl, Nat.le_of_ble_eq_true rfl⟩ dX5_copy_8) (fun u Hx lx hw I => ?_)
  obtain ⟨o1, o2, o3⟩ := u
  have I : Iv G A s (cs_X5_copy G a_P a_P_meeting a_P_deed a_P_folk a_P_tape a_P_waiting a_O a_O_meeting a_O_deed a_O_folk a_O_tape a_O_waiting a_O_meeting_signs a_O_meeting_numbers a_O_meeting_pile a_P_meeting_signs a_P_meeting_numbers a_P_meeting_pile a_O_deed_signs a_O_deed_numbers a_O_deed_pile a_P_deed_signs a_P_deed_numbers a_P_deed_pile a_O_folk_kind a_O_folk_m a_O_folk_at a_O_folk_free a_O_folk_gloved a_O_folk_deeds a_O_folk_handed a_O_folk_crowd a_P_folk_kind a_P_folk_m a_P_folk_at a_P_folk_free a_P_folk_gloved a_P_folk_deeds a_P_folk_handed a_P_folk_crowd a_P_tape_items a_O_tape_items a_P_waiting_items a_O_waiting_items P_z O_z O_meeting_size o1 O_meeting_signs o2 O_meeting_numbers o3 O_deed_size P_deed_size O_deed_signs P_deed_signs O_deed_numbers P_deed_numbers O_folk_size O_folk_step O_folk_loss P_folk_size P_folk_step P_folk_loss O_folk_kind P_folk_kind O_folk_m P_folk_m O_folk_at P_folk_at O_folk_free P_folk_free O_folk_gloved P_folk_gloved O_folk_deeds P_folk_deeds P_tape_size P_tape_items O_tape_size O_tape_items P_waiting_size P_waiting_items O_waiting_size O_waiting_items) Hx lx := I
  refine x_aload_n C hl 0 dX5_copy_11 rfl ?_
  refine x_get C I.1 fl_X5_18 0 rfl rfl dX5_copy_12 ?_
  refine x_aload_n C hl 1 dX5_copy_15 rfl ?_
  refine x_get C I.1 fl_X5_18 1 rfl rfl dX5_copy_16 ?_
  refine x_muv (wk := cs_X3_copy G a_O_deed a_O_deed_signs a_O_deed_numbers a_O_deed_pile a_P_deed a_P_deed_signs a_P_deed_numbers a_P_deed_pile O_deed_size P_deed_size O_deed_signs P_deed_signs O_deed_numbers P_deed_numbers) (wr := [(a_P, .inr (5, [.ref a_P_meeting, .ref a_P_deed, .ref a_P_folk, .ref a_P_tape, .ref a_P_waiting, .int P_z])), (a_O, .inr (5, [.ref a_O_meeting, .ref a_O_deed, .ref a_O_folk, .ref a_O_tape, .ref a_O_waiting, .int O_z])), (a_O_meeting, .inr (3, [.ref a_O_meeting_signs, .ref a_O_meeting_numbers, .ref a_O_meeting_pile, .int O_meeting_size])), (a_P_meeting, .inr (3, [.ref a_P_meeting_signs, .ref a_P_meeting_numbers, .ref a_P_meeting_pile, .int o1])), (a_O_meeting_signs, .inl (cI G, 50, .inl O_meeting_signs)), (a_P_meeting_signs, .inl (cI G, 50, .inl o2)), (a_O_meeting_numbers, .inl (cI G, 50, .inl O_meeting_numbers)), (a_P_meeting_numbers, .inl (cI G, 50, .inl o3)), (a_O_folk, .inr (0, [.ref a_O_meeting, .ref a_O_deed, .ref a_O_folk_kind, .ref a_O_folk_m, .ref a_O_folk_at, .ref a_O_folk_free, .ref a_O_folk_gloved, .ref a_O_folk_deeds, .ref a_O_folk_handed, .ref a_O_folk_crowd, .int O_folk_size, .int O_folk_step, .int O_folk_loss])), (a_P_folk, .inr (0, [.ref a_P_meeting, .ref a_P_deed, .ref a_P_folk_kind, .ref a_P_folk_m, .ref a_P_folk_at, .ref a_P_folk_free, .ref a_P_folk_gloved, .ref a_P_folk_deeds, .ref a_P_folk_handed, .ref a_P_folk_crowd, .int P_folk_size, .int P_folk_step, .int P_folk_loss])), (a_O_folk_kind, .inl (cI G, 8, .inl O_folk_kind)), (a_P_folk_kind, .inl (cI G, 8, .inl P_folk_kind)), (a_O_folk_m, .inl (cI G, 8, .inl O_folk_m)), (a_P_folk_m, .inl (cI G, 8, .inl P_folk_m)), (a_O_folk_at, .inl (cI G, 8, .inl O_folk_at)), (a_P_folk_at, .inl (cI G, 8, .inl P_folk_at)), (a_O_folk_free, .inl (cI G, 8, .inl O_folk_free)), (a_P_folk_free, .inl (cI G, 8, .inl P_folk_free)), (a_O_folk_gloved, .inl (cI G, 8, .inl O_folk_gloved)), (a_P_folk_gloved, .inl (cI G, 8, .inl P_folk_gloved)), (a_O_folk_deeds, .inl (cI G, 8, .inl O_folk_deeds)), (a_P_folk_deeds, .inl (cI G, 8, .inl P_folk_deeds)), (a_P_tape, .inr (4, [.ref a_P_tape_items, .int P_tape_size])), (a_P_tape_items, .inl (cI G, 50, .inl P_tape_items)), (a_O_tape, .inr (4, [.ref a_O_tape_items, .int O_tape_size])), (a_O_tape_items, .inl (cI G, 50, .inl O_tape_items)), (a_P_waiting, .inr (4, [.ref a_P_waiting_items, .int P_waiting_size])), (a_P_waiting_items, .inl (cI G, 20, .inl P_waiting_items)), (a_O_waiting, .inr (4, [.ref a_O_waiting_items, .int O_waiting_size])), (a_O_waiting_items, .inl (cI G, 20, .inl O_waiting_items))]) (isC := [8, 9, 10, 11, 12, 13]) (isR := [0, 1, 2, 3, 4, 5, 6, 7, 14, 15, 16, 17, 18, 19, 20, 21, 22, 23, 24, 25, 26, 27, 28, 29, 30, 31, 32, 33, 34, 35]) I ⟨⟨rfl, rfl⟩, rfl, rfl, rfl⟩ [0, 1, 2, 3, 4, 5, 6, 7, 30, 31, 32, 33, 34, 35, 8, 9, 10, 11, 12, 13, 14, 15, 16, 17, 18, 19, 20, 21, 22, 23, 24, 25, 26, 27, 28, 29] (fun u => cs_X5_copy G a_P a_P_meeting a_P_deed a_P_folk a_P_tape a_P_waiting a_O a_O_meeting a_O_deed a_O_folk a_O_tape a_O_waiting a_O_meeting_signs a_O_meeting_numbers a_O_meeting_pile a_P_meeting_signs a_P_meeting_numbers a_P_meeting_pile a_O_deed_signs a_O_deed_numbers a_O_deed_pile a_P_deed_signs a_P_deed_numbers a_P_deed_pile a_O_folk_kind a_O_folk_m a_O_folk_at a_O_folk_free a_O_folk_gloved a_O_folk_deeds a_O_folk_handed a_O_folk_crowd a_P_folk_kind a_P_folk_m a_P_folk_at a_P_folk_free a_P_folk_gloved a_P_folk_deeds a_P_folk_handed a_P_folk_crowd a_P_tape_items a_O_tape_items a_P_waiting_items a_O_waiting_items P_z O_z O_meeting_size o1 O_meeting_signs o2 O_meeting_numbers o3 O_deed_size u.1 O_deed_signs u.2.1 O_deed_numbers u.2.2 O_folk_size O_folk_step O_folk_loss P_folk_size P_folk_step P_folk_loss O_folk_kind P_folk_kind O_folk_m P_folk_m O_folk_at P_folk_at O_folk_free P_folk_free O_folk_gloved P_folk_gloved O_folk_deeds P_folk_deeds P_tape_size P_tape_items O_tape_size O_tape_items P_waiting_size P_waiting_items O_waiting_size O_waiting_items) (fun _ => rfl) rfl (run_V (As := [.ref a_O_deed]) (rest := []) C hl (wk_X3_copy l G a_O_deed a_O_deed_signs a_O_deed_numbers a_O_deed_pile a_P_deed a_P_deed_signs a_P_deed_numbers a_P_deed_pile Hx.size O_deed_size P_deed_size O_deed_signs P_deed_signs O_deed_numbers P_deed_numbers _ hw) gm_X5_46 ⟨⟨rfl, rfl⟩, cn_X3_copy, ⟨(Nat.le_of_ble_eq_true rfl), (Nat.le_of_ble_eq_true rfl)⟩⟩ (pb_blind _ _ _ _) (x_recv I.1 9 rfl rfl) (pb_of I [8, 9, 10, 11, 12, 13] rfl rfl) rfl rfl (Nat.le_of_ble_eq_true rfl) ⟨Nat.le_of_ble_eq_true rfl, Nat.le_of_ble_eq_true rfl⟩ dX5_copy_19) (fun u Hx lx hw I => ?_)
  obtain ⟨o4, o5, o6⟩ := u
  have I : Iv G A s (cs_X5_copy G a_P a_P_meeting a_P_deed a_P_folk a_P_tape a_P_waiting a_O a_O_meeting a_O_deed a_O_folk a_O_tape a_O_waiting a_O_meeting_signs a_O_meeting_numbers a_O_meeting_pile a_P_meeting_signs a_P_meeting_numbers a_P_meeting_pile a_O_deed_signs a_O_deed_numbers a_O_deed_pile a_P_deed_signs a_P_deed_numbers a_P_deed_pile a_O_folk_kind a_O_folk_m a_O_folk_at a_O_folk_free a_O_folk_gloved a_O_folk_deeds a_O_folk_handed a_O_folk_crowd a_P_folk_kind a_P_folk_m a_P_folk_at a_P_folk_free a_P_folk_gloved a_P_folk_deeds a_P_folk_handed a_P_folk_crowd a_P_tape_items a_O_tape_items a_P_waiting_items a_O_waiting_items P_z O_z O_meeting_size o1 O_meeting_signs o2 O_meeting_numbers o3 O_deed_size o4 O_deed_signs o5 O_deed_numbers o6 O_folk_size O_folk_step O_folk_loss P_folk_size P_folk_step P_folk_loss O_folk_kind P_folk_kind O_folk_m P_folk_m O_folk_at P_folk_at O_folk_free P_folk_free O_folk_gloved P_folk_gloved O_folk_deeds P_folk_deeds P_tape_size P_tape_items O_tape_size O_tape_items P_waiting_size P_waiting_items O_waiting_size O_waiting_items) Hx lx := I
  refine x_aload_n C hl 0 dX5_copy_22 rfl ?_
  refine x_get C I.1 fl_X5_26 0 rfl rfl dX5_copy_23 ?_
  refine x_aload_n C hl 1 dX5_copy_26 rfl ?_
  refine x_get C I.1 fl_X5_26 1 rfl rfl dX5_copy_27 ?_
  refine x_muv (wk := cs_X0_copy G a_O_folk a_O_meeting a_O_deed a_O_folk_kind a_O_folk_m a_O_folk_at a_O_folk_free a_O_folk_gloved a_O_folk_deeds a_O_folk_handed a_O_folk_crowd a_P_folk a_P_meeting a_P_deed a_P_folk_kind a_P_folk_m a_P_folk_at a_P_folk_free a_P_folk_gloved a_P_folk_deeds a_P_folk_handed a_P_folk_crowd O_folk_size O_folk_step O_folk_loss P_folk_size P_folk_step P_folk_loss O_folk_kind P_folk_kind O_folk_m P_folk_m O_folk_at P_folk_at O_folk_free P_folk_free O_folk_gloved P_folk_gloved O_folk_deeds P_folk_deeds) (wr := [(a_P, .inr (5, [.ref a_P_meeting, .ref a_P_deed, .ref a_P_folk, .ref a_P_tape, .ref a_P_waiting, .int P_z])), (a_O, .inr (5, [.ref a_O_meeting, .ref a_O_deed, .ref a_O_folk, .ref a_O_tape, .ref a_O_waiting, .int O_z])), (a_O_meeting, .inr (3, [.ref a_O_meeting_signs, .ref a_O_meeting_numbers, .ref a_O_meeting_pile, .int O_meeting_size])), (a_P_meeting, .inr (3, [.ref a_P_meeting_signs, .ref a_P_meeting_numbers, .ref a_P_meeting_pile, .int o1])), (a_O_meeting_signs, .inl (cI G, 50, .inl O_meeting_signs)), (a_P_meeting_signs, .inl (cI G, 50, .inl o2)), (a_O_meeting_numbers, .inl (cI G, 50, .inl O_meeting_numbers)), (a_P_meeting_numbers, .inl (cI G, 50, .inl o3)), (a_O_deed, .inr (3, [.ref a_O_deed_signs, .ref a_O_deed_numbers, .ref a_O_deed_pile, .int O_deed_size])), (a_P_deed, .inr (3, [.ref a_P_deed_signs, .ref a_P_deed_numbers, .ref a_P_deed_pile, .int o4])), (a_O_deed_signs, .inl (cI G, 50, .inl O_deed_signs)), (a_P_deed_signs, .inl (cI G, 50, .inl o5)), (a_O_deed_numbers, .inl (cI G, 50, .inl O_deed_numbers)), (a_P_deed_numbers, .inl (cI G, 50, .inl o6)), (a_P_tape, .inr (4, [.ref a_P_tape_items, .int P_tape_size])), (a_P_tape_items, .inl (cI G, 50, .inl P_tape_items)), (a_O_tape, .inr (4, [.ref a_O_tape_items, .int O_tape_size])), (a_O_tape_items, .inl (cI G, 50, .inl O_tape_items)), (a_P_waiting, .inr (4, [.ref a_P_waiting_items, .int P_waiting_size])), (a_P_waiting_items, .inl (cI G, 20, .inl P_waiting_items)), (a_O_waiting, .inr (4, [.ref a_O_waiting_items, .int O_waiting_size])), (a_O_waiting_items, .inl (cI G, 20, .inl O_waiting_items))]) (isC := [14, 15, 16, 17, 18, 19, 20, 21, 22, 23, 24, 25, 26, 27]) (isR := [0, 1, 2, 3, 4, 5, 6, 7, 8, 9, 10, 11, 12, 13, 28, 29, 30, 31, 32, 33, 34, 35]) I ⟨⟨rfl, rfl⟩, rfl, rfl, rfl⟩ [0, 1, 2, 3, 4, 5, 6, 7, 8, 9, 10, 11, 12, 13, 22, 23, 24, 25, 26, 27, 28, 29, 30, 31, 32, 33, 34, 35, 14, 15, 16, 17, 18, 19, 20, 21] (fun u => cs_X5_copy G a_P a_P_meeting a_P_deed a_P_folk a_P_tape a_P_waiting a_O a_O_meeting a_O_deed a_O_folk a_O_tape a_O_waiting a_O_meeting_signs a_O_meeting_numbers a_O_meeting_pile a_P_meeting_signs a_P_meeting_numbers a_P_meeting_pile a_O_deed_signs a_O_deed_numbers a_O_deed_pile a_P_deed_signs a_P_deed_numbers a_P_deed_pile a_O_folk_kind a_O_folk_m a_O_folk_at a_O_folk_free a_O_folk_gloved a_O_folk_deeds a_O_folk_handed a_O_folk_crowd a_P_folk_kind a_P_folk_m a_P_folk_at a_P_folk_free a_P_folk_gloved a_P_folk_deeds a_P_folk_handed a_P_folk_crowd a_P_tape_items a_O_tape_items a_P_waiting_items a_O_waiting_items P_z O_z O_meeting_size o1 O_meeting_signs o2 O_meeting_numbers o3 O_deed_size o4 O_deed_signs o5 O_deed_numbers o6 O_folk_size O_folk_step O_folk_loss u.1 u.2.1 u.2.2.1 O_folk_kind u.2.2.2.1 O_folk_m u.2.2.2.2.1 O_folk_at u.2.2.2.2.2.1 O_folk_free u.2.2.2.2.2.2.1 O_folk_gloved u.2.2.2.2.2.2.2.1 O_folk_deeds u.2.2.2.2.2.2.2.2 P_tape_size P_tape_items O_tape_size O_tape_items P_waiting_size P_waiting_items O_waiting_size O_waiting_items) (fun _ => rfl) rfl (run_V (As := [.ref a_O_folk]) (rest := []) C hl (wk_X0_copy l G a_O_folk a_O_meeting a_O_deed a_O_folk_kind a_O_folk_m a_O_folk_at a_O_folk_free a_O_folk_gloved a_O_folk_deeds a_O_folk_handed a_O_folk_crowd a_P_folk a_P_meeting a_P_deed a_P_folk_kind a_P_folk_m a_P_folk_at a_P_folk_free a_P_folk_gloved a_P_folk_deeds a_P_folk_handed a_P_folk_crowd Hx.size O_folk_size O_folk_step O_folk_loss P_folk_size P_folk_step P_folk_loss O_folk_kind P_folk_kind O_folk_m P_folk_m O_folk_at P_folk_at O_folk_free P_folk_free O_folk_gloved P_folk_gloved O_folk_deeds P_folk_deeds _ hw) gm_X5_50 ⟨⟨rfl, rfl⟩, cn_X0_copy, ⟨(Nat.le_of_ble_eq_true rfl), (Nat.le_of_ble_eq_true rfl)⟩⟩ (pb_blind _ _ _ _) (x_recv I.1 15 rfl rfl) (pb_of I [14, 15, 16, 17, 18, 19, 20, 21, 22, 23, 24, 25, 26, 27] rfl rfl) rfl rfl (Nat.le_of_ble_eq_true rfl) ⟨Nat.le_of_ble_eq_true rfl, Nat.le_of_ble_eq_true rfl⟩ dX5_copy_30) (fun u Hx lx hw I => ?_)
  obtain ⟨o7, o8, o9, o10, o11, o12, o13, o14, o15⟩ := u
  have I : Iv G A s (cs_X5_copy G a_P a_P_meeting a_P_deed a_P_folk a_P_tape a_P_waiting a_O a_O_meeting a_O_deed a_O_folk a_O_tape a_O_waiting a_O_meeting_signs a_O_meeting_numbers a_O_meeting_pile a_P_meeting_signs a_P_meeting_numbers a_P_meeting_pile a_O_deed_signs a_O_deed_numbers a_O_deed_pile a_P_deed_signs a_P_deed_numbers a_P_deed_pile a_O_folk_kind a_O_folk_m a_O_folk_at a_O_folk_free a_O_folk_gloved a_O_folk_deeds a_O_folk_handed a_O_folk_crowd a_P_folk_kind a_P_folk_m a_P_folk_at a_P_folk_free a_P_folk_gloved a_P_folk_deeds a_P_folk_handed a_P_folk_crowd a_P_tape_items a_O_tape_items a_P_waiting_items a_O_waiting_items P_z O_z O_meeting_size o1 O_meeting_signs o2 O_meeting_numbers o3 O_deed_size o4 O_deed_signs o5 O_deed_numbers o6 O_folk_size O_folk_step O_folk_loss o7 o8 o9 O_folk_kind o10 O_folk_m o11 O_folk_at o12 O_folk_free o13 O_folk_gloved o14 O_folk_deeds o15 P_tape_size P_tape_items O_tape_size O_tape_items P_waiting_size P_waiting_items O_waiting_size O_waiting_items) Hx lx := I
  refine x_aload_n C hl 0 dX5_copy_33 rfl ?_
  refine x_get C I.1 fl_X5_35 0 rfl rfl dX5_copy_34 ?_
  refine x_aload_n C hl 1 dX5_copy_37 rfl ?_
  refine x_get C I.1 fl_X5_35 1 rfl rfl dX5_copy_38 ?_
  refine x_muv (wk := cs_X4_copy G a_P_tape a_P_tape_items a_O_tape a_O_tape_items 50 P_tape_size P_tape_items O_tape_size O_tape_items) (wr := [(a_P, .inr (5, [.ref a_P_meeting, .ref a_P_deed, .ref a_P_folk, .ref a_P_tape, .ref a_P_waiting, .int P_z])), (a_O, .inr (5, [.ref a_O_meeting, .ref a_O_deed, .ref a_O_folk, .ref a_O_tape, .ref a_O_waiting, .int O_z])), (a_O_meeting, .inr (3, [.ref a_O_meeting_signs, .ref a_O_meeting_numbers, .ref a_O_meeting_pile, .int O_meeting_size])), (a_P_meeting, .inr (3, [.ref a_P_meeting_signs, .ref a_P_meeting_numbers, .ref a_P_meeting_pile, .int o1])), (a_O_meeting_signs, .inl (cI G, 50, .inl O_meeting_signs)), (a_P_meeting_signs, .inl (cI G, 50, .inl o2)), (a_O_meeting_numbers, .inl (cI G, 50, .inl O_meeting_numbers)), (a_P_meeting_numbers, .inl (cI G, 50, .inl o3)), (a_O_deed, .inr (3, [.ref a_O_deed_signs, .ref a_O_deed_numbers, .ref a_O_deed_pile, .int O_deed_size])), (a_P_deed, .inr (3, [.ref a_P_deed_signs, .ref a_P_deed_numbers, .ref a_P_deed_pile, .int o4])), (a_O_deed_signs, .inl (cI G, 50, .inl O_deed_signs)), (a_P_deed_signs, .inl (cI G, 50, .inl o5)), (a_O_deed_numbers, .inl (cI G, 50, .inl O_deed_numbers)), (a_P_deed_numbers, .inl (cI G, 50, .inl o6)), (a_O_folk, .inr (0, [.ref a_O_meeting, .ref a_O_deed, .ref a_O_folk_kind, .ref a_O_folk_m, .ref a_O_folk_at, .ref a_O_folk_free, .ref a_O_folk_gloved, .ref a_O_folk_deeds, .ref a_O_folk_handed, .ref a_O_folk_crowd, .int O_folk_size, .int O_folk_step, .int O_folk_loss])), (a_P_folk, .inr (0, [.ref a_P_meeting, .ref a_P_deed, .ref a_P_folk_kind, .ref a_P_folk_m, .ref a_P_folk_at, .ref a_P_folk_free, .ref a_P_folk_gloved, .ref a_P_folk_deeds, .ref a_P_folk_handed, .ref a_P_folk_crowd, .int o7, .int o8, .int o9])), (a_O_folk_kind, .inl (cI G, 8, .inl O_folk_kind)), (a_P_folk_kind, .inl (cI G, 8, .inl o10)), (a_O_folk_m, .inl (cI G, 8, .inl O_folk_m)), (a_P_folk_m, .inl (cI G, 8, .inl o11)), (a_O_folk_at, .inl (cI G, 8, .inl O_folk_at)), (a_P_folk_at, .inl (cI G, 8, .inl o12)), (a_O_folk_free, .inl (cI G, 8, .inl O_folk_free)), (a_P_folk_free, .inl (cI G, 8, .inl o13)), (a_O_folk_gloved, .inl (cI G, 8, .inl O_folk_gloved)), (a_P_folk_gloved, .inl (cI G, 8, .inl o14)), (a_O_folk_deeds, .inl (cI G, 8, .inl O_folk_deeds)), (a_P_folk_deeds, .inl (cI G, 8, .inl o15)), (a_P_waiting, .inr (4, [.ref a_P_waiting_items, .int P_waiting_size])), (a_P_waiting_items, .inl (cI G, 20, .inl P_waiting_items)), (a_O_waiting, .inr (4, [.ref a_O_waiting_items, .int O_waiting_size])), (a_O_waiting_items, .inl (cI G, 20, .inl O_waiting_items))]) (isC := [28, 29, 30, 31]) (isR := [0, 1, 2, 3, 4, 5, 6, 7, 8, 9, 10, 11, 12, 13, 14, 15, 16, 17, 18, 19, 20, 21, 22, 23, 24, 25, 26, 27, 32, 33, 34, 35]) I ⟨⟨rfl, rfl⟩, rfl, rfl, rfl⟩ [0, 1, 2, 3, 4, 5, 6, 7, 8, 9, 10, 11, 12, 13, 14, 15, 16, 17, 18, 19, 20, 21, 22, 23, 24, 25, 26, 27, 32, 33, 34, 35, 28, 29, 30, 31] (fun u => cs_X5_copy G a_P a_P_meeting a_P_deed a_P_folk a_P_tape a_P_waiting a_O a_O_meeting a_O_deed a_O_folk a_O_tape a_O_waiting a_O_meeting_signs a_O_meeting_numbers a_O_meeting_pile a_P_meeting_signs a_P_meeting_numbers a_P_meeting_pile a_O_deed_signs a_O_deed_numbers a_O_deed_pile a_P_deed_signs a_P_deed_numbers a_P_deed_pile a_O_folk_kind a_O_folk_m a_O_folk_at a_O_folk_free a_O_folk_gloved a_O_folk_deeds a_O_folk_handed a_O_folk_crowd a_P_folk_kind a_P_folk_m a_P_folk_at a_P_folk_free a_P_folk_gloved a_P_folk_deeds a_P_folk_handed a_P_folk_crowd a_P_tape_items a_O_tape_items a_P_waiting_items a_O_waiting_items P_z O_z O_meeting_size o1 O_meeting_signs o2 O_meeting_numbers o3 O_deed_size o4 O_deed_signs o5 O_deed_numbers o6 O_folk_size O_folk_step O_folk_loss o7 o8 o9 O_folk_kind o10 O_folk_m o11 O_folk_at o12 O_folk_free o13 O_folk_gloved o14 O_folk_deeds o15 u.1 u.2 O_tape_size O_tape_items P_waiting_size P_waiting_items O_waiting_size O_waiting_items) (fun _ => rfl) rfl (run_V (As := [.ref a_O_tape]) (rest := []) C hl (wk_X4_copy l G a_P_tape a_P_tape_items a_O_tape a_O_tape_items Hx.size 50 P_tape_size P_tape_items O_tape_size O_tape_items _ hw) gm_X5_53 ⟨⟨rfl, rfl⟩, cn_X4_copy, ⟨(Nat.le_of_ble_eq_true rfl), (Nat.le_of_ble_eq_true rfl)⟩⟩ (pb_blind _ _ _ _) (x_recv I.1 28 rfl rfl) (pb_of I [28, 29, 30, 31] rfl rfl) rfl rfl (Nat.le_of_ble_eq_true rfl) ⟨Nat.le_of_ble_eq_true rfl, Nat.le_of_ble_eq_true rfl⟩ dX5_copy_41) (fun u Hx lx hw I => ?_)
  obtain ⟨o16, o17⟩ := u
  have I : Iv G A s (cs_X5_copy G a_P a_P_meeting a_P_deed a_P_folk a_P_tape a_P_waiting a_O a_O_meeting a_O_deed a_O_folk a_O_tape a_O_waiting a_O_meeting_signs a_O_meeting_numbers a_O_meeting_pile a_P_meeting_signs a_P_meeting_numbers a_P_meeting_pile a_O_deed_signs a_O_deed_numbers a_O_deed_pile a_P_deed_signs a_P_deed_numbers a_P_deed_pile a_O_folk_kind a_O_folk_m a_O_folk_at a_O_folk_free a_O_folk_gloved a_O_folk_deeds a_O_folk_handed a_O_folk_crowd a_P_folk_kind a_P_folk_m a_P_folk_at a_P_folk_free a_P_folk_gloved a_P_folk_deeds a_P_folk_handed a_P_folk_crowd a_P_tape_items a_O_tape_items a_P_waiting_items a_O_waiting_items P_z O_z O_meeting_size o1 O_meeting_signs o2 O_meeting_numbers o3 O_deed_size o4 O_deed_signs o5 O_deed_numbers o6 O_folk_size O_folk_step O_folk_loss o7 o8 o9 O_folk_kind o10 O_folk_m o11 O_folk_at o12 O_folk_free o13 O_folk_gloved o14 O_folk_deeds o15 o16 o17 O_tape_size O_tape_items P_waiting_size P_waiting_items O_waiting_size O_waiting_items) Hx lx := I
  refine x_aload_n C hl 0 dX5_copy_44 rfl ?_
  refine x_get C I.1 fl_X5_39 0 rfl rfl dX5_copy_45 ?_
  refine x_aload_n C hl 1 dX5_copy_48 rfl ?_
  refine x_get C I.1 fl_X5_39 1 rfl rfl dX5_copy_49 ?_
  refine x_muv (wk := cs_X4_copy G a_P_waiting a_P_waiting_items a_O_waiting a_O_waiting_items 20 P_waiting_size P_waiting_items O_waiting_size O_waiting_items) (wr := [(a_P, .inr (5, [.ref a_P_meeting, .ref a_P_deed, .ref a_P_folk, .ref a_P_tape, .ref a_P_waiting, .int P_z])), (a_O, .inr (5, [.ref a_O_meeting, .ref a_O_deed, .ref a_O_folk, .ref a_O_tape, .ref a_O_waiting, .int O_z])), (a_O_meeting, .inr (3, [.ref a_O_meeting_signs, .ref a_O_meeting_numbers, .ref a_O_meeting_pile, .int O_meeting_size])), (a_P_meeting, .inr (3, [.ref a_P_meeting_signs, .ref a_P_meeting_numbers, .ref a_P_meeting_pile, .int o1])), (a_O_meeting_signs, .inl (cI G, 50, .inl O_meeting_signs)), (a_P_meeting_signs, .inl (cI G, 50, .inl o2)), (a_O_meeting_numbers, .inl (cI G, 50, .inl O_meeting_numbers)), (a_P_meeting_numbers, .inl (cI G, 50, .inl o3)), (a_O_deed, .inr (3, [.ref a_O_deed_signs, .ref a_O_deed_numbers, .ref a_O_deed_pile, .int O_deed_size])), (a_P_deed, .inr (3, [.ref a_P_deed_signs, .ref a_P_deed_numbers, .ref a_P_deed_pile, .int o4])), (a_O_deed_signs, .inl (cI G, 50, .inl O_deed_signs)), (a_P_deed_signs, .inl (cI G, 50, .inl o5)), (a_O_deed_numbers, .inl (cI G, 50, .inl O_deed_numbers)), (a_P_deed_numbers, .inl (cI G, 50, .inl o6)), (a_O_folk, .inr (0, [.ref a_O_meeting, .ref a_O_deed, .ref a_O_folk_kind, .ref a_O_folk_m, .ref a_O_folk_at, .ref a_O_folk_free, .ref a_O_folk_gloved, .ref a_O_folk_deeds, .ref a_O_folk_handed, .ref a_O_folk_crowd, .int O_folk_size, .int O_folk_step, .int O_folk_loss])), (a_P_folk, .inr (0, [.ref a_P_meeting, .ref a_P_deed, .ref a_P_folk_kind, .ref a_P_folk_m, .ref a_P_folk_at, .ref a_P_folk_free, .ref a_P_folk_gloved, .ref a_P_folk_deeds, .ref a_P_folk_handed, .ref a_P_folk_crowd, .int o7, .int o8, .int o9])), (a_O_folk_kind, .inl (cI G, 8, .inl O_folk_kind)), (a_P_folk_kind, .inl (cI G, 8, .inl o10)), (a_O_folk_m, .inl (cI G, 8, .inl O_folk_m)), (a_P_folk_m, .inl (cI G, 8, .inl o11)), (a_O_folk_at, .inl (cI G, 8, .inl O_folk_at)), (a_P_folk_at, .inl (cI G, 8, .inl o12)), (a_O_folk_free, .inl (cI G, 8, .inl O_folk_free)), (a_P_folk_free, .inl (cI G, 8, .inl o13)), (a_O_folk_gloved, .inl (cI G, 8, .inl O_folk_gloved)), (a_P_folk_gloved, .inl (cI G, 8, .inl o14)), (a_O_folk_deeds, .inl (cI G, 8, .inl O_folk_deeds)), (a_P_folk_deeds, .inl (cI G, 8, .inl o15)), (a_P_tape, .inr (4, [.ref a_P_tape_items, .int o16])), (a_P_tape_items, .inl (cI G, 50, .inl o17)), (a_O_tape, .inr (4, [.ref a_O_tape_items, .int O_tape_size])), (a_O_tape_items, .inl (cI G, 50, .inl O_tape_items))]) (isC := [32, 33, 34, 35]) (isR := [0, 1, 2, 3, 4, 5, 6, 7, 8, 9, 10, 11, 12, 13, 14, 15, 16, 17, 18, 19, 20, 21, 22, 23, 24, 25, 26, 27, 28, 29, 30, 31]) I ⟨⟨rfl, rfl⟩, rfl, rfl, rfl⟩ [0, 1, 2, 3, 4, 5, 6, 7, 8, 9, 10, 11, 12, 13, 14, 15, 16, 17, 18, 19, 20, 21, 22, 23, 24, 25, 26, 27, 28, 29, 30, 31, 32, 33, 34, 35] (fun u => cs_X5_copy G a_P a_P_meeting a_P_deed a_P_folk a_P_tape a_P_waiting a_O a_O_meeting a_O_deed a_O_folk a_O_tape a_O_waiting a_O_meeting_signs a_O_meeting_numbers a_O_meeting_pile a_P_meeting_signs a_P_meeting_numbers a_P_meeting_pile a_O_deed_signs a_O_deed_numbers a_O_deed_pile a_P_deed_signs a_P_deed_numbers a_P_deed_pile a_O_folk_kind a_O_folk_m a_O_folk_at a_O_folk_free a_O_folk_gloved a_O_folk_deeds a_O_folk_handed a_O_folk_crowd a_P_folk_kind a_P_folk_m a_P_folk_at a_P_folk_free a_P_folk_gloved a_P_folk_deeds a_P_folk_handed a_P_folk_crowd a_P_tape_items a_O_tape_items a_P_waiting_items a_O_waiting_items P_z O_z O_meeting_size o1 O_meeting_signs o2 O_meeting_numbers o3 O_deed_size o4 O_deed_signs o5 O_deed_numbers o6 O_folk_size O_folk_step O_folk_loss o7 o8 o9 O_folk_kind o10 O_folk_m o11 O_folk_at o12 O_folk_free o13 O_folk_gloved o14 O_folk_deeds o15 o16 o17 O_tape_size O_tape_items u.1 u.2 O_waiting_size O_waiting_items) (fun _ => rfl) rfl (run_V (As := [.ref a_O_waiting]) (rest := []) C hl (wk_X4_copy l G a_P_waiting a_P_waiting_items a_O_waiting a_O_waiting_items Hx.size 20 P_waiting_size P_waiting_items O_waiting_size O_waiting_items _ hw) gm_X5_53 ⟨⟨rfl, rfl⟩, cn_X4_copy, ⟨(Nat.le_of_ble_eq_true rfl), (Nat.le_of_ble_eq_true rfl)⟩⟩ (pb_blind _ _ _ _) (x_recv I.1 32 rfl rfl) (pb_of I [32, 33, 34, 35] rfl rfl) rfl rfl (Nat.le_of_ble_eq_true rfl) ⟨Nat.le_of_ble_eq_true rfl, Nat.le_of_ble_eq_true rfl⟩ dX5_copy_52) (fun u Hx lx hw I => ?_)
  obtain ⟨o18, o19⟩ := u
  have I : Iv G A s (cs_X5_copy G a_P a_P_meeting a_P_deed a_P_folk a_P_tape a_P_waiting a_O a_O_meeting a_O_deed a_O_folk a_O_tape a_O_waiting a_O_meeting_signs a_O_meeting_numbers a_O_meeting_pile a_P_meeting_signs a_P_meeting_numbers a_P_meeting_pile a_O_deed_signs a_O_deed_numbers a_O_deed_pile a_P_deed_signs a_P_deed_numbers a_P_deed_pile a_O_folk_kind a_O_folk_m a_O_folk_at a_O_folk_free a_O_folk_gloved a_O_folk_deeds a_O_folk_handed a_O_folk_crowd a_P_folk_kind a_P_folk_m a_P_folk_at a_P_folk_free a_P_folk_gloved a_P_folk_deeds a_P_folk_handed a_P_folk_crowd a_P_tape_items a_O_tape_items a_P_waiting_items a_O_waiting_items P_z O_z O_meeting_size o1 O_meeting_signs o2 O_meeting_numbers o3 O_deed_size o4 O_deed_signs o5 O_deed_numbers o6 O_folk_size O_folk_step O_folk_loss o7 o8 o9 O_folk_kind o10 O_folk_m o11 O_folk_at o12 O_folk_free o13 O_folk_gloved o14 O_folk_deeds o15 o16 o17 O_tape_size O_tape_items o18 o19 O_waiting_size O_waiting_items) Hx lx := I
  refine x_aload_n C hl 0 dX5_copy_55 rfl ?_
  refine x_aload_n C hl 1 dX5_copy_56 rfl ?_
  refine x_get C I.1 fl_X5_42 1 rfl rfl dX5_copy_57 ?_
  refine x_put C I fl_X5_42 tyX5 tyX5_ok nmX5 rfl 0 (cs_X5_copy G a_P a_P_meeting a_P_deed a_P_folk a_P_tape a_P_waiting a_O a_O_meeting a_O_deed a_O_folk a_O_tape a_O_waiting a_O_meeting_signs a_O_meeting_numbers a_O_meeting_pile a_P_meeting_signs a_P_meeting_numbers a_P_meeting_pile a_O_deed_signs a_O_deed_numbers a_O_deed_pile a_P_deed_signs a_P_deed_numbers a_P_deed_pile a_O_folk_kind a_O_folk_m a_O_folk_at a_O_folk_free a_O_folk_gloved a_O_folk_deeds a_O_folk_handed a_O_folk_crowd a_P_folk_kind a_P_folk_m a_P_folk_at a_P_folk_free a_P_folk_gloved a_P_folk_deeds a_P_folk_handed a_P_folk_crowd a_P_tape_items a_O_tape_items a_P_waiting_items a_O_waiting_items O_z O_z O_meeting_size o1 O_meeting_signs o2 O_meeting_numbers o3 O_deed_size o4 O_deed_signs o5 O_deed_numbers o6 O_folk_size O_folk_step O_folk_loss o7 o8 o9 O_folk_kind o10 O_folk_m o11 O_folk_at o12 O_folk_free o13 O_folk_gloved o14 O_folk_deeds o15 o16 o17 O_tape_size O_tape_items o18 o19 O_waiting_size O_waiting_items) rfl rfl rfl (Nat.le_of_ble_eq_true rfl) rfl dX5_copy_60 (fun Hx lx I => ?_)
  exact x_retv C I (O_z, o1, o2, o3, o4, o5, o6, o7, o8, o9, o10, o11, o12, o13, o14, o15, o16, o17, o18, o19) rfl hw dX5_copy_63
