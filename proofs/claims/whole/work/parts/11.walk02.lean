/-! X0_handOnAt -/
abbrev rm_X0_handOnAt : Room := { frames := 1, cells := 0, slots := 0, locals := 22 }
abbrev cs_X0_handOnAt (G : Gt) (a_F : Nat) (a_F_meeting : Nat) (a_F_deed : Nat) (a_F_kind : Nat) (a_F_m : Nat) (a_F_at : Nat) (a_F_free : Nat) (a_F_gloved : Nat) (a_F_deeds : Nat) (a_F_handed : Nat) (a_F_crowd : Nat) (F_size : Int32) (F_step : Int32) (F_loss : Int32) (F_at : Nat → Int32) (F_gloved : Nat → Int32) (F_free : Nat → Int32) (F_handed : Nat → Int32) : va_W := [(a_F, .inr (0, [.ref a_F_meeting, .ref a_F_deed, .ref a_F_kind, .ref a_F_m, .ref a_F_at, .ref a_F_free, .ref a_F_gloved, .ref a_F_deeds, .ref a_F_handed, .ref a_F_crowd, .int F_size, .int F_step, .int F_loss])), (a_F_at, .inl (cI G, 8, .inl F_at)), (a_F_gloved, .inl (cI G, 8, .inl F_gloved)), (a_F_free, .inl (cI G, 8, .inl F_free)), (a_F_handed, .inl (cI G, 8, .inl F_handed))]
abbrev qc_X0_handOnAt (G : Gt) (a_F : Nat) (a_F_meeting : Nat) (a_F_deed : Nat) (a_F_kind : Nat) (a_F_m : Nat) (a_F_at : Nat) (a_F_free : Nat) (a_F_gloved : Nat) (a_F_deeds : Nat) (a_F_handed : Nat) (a_F_crowd : Nat) (F_size : Int32) (F_step : Int32) (F_loss : Int32) (F_at : Nat → Int32) (F_gloved : Nat → Int32) (F_handed : Nat → Int32) (A : Nat → Prop) (Q : (Nat → Int32) → Prop) : Array Value → State → Outcome → State → Prop := Qv1 G A (fun (u : (Nat → Int32)) => Q u) (fun u => cs_X0_handOnAt G a_F a_F_meeting a_F_deed a_F_kind a_F_m a_F_at a_F_free a_F_gloved a_F_deeds a_F_handed a_F_crowd F_size F_step F_loss F_at F_gloved u F_handed)
def lb_X0_handOnAt_12 (x1 : Int32) (F_size : Int32) (F_at : Nat → Int32) (F_gloved : Nat → Int32) (F_handed : Nat → Int32) (Q : (Nat → Int32) → Prop) (K2 : Int32 → (Nat → Int32) → Prop) : Nat → Int32 → Int32 → (Nat → Int32) → Prop
  | 0 => fun _ _ _ => False
  | k + 1 => fun (y2 : Int32) (y3 : Int32) (w_F_free : Nat → Int32) => (vp_in y2 8 ∧ ((¬ (F_at (y2).toNatClampNeg) = x1 → (K2 (y2 + (1 : Int32)) w_F_free)) ∧ ((F_at (y2).toNatClampNeg) = x1 → ((F_size ≤ y3 → (K2 (y2 + (1 : Int32)) w_F_free)) ∧ (¬ F_size ≤ y3 → ((y2 = y3 → (lb_X0_handOnAt_12 x1 F_size F_at F_gloved F_handed Q K2 k y2 (y3 + (1 : Int32)) w_F_free)) ∧ (¬ y2 = y3 → (wp_X0_canTouch y2 y3 F_at F_gloved (fun r5 => ((r5 = (0) → (lb_X0_handOnAt_12 x1 F_size F_at F_gloved F_handed Q K2 k y2 (y3 + (1 : Int32)) w_F_free)) ∧ (¬ r5 = (0) → (vp_in y2 8 ∧ (vp_in y3 8 ∧ (∀ v7 : Int32, v7 = (jmax (w_F_free (y2).toNatClampNeg) (F_handed (y3).toNatClampNeg)) → (vp_in y2 8 ∧ (lb_X0_handOnAt_12 x1 F_size F_at F_gloved F_handed Q K2 k y2 (y3 + (1 : Int32)) (upd w_F_free (y2).toNatClampNeg v7)))))))))))))))))
set_option maxHeartbeats 4000000 in
set_option maxRecDepth 100000 in
theorem lk_X0_handOnAt_12 {p : Program} {l : Launch} {e : Env} {s : State} {m : MethodId} {args : Array Value} {below : List Frame} {meth : Method} {c : Code} {A : Nat → Prop} (G : Gt) (a_F : Nat) (a_F_meeting : Nat) (a_F_deed : Nat) (a_F_kind : Nat) (a_F_m : Nat) (a_F_at : Nat) (a_F_free : Nat) (a_F_gloved : Nat) (a_F_deeds : Nat) (a_F_handed : Nat) (a_F_crowd : Nat) (C : Cx p s m args meth c cX0_handOnAt 4 RX0 none) (x1 : Int32) (F_size : Int32) (F_at : Nat → Int32) (F_gloved : Nat → Int32) (F_handed : Nat → Int32) (F_step : Int32) (F_loss : Int32) (Q : (Nat → Int32) → Prop) (K2 : Int32 → (Nat → Int32) → Prop) (hK2 : ∀ (y2 : Int32) (w_F_free : Nat → Int32) (Hx : Heap) (lx : List Loc) (ls : Array Slot), K2 y2 w_F_free → Iv G A s (cs_X0_handOnAt G a_F a_F_meeting a_F_deed a_F_kind a_F_m a_F_at a_F_free a_F_gloved a_F_deeds a_F_handed a_F_crowd F_size F_step F_loss F_at F_gloved w_F_free F_handed) Hx lx → lv_has ls 4 [(0, .ref a_F), (1, .int x1), (2, .int y2)] → W p l e rm_X0_handOnAt s m args below meth c Hx lx 0 0 (MQ below (qc_X0_handOnAt G a_F a_F_meeting a_F_deed a_F_kind a_F_m a_F_at a_F_free a_F_gloved a_F_deeds a_F_handed a_F_crowd F_size F_step F_loss F_at F_gloved F_handed A Q) args s 0 0 A) (F0 m 2 ls [])) : ∀ (n : Nat) (y2 : Int32) (y3 : Int32) (w_F_free : Nat → Int32) (Hx : Heap) (lx : List Loc) (ls : Array Slot), lb_X0_handOnAt_12 x1 F_size F_at F_gloved F_handed Q K2 n y2 y3 w_F_free → Iv G A s (cs_X0_handOnAt G a_F a_F_meeting a_F_deed a_F_kind a_F_m a_F_at a_F_free a_F_gloved a_F_deeds a_F_handed a_F_crowd F_size F_step F_loss F_at F_gloved w_F_free F_handed) Hx lx → lv_has ls 4 [(0, .ref a_F), (1, .int x1), (2, .int y2), (3, .int y3)] → W p l e rm_X0_handOnAt s m args below meth c Hx lx 0 0 (MQ below (qc_X0_handOnAt G a_F a_F_meeting a_F_deed a_F_kind a_F_m a_F_at a_F_free a_F_gloved a_F_deeds a_F_handed a_F_crowd F_size F_step F_loss F_at F_gloved F_handed A Q) args s 0 0 A) (F0 m 12 ls []) := by
  intro n
  induction n with
  | zero => intro y2 y3 w_F_free Hx lx  ls hw I hl; exact False.elim hw
  | succ k ih =>
    intro y2 y3 w_F_free Hx lx  ls hw I hl
    refine x_aload_n C hl 0 dX0_handOnAt_12 rfl ?_
    refine x_get C I.1 fl_X0_18 0 rfl rfl dX0_handOnAt_13 ?_
    refine x_iload_n C hl 2 dX0_handOnAt_16 rfl ?_
    refine x_iald C I.1 1 rfl (And.left hw) dX0_handOnAt_17 ?_
    have hw := And.right hw
    refine x_iload_n C hl 1 dX0_handOnAt_18 rfl ?_
    refine x_icmp_ne C 71 dX0_handOnAt_19 (by decide) (fun c2 => ?_) (fun c2 => ?_)
    · have hw := And.left hw c2
      refine x_iinc C hl 2 [(2, .int (y2 + (1 : Int32))), (0, .ref a_F), (1, .int x1), (3, .int y3)] (y2 + (1 : Int32)) dX0_handOnAt_71 rfl (congrArg _ ic_1) (Nat.le_of_ble_eq_true rfl) rfl (fun ls hl => ?_)
      refine x_goto C 2 dX0_handOnAt_74 (by decide) ?_
      exact hK2 (y2 + (1 : Int32)) w_F_free Hx lx ls hw I (lv_sub hl [1, 2, 0] rfl)
    · have hw := And.right hw c2
      refine x_iload_n C hl 3 dX0_handOnAt_22 rfl ?_
      refine x_aload_n C hl 0 dX0_handOnAt_23 rfl ?_
      refine x_get C I.1 fl_X0_43 0 rfl rfl dX0_handOnAt_24 ?_
      refine x_icmp_ge C 71 dX0_handOnAt_27 (by decide) (fun c3 => ?_) (fun c3 => ?_)
      · have hw := And.left hw c3
        refine x_iinc C hl 2 [(2, .int (y2 + (1 : Int32))), (0, .ref a_F), (1, .int x1), (3, .int y3)] (y2 + (1 : Int32)) dX0_handOnAt_71 rfl (congrArg _ ic_1) (Nat.le_of_ble_eq_true rfl) rfl (fun ls hl => ?_)
        refine x_goto C 2 dX0_handOnAt_74 (by decide) ?_
        exact hK2 (y2 + (1 : Int32)) w_F_free Hx lx ls hw I (lv_sub hl [1, 2, 0] rfl)
      · have hw := And.right hw c3
        refine x_iload_n C hl 2 dX0_handOnAt_30 rfl ?_
        refine x_iload_n C hl 3 dX0_handOnAt_31 rfl ?_
        refine x_icmp_eq C 65 dX0_handOnAt_32 (by decide) (fun c4 => ?_) (fun c4 => ?_)
        · have hw := And.left hw c4
          refine x_iinc C hl 3 [(3, .int (y3 + (1 : Int32))), (0, .ref a_F), (1, .int x1), (2, .int y2)] (y3 + (1 : Int32)) dX0_handOnAt_65 rfl (congrArg _ ic_1) (Nat.le_of_ble_eq_true rfl) rfl (fun ls hl => ?_)
          refine x_goto C 12 dX0_handOnAt_68 (by decide) ?_
          exact ih y2 (y3 + (1 : Int32)) w_F_free Hx lx ls hw I (lv_sub hl [1, 2, 3, 0] rfl)
        · have hw := And.right hw c4
          refine x_aload_n C hl 0 dX0_handOnAt_35 rfl ?_
          refine x_iload_n C hl 2 dX0_handOnAt_36 rfl ?_
          refine x_iload_n C hl 3 dX0_handOnAt_37 rfl ?_
          refine x_ro (run_V (As := [.int y2, .int y3]) (rest := []) C hl (wk_X0_canTouch l G a_F a_F_meeting a_F_deed a_F_kind a_F_m a_F_at a_F_free a_F_gloved a_F_deeds a_F_handed a_F_crowd F_size F_step F_loss F_at F_gloved y2 y3 _ hw) gm_X0_136 ⟨⟨rfl, rfl⟩, cn_X0_canTouch, ⟨(Nat.le_of_ble_eq_true rfl), (Nat.le_of_ble_eq_true rfl)⟩⟩ (pr_blind _ _ _) (x_recv I.1 0 rfl rfl) (pr_of I.1 [0, 1, 2] rfl) rfl rfl (Nat.le_of_ble_eq_true rfl) ⟨Nat.le_of_ble_eq_true rfl, Nat.le_of_ble_eq_true rfl⟩ dX0_handOnAt_38) (fun r5 hw => ?_)
          refine x_if_eq C 65 dX0_handOnAt_41 (by decide) (fun c6 => ?_) (fun c6 => ?_)
          · have hw := And.left hw c6
            refine x_iinc C hl 3 [(3, .int (y3 + (1 : Int32))), (0, .ref a_F), (1, .int x1), (2, .int y2)] (y3 + (1 : Int32)) dX0_handOnAt_65 rfl (congrArg _ ic_1) (Nat.le_of_ble_eq_true rfl) rfl (fun ls hl => ?_)
            refine x_goto C 12 dX0_handOnAt_68 (by decide) ?_
            exact ih y2 (y3 + (1 : Int32)) w_F_free Hx lx ls hw I (lv_sub hl [1, 2, 3, 0] rfl)
          · have hw := And.right hw c6
            refine x_aload_n C hl 0 dX0_handOnAt_44 rfl ?_
            refine x_get C I.1 fl_X0_21 0 rfl rfl dX0_handOnAt_45 ?_
            refine x_iload_n C hl 2 dX0_handOnAt_48 rfl ?_
            refine x_aload_n C hl 0 dX0_handOnAt_49 rfl ?_
            refine x_get C I.1 fl_X0_21 0 rfl rfl dX0_handOnAt_50 ?_
            refine x_iload_n C hl 2 dX0_handOnAt_53 rfl ?_
            refine x_iald C I.1 3 rfl (And.left hw) dX0_handOnAt_54 ?_
            have hw := And.right hw
            refine x_aload_n C hl 0 dX0_handOnAt_55 rfl ?_
            refine x_get C I.1 fl_X0_30 0 rfl rfl dX0_handOnAt_56 ?_
            refine x_iload_n C hl 3 dX0_handOnAt_59 rfl ?_
            refine x_iald C I.1 4 rfl (And.left hw) dX0_handOnAt_60 ?_
            have hw := And.right hw
            refine x_mmax C hl wd_575 (Nat.le_of_ble_eq_true rfl) (Nat.le_of_ble_eq_true rfl) (Nat.le_of_ble_eq_true rfl) (Nat.le_of_ble_eq_true rfl) wd_189 wd_80 wd_190 dX0_handOnAt_61 ?_
            refine lv_topi (fun v7 ev7 => ?_)
            have hw := hw v7 ev7
            refine x_iast C I 3 (cs_X0_handOnAt G a_F a_F_meeting a_F_deed a_F_kind a_F_m a_F_at a_F_free a_F_gloved a_F_deeds a_F_handed a_F_crowd F_size F_step F_loss F_at F_gloved (upd w_F_free (y2).toNatClampNeg v7) F_handed) rfl (And.left hw) rfl dX0_handOnAt_64 (fun Hx lx I => ?_)
            have hw := And.right hw
            refine x_iinc C hl 3 [(3, .int (y3 + (1 : Int32))), (0, .ref a_F), (1, .int x1), (2, .int y2)] (y3 + (1 : Int32)) dX0_handOnAt_65 rfl (congrArg _ ic_1) (Nat.le_of_ble_eq_true rfl) rfl (fun ls hl => ?_)
            refine x_goto C 12 dX0_handOnAt_68 (by decide) ?_
            exact ih y2 (y3 + (1 : Int32)) (upd w_F_free (y2).toNatClampNeg v7) Hx lx ls hw I (lv_sub hl [1, 2, 3, 0] rfl)
def lb_X0_handOnAt_2 (x1 : Int32) (F_size : Int32) (F_at : Nat → Int32) (F_gloved : Nat → Int32) (F_handed : Nat → Int32) (Q : (Nat → Int32) → Prop) : Nat → Int32 → (Nat → Int32) → Prop
  | 0 => fun _ _ => False
  | k + 1 => fun (y2 : Int32) (w_F_free : Nat → Int32) => ((F_size ≤ y2 → (Q w_F_free)) ∧ (¬ F_size ≤ y2 → (∃ n, lb_X0_handOnAt_12 x1 F_size F_at F_gloved F_handed Q (lb_X0_handOnAt_2 x1 F_size F_at F_gloved F_handed Q k) n y2 (0 : Int32) w_F_free)))
set_option maxHeartbeats 4000000 in
set_option maxRecDepth 100000 in
theorem lk_X0_handOnAt_2 {p : Program} {l : Launch} {e : Env} {s : State} {m : MethodId} {args : Array Value} {below : List Frame} {meth : Method} {c : Code} {A : Nat → Prop} (G : Gt) (a_F : Nat) (a_F_meeting : Nat) (a_F_deed : Nat) (a_F_kind : Nat) (a_F_m : Nat) (a_F_at : Nat) (a_F_free : Nat) (a_F_gloved : Nat) (a_F_deeds : Nat) (a_F_handed : Nat) (a_F_crowd : Nat) (C : Cx p s m args meth c cX0_handOnAt 4 RX0 none) (x1 : Int32) (F_size : Int32) (F_at : Nat → Int32) (F_gloved : Nat → Int32) (F_handed : Nat → Int32) (F_step : Int32) (F_loss : Int32) (Q : (Nat → Int32) → Prop) : ∀ (n : Nat) (y2 : Int32) (w_F_free : Nat → Int32) (Hx : Heap) (lx : List Loc) (ls : Array Slot), lb_X0_handOnAt_2 x1 F_size F_at F_gloved F_handed Q n y2 w_F_free → Iv G A s (cs_X0_handOnAt G a_F a_F_meeting a_F_deed a_F_kind a_F_m a_F_at a_F_free a_F_gloved a_F_deeds a_F_handed a_F_crowd F_size F_step F_loss F_at F_gloved w_F_free F_handed) Hx lx → lv_has ls 4 [(0, .ref a_F), (1, .int x1), (2, .int y2)] → W p l e rm_X0_handOnAt s m args below meth c Hx lx 0 0 (MQ below (qc_X0_handOnAt G a_F a_F_meeting a_F_deed a_F_kind a_F_m a_F_at a_F_free a_F_gloved a_F_deeds a_F_handed a_F_crowd F_size F_step F_loss F_at F_gloved F_handed A Q) args s 0 0 A) (F0 m 2 ls []) := by
  intro n
  induction n with
  | zero => intro y2 w_F_free Hx lx  ls hw I hl; exact False.elim hw
  | succ k ih =>
    intro y2 w_F_free Hx lx  ls hw I hl
    refine x_iload_n C hl 2 dX0_handOnAt_2 rfl ?_
    refine x_aload_n C hl 0 dX0_handOnAt_3 rfl ?_
    refine x_get C I.1 fl_X0_43 0 rfl rfl dX0_handOnAt_4 ?_
    refine x_icmp_ge C 77 dX0_handOnAt_7 (by decide) (fun c1 => ?_) (fun c1 => ?_)
    · have hw := And.left hw c1
      exact x_retv C I w_F_free rfl hw dX0_handOnAt_77
    · have hw := And.right hw c1
      refine x_iconst C dX0_handOnAt_10 ic_0 ?_
      refine x_istore_n C hl [(3, .int (0 : Int32)), (0, .ref a_F), (1, .int x1), (2, .int y2)] dX0_handOnAt_11 (Nat.le_of_ble_eq_true rfl) rfl (fun ls hl => ?_)
      obtain ⟨n, hw⟩ := hw
      exact lk_X0_handOnAt_12 G a_F a_F_meeting a_F_deed a_F_kind a_F_m a_F_at a_F_free a_F_gloved a_F_deeds a_F_handed a_F_crowd C x1 F_size F_at F_gloved F_handed F_step F_loss Q (lb_X0_handOnAt_2 x1 F_size F_at F_gloved F_handed Q k) ih n y2 (0 : Int32) w_F_free Hx lx ls hw I (lv_sub hl [1, 2, 3, 0] rfl)
def wp_X0_handOnAt (x1 : Int32) (F_size : Int32) (F_at : Nat → Int32) (F_gloved : Nat → Int32) (F_free : Nat → Int32) (F_handed : Nat → Int32) (Q : (Nat → Int32) → Prop) : Prop := (∃ n, lb_X0_handOnAt_2 x1 F_size F_at F_gloved F_handed Q n (0 : Int32) F_free)
set_option maxHeartbeats 4000000 in
set_option maxRecDepth 100000 in
theorem wk_X0_handOnAt (l : Launch) (G : Gt) (a_F : Nat) (a_F_meeting : Nat) (a_F_deed : Nat) (a_F_kind : Nat) (a_F_m : Nat) (a_F_at : Nat) (a_F_free : Nat) (a_F_gloved : Nat) (a_F_deeds : Nat) (a_F_handed : Nat) (a_F_crowd : Nat) (sz : Nat) (F_size : Int32) (F_step : Int32) (F_loss : Int32) (F_at : Nat → Int32) (F_gloved : Nat → Int32) (F_free : Nat → Int32) (F_handed : Nat → Int32) (x1 : Int32) (Q : (Nat → Int32) → Prop) (hw : wp_X0_handOnAt x1 F_size F_at F_gloved F_free F_handed Q) : Met l yX0_handOnAt (wc yX0_handOnAt cX0_handOnAt 4 none) rm_X0_handOnAt (va_Pc [.ref a_F, .int x1] (PB G (cs_X0_handOnAt G a_F a_F_meeting a_F_deed a_F_kind a_F_m a_F_at a_F_free a_F_gloved a_F_deeds a_F_handed a_F_crowd F_size F_step F_loss F_at F_gloved F_free F_handed) sz)) (qc_X0_handOnAt G a_F a_F_meeting a_F_deed a_F_kind a_F_m a_F_at a_F_free a_F_gloved a_F_deeds a_F_handed a_F_crowd F_size F_step F_loss F_at F_gloved F_handed (va_A (cs_X0_handOnAt G a_F a_F_meeting a_F_deed a_F_kind a_F_m a_F_at a_F_free a_F_gloved a_F_deeds a_F_handed a_F_crowd F_size F_step F_loss F_at F_gloved F_free F_handed) sz) Q) 0 0 (va_A (cs_X0_handOnAt G a_F a_F_meeting a_F_deed a_F_kind a_F_m a_F_at a_F_free a_F_gloved a_F_deeds a_F_handed a_F_crowd F_size F_step F_loss F_at F_gloved F_free F_handed) sz) := by
  refine x_start pn_X0 (Nat.le_of_ble_eq_true rfl) (fun p e s m below meth c ls C hn hl hB => ?_)
  have I := iv_start hB
  generalize va_A (cs_X0_handOnAt G a_F a_F_meeting a_F_deed a_F_kind a_F_m a_F_at a_F_free a_F_gloved a_F_deeds a_F_handed a_F_crowd F_size F_step F_loss F_at F_gloved F_free F_handed) sz = A at I ⊢
  have C : Cx p s m [.ref a_F, .int x1].toArray meth c cX0_handOnAt 4 RX0 none := C
  have hl : lv_has ls 4 [(0, .ref a_F), (1, .int x1)] := hl
  refine x_iconst C dX0_handOnAt_0 ic_0 ?_
  refine x_istore_n C hl [(2, .int (0 : Int32)), (0, .ref a_F), (1, .int x1)] dX0_handOnAt_1 (Nat.le_of_ble_eq_true rfl) rfl (fun ls hl => ?_)
  obtain ⟨n, hw⟩ := hw
  exact lk_X0_handOnAt_2 G a_F a_F_meeting a_F_deed a_F_kind a_F_m a_F_at a_F_free a_F_gloved a_F_deeds a_F_handed a_F_crowd C x1 F_size F_at F_gloved F_handed F_step F_loss Q n (0 : Int32) F_free s.heap [] ls hw I (lv_sub hl [1, 2, 0] rfl)
/-! X0_runOut -/
abbrev rm_X0_runOut : Room := { frames := 1, cells := 0, slots := 0, locals := 21 }
abbrev cs_X0_runOut (G : Gt) (a_F : Nat) (a_F_meeting : Nat) (a_F_deed : Nat) (a_F_kind : Nat) (a_F_m : Nat) (a_F_at : Nat) (a_F_free : Nat) (a_F_gloved : Nat) (a_F_deeds : Nat) (a_F_handed : Nat) (a_F_crowd : Nat) (F_size : Int32) (F_step : Int32) (F_loss : Int32) (F_free : Nat → Int32) (F_kind : Nat → Int32) (F_m : Nat → Int32) : va_W := [(a_F, .inr (0, [.ref a_F_meeting, .ref a_F_deed, .ref a_F_kind, .ref a_F_m, .ref a_F_at, .ref a_F_free, .ref a_F_gloved, .ref a_F_deeds, .ref a_F_handed, .ref a_F_crowd, .int F_size, .int F_step, .int F_loss])), (a_F_free, .inl (cI G, 8, .inl F_free)), (a_F_kind, .inl (cI G, 8, .inl F_kind)), (a_F_m, .inl (cI G, 8, .inl F_m))]
abbrev qc_X0_runOut (G : Gt) (a_F : Nat) (a_F_meeting : Nat) (a_F_deed : Nat) (a_F_kind : Nat) (a_F_m : Nat) (a_F_at : Nat) (a_F_free : Nat) (a_F_gloved : Nat) (a_F_deeds : Nat) (a_F_handed : Nat) (a_F_crowd : Nat) (F_size : Int32) (F_step : Int32) (F_loss : Int32) (F_kind : Nat → Int32) (F_m : Nat → Int32) (A : Nat → Prop) (Q : (Nat → Int32) → Prop) : Array Value → State → Outcome → State → Prop := Qv1 G A (fun (u : (Nat → Int32)) => Q u) (fun u => cs_X0_runOut G a_F a_F_meeting a_F_deed a_F_kind a_F_m a_F_at a_F_free a_F_gloved a_F_deeds a_F_handed a_F_crowd F_size F_step F_loss u F_kind F_m)
def lb_X0_runOut_2 (F_size : Int32) (F_kind : Nat → Int32) (F_m : Nat → Int32) (Q : (Nat → Int32) → Prop) : Nat → Int32 → (Nat → Int32) → Prop
  | 0 => fun _ _ => False
  | k + 1 => fun (y1 : Int32) (w_F_free : Nat → Int32) => ((F_size ≤ y1 → (Q w_F_free)) ∧ (¬ F_size ≤ y1 → (vp_in y1 8 ∧ (wp_X0_runsOf y1 F_kind F_m (fun r2 => (∀ v3 : Int32, v3 = (jmax (0 : Int32) ((w_F_free (y1).toNatClampNeg) - r2)) → (vp_in y1 8 ∧ (lb_X0_runOut_2 F_size F_kind F_m Q k (y1 + (1 : Int32)) (upd w_F_free (y1).toNatClampNeg v3)))))))))
set_option maxHeartbeats 4000000 in
set_option maxRecDepth 100000 in
theorem lk_X0_runOut_2 {p : Program} {l : Launch} {e : Env} {s : State} {m : MethodId} {args : Array Value} {below : List Frame} {meth : Method} {c : Code} {A : Nat → Prop} (G : Gt) (a_F : Nat) (a_F_meeting : Nat) (a_F_deed : Nat) (a_F_kind : Nat) (a_F_m : Nat) (a_F_at : Nat) (a_F_free : Nat) (a_F_gloved : Nat) (a_F_deeds : Nat) (a_F_handed : Nat) (a_F_crowd : Nat) (C : Cx p s m args meth c cX0_runOut 2 RX0 none) (F_size : Int32) (F_kind : Nat → Int32) (F_m : Nat → Int32) (F_step : Int32) (F_loss : Int32) (Q : (Nat → Int32) → Prop) : ∀ (n : Nat) (y1 : Int32) (w_F_free : Nat → Int32) (Hx : Heap) (lx : List Loc) (ls : Array Slot), lb_X0_runOut_2 F_size F_kind F_m Q n y1 w_F_free → Iv G A s (cs_X0_runOut G a_F a_F_meeting a_F_deed a_F_kind a_F_m a_F_at a_F_free a_F_gloved a_F_deeds a_F_handed a_F_crowd F_size F_step F_loss w_F_free F_kind F_m) Hx lx → lv_has ls 2 [(0, .ref a_F), (1, .int y1)] → W p l e rm_X0_runOut s m args below meth c Hx lx 0 0 (MQ below (qc_X0_runOut G a_F a_F_meeting a_F_deed a_F_kind a_F_m a_F_at a_F_free a_F_gloved a_F_deeds a_F_handed a_F_crowd F_size F_step F_loss F_kind F_m A Q) args s 0 0 A) (F0 m 2 ls []) := by
  intro n
  induction n with
  | zero => intro y1 w_F_free Hx lx  ls hw I hl; exact False.elim hw
  | succ k ih =>
    intro y1 w_F_free Hx lx  ls hw I hl
    refine x_iload_n C hl 1 dX0_runOut_2 rfl ?_
    refine x_aload_n C hl 0 dX0_runOut_3 rfl ?_
    refine x_get C I.1 fl_X0_43 0 rfl rfl dX0_runOut_4 ?_
    refine x_icmp_ge C 38 dX0_runOut_7 (by decide) (fun c1 => ?_) (fun c1 => ?_)
    · have hw := And.left hw c1
      exact x_retv C I w_F_free rfl hw dX0_runOut_38
    · have hw := And.right hw c1
      refine x_aload_n C hl 0 dX0_runOut_10 rfl ?_
      refine x_get C I.1 fl_X0_21 0 rfl rfl dX0_runOut_11 ?_
      refine x_iload_n C hl 1 dX0_runOut_14 rfl ?_
      refine x_iconst C dX0_runOut_15 ic_0 ?_
      refine x_aload_n C hl 0 dX0_runOut_16 rfl ?_
      refine x_get C I.1 fl_X0_21 0 rfl rfl dX0_runOut_17 ?_
      refine x_iload_n C hl 1 dX0_runOut_20 rfl ?_
      refine x_iald C I.1 1 rfl (And.left hw) dX0_runOut_21 ?_
      have hw := And.right hw
      refine x_aload_n C hl 0 dX0_runOut_22 rfl ?_
      refine x_iload_n C hl 1 dX0_runOut_23 rfl ?_
      refine x_ro (run_V (As := [.int y1]) (rest := [.int (w_F_free (y1).toNatClampNeg), .int (0 : Int32), .int y1, .ref a_F_free]) C hl (wk_X0_runsOf l G a_F a_F_meeting a_F_deed a_F_kind a_F_m a_F_at a_F_free a_F_gloved a_F_deeds a_F_handed a_F_crowd F_size F_step F_loss F_kind F_m y1 _ hw) gm_X0_142 ⟨⟨rfl, rfl⟩, cn_X0_runsOf, ⟨(Nat.le_of_ble_eq_true rfl), (Nat.le_of_ble_eq_true rfl)⟩⟩ (pr_blind _ _ _) (x_recv I.1 0 rfl rfl) (pr_of I.1 [0, 2, 3] rfl) rfl rfl (Nat.le_of_ble_eq_true rfl) ⟨Nat.le_of_ble_eq_true rfl, Nat.le_of_ble_eq_true rfl⟩ dX0_runOut_24) (fun r2 hw => ?_)
      refine x_isub C dX0_runOut_27 ?_
      refine x_mmax C hl wd_575 (Nat.le_of_ble_eq_true rfl) (Nat.le_of_ble_eq_true rfl) (Nat.le_of_ble_eq_true rfl) (Nat.le_of_ble_eq_true rfl) wd_189 wd_80 wd_190 dX0_runOut_28 ?_
      refine lv_topi (fun v3 ev3 => ?_)
      have hw := hw v3 ev3
      refine x_iast C I 1 (cs_X0_runOut G a_F a_F_meeting a_F_deed a_F_kind a_F_m a_F_at a_F_free a_F_gloved a_F_deeds a_F_handed a_F_crowd F_size F_step F_loss (upd w_F_free (y1).toNatClampNeg v3) F_kind F_m) rfl (And.left hw) rfl dX0_runOut_31 (fun Hx lx I => ?_)
      have hw := And.right hw
      refine x_iinc C hl 1 [(1, .int (y1 + (1 : Int32))), (0, .ref a_F)] (y1 + (1 : Int32)) dX0_runOut_32 rfl (congrArg _ ic_1) (Nat.le_of_ble_eq_true rfl) rfl (fun ls hl => ?_)
      refine x_goto C 2 dX0_runOut_35 (by decide) ?_
      exact ih (y1 + (1 : Int32)) (upd w_F_free (y1).toNatClampNeg v3) Hx lx ls hw I (lv_sub hl [1, 0] rfl)
def wp_X0_runOut (F_size : Int32) (F_free : Nat → Int32) (F_kind : Nat → Int32) (F_m : Nat → Int32) (Q : (Nat → Int32) → Prop) : Prop := (∃ n, lb_X0_runOut_2 F_size F_kind F_m Q n (0 : Int32) F_free)
set_option maxHeartbeats 4000000 in
set_option maxRecDepth 100000 in
theorem wk_X0_runOut (l : Launch) (G : Gt) (a_F : Nat) (a_F_meeting : Nat) (a_F_deed : Nat) (a_F_kind : Nat) (a_F_m : Nat) (a_F_at : Nat) (a_F_free : Nat) (a_F_gloved : Nat) (a_F_deeds : Nat) (a_F_handed : Nat) (a_F_crowd : Nat) (sz : Nat) (F_size : Int32) (F_step : Int32) (F_loss : Int32) (F_free : Nat → Int32) (F_kind : Nat → Int32) (F_m : Nat → Int32) (Q : (Nat → Int32) → Prop) (hw : wp_X0_runOut F_size F_free F_kind F_m Q) : Met l yX0_runOut (wc yX0_runOut cX0_runOut 2 none) rm_X0_runOut (va_Pc [.ref a_F] (PB G (cs_X0_runOut G a_F a_F_meeting a_F_deed a_F_kind a_F_m a_F_at a_F_free a_F_gloved a_F_deeds a_F_handed a_F_crowd F_size F_step F_loss F_free F_kind F_m) sz)) (qc_X0_runOut G a_F a_F_meeting a_F_deed a_F_kind a_F_m a_F_at a_F_free a_F_gloved a_F_deeds a_F_handed a_F_crowd F_size F_step F_loss F_kind F_m (va_A (cs_X0_runOut G a_F a_F_meeting a_F_deed a_F_kind a_F_m a_F_at a_F_free a_F_gloved a_F_deeds a_F_handed a_F_crowd F_size F_step F_loss F_free F_kind F_m) sz) Q) 0 0 (va_A (cs_X0_runOut G a_F a_F_meeting a_F_deed a_F_kind a_F_m a_F_at a_F_free a_F_gloved a_F_deeds a_F_handed a_F_crowd F_size F_step F_loss F_free F_kind F_m) sz) := by
  refine x_start pn_X0 (Nat.le_of_ble_eq_true rfl) (fun p e s m below meth c ls C hn hl hB => ?_)
  have I := iv_start hB
  generalize va_A (cs_X0_runOut G a_F a_F_meeting a_F_deed a_F_kind a_F_m a_F_at a_F_free a_F_gloved a_F_deeds a_F_handed a_F_crowd F_size F_step F_loss F_free F_kind F_m) sz = A at I ⊢
  have C : Cx p s m [.ref a_F].toArray meth c cX0_runOut 2 RX0 none := C
  have hl : lv_has ls 2 [(0, .ref a_F)] := hl
  refine x_iconst C dX0_runOut_0 ic_0 ?_
  refine x_istore_n C hl [(1, .int (0 : Int32)), (0, .ref a_F)] dX0_runOut_1 (Nat.le_of_ble_eq_true rfl) rfl (fun ls hl => ?_)
  obtain ⟨n, hw⟩ := hw
  exact lk_X0_runOut_2 G a_F a_F_meeting a_F_deed a_F_kind a_F_m a_F_at a_F_free a_F_gloved a_F_deeds a_F_handed a_F_crowd C F_size F_kind F_m F_step F_loss Q n (0 : Int32) F_free s.heap [] ls hw I (lv_sub hl [1, 0] rfl)
/-! X1_next -/
abbrev rm_X1_next : Room := { frames := 0, cells := 0, slots := 0, locals := 0 }
abbrev cs_X1_next (G : Gt) (a_D : Nat) (a_D_rule : Nat) (a_D_bytes : Nat) (a_D_bytes_items : Nat) (D_firstName : Int32) (D_place : Int32) (D_bytes_size : Int32) (D_bytes_items : Nat → Int32) : va_W := [(a_D, .inr (1, [.ref a_D_rule, .ref a_D_bytes, .int D_firstName, .int D_place])), (a_D_bytes, .inr (4, [.ref a_D_bytes_items, .int D_bytes_size])), (a_D_bytes_items, .inl (cI G, 50, .inl D_bytes_items))]
def wp_X1_next (D_place : Int32) (D_bytes_size : Int32) (D_bytes_items : Nat → Int32) (Q : Int32 → Prop) : Prop := ((D_bytes_size ≤ D_place → (Q (-1 : Int32))) ∧ (¬ D_bytes_size ≤ D_place → (vp_in D_place 50 ∧ (Q (D_bytes_items (D_place).toNatClampNeg)))))
set_option maxHeartbeats 4000000 in
set_option maxRecDepth 100000 in
theorem wk_X1_next (l : Launch) (G : Gt) (a_D : Nat) (a_D_rule : Nat) (a_D_bytes : Nat) (a_D_bytes_items : Nat) (D_firstName : Int32) (D_place : Int32) (D_bytes_size : Int32) (D_bytes_items : Nat → Int32) (Q : Int32 → Prop) (hw : wp_X1_next D_place D_bytes_size D_bytes_items Q) : Met l yX1_next (wc yX1_next cX1_next 1 (some .int)) rm_X1_next (va_Pc [.ref a_D] (PR G (cs_X1_next G a_D a_D_rule a_D_bytes a_D_bytes_items D_firstName D_place D_bytes_size D_bytes_items))) (vp_Si Q) 0 0 (fun _ => False) := by
  refine x_start pn_X1 (Nat.le_of_ble_eq_true rfl) (fun p e s m below meth c ls C hn hl hB => ?_)
  have I := rd_start hB
  have C : Cx p s m [.ref a_D].toArray meth c cX1_next 1 RX1 (some .int) := C
  have hl : lv_has ls 1 [(0, .ref a_D)] := hl
  refine x_aload_n C hl 0 dX1_next_0 rfl ?_
  refine x_get C I fl_X1_31 0 rfl rfl dX1_next_1 ?_
  refine x_aload_n C hl 0 dX1_next_4 rfl ?_
  refine x_get C I fl_X1_23 0 rfl rfl dX1_next_5 ?_
  refine x_get C I fl_X1_45 1 rfl rfl dX1_next_8 ?_
  refine x_icmp_ge C 29 dX1_next_11 (by decide) (fun c1 => ?_) (fun c1 => ?_)
  · have hw := And.left hw c1
    refine x_iconst C dX1_next_29 ic_m1 ?_
    exact x_ret0 C hw dX1_next_30
  · have hw := And.right hw c1
    refine x_aload_n C hl 0 dX1_next_14 rfl ?_
    refine x_get C I fl_X1_23 0 rfl rfl dX1_next_15 ?_
    refine x_get C I fl_X1_48 1 rfl rfl dX1_next_18 ?_
    refine x_aload_n C hl 0 dX1_next_21 rfl ?_
    refine x_get C I fl_X1_31 0 rfl rfl dX1_next_22 ?_
    refine x_iald C I 2 rfl (And.left hw) dX1_next_25 ?_
    have hw := And.right hw
    refine x_goto C 30 dX1_next_26 (by decide) ?_
    exact x_ret0 C hw dX1_next_30
/-! X1_isDigit -/
abbrev rm_X1_isDigit : Room := { frames := 0, cells := 0, slots := 0, locals := 0 }
abbrev cs_X1_isDigit (G : Gt) : va_W := []
def wp_X1_isDigit (x0 : Int32) (Q : Int32 → Prop) : Prop := ((x0 < (48 : Int32) → (Q (0 : Int32))) ∧ (¬ x0 < (48 : Int32) → (((57 : Int32) < x0 → (Q (0 : Int32))) ∧ (¬ (57 : Int32) < x0 → (Q (1 : Int32))))))
set_option maxHeartbeats 4000000 in
set_option maxRecDepth 100000 in
theorem wk_X1_isDigit (l : Launch) (G : Gt) (x0 : Int32) (Q : Int32 → Prop) (hw : wp_X1_isDigit x0 Q) : Met l yX1_isDigit (wc yX1_isDigit cX1_isDigit 1 (some .boolean)) rm_X1_isDigit (va_Pc [.int x0] (PR G (cs_X1_isDigit G ))) (vp_Si Q) 0 0 (fun _ => False) := by
  refine x_start pn_X1 (Nat.le_of_ble_eq_true rfl) (fun p e s m below meth c ls C hn hl hB => ?_)
  have I := rd_start hB
  have C : Cx p s m [.int x0].toArray meth c cX1_isDigit 1 RX1 (some .boolean) := C
  have hl : lv_has ls 1 [(0, .int x0)] := hl
  refine x_iload_n C hl 0 dX1_isDigit_0 rfl ?_
  refine x_bipush C dX1_isDigit_1 bp_48 ?_
  refine x_icmp_lt C 16 dX1_isDigit_3 (by decide) (fun c1 => ?_) (fun c1 => ?_)
  · have hw := And.left hw c1
    refine x_iconst C dX1_isDigit_16 ic_0 ?_
    exact x_ret0z C bz_0 hw dX1_isDigit_17
  · have hw := And.right hw c1
    refine x_iload_n C hl 0 dX1_isDigit_6 rfl ?_
    refine x_bipush C dX1_isDigit_7 bp_57 ?_
    refine x_icmp_gt C 16 dX1_isDigit_9 (by decide) (fun c2 => ?_) (fun c2 => ?_)
    · have hw := And.left hw c2
      refine x_iconst C dX1_isDigit_16 ic_0 ?_
      exact x_ret0z C bz_0 hw dX1_isDigit_17
    · have hw := And.right hw c2
      refine x_iconst C dX1_isDigit_12 ic_1 ?_
      refine x_goto C 17 dX1_isDigit_13 (by decide) ?_
      exact x_ret0z C bz_1 hw dX1_isDigit_17
/-! X2_isMissing -/
abbrev rm_X2_isMissing : Room := { frames := 0, cells := 0, slots := 0, locals := 0 }
abbrev cs_X2_isMissing (G : Gt) (a_W : Nat) (a_W_numbers : Nat) (W_bits : Int32) (W_size : Int32) : va_W := [(a_W, .inr (2, [.ref a_W_numbers, .int W_bits, .int W_size]))]
def wp_X2_isMissing (W_bits : Int32) (Q : Int32 → Prop) : Prop := ((¬ W_bits = (0) → (Q (0 : Int32))) ∧ (W_bits = (0) → (Q (1 : Int32))))
set_option maxHeartbeats 4000000 in
set_option maxRecDepth 100000 in
theorem wk_X2_isMissing (l : Launch) (G : Gt) (a_W : Nat) (a_W_numbers : Nat) (W_bits : Int32) (W_size : Int32) (Q : Int32 → Prop) (hw : wp_X2_isMissing W_bits Q) : Met l yX2_isMissing (wc yX2_isMissing cX2_isMissing 1 (some .boolean)) rm_X2_isMissing (va_Pc [.ref a_W] (PR G (cs_X2_isMissing G a_W a_W_numbers W_bits W_size))) (vp_Si Q) 0 0 (fun _ => False) := by
  refine x_start pn_X2 (Nat.le_of_ble_eq_true rfl) (fun p e s m below meth c ls C hn hl hB => ?_)
  have I := rd_start hB
  have C : Cx p s m [.ref a_W].toArray meth c cX2_isMissing 1 RX2 (some .boolean) := C
  have hl : lv_has ls 1 [(0, .ref a_W)] := hl
  refine x_aload_n C hl 0 dX2_isMissing_0 rfl ?_
  refine x_get C I fl_X2_15 0 rfl rfl dX2_isMissing_1 ?_
  refine x_if_ne C 11 dX2_isMissing_4 (by decide) (fun c1 => ?_) (fun c1 => ?_)
  · have hw := And.left hw c1
    refine x_iconst C dX2_isMissing_11 ic_0 ?_
    exact x_ret0z C bz_0 hw dX2_isMissing_12
  · have hw := And.right hw c1
    refine x_iconst C dX2_isMissing_7 ic_1 ?_
    refine x_goto C 12 dX2_isMissing_8 (by decide) ?_
    exact x_ret0z C bz_1 hw dX2_isMissing_12
/-! X2_lowestBits -/
abbrev rm_X2_lowestBits : Room := { frames := 0, cells := 0, slots := 0, locals := 0 }
abbrev cs_X2_lowestBits (G : Gt) (a_W : Nat) (a_W_numbers : Nat) (W_bits : Int32) (W_size : Int32) : va_W := [(a_W, .inr (2, [.ref a_W_numbers, .int W_bits, .int W_size]))]
def wp_X2_lowestBits (x1 : Int32) (W_bits : Int32) (Q : Int32 → Prop) : Prop := ((¬ W_bits = (8 : Int32) → ((¬ W_bits = (16 : Int32) → (Q x1)) ∧ (W_bits = (16 : Int32) → (Q (x1 &&& (65535 : Int32)))))) ∧ (W_bits = (8 : Int32) → (Q (x1 &&& (255 : Int32)))))
set_option maxHeartbeats 4000000 in
set_option maxRecDepth 100000 in
theorem wk_X2_lowestBits (l : Launch) (G : Gt) (a_W : Nat) (a_W_numbers : Nat) (W_bits : Int32) (W_size : Int32) (x1 : Int32) (Q : Int32 → Prop) (hw : wp_X2_lowestBits x1 W_bits Q) : Met l yX2_lowestBits (wc yX2_lowestBits cX2_lowestBits 2 (some .int)) rm_X2_lowestBits (va_Pc [.ref a_W, .int x1] (PR G (cs_X2_lowestBits G a_W a_W_numbers W_bits W_size))) (vp_Si Q) 0 0 (fun _ => False) := by
  refine x_start pn_X2 (Nat.le_of_ble_eq_true rfl) (fun p e s m below meth c ls C hn hl hB => ?_)
  have I := rd_start hB
  have C : Cx p s m [.ref a_W, .int x1].toArray meth c cX2_lowestBits 2 RX2 (some .int) := C
  have hl : lv_has ls 2 [(0, .ref a_W), (1, .int x1)] := hl
  refine x_aload_n C hl 0 dX2_lowestBits_0 rfl ?_
  refine x_get C I fl_X2_15 0 rfl rfl dX2_lowestBits_1 ?_
  refine x_bipush C dX2_lowestBits_4 bp_8 ?_
  refine x_icmp_ne C 17 dX2_lowestBits_6 (by decide) (fun c1 => ?_) (fun c1 => ?_)
  · have hw := And.left hw c1
    refine x_aload_n C hl 0 dX2_lowestBits_17 rfl ?_
    refine x_get C I fl_X2_15 0 rfl rfl dX2_lowestBits_18 ?_
    refine x_bipush C dX2_lowestBits_21 bp_16 ?_
    refine x_icmp_ne C 33 dX2_lowestBits_23 (by decide) (fun c2 => ?_) (fun c2 => ?_)
    · have hw := And.left hw c2
      refine x_iload_n C hl 1 dX2_lowestBits_33 rfl ?_
      exact x_ret0 C hw dX2_lowestBits_34
    · have hw := And.right hw c2
      refine x_iload_n C hl 1 dX2_lowestBits_26 rfl ?_
      refine x_ldc C wd_774 dX2_lowestBits_27 ?_
      refine x_iand C dX2_lowestBits_29 ?_
      refine x_goto C 34 dX2_lowestBits_30 (by decide) ?_
      exact x_ret0 C hw dX2_lowestBits_34
  · have hw := And.right hw c1
    refine x_iload_n C hl 1 dX2_lowestBits_9 rfl ?_
    refine x_sipush C dX2_lowestBits_10 sp_255 ?_
    refine x_iand C dX2_lowestBits_13 ?_
    refine x_goto C 34 dX2_lowestBits_14 (by decide) ?_
    exact x_ret0 C hw dX2_lowestBits_34
/-! X2_holds -/
abbrev rm_X2_holds : Room := { frames := 0, cells := 0, slots := 0, locals := 0 }
abbrev cs_X2_holds (G : Gt) (a_W : Nat) (a_W_numbers : Nat) (W_bits : Int32) (W_size : Int32) : va_W := [(a_W, .inr (2, [.ref a_W_numbers, .int W_bits, .int W_size]))]
def wp_X2_holds (x1 : Int32) (x2 : Int32) (W_size : Int32) (Q : Int32 → Prop) : Prop := ((x2 < (0) → (Q (0 : Int32))) ∧ (¬ x2 < (0) → ((x1 < (0) → (Q (0 : Int32))) ∧ (¬ x1 < (0) → ((W_size < x2 → (Q (0 : Int32))) ∧ (¬ W_size < x2 → (((W_size - x2) < x1 → (Q (0 : Int32))) ∧ (¬ (W_size - x2) < x1 → (Q (1 : Int32))))))))))
set_option maxHeartbeats 4000000 in
set_option maxRecDepth 100000 in
theorem wk_X2_holds (l : Launch) (G : Gt) (a_W : Nat) (a_W_numbers : Nat) (W_bits : Int32) (W_size : Int32) (x1 : Int32) (x2 : Int32) (Q : Int32 → Prop) (hw : wp_X2_holds x1 x2 W_size Q) : Met l yX2_holds (wc yX2_holds cX2_holds 3 (some .boolean)) rm_X2_holds (va_Pc [.ref a_W, .int x1, .int x2] (PR G (cs_X2_holds G a_W a_W_numbers W_bits W_size))) (vp_Si Q) 0 0 (fun _ => False) := by
  refine x_start pn_X2 (Nat.le_of_ble_eq_true rfl) (fun p e s m below meth c ls C hn hl hB => ?_)
  have I := rd_start hB
  have C : Cx p s m [.ref a_W, .int x1, .int x2].toArray meth c cX2_holds 3 RX2 (some .boolean) := C
  have hl : lv_has ls 3 [(0, .ref a_W), (1, .int x1), (2, .int x2)] := hl
  refine x_iload_n C hl 2 dX2_holds_0 rfl ?_
  refine x_if_lt C 30 dX2_holds_1 (by decide) (fun c1 => ?_) (fun c1 => ?_)
  · have hw := And.left hw c1
    refine x_iconst C dX2_holds_30 ic_0 ?_
    exact x_ret0z C bz_0 hw dX2_holds_31
  · have hw := And.right hw c1
    refine x_iload_n C hl 1 dX2_holds_4 rfl ?_
    refine x_if_lt C 30 dX2_holds_5 (by decide) (fun c2 => ?_) (fun c2 => ?_)
    · have hw := And.left hw c2
      refine x_iconst C dX2_holds_30 ic_0 ?_
      exact x_ret0z C bz_0 hw dX2_holds_31
    · have hw := And.right hw c2
      refine x_iload_n C hl 2 dX2_holds_8 rfl ?_
      refine x_aload_n C hl 0 dX2_holds_9 rfl ?_
      refine x_get C I fl_X2_19 0 rfl rfl dX2_holds_10 ?_
      refine x_icmp_gt C 30 dX2_holds_13 (by decide) (fun c3 => ?_) (fun c3 => ?_)
      · have hw := And.left hw c3
        refine x_iconst C dX2_holds_30 ic_0 ?_
        exact x_ret0z C bz_0 hw dX2_holds_31
      · have hw := And.right hw c3
        refine x_iload_n C hl 1 dX2_holds_16 rfl ?_
        refine x_aload_n C hl 0 dX2_holds_17 rfl ?_
        refine x_get C I fl_X2_19 0 rfl rfl dX2_holds_18 ?_
        refine x_iload_n C hl 2 dX2_holds_21 rfl ?_
        refine x_isub C dX2_holds_22 ?_
        refine x_icmp_gt C 30 dX2_holds_23 (by decide) (fun c4 => ?_) (fun c4 => ?_)
        · have hw := And.left hw c4
          refine x_iconst C dX2_holds_30 ic_0 ?_
          exact x_ret0z C bz_0 hw dX2_holds_31
        · have hw := And.right hw c4
          refine x_iconst C dX2_holds_26 ic_1 ?_
          refine x_goto C 31 dX2_holds_27 (by decide) ?_
          exact x_ret0z C bz_1 hw dX2_holds_31
/-! X3_isEmpty -/
abbrev rm_X3_isEmpty : Room := { frames := 0, cells := 0, slots := 0, locals := 0 }
abbrev cs_X3_isEmpty (G : Gt) (a_U : Nat) (a_U_signs : Nat) (a_U_numbers : Nat) (a_U_pile : Nat) (U_size : Int32) : va_W := [(a_U, .inr (3, [.ref a_U_signs, .ref a_U_numbers, .ref a_U_pile, .int U_size]))]
def wp_X3_isEmpty (U_size : Int32) (Q : Int32 → Prop) : Prop := ((¬ U_size = (0) → (Q (0 : Int32))) ∧ (U_size = (0) → (Q (1 : Int32))))
set_option maxHeartbeats 4000000 in
set_option maxRecDepth 100000 in
theorem wk_X3_isEmpty (l : Launch) (G : Gt) (a_U : Nat) (a_U_signs : Nat) (a_U_numbers : Nat) (a_U_pile : Nat) (U_size : Int32) (Q : Int32 → Prop) (hw : wp_X3_isEmpty U_size Q) : Met l yX3_isEmpty (wc yX3_isEmpty cX3_isEmpty 1 (some .boolean)) rm_X3_isEmpty (va_Pc [.ref a_U] (PR G (cs_X3_isEmpty G a_U a_U_signs a_U_numbers a_U_pile U_size))) (vp_Si Q) 0 0 (fun _ => False) := by
  refine x_start pn_X3 (Nat.le_of_ble_eq_true rfl) (fun p e s m below meth c ls C hn hl hB => ?_)
  have I := rd_start hB
  have C : Cx p s m [.ref a_U].toArray meth c cX3_isEmpty 1 RX3 (some .boolean) := C
  have hl : lv_has ls 1 [(0, .ref a_U)] := hl
  refine x_aload_n C hl 0 dX3_isEmpty_0 rfl ?_
  refine x_get C I fl_X3_21 0 rfl rfl dX3_isEmpty_1 ?_
  refine x_if_ne C 11 dX3_isEmpty_4 (by decide) (fun c1 => ?_) (fun c1 => ?_)
  · have hw := And.left hw c1
    refine x_iconst C dX3_isEmpty_11 ic_0 ?_
    exact x_ret0z C bz_0 hw dX3_isEmpty_12
  · have hw := And.right hw c1
    refine x_iconst C dX3_isEmpty_7 ic_1 ?_
    refine x_goto C 12 dX3_isEmpty_8 (by decide) ?_
    exact x_ret0z C bz_1 hw dX3_isEmpty_12
