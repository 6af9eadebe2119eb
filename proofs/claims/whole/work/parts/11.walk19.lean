/-! X7_refuse -/
abbrev rm_X7_refuse : Room := { frames := 1, cells := 0, slots := 0, locals := 22 }
abbrev cs_X7_refuse (G : Gt) (a_T : Nat) (a_T_now : Nat) (a_T_kept : Nat) (a_T_thought : Nat) (a_T_reader : Nat) (a_T_voices : Nat) (a_T_rows : Nat) (a_T_refused : Nat) (a_T_timesFree : Nat) (T_images : Int32) (T_refused : Nat → Int32) : va_W := [(a_T, .inr (7, [.ref a_T_now, .ref a_T_kept, .ref a_T_thought, .ref a_T_reader, .ref a_T_voices, .ref a_T_rows, .ref a_T_refused, .ref a_T_timesFree, .int T_images])), (a_T_refused, .inl (cI G, 6, .inl T_refused))]
abbrev qc_X7_refuse (G : Gt) (a_T : Nat) (a_T_now : Nat) (a_T_kept : Nat) (a_T_thought : Nat) (a_T_reader : Nat) (a_T_voices : Nat) (a_T_rows : Nat) (a_T_refused : Nat) (a_T_timesFree : Nat) (T_images : Int32) (A : Nat → Prop) (Q : Int32 → (Nat → Int32) → Prop) : Array Value → State → Outcome → State → Prop := Qi1 G A (fun r (u : (Nat → Int32)) => Q r u) (fun u => cs_X7_refuse G a_T a_T_now a_T_kept a_T_thought a_T_reader a_T_voices a_T_rows a_T_refused a_T_timesFree T_images u)
def wp_X7_refuse (x1 : Int32) (T_refused : Nat → Int32) (Q : Int32 → (Nat → Int32) → Prop) : Prop := (wp_X7_within x1 (1 : Int32) (5 : Int32) (fun r1 => ((r1 = (0) → (Q ((-1000000000 : Int32) - x1) T_refused)) ∧ (¬ r1 = (0) → (vp_in x1 6 ∧ (∀ v3 : Int32, v3 = ((T_refused (x1).toNatClampNeg) + (1 : Int32)) → (vp_in x1 6 ∧ (Q ((-1000000000 : Int32) - x1) (upd T_refused (x1).toNatClampNeg v3)))))))))
set_option maxHeartbeats 4000000 in
set_option maxRecDepth 100000 in
theorem wk_X7_refuse (l : Launch) (G : Gt) (a_T : Nat) (a_T_now : Nat) (a_T_kept : Nat) (a_T_thought : Nat) (a_T_reader : Nat) (a_T_voices : Nat) (a_T_rows : Nat) (a_T_refused : Nat) (a_T_timesFree : Nat) (sz : Nat) (T_images : Int32) (T_refused : Nat → Int32) (x1 : Int32) (Q : Int32 → (Nat → Int32) → Prop) (hw : wp_X7_refuse x1 T_refused Q) : Met l yX7_refuse (wc yX7_refuse cX7_refuse 2 (some .int)) rm_X7_refuse (va_Pc [.ref a_T, .int x1] (PB G (cs_X7_refuse G a_T a_T_now a_T_kept a_T_thought a_T_reader a_T_voices a_T_rows a_T_refused a_T_timesFree T_images T_refused) sz)) (qc_X7_refuse G a_T a_T_now a_T_kept a_T_thought a_T_reader a_T_voices a_T_rows a_T_refused a_T_timesFree T_images (va_A (cs_X7_refuse G a_T a_T_now a_T_kept a_T_thought a_T_reader a_T_voices a_T_rows a_T_refused a_T_timesFree T_images T_refused) sz) Q) 0 0 (va_A (cs_X7_refuse G a_T a_T_now a_T_kept a_T_thought a_T_reader a_T_voices a_T_rows a_T_refused a_T_timesFree T_images T_refused) sz) := by
  refine x_start pn_X7 (Nat.le_of_ble_eq_true rfl) (fun p e s m below meth c ls C hn hl hB => ?_)
  have I := iv_start hB
  generalize va_A (cs_X7_refuse G a_T a_T_now a_T_kept a_T_thought a_T_reader a_T_voices a_T_rows a_T_refused a_T_timesFree T_images T_refused) sz = A at I ⊢
  have C : Cx p s m [.ref a_T, .int x1].toArray meth c cX7_refuse 2 RX7 (some .int) := C
  have hl : lv_has ls 2 [(0, .ref a_T), (1, .int x1)] := hl
  refine x_iload_n C hl 1 dX7_refuse_0 rfl ?_
  refine x_iconst C dX7_refuse_1 ic_1 ?_
  refine x_iconst C dX7_refuse_2 ic_5 ?_
  refine x_ro (run_S (As := [.int x1, .int (1 : Int32), .int (5 : Int32)]) (rest := []) C hl (wk_X7_within l G x1 (1 : Int32) (5 : Int32) _ hw) gm_X7_126 ⟨⟨rfl, rfl⟩, cn_X7_within, ⟨(Nat.le_of_ble_eq_true rfl), (Nat.le_of_ble_eq_true rfl)⟩⟩ (pr_blind _ _ _) (pr_of I.1 [] rfl) rfl rfl (Nat.le_of_ble_eq_true rfl) ⟨Nat.le_of_ble_eq_true rfl, Nat.le_of_ble_eq_true rfl⟩ dX7_refuse_3) (fun r1 hw => ?_)
  refine x_if_eq C 19 dX7_refuse_6 (by decide) (fun c2 => ?_) (fun c2 => ?_)
  · have hw := And.left hw c2
    refine x_ldcw C wd_340 dX7_refuse_19 ?_
    refine x_iload_n C hl 1 dX7_refuse_22 rfl ?_
    refine x_isub C dX7_refuse_23 ?_
    exact x_ret1 C I T_refused rfl hw dX7_refuse_24
  · have hw := And.right hw c2
    refine x_aload_n C hl 0 dX7_refuse_9 rfl ?_
    refine x_get C I.1 fl_X7_56 0 rfl rfl dX7_refuse_10 ?_
    refine x_iload_n C hl 1 dX7_refuse_13 rfl ?_
    refine x_dup2 C dX7_refuse_14 rfl rfl ?_
    refine x_iald C I.1 1 rfl (And.left hw) dX7_refuse_15 ?_
    have hw := And.right hw
    refine x_iconst C dX7_refuse_16 ic_1 ?_
    refine x_iadd C dX7_refuse_17 ?_
    refine lv_topi (fun v3 ev3 => ?_)
    have hw := hw v3 ev3
    refine x_iast C I 1 (cs_X7_refuse G a_T a_T_now a_T_kept a_T_thought a_T_reader a_T_voices a_T_rows a_T_refused a_T_timesFree T_images (upd T_refused (x1).toNatClampNeg v3)) rfl (And.left hw) rfl dX7_refuse_18 (fun Hx lx I => ?_)
    have hw := And.right hw
    refine x_ldcw C wd_340 dX7_refuse_19 ?_
    refine x_iload_n C hl 1 dX7_refuse_22 rfl ?_
    refine x_isub C dX7_refuse_23 ?_
    exact x_ret1 C I (upd T_refused (x1).toNatClampNeg v3) rfl hw dX7_refuse_24
/-! X7_replace -/
abbrev rm_X7_replace : Room := { frames := 2, cells := 0, slots := 0, locals := 43 }
abbrev cs_X7_replace (G : Gt) (a_q : Nat) (a_T : Nat) (a_T_now : Nat) (a_T_kept : Nat) (a_T_thought : Nat) (a_T_reader : Nat) (a_T_voices : Nat) (a_T_rows : Nat) (a_T_refused : Nat) (a_T_timesFree : Nat) (q : Nat → Int32) (T_images : Int32) (T_refused : Nat → Int32) : va_W := [(a_q, .inl (cI G, 8, .inl q)), (a_T, .inr (7, [.ref a_T_now, .ref a_T_kept, .ref a_T_thought, .ref a_T_reader, .ref a_T_voices, .ref a_T_rows, .ref a_T_refused, .ref a_T_timesFree, .int T_images])), (a_T_refused, .inl (cI G, 6, .inl T_refused))]
abbrev qc_X7_replace (G : Gt) (a_q : Nat) (a_T : Nat) (a_T_now : Nat) (a_T_kept : Nat) (a_T_thought : Nat) (a_T_reader : Nat) (a_T_voices : Nat) (a_T_rows : Nat) (a_T_refused : Nat) (a_T_timesFree : Nat) (T_images : Int32) (A : Nat → Prop) (Q : Int32 → (Nat → Int32) → (Nat → Int32) → Prop) : Array Value → State → Outcome → State → Prop := Qi1 G A (fun r (u : (Nat → Int32) × (Nat → Int32)) => Q r u.1 u.2) (fun u => cs_X7_replace G a_q a_T a_T_now a_T_kept a_T_thought a_T_reader a_T_voices a_T_rows a_T_refused a_T_timesFree u.1 T_images u.2)
def lb_X7_replace_22 (x2 : Int32) (x3 : Int32) (x4 : Int32) (Q : Int32 → (Nat → Int32) → (Nat → Int32) → Prop) (w_q : Nat → Int32) (w_T_refused : Nat → Int32) : Prop := (wp_X7_refuse (1 : Int32) w_T_refused (fun r4 o3 => (Q r4 w_q o3)))
set_option maxHeartbeats 4000000 in
set_option maxRecDepth 100000 in
theorem lk_X7_replace_22 {p : Program} {l : Launch} {e : Env} {s : State} {m : MethodId} {args : Array Value} {below : List Frame} {meth : Method} {c : Code} {A : Nat → Prop} (G : Gt) (a_q : Nat) (a_T : Nat) (a_T_now : Nat) (a_T_kept : Nat) (a_T_thought : Nat) (a_T_reader : Nat) (a_T_voices : Nat) (a_T_rows : Nat) (a_T_refused : Nat) (a_T_timesFree : Nat) (C : Cx p s m args meth c cX7_replace 6 RX7 (some .int)) (x2 : Int32) (x3 : Int32) (x4 : Int32) (T_images : Int32) (Q : Int32 → (Nat → Int32) → (Nat → Int32) → Prop) : ∀ (w_q : Nat → Int32) (w_T_refused : Nat → Int32) (Hx : Heap) (lx : List Loc) (ls : Array Slot), lb_X7_replace_22 x2 x3 x4 Q w_q w_T_refused → Iv G A s (cs_X7_replace G a_q a_T a_T_now a_T_kept a_T_thought a_T_reader a_T_voices a_T_rows a_T_refused a_T_timesFree w_q T_images w_T_refused) Hx lx → lv_has ls 6 [(0, .ref a_T)] → W p l e rm_X7_replace s m args below meth c Hx lx 0 0 (MQ below (qc_X7_replace G a_q a_T a_T_now a_T_kept a_T_thought a_T_reader a_T_voices a_T_rows a_T_refused a_T_timesFree T_images A Q) args s 0 0 A) (F0 m 22 ls []) := by
  intro w_q w_T_refused Hx lx  ls hw I hl
  refine x_aload_n C hl 0 dX7_replace_22 rfl ?_
  refine x_iconst C dX7_replace_23 ic_1 ?_
  refine x_mui (wk := cs_X7_refuse G a_T a_T_now a_T_kept a_T_thought a_T_reader a_T_voices a_T_rows a_T_refused a_T_timesFree T_images w_T_refused) (wr := [(a_q, .inl (cI G, 8, .inl w_q))]) (isC := [1, 2]) (isR := [0]) I ⟨⟨rfl, rfl⟩, rfl, rfl, rfl⟩ [0, 1, 2] (fun u => cs_X7_replace G a_q a_T a_T_now a_T_kept a_T_thought a_T_reader a_T_voices a_T_rows a_T_refused a_T_timesFree w_q T_images u) (fun _ => rfl) rfl (run_V (As := [.int (1 : Int32)]) (rest := []) C hl (wk_X7_refuse l G a_T a_T_now a_T_kept a_T_thought a_T_reader a_T_voices a_T_rows a_T_refused a_T_timesFree Hx.size T_images w_T_refused (1 : Int32) _ hw) gm_X7_74 ⟨⟨rfl, rfl⟩, cn_X7_refuse, ⟨(Nat.le_of_ble_eq_true rfl), (Nat.le_of_ble_eq_true rfl)⟩⟩ (pb_blind _ _ _ _) (x_recv I.1 1 rfl rfl) (pb_of I [1, 2] rfl rfl) rfl rfl (Nat.le_of_ble_eq_true rfl) ⟨Nat.le_of_ble_eq_true rfl, Nat.le_of_ble_eq_true rfl⟩ dX7_replace_24) (fun r4 u Hx lx hw I => ?_)
  obtain ⟨o3, eo3⟩ : ∃ z, z = u := ⟨_, rfl⟩
  subst eo3
  have I : Iv G A s (cs_X7_replace G a_q a_T a_T_now a_T_kept a_T_thought a_T_reader a_T_voices a_T_rows a_T_refused a_T_timesFree w_q T_images o3) Hx lx := I
  exact x_ret1 C I (w_q, o3) rfl hw dX7_replace_27
def wp_X7_replace (x2 : Int32) (x3 : Int32) (x4 : Int32) (q : Nat → Int32) (T_refused : Nat → Int32) (Q : Int32 → (Nat → Int32) → (Nat → Int32) → Prop) : Prop := (wp_X7_within x3 (0 : Int32) x4 (fun r1 => ((r1 = (0) → (lb_X7_replace_22 x2 x3 x4 Q q T_refused)) ∧ (¬ r1 = (0) → (wp_X7_within x2 (0 : Int32) ((8 : Int32) - (1 : Int32)) (fun r5 => ((¬ r5 = (0) → (vp_in x2 8 ∧ (∀ v7 : Int32, v7 = (q (x2).toNatClampNeg) → (vp_in x2 8 ∧ (Q v7 (upd q (x2).toNatClampNeg x3) T_refused))))) ∧ (r5 = (0) → (lb_X7_replace_22 x2 x3 x4 Q q T_refused)))))))))
set_option maxHeartbeats 4000000 in
set_option maxRecDepth 100000 in
theorem wk_X7_replace (l : Launch) (G : Gt) (a_q : Nat) (a_T : Nat) (a_T_now : Nat) (a_T_kept : Nat) (a_T_thought : Nat) (a_T_reader : Nat) (a_T_voices : Nat) (a_T_rows : Nat) (a_T_refused : Nat) (a_T_timesFree : Nat) (sz : Nat) (q : Nat → Int32) (T_images : Int32) (T_refused : Nat → Int32) (x2 : Int32) (x3 : Int32) (x4 : Int32) (Q : Int32 → (Nat → Int32) → (Nat → Int32) → Prop) (hw : wp_X7_replace x2 x3 x4 q T_refused Q) : Met l yX7_replace (wc yX7_replace cX7_replace 6 (some .int)) rm_X7_replace (va_Pc [.ref a_T, .ref a_q, .int x2, .int x3, .int x4] (PB G (cs_X7_replace G a_q a_T a_T_now a_T_kept a_T_thought a_T_reader a_T_voices a_T_rows a_T_refused a_T_timesFree q T_images T_refused) sz)) (qc_X7_replace G a_q a_T a_T_now a_T_kept a_T_thought a_T_reader a_T_voices a_T_rows a_T_refused a_T_timesFree T_images (va_A (cs_X7_replace G a_q a_T a_T_now a_T_kept a_T_thought a_T_reader a_T_voices a_T_rows a_T_refused a_T_timesFree q T_images T_refused) sz) Q) 0 0 (va_A (cs_X7_replace G a_q a_T a_T_now a_T_kept a_T_thought a_T_reader a_T_voices a_T_rows a_T_refused a_T_timesFree q T_images T_refused) sz) := by
  refine x_start pn_X7 (Nat.le_of_ble_eq_true rfl) (fun p e s m below meth c ls C hn hl hB => ?_)
  have I := iv_start hB
  generalize va_A (cs_X7_replace G a_q a_T a_T_now a_T_kept a_T_thought a_T_reader a_T_voices a_T_rows a_T_refused a_T_timesFree q T_images T_refused) sz = A at I ⊢
  have C : Cx p s m [.ref a_T, .ref a_q, .int x2, .int x3, .int x4].toArray meth c cX7_replace 6 RX7 (some .int) := C
  have hl : lv_has ls 6 [(0, .ref a_T), (1, .ref a_q), (2, .int x2), (3, .int x3), (4, .int x4)] := hl
  refine x_iload_n C hl 3 dX7_replace_0 rfl ?_
  refine x_iconst C dX7_replace_1 ic_0 ?_
  refine x_iload C hl 4 dX7_replace_2 rfl ?_
  refine x_ro (run_S (As := [.int x3, .int (0 : Int32), .int x4]) (rest := []) C hl (wk_X7_within l G x3 (0 : Int32) x4 _ hw) gm_X7_126 ⟨⟨rfl, rfl⟩, cn_X7_within, ⟨(Nat.le_of_ble_eq_true rfl), (Nat.le_of_ble_eq_true rfl)⟩⟩ (pr_blind _ _ _) (pr_of I.1 [] rfl) rfl rfl (Nat.le_of_ble_eq_true rfl) ⟨Nat.le_of_ble_eq_true rfl, Nat.le_of_ble_eq_true rfl⟩ dX7_replace_4) (fun r1 hw => ?_)
  refine x_if_eq C 22 dX7_replace_7 (by decide) (fun c2 => ?_) (fun c2 => ?_)
  · have hw := And.left hw c2
    exact lk_X7_replace_22 G a_q a_T a_T_now a_T_kept a_T_thought a_T_reader a_T_voices a_T_rows a_T_refused a_T_timesFree C x2 x3 x4 T_images Q q T_refused s.heap [] ls hw I (lv_sub hl [0] rfl)
  · have hw := And.right hw c2
    refine x_iload_n C hl 2 dX7_replace_10 rfl ?_
    refine x_iconst C dX7_replace_11 ic_0 ?_
    refine x_aload_n C hl 1 dX7_replace_12 rfl ?_
    refine x_alen C I.1 0 (8 : Int32) rfl al_8 dX7_replace_13 ?_
    refine x_iconst C dX7_replace_14 ic_1 ?_
    refine x_isub C dX7_replace_15 ?_
    refine x_ro (run_S (As := [.int x2, .int (0 : Int32), .int ((8 : Int32) - (1 : Int32))]) (rest := []) C hl (wk_X7_within l G x2 (0 : Int32) ((8 : Int32) - (1 : Int32)) _ hw) gm_X7_126 ⟨⟨rfl, rfl⟩, cn_X7_within, ⟨(Nat.le_of_ble_eq_true rfl), (Nat.le_of_ble_eq_true rfl)⟩⟩ (pr_blind _ _ _) (pr_of I.1 [] rfl) rfl rfl (Nat.le_of_ble_eq_true rfl) ⟨Nat.le_of_ble_eq_true rfl, Nat.le_of_ble_eq_true rfl⟩ dX7_replace_16) (fun r5 hw => ?_)
    refine x_if_ne C 28 dX7_replace_19 (by decide) (fun c6 => ?_) (fun c6 => ?_)
    · have hw := And.left hw c6
      refine x_aload_n C hl 1 dX7_replace_28 rfl ?_
      refine x_iload_n C hl 2 dX7_replace_29 rfl ?_
      refine x_iald C I.1 0 rfl (And.left hw) dX7_replace_30 ?_
      have hw := And.right hw
      refine lv_topi (fun v7 ev7 => ?_)
      have hw := hw v7 ev7
      refine x_istore C hl [(5, .int v7), (0, .ref a_T), (1, .ref a_q), (2, .int x2), (3, .int x3), (4, .int x4)] dX7_replace_31 (Nat.le_of_ble_eq_true rfl) rfl (fun ls hl => ?_)
      refine x_aload_n C hl 2 dX7_replace_33 rfl ?_
      refine x_iload_n C hl 3 dX7_replace_34 rfl ?_
      refine x_iload_n C hl 4 dX7_replace_35 rfl ?_
      refine x_iast C I 0 (cs_X7_replace G a_q a_T a_T_now a_T_kept a_T_thought a_T_reader a_T_voices a_T_rows a_T_refused a_T_timesFree (upd q (x2).toNatClampNeg x3) T_images T_refused) rfl (And.left hw) rfl dX7_replace_36 (fun Hx lx I => ?_)
      have hw := And.right hw
      refine x_iload C hl 0 dX7_replace_37 rfl ?_
      exact x_ret1 C I ((upd q (x2).toNatClampNeg x3), T_refused) rfl hw dX7_replace_39
    · have hw := And.right hw c6
      exact lk_X7_replace_22 G a_q a_T a_T_now a_T_kept a_T_thought a_T_reader a_T_voices a_T_rows a_T_refused a_T_timesFree C x2 x3 x4 T_images Q q T_refused s.heap [] ls hw I (lv_sub hl [0] rfl)
/-! X7_isSoul -/
abbrev rm_X7_isSoul : Room := { frames := 1, cells := 0, slots := 0, locals := 22 }
abbrev cs_X7_isSoul (G : Gt) (a_T : Nat) (a_T_now : Nat) (a_T_kept : Nat) (a_T_thought : Nat) (a_T_reader : Nat) (a_T_voices : Nat) (a_T_rows : Nat) (a_T_refused : Nat) (a_T_timesFree : Nat) (a_T_now_meeting : Nat) (a_T_now_deed : Nat) (a_T_now_folk : Nat) (a_T_now_tape : Nat) (a_T_now_waiting : Nat) (a_T_now_folk_kind : Nat) (a_T_now_folk_m : Nat) (a_T_now_folk_at : Nat) (a_T_now_folk_free : Nat) (a_T_now_folk_gloved : Nat) (a_T_now_folk_deeds : Nat) (a_T_now_folk_handed : Nat) (a_T_now_folk_crowd : Nat) (T_images : Int32) (T_now_z : Int32) (T_now_folk_size : Int32) (T_now_folk_step : Int32) (T_now_folk_loss : Int32) : va_W := [(a_T, .inr (7, [.ref a_T_now, .ref a_T_kept, .ref a_T_thought, .ref a_T_reader, .ref a_T_voices, .ref a_T_rows, .ref a_T_refused, .ref a_T_timesFree, .int T_images])), (a_T_now, .inr (5, [.ref a_T_now_meeting, .ref a_T_now_deed, .ref a_T_now_folk, .ref a_T_now_tape, .ref a_T_now_waiting, .int T_now_z])), (a_T_now_folk, .inr (0, [.ref a_T_now_meeting, .ref a_T_now_deed, .ref a_T_now_folk_kind, .ref a_T_now_folk_m, .ref a_T_now_folk_at, .ref a_T_now_folk_free, .ref a_T_now_folk_gloved, .ref a_T_now_folk_deeds, .ref a_T_now_folk_handed, .ref a_T_now_folk_crowd, .int T_now_folk_size, .int T_now_folk_step, .int T_now_folk_loss]))]
def wp_X7_isSoul (x1 : Int32) (T_now_folk_size : Int32) (Q : Int32 → Prop) : Prop := (wp_X7_within x1 (0 : Int32) (T_now_folk_size - (1 : Int32)) (fun r1 => ((r1 &&& 1 = r1) ∧ (Q r1))))
set_option maxHeartbeats 4000000 in
set_option maxRecDepth 100000 in
theorem wk_X7_isSoul (l : Launch) (G : Gt) (a_T : Nat) (a_T_now : Nat) (a_T_kept : Nat) (a_T_thought : Nat) (a_T_reader : Nat) (a_T_voices : Nat) (a_T_rows : Nat) (a_T_refused : Nat) (a_T_timesFree : Nat) (a_T_now_meeting : Nat) (a_T_now_deed : Nat) (a_T_now_folk : Nat) (a_T_now_tape : Nat) (a_T_now_waiting : Nat) (a_T_now_folk_kind : Nat) (a_T_now_folk_m : Nat) (a_T_now_folk_at : Nat) (a_T_now_folk_free : Nat) (a_T_now_folk_gloved : Nat) (a_T_now_folk_deeds : Nat) (a_T_now_folk_handed : Nat) (a_T_now_folk_crowd : Nat) (T_images : Int32) (T_now_z : Int32) (T_now_folk_size : Int32) (T_now_folk_step : Int32) (T_now_folk_loss : Int32) (x1 : Int32) (Q : Int32 → Prop) (hw : wp_X7_isSoul x1 T_now_folk_size Q) : Met l yX7_isSoul (wc yX7_isSoul cX7_isSoul 2 (some .boolean)) rm_X7_isSoul (va_Pc [.ref a_T, .int x1] (PR G (cs_X7_isSoul G a_T a_T_now a_T_kept a_T_thought a_T_reader a_T_voices a_T_rows a_T_refused a_T_timesFree a_T_now_meeting a_T_now_deed a_T_now_folk a_T_now_tape a_T_now_waiting a_T_now_folk_kind a_T_now_folk_m a_T_now_folk_at a_T_now_folk_free a_T_now_folk_gloved a_T_now_folk_deeds a_T_now_folk_handed a_T_now_folk_crowd T_images T_now_z T_now_folk_size T_now_folk_step T_now_folk_loss))) (vp_Si Q) 0 0 (fun _ => False) := by
  refine x_start pn_X7 (Nat.le_of_ble_eq_true rfl) (fun p e s m below meth c ls C hn hl hB => ?_)
  have I := rd_start hB
  have C : Cx p s m [.ref a_T, .int x1].toArray meth c cX7_isSoul 2 RX7 (some .boolean) := C
  have hl : lv_has ls 2 [(0, .ref a_T), (1, .int x1)] := hl
  refine x_iload_n C hl 1 dX7_isSoul_0 rfl ?_
  refine x_iconst C dX7_isSoul_1 ic_0 ?_
  refine x_aload_n C hl 0 dX7_isSoul_2 rfl ?_
  refine x_get C I fl_X7_10 0 rfl rfl dX7_isSoul_3 ?_
  refine x_get C I fl_X7_78 1 rfl rfl dX7_isSoul_6 ?_
  refine x_get C I fl_X7_81 2 rfl rfl dX7_isSoul_9 ?_
  refine x_iconst C dX7_isSoul_12 ic_1 ?_
  refine x_isub C dX7_isSoul_13 ?_
  refine x_ro (run_S (As := [.int x1, .int (0 : Int32), .int (T_now_folk_size - (1 : Int32))]) (rest := []) C hl (wk_X7_within l G x1 (0 : Int32) (T_now_folk_size - (1 : Int32)) _ hw) gm_X7_126 ⟨⟨rfl, rfl⟩, cn_X7_within, ⟨(Nat.le_of_ble_eq_true rfl), (Nat.le_of_ble_eq_true rfl)⟩⟩ (pr_blind _ _ _) (pr_of I [] rfl) rfl rfl (Nat.le_of_ble_eq_true rfl) ⟨Nat.le_of_ble_eq_true rfl, Nat.le_of_ble_eq_true rfl⟩ dX7_isSoul_14) (fun r1 hw => ?_)
  exact x_ret0z C (And.left hw) (And.right hw) dX7_isSoul_17
/-! X7_rowOf -/
abbrev rm_X7_rowOf : Room := { frames := 1, cells := 0, slots := 0, locals := 22 }
abbrev cs_X7_rowOf (G : Gt) (a_T : Nat) (a_T_now : Nat) (a_T_kept : Nat) (a_T_thought : Nat) (a_T_reader : Nat) (a_T_voices : Nat) (a_T_rows : Nat) (a_T_refused : Nat) (a_T_timesFree : Nat) (a_T_row0 : Nat) (a_T_row1 : Nat) (a_T_row2 : Nat) (a_T_row3 : Nat) (T_images : Int32) : va_W := [(a_T, .inr (7, [.ref a_T_now, .ref a_T_kept, .ref a_T_thought, .ref a_T_reader, .ref a_T_voices, .ref a_T_rows, .ref a_T_refused, .ref a_T_timesFree, .int T_images])), (a_T_rows, .inl (G.2.2 1, 4, .inr (.inr (.inr (.inr (rwf a_T_row0 a_T_row1 a_T_row2 a_T_row3))))))]
def wp_X7_rowOf (x1 : Int32) (QA0 : Prop) (QA1 : Prop) (QA2 : Prop) (QA3 : Prop) (QA4 : Prop) : Prop := (wp_X7_within x1 (0 : Int32) (3 : Int32) (fun r1 => ((r1 = (0) → QA0) ∧ (¬ r1 = (0) → (vp_in x1 4 ∧ ((x1 = (0 : Int32) → QA1) ∧ (x1 = (1 : Int32) → QA2) ∧ (x1 = (2 : Int32) → QA3) ∧ (x1 = (3 : Int32) → QA4)))))))
set_option maxHeartbeats 4000000 in
set_option maxRecDepth 100000 in
theorem wk_X7_rowOf (l : Launch) (G : Gt) (a_T : Nat) (a_T_now : Nat) (a_T_kept : Nat) (a_T_thought : Nat) (a_T_reader : Nat) (a_T_voices : Nat) (a_T_rows : Nat) (a_T_refused : Nat) (a_T_timesFree : Nat) (a_T_row0 : Nat) (a_T_row1 : Nat) (a_T_row2 : Nat) (a_T_row3 : Nat) (T_images : Int32) (x1 : Int32) (QA0 : Prop) (QA1 : Prop) (QA2 : Prop) (QA3 : Prop) (QA4 : Prop) (hw : wp_X7_rowOf x1 QA0 QA1 QA2 QA3 QA4) : Met l yX7_rowOf (wc yX7_rowOf cX7_rowOf 2 (some (.object "ImmunityCatching$Row"))) rm_X7_rowOf (va_Pc [.ref a_T, .int x1] (PR G (cs_X7_rowOf G a_T a_T_now a_T_kept a_T_thought a_T_reader a_T_voices a_T_rows a_T_refused a_T_timesFree a_T_row0 a_T_row1 a_T_row2 a_T_row3 T_images))) (va_Sq (fun r => (r = none ∧ QA0) ∨ (r = some a_T_row0 ∧ QA1) ∨ (r = some a_T_row1 ∧ QA2) ∨ (r = some a_T_row2 ∧ QA3) ∨ (r = some a_T_row3 ∧ QA4))) 0 0 (fun _ => False) := by
  refine x_start pn_X7 (Nat.le_of_ble_eq_true rfl) (fun p e s m below meth c ls C hn hl hB => ?_)
  have I := rd_start hB
  have C : Cx p s m [.ref a_T, .int x1].toArray meth c cX7_rowOf 2 RX7 (some (.object "ImmunityCatching$Row")) := C
  have hl : lv_has ls 2 [(0, .ref a_T), (1, .int x1)] := hl
  refine x_iload_n C hl 1 dX7_rowOf_0 rfl ?_
  refine x_iconst C dX7_rowOf_1 ic_0 ?_
  refine x_iconst C dX7_rowOf_2 ic_3 ?_
  refine x_ro (run_S (As := [.int x1, .int (0 : Int32), .int (3 : Int32)]) (rest := []) C hl (wk_X7_within l G x1 (0 : Int32) (3 : Int32) _ hw) gm_X7_126 ⟨⟨rfl, rfl⟩, cn_X7_within, ⟨(Nat.le_of_ble_eq_true rfl), (Nat.le_of_ble_eq_true rfl)⟩⟩ (pr_blind _ _ _) (pr_of I [] rfl) rfl rfl (Nat.le_of_ble_eq_true rfl) ⟨Nat.le_of_ble_eq_true rfl, Nat.le_of_ble_eq_true rfl⟩ dX7_rowOf_3) (fun r1 hw => ?_)
  refine x_if_eq C 18 dX7_rowOf_6 (by decide) (fun c2 => ?_) (fun c2 => ?_)
  · have hw := And.left hw c2
    refine x_null C dX7_rowOf_18 ?_
    exact x_retq C (none) rfl (Or.inl ⟨rfl, hw⟩) dX7_rowOf_19
  · have hw := And.right hw c2
    refine x_aload_n C hl 0 dX7_rowOf_9 rfl ?_
    refine x_get C I fl_X7_51 0 rfl rfl dX7_rowOf_10 ?_
    refine x_iload_n C hl 1 dX7_rowOf_13 rfl ?_
    rcases vp4 (And.left hw) with cx | cx | cx | cx
    · refine x_aldq C I 1 rfl (And.left hw) (by rw [cx] <;> rfl) dX7_rowOf_14 ?_
      have hw := (And.left ((And.right hw))) cx
      refine x_goto C 19 dX7_rowOf_15 (by decide) ?_
      exact x_retq C (some a_T_row0) rfl (Or.inr (Or.inl ⟨rfl, hw⟩)) dX7_rowOf_19
    · refine x_aldq C I 1 rfl (And.left hw) (by rw [cx] <;> rfl) dX7_rowOf_14 ?_
      have hw := (And.left (And.right ((And.right hw)))) cx
      refine x_goto C 19 dX7_rowOf_15 (by decide) ?_
      exact x_retq C (some a_T_row1) rfl (Or.inr (Or.inr (Or.inl ⟨rfl, hw⟩))) dX7_rowOf_19
    · refine x_aldq C I 1 rfl (And.left hw) (by rw [cx] <;> rfl) dX7_rowOf_14 ?_
      have hw := (And.left (And.right (And.right ((And.right hw))))) cx
      refine x_goto C 19 dX7_rowOf_15 (by decide) ?_
      exact x_retq C (some a_T_row2) rfl (Or.inr (Or.inr (Or.inr (Or.inl ⟨rfl, hw⟩)))) dX7_rowOf_19
    · refine x_aldq C I 1 rfl (And.left hw) (by rw [cx] <;> rfl) dX7_rowOf_14 ?_
      have hw := (And.right (And.right (And.right ((And.right hw))))) cx
      refine x_goto C 19 dX7_rowOf_15 (by decide) ?_
      exact x_retq C (some a_T_row3) rfl (Or.inr (Or.inr (Or.inr (Or.inr (⟨rfl, hw⟩))))) dX7_rowOf_19
/-! X8_text -/
abbrev rm_X8_text : Room := { frames := 127, cells := 0, slots := 0, locals := 4399 }
abbrev cs_X8_text (G : Gt) (a_M : Nat) (a_M_now : Nat) (a_M_kept : Nat) (a_M_aside : Nat) (a_M_errors : Nat) (a_M_meetsFound : Nat) (a_M_deedsFound : Nat) (a_M_ahead : Nat) (a_M_NAMED : Nat) (a_M_code : Nat) (a_M_named : Nat) (a_M_pile : Nat) (a_M_often : Nat) (a_M_trace : Nat) (a_M_widths : Nat) (a_M_sizes : Nat) (a_M_numbers : Nat) (a_M_carried : Nat) (M_images : Int32) (M_at : Int32) (M_open : Int32) (M_use : Int32) (M_isWrong : Int32) (M_coded : Int32) (M_traced : Int32) (M_kind : Int32) (M_number : Int32) (M_told : Int32) (M_errors : Nat → Int32) (M_now : Nat → Int32) (M_code : Nat → Int32) (M_meetsFound : Nat → Int32) (M_deedsFound : Nat → Int32) : va_W := [(a_M, .inr (8, [.ref a_M_now, .ref a_M_kept, .ref a_M_aside, .int M_images, .ref a_M_errors, .ref a_M_meetsFound, .ref a_M_deedsFound, .ref a_M_ahead, .ref a_M_NAMED, .int M_at, .int M_open, .int M_use, .int M_isWrong, .ref a_M_code, .int M_coded, .ref a_M_named, .ref a_M_pile, .ref a_M_often, .ref a_M_trace, .int M_traced, .int M_kind, .int M_number, .int M_told, .ref a_M_widths, .ref a_M_sizes, .ref a_M_numbers, .ref a_M_carried])), (a_M_errors, .inl (cI G, 6, .inl M_errors)), (a_M_now, .inl (cI G, 228, .inl M_now)), (a_M_code, .inl (cI G, 60, .inl M_code)), (a_M_NAMED, .inl (G.2.2 2, 2, .inr (.inr (.inr (.inr (nmf G)))))), (a_M_meetsFound, .inl (cI G, 1728, .inl M_meetsFound)), (a_M_deedsFound, .inl (cI G, 8000, .inl M_deedsFound))]
abbrev qc_X8_text (G : Gt) (a_M : Nat) (a_M_now : Nat) (a_M_kept : Nat) (a_M_aside : Nat) (a_M_errors : Nat) (a_M_meetsFound : Nat) (a_M_deedsFound : Nat) (a_M_ahead : Nat) (a_M_NAMED : Nat) (a_M_code : Nat) (a_M_named : Nat) (a_M_pile : Nat) (a_M_often : Nat) (a_M_trace : Nat) (a_M_widths : Nat) (a_M_sizes : Nat) (a_M_numbers : Nat) (a_M_carried : Nat) (M_images : Int32) (M_traced : Int32) (M_kind : Int32) (M_number : Int32) (M_told : Int32) (A : Nat → Prop) (Q : Int32 → Int32 → Int32 → Int32 → Int32 → Int32 → (Nat → Int32) → (Nat → Int32) → (Nat → Int32) → (Nat → Int32) → (Nat → Int32) → Prop) : Array Value → State → Outcome → State → Prop := Qi1 G A (fun r (u : Int32 × Int32 × Int32 × Int32 × Int32 × (Nat → Int32) × (Nat → Int32) × (Nat → Int32) × (Nat → Int32) × (Nat → Int32)) => Q r u.1 u.2.1 u.2.2.1 u.2.2.2.1 u.2.2.2.2.1 u.2.2.2.2.2.1 u.2.2.2.2.2.2.1 u.2.2.2.2.2.2.2.1 u.2.2.2.2.2.2.2.2.1 u.2.2.2.2.2.2.2.2.2) (fun u => cs_X8_text G a_M a_M_now a_M_kept a_M_aside a_M_errors a_M_meetsFound a_M_deedsFound a_M_ahead a_M_NAMED a_M_code a_M_named a_M_pile a_M_often a_M_trace a_M_widths a_M_sizes a_M_numbers a_M_carried M_images u.1 u.2.1 u.2.2.1 u.2.2.2.1 u.2.2.2.2.1 M_traced M_kind M_number M_told u.2.2.2.2.2.1 u.2.2.2.2.2.2.1 u.2.2.2.2.2.2.2.1 u.2.2.2.2.2.2.2.2.1 u.2.2.2.2.2.2.2.2.2)
def lb_X8_text_117 (x1 : Int32) (Q : Int32 → Int32 → Int32 → Int32 → Int32 → Int32 → (Nat → Int32) → (Nat → Int32) → (Nat → Int32) → (Nat → Int32) → (Nat → Int32) → Prop) : Nat → Int32 → Int32 → Int32 → Int32 → Int32 → Int32 → (Nat → Int32) → (Nat → Int32) → (Nat → Int32) → (Nat → Int32) → (Nat → Int32) → Prop
  | 0 => fun _ _ _ _ _ _ _ _ _ _ _ => False
  | k + 1 => fun (y2 : Int32) (w_M_at : Int32) (w_M_open : Int32) (w_M_use : Int32) (w_M_isWrong : Int32) (w_M_coded : Int32) (w_M_errors : Nat → Int32) (w_M_now : Nat → Int32) (w_M_code : Nat → Int32) (w_M_meetsFound : Nat → Int32) (w_M_deedsFound : Nat → Int32) => ((w_M_coded ≤ y2 → (wp_X8_forget w_M_meetsFound w_M_deedsFound (fun o11 o12 => (Q (1 : Int32) w_M_at w_M_open w_M_use w_M_isWrong w_M_coded w_M_errors w_M_now w_M_code o11 o12)))) ∧ (¬ w_M_coded ≤ y2 → (vp_in y2 60 ∧ (∀ v13 : Int32, v13 = (w_M_code (y2).toNatClampNeg) → (vp_in ((((124 : Int32) + ((52 : Int32) * w_M_use)) + (1 : Int32)) + y2) 228 ∧ (lb_X8_text_117 x1 Q k (y2 + (1 : Int32)) w_M_at w_M_open w_M_use w_M_isWrong w_M_coded w_M_errors (upd w_M_now (((((124 : Int32) + ((52 : Int32) * w_M_use)) + (1 : Int32)) + y2)).toNatClampNeg v13) w_M_code w_M_meetsFound w_M_deedsFound))))))
set_option maxHeartbeats 4000000 in
set_option maxRecDepth 100000 in
theorem lk_X8_text_117 {p : Program} {l : Launch} {e : Env} {s : State} {m : MethodId} {args : Array Value} {below : List Frame} {meth : Method} {c : Code} {A : Nat → Prop} (G : Gt) (a_M : Nat) (a_M_now : Nat) (a_M_kept : Nat) (a_M_aside : Nat) (a_M_errors : Nat) (a_M_meetsFound : Nat) (a_M_deedsFound : Nat) (a_M_ahead : Nat) (a_M_NAMED : Nat) (a_M_code : Nat) (a_M_named : Nat) (a_M_pile : Nat) (a_M_often : Nat) (a_M_trace : Nat) (a_M_widths : Nat) (a_M_sizes : Nat) (a_M_numbers : Nat) (a_M_carried : Nat) (C : Cx p s m args meth c cX8_text 3 RX8 (some .int)) (x1 : Int32) (M_images : Int32) (M_traced : Int32) (M_kind : Int32) (M_number : Int32) (M_told : Int32) (Q : Int32 → Int32 → Int32 → Int32 → Int32 → Int32 → (Nat → Int32) → (Nat → Int32) → (Nat → Int32) → (Nat → Int32) → (Nat → Int32) → Prop) : ∀ (n : Nat) (y2 : Int32) (w_M_at : Int32) (w_M_open : Int32) (w_M_use : Int32) (w_M_isWrong : Int32) (w_M_coded : Int32) (w_M_errors : Nat → Int32) (w_M_now : Nat → Int32) (w_M_code : Nat → Int32) (w_M_meetsFound : Nat → Int32) (w_M_deedsFound : Nat → Int32) (Hx : Heap) (lx : List Loc) (ls : Array Slot), lb_X8_text_117 x1 Q n y2 w_M_at w_M_open w_M_use w_M_isWrong w_M_coded w_M_errors w_M_now w_M_code w_M_meetsFound w_M_deedsFound → Iv G A s (cs_X8_text G a_M a_M_now a_M_kept a_M_aside a_M_errors a_M_meetsFound a_M_deedsFound a_M_ahead a_M_NAMED a_M_code a_M_named a_M_pile a_M_often a_M_trace a_M_widths a_M_sizes a_M_numbers a_M_carried M_images w_M_at w_M_open w_M_use w_M_isWrong w_M_coded M_traced M_kind M_number M_told w_M_errors w_M_now w_M_code w_M_meetsFound w_M_deedsFound) Hx lx → lv_has ls 3 [(0, .ref a_M), (2, .int y2)] → W p l e rm_X8_text s m args below meth c Hx lx 0 0 (MQ below (qc_X8_text G a_M a_M_now a_M_kept a_M_aside a_M_errors a_M_meetsFound a_M_deedsFound a_M_ahead a_M_NAMED a_M_code a_M_named a_M_pile a_M_often a_M_trace a_M_widths a_M_sizes a_M_numbers a_M_carried M_images M_traced M_kind M_number M_told A Q) args s 0 0 A) (F0 m 117 ls []) := by
  intro n
  induction n with
  | zero => intro y2 w_M_at w_M_open w_M_use w_M_isWrong w_M_coded w_M_errors w_M_now w_M_code w_M_meetsFound w_M_deedsFound Hx lx  ls hw I hl; exact False.elim hw
  | succ k ih =>
    intro y2 w_M_at w_M_open w_M_use w_M_isWrong w_M_coded w_M_errors w_M_now w_M_code w_M_meetsFound w_M_deedsFound Hx lx  ls hw I hl
    refine x_iload_n C hl 1 dX8_text_117 rfl ?_
    refine x_aload_n C hl 0 dX8_text_118 rfl ?_
    refine x_get C I.1 fl_X8_106 0 rfl rfl dX8_text_119 ?_
    refine x_icmp_ge C 156 dX8_text_122 (by decide) (fun c10 => ?_) (fun c10 => ?_)
    · have hw := And.left hw c10
      refine x_aload_n C hl 0 dX8_text_156 rfl ?_
      refine x_muv (wk := cs_X8_forget G a_M a_M_now a_M_kept a_M_aside a_M_errors a_M_meetsFound a_M_deedsFound a_M_ahead a_M_NAMED a_M_code a_M_named a_M_pile a_M_often a_M_trace a_M_widths a_M_sizes a_M_numbers a_M_carried M_images w_M_at w_M_open w_M_use w_M_isWrong w_M_coded M_traced M_kind M_number M_told w_M_meetsFound w_M_deedsFound) (wr := [(a_M_errors, .inl (cI G, 6, .inl w_M_errors)), (a_M_now, .inl (cI G, 228, .inl w_M_now)), (a_M_code, .inl (cI G, 60, .inl w_M_code)), (a_M_NAMED, .inl (G.2.2 2, 2, .inr (.inr (.inr (.inr (nmf G))))))]) (isC := [0, 5, 6]) (isR := [1, 2, 3, 4]) I ⟨⟨rfl, rfl⟩, rfl, rfl, rfl⟩ [4, 0, 1, 2, 3, 5, 6] (fun u => cs_X8_text G a_M a_M_now a_M_kept a_M_aside a_M_errors a_M_meetsFound a_M_deedsFound a_M_ahead a_M_NAMED a_M_code a_M_named a_M_pile a_M_often a_M_trace a_M_widths a_M_sizes a_M_numbers a_M_carried M_images w_M_at w_M_open w_M_use w_M_isWrong w_M_coded M_traced M_kind M_number M_told w_M_errors w_M_now w_M_code u.1 u.2) (fun _ => rfl) rfl (run_V (As := []) (rest := []) C hl (wk_X8_forget l G a_M a_M_now a_M_kept a_M_aside a_M_errors a_M_meetsFound a_M_deedsFound a_M_ahead a_M_NAMED a_M_code a_M_named a_M_pile a_M_often a_M_trace a_M_widths a_M_sizes a_M_numbers a_M_carried Hx.size M_images w_M_at w_M_open w_M_use w_M_isWrong w_M_coded M_traced M_kind M_number M_told w_M_meetsFound w_M_deedsFound _ hw) gm_X8_151 ⟨⟨rfl, rfl⟩, cn_X8_forget, ⟨(Nat.le_of_ble_eq_true rfl), (Nat.le_of_ble_eq_true rfl)⟩⟩ (pb_blind _ _ _ _) (x_recv I.1 0 rfl rfl) (pb_of I [0, 5, 6] rfl rfl) rfl rfl (Nat.le_of_ble_eq_true rfl) ⟨Nat.le_of_ble_eq_true rfl, Nat.le_of_ble_eq_true rfl⟩ dX8_text_157) (fun u Hx lx hw I => ?_)
      obtain ⟨o11, o12⟩ := u
      have I : Iv G A s (cs_X8_text G a_M a_M_now a_M_kept a_M_aside a_M_errors a_M_meetsFound a_M_deedsFound a_M_ahead a_M_NAMED a_M_code a_M_named a_M_pile a_M_often a_M_trace a_M_widths a_M_sizes a_M_numbers a_M_carried M_images w_M_at w_M_open w_M_use w_M_isWrong w_M_coded M_traced M_kind M_number M_told w_M_errors w_M_now w_M_code o11 o12) Hx lx := I
      refine x_iconst C dX8_text_160 ic_1 ?_
      exact x_ret1 C I (w_M_at, w_M_open, w_M_use, w_M_isWrong, w_M_coded, w_M_errors, w_M_now, w_M_code, o11, o12) rfl hw dX8_text_161
    · have hw := And.right hw c10
      refine x_aload_n C hl 0 dX8_text_125 rfl ?_
      refine x_get C I.1 fl_X8_9 0 rfl rfl dX8_text_126 ?_
      refine x_bipush C dX8_text_129 bp_124 ?_
      refine x_bipush C dX8_text_131 bp_52 ?_
      refine x_aload_n C hl 0 dX8_text_133 rfl ?_
      refine x_get C I.1 fl_X8_132 0 rfl rfl dX8_text_134 ?_
      refine x_imul C dX8_text_137 ?_
      refine x_iadd C dX8_text_138 ?_
      refine x_iconst C dX8_text_139 ic_1 ?_
      refine x_iadd C dX8_text_140 ?_
      refine x_iload_n C hl 1 dX8_text_141 rfl ?_
      refine x_iadd C dX8_text_142 ?_
      refine x_aload_n C hl 0 dX8_text_143 rfl ?_
      refine x_get C I.1 fl_X8_41 0 rfl rfl dX8_text_144 ?_
      refine x_iload_n C hl 1 dX8_text_147 rfl ?_
      refine x_iald C I.1 3 rfl (And.left hw) dX8_text_148 ?_
      have hw := And.right hw
      refine lv_topi (fun v13 ev13 => ?_)
      have hw := hw v13 ev13
      refine x_iast C I 2 (cs_X8_text G a_M a_M_now a_M_kept a_M_aside a_M_errors a_M_meetsFound a_M_deedsFound a_M_ahead a_M_NAMED a_M_code a_M_named a_M_pile a_M_often a_M_trace a_M_widths a_M_sizes a_M_numbers a_M_carried M_images w_M_at w_M_open w_M_use w_M_isWrong w_M_coded M_traced M_kind M_number M_told w_M_errors (upd w_M_now (((((124 : Int32) + ((52 : Int32) * w_M_use)) + (1 : Int32)) + y2)).toNatClampNeg v13) w_M_code w_M_meetsFound w_M_deedsFound) rfl (And.left hw) rfl dX8_text_149 (fun Hx lx I => ?_)
      have hw := And.right hw
      refine x_iinc C hl 1 [(2, .int (y2 + (1 : Int32))), (0, .ref a_M)] (y2 + (1 : Int32)) dX8_text_150 rfl (congrArg _ ic_1) (Nat.le_of_ble_eq_true rfl) rfl (fun ls hl => ?_)
      refine x_goto C 117 dX8_text_153 (by decide) ?_
      exact ih (y2 + (1 : Int32)) w_M_at w_M_open w_M_use w_M_isWrong w_M_coded w_M_errors (upd w_M_now (((((124 : Int32) + ((52 : Int32) * w_M_use)) + (1 : Int32)) + y2)).toNatClampNeg v13) w_M_code w_M_meetsFound w_M_deedsFound Hx lx ls hw I (lv_sub hl [1, 0] rfl)
def lb_X8_text_71 (x1 : Int32) (Q : Int32 → Int32 → Int32 → Int32 → Int32 → Int32 → (Nat → Int32) → (Nat → Int32) → (Nat → Int32) → (Nat → Int32) → (Nat → Int32) → Prop) (z0 : Int32) (w_M_at : Int32) (w_M_open : Int32) (w_M_use : Int32) (w_M_isWrong : Int32) (w_M_coded : Int32) (w_M_errors : Nat → Int32) (w_M_now : Nat → Int32) (w_M_code : Nat → Int32) (w_M_meetsFound : Nat → Int32) (w_M_deedsFound : Nat → Int32) : Prop := ((z0 = 0 ∨ z0 = 1) ∧ ((z0 = (0) → (vp_in ((124 : Int32) + ((52 : Int32) * w_M_use)) 228 ∧ (∃ n, lb_X8_text_117 x1 Q n (0 : Int32) w_M_at w_M_open w_M_use z0 w_M_coded w_M_errors (upd (upd w_M_now 4 (0 : Int32)) (((124 : Int32) + ((52 : Int32) * w_M_use))).toNatClampNeg w_M_coded) w_M_code w_M_meetsFound w_M_deedsFound))) ∧ (¬ z0 = (0) → (Q ((-10 : Int32) - w_M_at) w_M_at w_M_open w_M_use z0 w_M_coded w_M_errors (upd w_M_now 4 (0 : Int32)) w_M_code w_M_meetsFound w_M_deedsFound))))
set_option maxHeartbeats 4000000 in
set_option maxRecDepth 100000 in
theorem lk_X8_text_71 {p : Program} {l : Launch} {e : Env} {s : State} {m : MethodId} {args : Array Value} {below : List Frame} {meth : Method} {c : Code} {A : Nat → Prop} (G : Gt) (a_M : Nat) (a_M_now : Nat) (a_M_kept : Nat) (a_M_aside : Nat) (a_M_errors : Nat) (a_M_meetsFound : Nat) (a_M_deedsFound : Nat) (a_M_ahead : Nat) (a_M_NAMED : Nat) (a_M_code : Nat) (a_M_named : Nat) (a_M_pile : Nat) (a_M_often : Nat) (a_M_trace : Nat) (a_M_widths : Nat) (a_M_sizes : Nat) (a_M_numbers : Nat) (a_M_carried : Nat) (C : Cx p s m args meth c cX8_text 3 RX8 (some .int)) (x1 : Int32) (M_images : Int32) (M_traced : Int32) (M_kind : Int32) (M_number : Int32) (M_told : Int32) (Q : Int32 → Int32 → Int32 → Int32 → Int32 → Int32 → (Nat → Int32) → (Nat → Int32) → (Nat → Int32) → (Nat → Int32) → (Nat → Int32) → Prop) : ∀ (z0 : Int32) (w_M_at : Int32) (w_M_open : Int32) (w_M_use : Int32) (w_M_isWrong : Int32) (w_M_coded : Int32) (w_M_errors : Nat → Int32) (w_M_now : Nat → Int32) (w_M_code : Nat → Int32) (w_M_meetsFound : Nat → Int32) (w_M_deedsFound : Nat → Int32) (Hx : Heap) (lx : List Loc) (ls : Array Slot), lb_X8_text_71 x1 Q z0 w_M_at w_M_open w_M_use w_M_isWrong w_M_coded w_M_errors w_M_now w_M_code w_M_meetsFound w_M_deedsFound → Iv G A s (cs_X8_text G a_M a_M_now a_M_kept a_M_aside a_M_errors a_M_meetsFound a_M_deedsFound a_M_ahead a_M_NAMED a_M_code a_M_named a_M_pile a_M_often a_M_trace a_M_widths a_M_sizes a_M_numbers a_M_carried M_images w_M_at w_M_open w_M_use w_M_isWrong w_M_coded M_traced M_kind M_number M_told w_M_errors w_M_now w_M_code w_M_meetsFound w_M_deedsFound) Hx lx → lv_has ls 3 [(0, .ref a_M)] → W p l e rm_X8_text s m args below meth c Hx lx 0 0 (MQ below (qc_X8_text G a_M a_M_now a_M_kept a_M_aside a_M_errors a_M_meetsFound a_M_deedsFound a_M_ahead a_M_NAMED a_M_code a_M_named a_M_pile a_M_often a_M_trace a_M_widths a_M_sizes a_M_numbers a_M_carried M_images M_traced M_kind M_number M_told A Q) args s 0 0 A) (F0 m 71 ls [.int z0, .ref a_M]) := by
  intro z0 w_M_at w_M_open w_M_use w_M_isWrong w_M_coded w_M_errors w_M_now w_M_code w_M_meetsFound w_M_deedsFound Hx lx  ls hw I hl
  refine x_put C I fl_X8_94 tyX8 tyX8_ok nmX8 rfl 0 (cs_X8_text G a_M a_M_now a_M_kept a_M_aside a_M_errors a_M_meetsFound a_M_deedsFound a_M_ahead a_M_NAMED a_M_code a_M_named a_M_pile a_M_often a_M_trace a_M_widths a_M_sizes a_M_numbers a_M_carried M_images w_M_at w_M_open w_M_use z0 w_M_coded M_traced M_kind M_number M_told w_M_errors w_M_now w_M_code w_M_meetsFound w_M_deedsFound) rfl (bz_n (And.left hw)) (bz_f (And.left hw)) (Nat.le_of_ble_eq_true rfl) rfl dX8_text_71 (fun Hx lx I => ?_)
  have hw := And.right hw
  refine x_aload_n C hl 0 dX8_text_74 rfl ?_
  refine x_get C I.1 fl_X8_9 0 rfl rfl dX8_text_75 ?_
  refine x_iconst C dX8_text_78 ic_4 ?_
  refine x_iconst C dX8_text_79 ic_0 ?_
  refine x_iastL C I 2 4 (cs_X8_text G a_M a_M_now a_M_kept a_M_aside a_M_errors a_M_meetsFound a_M_deedsFound a_M_ahead a_M_NAMED a_M_code a_M_named a_M_pile a_M_often a_M_trace a_M_widths a_M_sizes a_M_numbers a_M_carried M_images w_M_at w_M_open w_M_use z0 w_M_coded M_traced M_kind M_number M_told w_M_errors (upd w_M_now 4 (0 : Int32)) w_M_code w_M_meetsFound w_M_deedsFound) rfl vi_4_228 vl_4 rfl dX8_text_80 (fun Hx lx I => ?_)
  refine x_aload_n C hl 0 dX8_text_81 rfl ?_
  refine x_get C I.1 fl_X8_94 0 rfl rfl dX8_text_82 ?_
  refine x_if_eq C 96 dX8_text_85 (by decide) (fun c9 => ?_) (fun c9 => ?_)
  · have hw := And.left hw c9
    refine x_aload_n C hl 0 dX8_text_96 rfl ?_
    refine x_get C I.1 fl_X8_9 0 rfl rfl dX8_text_97 ?_
    refine x_bipush C dX8_text_100 bp_124 ?_
    refine x_bipush C dX8_text_102 bp_52 ?_
    refine x_aload_n C hl 0 dX8_text_104 rfl ?_
    refine x_get C I.1 fl_X8_132 0 rfl rfl dX8_text_105 ?_
    refine x_imul C dX8_text_108 ?_
    refine x_iadd C dX8_text_109 ?_
    refine x_aload_n C hl 0 dX8_text_110 rfl ?_
    refine x_get C I.1 fl_X8_106 0 rfl rfl dX8_text_111 ?_
    refine x_iast C I 2 (cs_X8_text G a_M a_M_now a_M_kept a_M_aside a_M_errors a_M_meetsFound a_M_deedsFound a_M_ahead a_M_NAMED a_M_code a_M_named a_M_pile a_M_often a_M_trace a_M_widths a_M_sizes a_M_numbers a_M_carried M_images w_M_at w_M_open w_M_use z0 w_M_coded M_traced M_kind M_number M_told w_M_errors (upd (upd w_M_now 4 (0 : Int32)) (((124 : Int32) + ((52 : Int32) * w_M_use))).toNatClampNeg w_M_coded) w_M_code w_M_meetsFound w_M_deedsFound) rfl (And.left hw) rfl dX8_text_114 (fun Hx lx I => ?_)
    have hw := And.right hw
    refine x_iconst C dX8_text_115 ic_0 ?_
    refine x_istore_n C hl [(2, .int (0 : Int32)), (0, .ref a_M)] dX8_text_116 (Nat.le_of_ble_eq_true rfl) rfl (fun ls hl => ?_)
    obtain ⟨n, hw⟩ := hw
    exact lk_X8_text_117 G a_M a_M_now a_M_kept a_M_aside a_M_errors a_M_meetsFound a_M_deedsFound a_M_ahead a_M_NAMED a_M_code a_M_named a_M_pile a_M_often a_M_trace a_M_widths a_M_sizes a_M_numbers a_M_carried C x1 M_images M_traced M_kind M_number M_told Q n (0 : Int32) w_M_at w_M_open w_M_use z0 w_M_coded w_M_errors (upd (upd w_M_now 4 (0 : Int32)) (((124 : Int32) + ((52 : Int32) * w_M_use))).toNatClampNeg w_M_coded) w_M_code w_M_meetsFound w_M_deedsFound Hx lx ls hw I (lv_sub hl [1, 0] rfl)
  · have hw := And.right hw c9
    refine x_bipush C dX8_text_88 bp_m10 ?_
    refine x_aload_n C hl 0 dX8_text_90 rfl ?_
    refine x_get C I.1 fl_X8_98 0 rfl rfl dX8_text_91 ?_
    refine x_isub C dX8_text_94 ?_
    exact x_ret1 C I (w_M_at, w_M_open, w_M_use, z0, w_M_coded, w_M_errors, (upd w_M_now 4 (0 : Int32)), w_M_code, w_M_meetsFound, w_M_deedsFound) rfl hw dX8_text_95
def lb_X8_text_66 (x1 : Int32) (Q : Int32 → Int32 → Int32 → Int32 → Int32 → Int32 → (Nat → Int32) → (Nat → Int32) → (Nat → Int32) → (Nat → Int32) → (Nat → Int32) → Prop) (w_M_at : Int32) (w_M_open : Int32) (w_M_use : Int32) (w_M_isWrong : Int32) (w_M_coded : Int32) (w_M_errors : Nat → Int32) (w_M_now : Nat → Int32) (w_M_code : Nat → Int32) (w_M_meetsFound : Nat → Int32) (w_M_deedsFound : Nat → Int32) : Prop := (lb_X8_text_71 x1 Q (1 : Int32) w_M_at w_M_open w_M_use w_M_isWrong w_M_coded w_M_errors w_M_now w_M_code w_M_meetsFound w_M_deedsFound)
set_option maxHeartbeats 4000000 in
set_option maxRecDepth 100000 in
theorem lk_X8_text_66 {p : Program} {l : Launch} {e : Env} {s : State} {m : MethodId} {args : Array Value} {below : List Frame} {meth : Method} {c : Code} {A : Nat → Prop} (G : Gt) (a_M : Nat) (a_M_now : Nat) (a_M_kept : Nat) (a_M_aside : Nat) (a_M_errors : Nat) (a_M_meetsFound : Nat) (a_M_deedsFound : Nat) (a_M_ahead : Nat) (a_M_NAMED : Nat) (a_M_code : Nat) (a_M_named : Nat) (a_M_pile : Nat) (a_M_often : Nat) (a_M_trace : Nat) (a_M_widths : Nat) (a_M_sizes : Nat) (a_M_numbers : Nat) (a_M_carried : Nat) (C : Cx p s m args meth c cX8_text 3 RX8 (some .int)) (x1 : Int32) (M_images : Int32) (M_traced : Int32) (M_kind : Int32) (M_number : Int32) (M_told : Int32) (Q : Int32 → Int32 → Int32 → Int32 → Int32 → Int32 → (Nat → Int32) → (Nat → Int32) → (Nat → Int32) → (Nat → Int32) → (Nat → Int32) → Prop) : ∀ (w_M_at : Int32) (w_M_open : Int32) (w_M_use : Int32) (w_M_isWrong : Int32) (w_M_coded : Int32) (w_M_errors : Nat → Int32) (w_M_now : Nat → Int32) (w_M_code : Nat → Int32) (w_M_meetsFound : Nat → Int32) (w_M_deedsFound : Nat → Int32) (Hx : Heap) (lx : List Loc) (ls : Array Slot), lb_X8_text_66 x1 Q w_M_at w_M_open w_M_use w_M_isWrong w_M_coded w_M_errors w_M_now w_M_code w_M_meetsFound w_M_deedsFound → Iv G A s (cs_X8_text G a_M a_M_now a_M_kept a_M_aside a_M_errors a_M_meetsFound a_M_deedsFound a_M_ahead a_M_NAMED a_M_code a_M_named a_M_pile a_M_often a_M_trace a_M_widths a_M_sizes a_M_numbers a_M_carried M_images w_M_at w_M_open w_M_use w_M_isWrong w_M_coded M_traced M_kind M_number M_told w_M_errors w_M_now w_M_code w_M_meetsFound w_M_deedsFound) Hx lx → lv_has ls 3 [(0, .ref a_M)] → W p l e rm_X8_text s m args below meth c Hx lx 0 0 (MQ below (qc_X8_text G a_M a_M_now a_M_kept a_M_aside a_M_errors a_M_meetsFound a_M_deedsFound a_M_ahead a_M_NAMED a_M_code a_M_named a_M_pile a_M_often a_M_trace a_M_widths a_M_sizes a_M_numbers a_M_carried M_images M_traced M_kind M_number M_told A Q) args s 0 0 A) (F0 m 66 ls [.ref a_M]) := by
  intro w_M_at w_M_open w_M_use w_M_isWrong w_M_coded w_M_errors w_M_now w_M_code w_M_meetsFound w_M_deedsFound Hx lx  ls hw I hl
  refine x_iconst C dX8_text_66 ic_1 ?_
  refine x_goto C 71 dX8_text_67 (by decide) ?_
  exact lk_X8_text_71 G a_M a_M_now a_M_kept a_M_aside a_M_errors a_M_meetsFound a_M_deedsFound a_M_ahead a_M_NAMED a_M_code a_M_named a_M_pile a_M_often a_M_trace a_M_widths a_M_sizes a_M_numbers a_M_carried C x1 M_images M_traced M_kind M_number M_told Q (1 : Int32) w_M_at w_M_open w_M_use w_M_isWrong w_M_coded w_M_errors w_M_now w_M_code w_M_meetsFound w_M_deedsFound Hx lx ls hw I (lv_sub hl [0] rfl)
def wp_X8_text (x1 : Int32) (M_at : Int32) (M_open : Int32) (M_use : Int32) (M_isWrong : Int32) (M_coded : Int32) (M_errors : Nat → Int32) (M_now : Nat → Int32) (M_code : Nat → Int32) (M_meetsFound : Nat → Int32) (M_deedsFound : Nat → Int32) (Q : Int32 → Int32 → Int32 → Int32 → Int32 → Int32 → (Nat → Int32) → (Nat → Int32) → (Nat → Int32) → (Nat → Int32) → (Nat → Int32) → Prop) : Prop := (wp_X8_within x1 (0 : Int32) (1 : Int32) (fun r1 => ((¬ r1 = (0) → ((rc_X8_one 7).1 (0 : Int32) (0 : Int32) x1 (0 : Int32) (0 : Int32) M_now M_code (fun o3 o4 o5 o6 o7 => ((¬ o5 = (0) → (lb_X8_text_66 x1 Q o3 o4 x1 o5 o6 M_errors M_now o7 M_meetsFound M_deedsFound)) ∧ (o5 = (0) → (((M_now 4) ≤ o3 → (lb_X8_text_71 x1 Q (0 : Int32) o3 o4 x1 o5 o6 M_errors M_now o7 M_meetsFound M_deedsFound)) ∧ (¬ (M_now 4) ≤ o3 → (lb_X8_text_66 x1 Q o3 o4 x1 o5 o6 M_errors M_now o7 M_meetsFound M_deedsFound)))))))) ∧ (r1 = (0) → (wp_X8_finding (-1000000001 : Int32) M_errors (fun r16 o15 => (Q r16 M_at M_open M_use M_isWrong M_coded o15 M_now M_code M_meetsFound M_deedsFound)))))))
set_option maxHeartbeats 4000000 in
set_option maxRecDepth 100000 in
theorem wk_X8_text (l : Launch) (G : Gt) (a_M : Nat) (a_M_now : Nat) (a_M_kept : Nat) (a_M_aside : Nat) (a_M_errors : Nat) (a_M_meetsFound : Nat) (a_M_deedsFound : Nat) (a_M_ahead : Nat) (a_M_NAMED : Nat) (a_M_code : Nat) (a_M_named : Nat) (a_M_pile : Nat) (a_M_often : Nat) (a_M_trace : Nat) (a_M_widths : Nat) (a_M_sizes : Nat) (a_M_numbers : Nat) (a_M_carried : Nat) (sz : Nat) (M_images : Int32) (M_at : Int32) (M_open : Int32) (M_use : Int32) (M_isWrong : Int32) (M_coded : Int32) (M_traced : Int32) (M_kind : Int32) (M_number : Int32) (M_told : Int32) (M_errors : Nat → Int32) (M_now : Nat → Int32) (M_code : Nat → Int32) (M_meetsFound : Nat → Int32) (M_deedsFound : Nat → Int32) (x1 : Int32) (Q : Int32 → Int32 → Int32 → Int32 → Int32 → Int32 → (Nat → Int32) → (Nat → Int32) → (Nat → Int32) → (Nat → Int32) → (Nat → Int32) → Prop) (hw : wp_X8_text x1 M_at M_open M_use M_isWrong M_coded M_errors M_now M_code M_meetsFound M_deedsFound Q) : Met l yX8_text (wc yX8_text cX8_text 3 (some .int)) rm_X8_text (va_Pc [.ref a_M, .int x1] (PB G (cs_X8_text G a_M a_M_now a_M_kept a_M_aside a_M_errors a_M_meetsFound a_M_deedsFound a_M_ahead a_M_NAMED a_M_code a_M_named a_M_pile a_M_often a_M_trace a_M_widths a_M_sizes a_M_numbers a_M_carried M_images M_at M_open M_use M_isWrong M_coded M_traced M_kind M_number M_told M_errors M_now M_code M_meetsFound M_deedsFound) sz)) (qc_X8_text G a_M a_M_now a_M_kept a_M_aside a_M_errors a_M_meetsFound a_M_deedsFound a_M_ahead a_M_NAMED a_M_code a_M_named a_M_pile a_M_often a_M_trace a_M_widths a_M_sizes a_M_numbers a_M_carried M_images M_traced M_kind M_number M_told (va_A (cs_X8_text G a_M a_M_now a_M_kept a_M_aside a_M_errors a_M_meetsFound a_M_deedsFound a_M_ahead a_M_NAMED a_M_code a_M_named a_M_pile a_M_often a_M_trace a_M_widths a_M_sizes a_M_numbers a_M_carried M_images M_at M_open M_use M_isWrong M_coded M_traced M_kind M_number M_told M_errors M_now M_code M_meetsFound M_deedsFound) sz) Q) 0 0 (va_A (cs_X8_text G a_M a_M_now a_M_kept a_M_aside a_M_errors a_M_meetsFound a_M_deedsFound a_M_ahead a_M_NAMED a_M_code a_M_named a_M_pile a_M_often a_M_trace a_M_widths a_M_sizes a_M_numbers a_M_carried M_images M_at M_open M_use M_isWrong M_coded M_traced M_kind M_number M_told M_errors M_now M_code M_meetsFound M_deedsFound) sz) := by
  refine x_start pn_X8 (Nat.le_of_ble_eq_true rfl) (fun p e s m below meth c ls C hn hl hB => ?_)
  have I := iv_start hB
  generalize va_A (cs_X8_text G a_M a_M_now a_M_kept a_M_aside a_M_errors a_M_meetsFound a_M_deedsFound a_M_ahead a_M_NAMED a_M_code a_M_named a_M_pile a_M_often a_M_trace a_M_widths a_M_sizes a_M_numbers a_M_carried M_images M_at M_open M_use M_isWrong M_coded M_traced M_kind M_number M_told M_errors M_now M_code M_meetsFound M_deedsFound) sz = A at I ⊢
  have C : Cx p s m [.ref a_M, .int x1].toArray meth c cX8_text 3 RX8 (some .int) := C
  have hl : lv_has ls 3 [(0, .ref a_M), (1, .int x1)] := hl
  refine x_iload_n C hl 1 dX8_text_0 rfl ?_
  refine x_iconst C dX8_text_1 ic_0 ?_
  refine x_iconst C dX8_text_2 ic_1 ?_
  refine x_ro (run_S (As := [.int x1, .int (0 : Int32), .int (1 : Int32)]) (rest := []) C hl (wk_X8_within l G x1 (0 : Int32) (1 : Int32) _ hw) gm_X8_82 ⟨⟨rfl, rfl⟩, cn_X8_within, ⟨(Nat.le_of_ble_eq_true rfl), (Nat.le_of_ble_eq_true rfl)⟩⟩ (pr_blind _ _ _) (pr_of I.1 [] rfl) rfl rfl (Nat.le_of_ble_eq_true rfl) ⟨Nat.le_of_ble_eq_true rfl, Nat.le_of_ble_eq_true rfl⟩ dX8_text_3) (fun r1 hw => ?_)
  refine x_if_ne C 16 dX8_text_6 (by decide) (fun c2 => ?_) (fun c2 => ?_)
  · have hw := And.left hw c2
    refine x_aload_n C hl 0 dX8_text_16 rfl ?_
    refine x_iload_n C hl 1 dX8_text_17 rfl ?_
    refine x_put C I fl_X8_132 tyX8 tyX8_ok nmX8 rfl 0 (cs_X8_text G a_M a_M_now a_M_kept a_M_aside a_M_errors a_M_meetsFound a_M_deedsFound a_M_ahead a_M_NAMED a_M_code a_M_named a_M_pile a_M_often a_M_trace a_M_widths a_M_sizes a_M_numbers a_M_carried M_images M_at M_open x1 M_isWrong M_coded M_traced M_kind M_number M_told M_errors M_now M_code M_meetsFound M_deedsFound) rfl rfl rfl (Nat.le_of_ble_eq_true rfl) rfl dX8_text_18 (fun Hx lx I => ?_)
    refine x_aload_n C hl 0 dX8_text_21 rfl ?_
    refine x_iconst C dX8_text_22 ic_0 ?_
    refine x_put C I fl_X8_98 tyX8 tyX8_ok nmX8 rfl 0 (cs_X8_text G a_M a_M_now a_M_kept a_M_aside a_M_errors a_M_meetsFound a_M_deedsFound a_M_ahead a_M_NAMED a_M_code a_M_named a_M_pile a_M_often a_M_trace a_M_widths a_M_sizes a_M_numbers a_M_carried M_images (0 : Int32) M_open x1 M_isWrong M_coded M_traced M_kind M_number M_told M_errors M_now M_code M_meetsFound M_deedsFound) rfl rfl rfl (Nat.le_of_ble_eq_true rfl) rfl dX8_text_23 (fun Hx lx I => ?_)
    refine x_aload_n C hl 0 dX8_text_26 rfl ?_
    refine x_iconst C dX8_text_27 ic_0 ?_
    refine x_put C I fl_X8_142 tyX8 tyX8_ok nmX8 rfl 0 (cs_X8_text G a_M a_M_now a_M_kept a_M_aside a_M_errors a_M_meetsFound a_M_deedsFound a_M_ahead a_M_NAMED a_M_code a_M_named a_M_pile a_M_often a_M_trace a_M_widths a_M_sizes a_M_numbers a_M_carried M_images (0 : Int32) (0 : Int32) x1 M_isWrong M_coded M_traced M_kind M_number M_told M_errors M_now M_code M_meetsFound M_deedsFound) rfl rfl rfl (Nat.le_of_ble_eq_true rfl) rfl dX8_text_28 (fun Hx lx I => ?_)
    refine x_aload_n C hl 0 dX8_text_31 rfl ?_
    refine x_iconst C dX8_text_32 ic_0 ?_
    refine x_put C I fl_X8_94 tyX8 tyX8_ok nmX8 rfl 0 (cs_X8_text G a_M a_M_now a_M_kept a_M_aside a_M_errors a_M_meetsFound a_M_deedsFound a_M_ahead a_M_NAMED a_M_code a_M_named a_M_pile a_M_often a_M_trace a_M_widths a_M_sizes a_M_numbers a_M_carried M_images (0 : Int32) (0 : Int32) x1 (0 : Int32) M_coded M_traced M_kind M_number M_told M_errors M_now M_code M_meetsFound M_deedsFound) rfl rfl rfl (Nat.le_of_ble_eq_true rfl) rfl dX8_text_33 (fun Hx lx I => ?_)
    refine x_aload_n C hl 0 dX8_text_36 rfl ?_
    refine x_iconst C dX8_text_37 ic_0 ?_
    refine x_put C I fl_X8_106 tyX8 tyX8_ok nmX8 rfl 0 (cs_X8_text G a_M a_M_now a_M_kept a_M_aside a_M_errors a_M_meetsFound a_M_deedsFound a_M_ahead a_M_NAMED a_M_code a_M_named a_M_pile a_M_often a_M_trace a_M_widths a_M_sizes a_M_numbers a_M_carried M_images (0 : Int32) (0 : Int32) x1 (0 : Int32) (0 : Int32) M_traced M_kind M_number M_told M_errors M_now M_code M_meetsFound M_deedsFound) rfl rfl rfl (Nat.le_of_ble_eq_true rfl) rfl dX8_text_38 (fun Hx lx I => ?_)
    refine x_aload_n C hl 0 dX8_text_41 rfl ?_
    refine x_muv (wk := cs_X8_either G a_M a_M_now a_M_kept a_M_aside a_M_errors a_M_meetsFound a_M_deedsFound a_M_ahead a_M_NAMED a_M_code a_M_named a_M_pile a_M_often a_M_trace a_M_widths a_M_sizes a_M_numbers a_M_carried M_images (0 : Int32) (0 : Int32) x1 (0 : Int32) (0 : Int32) M_traced M_kind M_number M_told M_now M_code) (wr := [(a_M_errors, .inl (cI G, 6, .inl M_errors)), (a_M_meetsFound, .inl (cI G, 1728, .inl M_meetsFound)), (a_M_deedsFound, .inl (cI G, 8000, .inl M_deedsFound))]) (isC := [0, 2, 3, 4]) (isR := [1, 5, 6]) I ⟨⟨rfl, rfl⟩, rfl, rfl, rfl⟩ [3, 0, 4, 5, 6, 1, 2] (fun u => cs_X8_text G a_M a_M_now a_M_kept a_M_aside a_M_errors a_M_meetsFound a_M_deedsFound a_M_ahead a_M_NAMED a_M_code a_M_named a_M_pile a_M_often a_M_trace a_M_widths a_M_sizes a_M_numbers a_M_carried M_images u.1 u.2.1 x1 u.2.2.1 u.2.2.2.1 M_traced M_kind M_number M_told M_errors M_now u.2.2.2.2 M_meetsFound M_deedsFound) (fun _ => rfl) rfl (run_V (As := []) (rest := []) C hl ((hrc_X8_one l G 7).1 a_M a_M_now a_M_kept a_M_aside a_M_errors a_M_meetsFound a_M_deedsFound a_M_ahead a_M_NAMED a_M_code a_M_named a_M_pile a_M_often a_M_trace a_M_widths a_M_sizes a_M_numbers a_M_carried Hx.size M_images (0 : Int32) (0 : Int32) x1 (0 : Int32) (0 : Int32) M_traced M_kind M_number M_told M_now M_code _ hw) gm_X8_145 ⟨⟨rfl, rfl⟩, cn_X8_either, ⟨(Nat.le_of_ble_eq_true rfl), (Nat.le_of_ble_eq_true rfl)⟩⟩ (pb_blind _ _ _ _) (x_recv I.1 0 rfl rfl) (pb_of I [0, 2, 3, 4] rfl rfl) rfl rfl (Nat.le_of_ble_eq_true rfl) ⟨Nat.le_of_ble_eq_true rfl, Nat.le_of_ble_eq_true rfl⟩ dX8_text_42) (fun u Hx lx hw I => ?_)
    obtain ⟨o3, o4, o5, o6, o7⟩ := u
    have I : Iv G A s (cs_X8_text G a_M a_M_now a_M_kept a_M_aside a_M_errors a_M_meetsFound a_M_deedsFound a_M_ahead a_M_NAMED a_M_code a_M_named a_M_pile a_M_often a_M_trace a_M_widths a_M_sizes a_M_numbers a_M_carried M_images o3 o4 x1 o5 o6 M_traced M_kind M_number M_told M_errors M_now o7 M_meetsFound M_deedsFound) Hx lx := I
    refine x_aload_n C hl 0 dX8_text_45 rfl ?_
    refine x_aload_n C hl 0 dX8_text_46 rfl ?_
    refine x_get C I.1 fl_X8_94 0 rfl rfl dX8_text_47 ?_
    refine x_if_ne C 66 dX8_text_50 (by decide) (fun c8 => ?_) (fun c8 => ?_)
    · have hw := And.left hw c8
      exact lk_X8_text_66 G a_M a_M_now a_M_kept a_M_aside a_M_errors a_M_meetsFound a_M_deedsFound a_M_ahead a_M_NAMED a_M_code a_M_named a_M_pile a_M_often a_M_trace a_M_widths a_M_sizes a_M_numbers a_M_carried C x1 M_images M_traced M_kind M_number M_told Q o3 o4 x1 o5 o6 M_errors M_now o7 M_meetsFound M_deedsFound Hx lx ls hw I (lv_sub hl [0] rfl)
    · have hw := And.right hw c8
      refine x_aload_n C hl 0 dX8_text_53 rfl ?_
      refine x_get C I.1 fl_X8_98 0 rfl rfl dX8_text_54 ?_
      refine x_aload_n C hl 0 dX8_text_57 rfl ?_
      refine x_get C I.1 fl_X8_9 0 rfl rfl dX8_text_58 ?_
      refine x_iconst C dX8_text_61 ic_4 ?_
      refine x_ialdL C I.1 2 4 rfl vi_4_228 vl_4 dX8_text_62 ?_
      refine x_icmp_ge C 70 dX8_text_63 (by decide) (fun c14 => ?_) (fun c14 => ?_)
      · have hw := And.left hw c14
        refine x_iconst C dX8_text_70 ic_0 ?_
        exact lk_X8_text_71 G a_M a_M_now a_M_kept a_M_aside a_M_errors a_M_meetsFound a_M_deedsFound a_M_ahead a_M_NAMED a_M_code a_M_named a_M_pile a_M_often a_M_trace a_M_widths a_M_sizes a_M_numbers a_M_carried C x1 M_images M_traced M_kind M_number M_told Q (0 : Int32) o3 o4 x1 o5 o6 M_errors M_now o7 M_meetsFound M_deedsFound Hx lx ls hw I (lv_sub hl [0] rfl)
      · have hw := And.right hw c14
        exact lk_X8_text_66 G a_M a_M_now a_M_kept a_M_aside a_M_errors a_M_meetsFound a_M_deedsFound a_M_ahead a_M_NAMED a_M_code a_M_named a_M_pile a_M_often a_M_trace a_M_widths a_M_sizes a_M_numbers a_M_carried C x1 M_images M_traced M_kind M_number M_told Q o3 o4 x1 o5 o6 M_errors M_now o7 M_meetsFound M_deedsFound Hx lx ls hw I (lv_sub hl [0] rfl)
  · have hw := And.right hw c2
    refine x_aload_n C hl 0 dX8_text_9 rfl ?_
    refine x_ldc C wd_931 dX8_text_10 ?_
    refine x_mui (wk := cs_X8_finding G a_M a_M_now a_M_kept a_M_aside a_M_errors a_M_meetsFound a_M_deedsFound a_M_ahead a_M_NAMED a_M_code a_M_named a_M_pile a_M_often a_M_trace a_M_widths a_M_sizes a_M_numbers a_M_carried M_images M_at M_open M_use M_isWrong M_coded M_traced M_kind M_number M_told M_errors) (wr := [(a_M_now, .inl (cI G, 228, .inl M_now)), (a_M_code, .inl (cI G, 60, .inl M_code)), (a_M_NAMED, .inl (G.2.2 2, 2, .inr (.inr (.inr (.inr (nmf G)))))), (a_M_meetsFound, .inl (cI G, 1728, .inl M_meetsFound)), (a_M_deedsFound, .inl (cI G, 8000, .inl M_deedsFound))]) (isC := [0, 1]) (isR := [2, 3, 4, 5, 6]) I ⟨⟨rfl, rfl⟩, rfl, rfl, rfl⟩ [5, 6, 0, 1, 2, 3, 4] (fun u => cs_X8_text G a_M a_M_now a_M_kept a_M_aside a_M_errors a_M_meetsFound a_M_deedsFound a_M_ahead a_M_NAMED a_M_code a_M_named a_M_pile a_M_often a_M_trace a_M_widths a_M_sizes a_M_numbers a_M_carried M_images M_at M_open M_use M_isWrong M_coded M_traced M_kind M_number M_told u M_now M_code M_meetsFound M_deedsFound) (fun _ => rfl) rfl (run_V (As := [.int (-1000000001 : Int32)]) (rest := []) C hl (wk_X8_finding l G a_M a_M_now a_M_kept a_M_aside a_M_errors a_M_meetsFound a_M_deedsFound a_M_ahead a_M_NAMED a_M_code a_M_named a_M_pile a_M_often a_M_trace a_M_widths a_M_sizes a_M_numbers a_M_carried s.heap.size M_images M_at M_open M_use M_isWrong M_coded M_traced M_kind M_number M_told M_errors (-1000000001 : Int32) _ hw) gm_X8_87 ⟨⟨rfl, rfl⟩, cn_X8_finding, ⟨(Nat.le_of_ble_eq_true rfl), (Nat.le_of_ble_eq_true rfl)⟩⟩ (pb_blind _ _ _ _) (x_recv I.1 0 rfl rfl) (pb_of I [0, 1] rfl rfl) rfl rfl (Nat.le_of_ble_eq_true rfl) ⟨Nat.le_of_ble_eq_true rfl, Nat.le_of_ble_eq_true rfl⟩ dX8_text_12) (fun r16 u Hx lx hw I => ?_)
    obtain ⟨o15, eo15⟩ : ∃ z, z = u := ⟨_, rfl⟩
    subst eo15
    have I : Iv G A s (cs_X8_text G a_M a_M_now a_M_kept a_M_aside a_M_errors a_M_meetsFound a_M_deedsFound a_M_ahead a_M_NAMED a_M_code a_M_named a_M_pile a_M_often a_M_trace a_M_widths a_M_sizes a_M_numbers a_M_carried M_images M_at M_open M_use M_isWrong M_coded M_traced M_kind M_number M_told o15 M_now M_code M_meetsFound M_deedsFound) Hx lx := I
    exact x_ret1 C I (M_at, M_open, M_use, M_isWrong, M_coded, o15, M_now, M_code, M_meetsFound, M_deedsFound) rfl hw dX8_text_15
/-! X8_from -/
abbrev rm_X8_from : Room := { frames := 9, cells := 0, slots := 0, locals := 211 }
abbrev cs_X8_from (G : Gt) (a_M : Nat) (a_M_now : Nat) (a_M_kept : Nat) (a_M_aside : Nat) (a_M_errors : Nat) (a_M_meetsFound : Nat) (a_M_deedsFound : Nat) (a_M_ahead : Nat) (a_M_NAMED : Nat) (a_M_code : Nat) (a_M_named : Nat) (a_M_pile : Nat) (a_M_often : Nat) (a_M_trace : Nat) (a_M_widths : Nat) (a_M_sizes : Nat) (a_M_numbers : Nat) (a_M_carried : Nat) (M_images : Int32) (M_at : Int32) (M_open : Int32) (M_use : Int32) (M_isWrong : Int32) (M_coded : Int32) (M_traced : Int32) (M_kind : Int32) (M_number : Int32) (M_told : Int32) (M_errors : Nat → Int32) (M_now : Nat → Int32) (M_widths : Nat → Int32) (M_sizes : Nat → Int32) (M_numbers : Nat → Int32) (M_aside : Nat → Int32) (M_ahead : Nat → Int32) (M_meetsFound : Nat → Int32) (M_named : Nat → Int32) (M_pile : Nat → Int32) (M_deedsFound : Nat → Int32) : va_W := [(a_M, .inr (8, [.ref a_M_now, .ref a_M_kept, .ref a_M_aside, .int M_images, .ref a_M_errors, .ref a_M_meetsFound, .ref a_M_deedsFound, .ref a_M_ahead, .ref a_M_NAMED, .int M_at, .int M_open, .int M_use, .int M_isWrong, .ref a_M_code, .int M_coded, .ref a_M_named, .ref a_M_pile, .ref a_M_often, .ref a_M_trace, .int M_traced, .int M_kind, .int M_number, .int M_told, .ref a_M_widths, .ref a_M_sizes, .ref a_M_numbers, .ref a_M_carried])), (a_M_errors, .inl (cI G, 6, .inl M_errors)), (a_M_now, .inl (cI G, 228, .inl M_now)), (a_M_widths, .inl (cI G, 4, .inl M_widths)), (a_M_sizes, .inl (cI G, 4, .inl M_sizes)), (a_M_numbers, .inl (cI G, 160, .inl M_numbers)), (a_M_aside, .inl (cI G, 228, .inl M_aside)), (a_M_ahead, .inl (cI G, 8, .inl M_ahead)), (a_M_meetsFound, .inl (cI G, 1728, .inl M_meetsFound)), (a_M_named, .inl (cI G, 4, .inl M_named)), (a_M_pile, .inl (cI G, 60, .inl M_pile)), (a_M_deedsFound, .inl (cI G, 8000, .inl M_deedsFound))]
abbrev qc_X8_from (G : Gt) (a_M : Nat) (a_M_now : Nat) (a_M_kept : Nat) (a_M_aside : Nat) (a_M_errors : Nat) (a_M_meetsFound : Nat) (a_M_deedsFound : Nat) (a_M_ahead : Nat) (a_M_NAMED : Nat) (a_M_code : Nat) (a_M_named : Nat) (a_M_pile : Nat) (a_M_often : Nat) (a_M_trace : Nat) (a_M_widths : Nat) (a_M_sizes : Nat) (a_M_numbers : Nat) (a_M_carried : Nat) (M_images : Int32) (M_at : Int32) (M_open : Int32) (M_use : Int32) (M_isWrong : Int32) (M_coded : Int32) (M_traced : Int32) (M_kind : Int32) (M_number : Int32) (M_told : Int32) (M_widths : Nat → Int32) (M_sizes : Nat → Int32) (M_numbers : Nat → Int32) (A : Nat → Prop) (Q : Int32 → (Nat → Int32) → (Nat → Int32) → (Nat → Int32) → (Nat → Int32) → (Nat → Int32) → (Nat → Int32) → (Nat → Int32) → (Nat → Int32) → Prop) : Array Value → State → Outcome → State → Prop := Qi1 G A (fun r (u : (Nat → Int32) × (Nat → Int32) × (Nat → Int32) × (Nat → Int32) × (Nat → Int32) × (Nat → Int32) × (Nat → Int32) × (Nat → Int32)) => Q r u.1 u.2.1 u.2.2.1 u.2.2.2.1 u.2.2.2.2.1 u.2.2.2.2.2.1 u.2.2.2.2.2.2.1 u.2.2.2.2.2.2.2) (fun u => cs_X8_from G a_M a_M_now a_M_kept a_M_aside a_M_errors a_M_meetsFound a_M_deedsFound a_M_ahead a_M_NAMED a_M_code a_M_named a_M_pile a_M_often a_M_trace a_M_widths a_M_sizes a_M_numbers a_M_carried M_images M_at M_open M_use M_isWrong M_coded M_traced M_kind M_number M_told u.1 u.2.1 M_widths M_sizes M_numbers u.2.2.1 u.2.2.2.1 u.2.2.2.2.1 u.2.2.2.2.2.1 u.2.2.2.2.2.2.1 u.2.2.2.2.2.2.2)
def lb_X8_from_16 (x1 : Int32) (x2 : Int32) (M_widths : Nat → Int32) (M_sizes : Nat → Int32) (M_numbers : Nat → Int32) (Q : Int32 → (Nat → Int32) → (Nat → Int32) → (Nat → Int32) → (Nat → Int32) → (Nat → Int32) → (Nat → Int32) → (Nat → Int32) → (Nat → Int32) → Prop) (w_M_errors : Nat → Int32) (w_M_now : Nat → Int32) (w_M_aside : Nat → Int32) (w_M_ahead : Nat → Int32) (w_M_meetsFound : Nat → Int32) (w_M_named : Nat → Int32) (w_M_pile : Nat → Int32) (w_M_deedsFound : Nat → Int32) : Prop := (wp_X8_finding (-1000000001 : Int32) w_M_errors (fun r4 o3 => (Q r4 o3 w_M_now w_M_aside w_M_ahead w_M_meetsFound w_M_named w_M_pile w_M_deedsFound)))
set_option maxHeartbeats 4000000 in
set_option maxRecDepth 100000 in
theorem lk_X8_from_16 {p : Program} {l : Launch} {e : Env} {s : State} {m : MethodId} {args : Array Value} {below : List Frame} {meth : Method} {c : Code} {A : Nat → Prop} (G : Gt) (a_M : Nat) (a_M_now : Nat) (a_M_kept : Nat) (a_M_aside : Nat) (a_M_errors : Nat) (a_M_meetsFound : Nat) (a_M_deedsFound : Nat) (a_M_ahead : Nat) (a_M_NAMED : Nat) (a_M_code : Nat) (a_M_named : Nat) (a_M_pile : Nat) (a_M_often : Nat) (a_M_trace : Nat) (a_M_widths : Nat) (a_M_sizes : Nat) (a_M_numbers : Nat) (a_M_carried : Nat) (C : Cx p s m args meth c cX8_from 6 RX8 (some .int)) (x1 : Int32) (x2 : Int32) (M_widths : Nat → Int32) (M_sizes : Nat → Int32) (M_numbers : Nat → Int32) (M_images : Int32) (M_at : Int32) (M_open : Int32) (M_use : Int32) (M_isWrong : Int32) (M_coded : Int32) (M_traced : Int32) (M_kind : Int32) (M_number : Int32) (M_told : Int32) (Q : Int32 → (Nat → Int32) → (Nat → Int32) → (Nat → Int32) → (Nat → Int32) → (Nat → Int32) → (Nat → Int32) → (Nat → Int32) → (Nat → Int32) → Prop) : ∀ (w_M_errors : Nat → Int32) (w_M_now : Nat → Int32) (w_M_aside : Nat → Int32) (w_M_ahead : Nat → Int32) (w_M_meetsFound : Nat → Int32) (w_M_named : Nat → Int32) (w_M_pile : Nat → Int32) (w_M_deedsFound : Nat → Int32) (Hx : Heap) (lx : List Loc) (ls : Array Slot), lb_X8_from_16 x1 x2 M_widths M_sizes M_numbers Q w_M_errors w_M_now w_M_aside w_M_ahead w_M_meetsFound w_M_named w_M_pile w_M_deedsFound → Iv G A s (cs_X8_from G a_M a_M_now a_M_kept a_M_aside a_M_errors a_M_meetsFound a_M_deedsFound a_M_ahead a_M_NAMED a_M_code a_M_named a_M_pile a_M_often a_M_trace a_M_widths a_M_sizes a_M_numbers a_M_carried M_images M_at M_open M_use M_isWrong M_coded M_traced M_kind M_number M_told w_M_errors w_M_now M_widths M_sizes M_numbers w_M_aside w_M_ahead w_M_meetsFound w_M_named w_M_pile w_M_deedsFound) Hx lx → lv_has ls 6 [(0, .ref a_M)] → W p l e rm_X8_from s m args below meth c Hx lx 0 0 (MQ below (qc_X8_from G a_M a_M_now a_M_kept a_M_aside a_M_errors a_M_meetsFound a_M_deedsFound a_M_ahead a_M_NAMED a_M_code a_M_named a_M_pile a_M_often a_M_trace a_M_widths a_M_sizes a_M_numbers a_M_carried M_images M_at M_open M_use M_isWrong M_coded M_traced M_kind M_number M_told M_widths M_sizes M_numbers A Q) args s 0 0 A) (F0 m 16 ls []) := by
  intro w_M_errors w_M_now w_M_aside w_M_ahead w_M_meetsFound w_M_named w_M_pile w_M_deedsFound Hx lx  ls hw I hl
  refine x_aload_n C hl 0 dX8_from_16 rfl ?_
  refine x_ldc C wd_931 dX8_from_17 ?_
  refine x_mui (wk := cs_X8_finding G a_M a_M_now a_M_kept a_M_aside a_M_errors a_M_meetsFound a_M_deedsFound a_M_ahead a_M_NAMED a_M_code a_M_named a_M_pile a_M_often a_M_trace a_M_widths a_M_sizes a_M_numbers a_M_carried M_images M_at M_open M_use M_isWrong M_coded M_traced M_kind M_number M_told w_M_errors) (wr := [(a_M_now, .inl (cI G, 228, .inl w_M_now)), (a_M_widths, .inl (cI G, 4, .inl M_widths)), (a_M_sizes, .inl (cI G, 4, .inl M_sizes)), (a_M_numbers, .inl (cI G, 160, .inl M_numbers)), (a_M_aside, .inl (cI G, 228, .inl w_M_aside)), (a_M_ahead, .inl (cI G, 8, .inl w_M_ahead)), (a_M_meetsFound, .inl (cI G, 1728, .inl w_M_meetsFound)), (a_M_named, .inl (cI G, 4, .inl w_M_named)), (a_M_pile, .inl (cI G, 60, .inl w_M_pile)), (a_M_deedsFound, .inl (cI G, 8000, .inl w_M_deedsFound))]) (isC := [0, 1]) (isR := [2, 3, 4, 5, 6, 7, 8, 9, 10, 11]) I ⟨⟨rfl, rfl⟩, rfl, rfl, rfl⟩ [10, 11, 0, 1, 2, 3, 4, 5, 6, 7, 8, 9] (fun u => cs_X8_from G a_M a_M_now a_M_kept a_M_aside a_M_errors a_M_meetsFound a_M_deedsFound a_M_ahead a_M_NAMED a_M_code a_M_named a_M_pile a_M_often a_M_trace a_M_widths a_M_sizes a_M_numbers a_M_carried M_images M_at M_open M_use M_isWrong M_coded M_traced M_kind M_number M_told u w_M_now M_widths M_sizes M_numbers w_M_aside w_M_ahead w_M_meetsFound w_M_named w_M_pile w_M_deedsFound) (fun _ => rfl) rfl (run_V (As := [.int (-1000000001 : Int32)]) (rest := []) C hl (wk_X8_finding l G a_M a_M_now a_M_kept a_M_aside a_M_errors a_M_meetsFound a_M_deedsFound a_M_ahead a_M_NAMED a_M_code a_M_named a_M_pile a_M_often a_M_trace a_M_widths a_M_sizes a_M_numbers a_M_carried Hx.size M_images M_at M_open M_use M_isWrong M_coded M_traced M_kind M_number M_told w_M_errors (-1000000001 : Int32) _ hw) gm_X8_87 ⟨⟨rfl, rfl⟩, cn_X8_finding, ⟨(Nat.le_of_ble_eq_true rfl), (Nat.le_of_ble_eq_true rfl)⟩⟩ (pb_blind _ _ _ _) (x_recv I.1 0 rfl rfl) (pb_of I [0, 1] rfl rfl) rfl rfl (Nat.le_of_ble_eq_true rfl) ⟨Nat.le_of_ble_eq_true rfl, Nat.le_of_ble_eq_true rfl⟩ dX8_from_19) (fun r4 u Hx lx hw I => ?_)
  obtain ⟨o3, eo3⟩ : ∃ z, z = u := ⟨_, rfl⟩
  subst eo3
  have I : Iv G A s (cs_X8_from G a_M a_M_now a_M_kept a_M_aside a_M_errors a_M_meetsFound a_M_deedsFound a_M_ahead a_M_NAMED a_M_code a_M_named a_M_pile a_M_often a_M_trace a_M_widths a_M_sizes a_M_numbers a_M_carried M_images M_at M_open M_use M_isWrong M_coded M_traced M_kind M_number M_told o3 w_M_now M_widths M_sizes M_numbers w_M_aside w_M_ahead w_M_meetsFound w_M_named w_M_pile w_M_deedsFound) Hx lx := I
  exact x_ret1 C I (o3, w_M_now, w_M_aside, w_M_ahead, w_M_meetsFound, w_M_named, w_M_pile, w_M_deedsFound) rfl hw dX8_from_22
def lb_X8_from_68 (x1 : Int32) (x2 : Int32) (M_widths : Nat → Int32) (M_sizes : Nat → Int32) (M_numbers : Nat → Int32) (Q : Int32 → (Nat → Int32) → (Nat → Int32) → (Nat → Int32) → (Nat → Int32) → (Nat → Int32) → (Nat → Int32) → (Nat → Int32) → (Nat → Int32) → Prop) (w_M_errors : Nat → Int32) (w_M_now : Nat → Int32) (w_M_aside : Nat → Int32) (w_M_ahead : Nat → Int32) (w_M_meetsFound : Nat → Int32) (w_M_named : Nat → Int32) (w_M_pile : Nat → Int32) (w_M_deedsFound : Nat → Int32) : Prop := (wp_X8_finding (-1000000002 : Int32) w_M_errors (fun r10 o9 => (Q r10 o9 w_M_now w_M_aside w_M_ahead w_M_meetsFound w_M_named w_M_pile w_M_deedsFound)))
set_option maxHeartbeats 4000000 in
set_option maxRecDepth 100000 in
theorem lk_X8_from_68 {p : Program} {l : Launch} {e : Env} {s : State} {m : MethodId} {args : Array Value} {below : List Frame} {meth : Method} {c : Code} {A : Nat → Prop} (G : Gt) (a_M : Nat) (a_M_now : Nat) (a_M_kept : Nat) (a_M_aside : Nat) (a_M_errors : Nat) (a_M_meetsFound : Nat) (a_M_deedsFound : Nat) (a_M_ahead : Nat) (a_M_NAMED : Nat) (a_M_code : Nat) (a_M_named : Nat) (a_M_pile : Nat) (a_M_often : Nat) (a_M_trace : Nat) (a_M_widths : Nat) (a_M_sizes : Nat) (a_M_numbers : Nat) (a_M_carried : Nat) (C : Cx p s m args meth c cX8_from 6 RX8 (some .int)) (x1 : Int32) (x2 : Int32) (M_widths : Nat → Int32) (M_sizes : Nat → Int32) (M_numbers : Nat → Int32) (M_images : Int32) (M_at : Int32) (M_open : Int32) (M_use : Int32) (M_isWrong : Int32) (M_coded : Int32) (M_traced : Int32) (M_kind : Int32) (M_number : Int32) (M_told : Int32) (Q : Int32 → (Nat → Int32) → (Nat → Int32) → (Nat → Int32) → (Nat → Int32) → (Nat → Int32) → (Nat → Int32) → (Nat → Int32) → (Nat → Int32) → Prop) : ∀ (w_M_errors : Nat → Int32) (w_M_now : Nat → Int32) (w_M_aside : Nat → Int32) (w_M_ahead : Nat → Int32) (w_M_meetsFound : Nat → Int32) (w_M_named : Nat → Int32) (w_M_pile : Nat → Int32) (w_M_deedsFound : Nat → Int32) (Hx : Heap) (lx : List Loc) (ls : Array Slot), lb_X8_from_68 x1 x2 M_widths M_sizes M_numbers Q w_M_errors w_M_now w_M_aside w_M_ahead w_M_meetsFound w_M_named w_M_pile w_M_deedsFound → Iv G A s (cs_X8_from G a_M a_M_now a_M_kept a_M_aside a_M_errors a_M_meetsFound a_M_deedsFound a_M_ahead a_M_NAMED a_M_code a_M_named a_M_pile a_M_often a_M_trace a_M_widths a_M_sizes a_M_numbers a_M_carried M_images M_at M_open M_use M_isWrong M_coded M_traced M_kind M_number M_told w_M_errors w_M_now M_widths M_sizes M_numbers w_M_aside w_M_ahead w_M_meetsFound w_M_named w_M_pile w_M_deedsFound) Hx lx → lv_has ls 6 [(0, .ref a_M)] → W p l e rm_X8_from s m args below meth c Hx lx 0 0 (MQ below (qc_X8_from G a_M a_M_now a_M_kept a_M_aside a_M_errors a_M_meetsFound a_M_deedsFound a_M_ahead a_M_NAMED a_M_code a_M_named a_M_pile a_M_often a_M_trace a_M_widths a_M_sizes a_M_numbers a_M_carried M_images M_at M_open M_use M_isWrong M_coded M_traced M_kind M_number M_told M_widths M_sizes M_numbers A Q) args s 0 0 A) (F0 m 68 ls []) := by
  intro w_M_errors w_M_now w_M_aside w_M_ahead w_M_meetsFound w_M_named w_M_pile w_M_deedsFound Hx lx  ls hw I hl
  refine x_aload_n C hl 0 dX8_from_68 rfl ?_
  refine x_ldc C wd_1209 dX8_from_69 ?_
  refine x_mui (wk := cs_X8_finding G a_M a_M_now a_M_kept a_M_aside a_M_errors a_M_meetsFound a_M_deedsFound a_M_ahead a_M_NAMED a_M_code a_M_named a_M_pile a_M_often a_M_trace a_M_widths a_M_sizes a_M_numbers a_M_carried M_images M_at M_open M_use M_isWrong M_coded M_traced M_kind M_number M_told w_M_errors) (wr := [(a_M_now, .inl (cI G, 228, .inl w_M_now)), (a_M_widths, .inl (cI G, 4, .inl M_widths)), (a_M_sizes, .inl (cI G, 4, .inl M_sizes)), (a_M_numbers, .inl (cI G, 160, .inl M_numbers)), (a_M_aside, .inl (cI G, 228, .inl w_M_aside)), (a_M_ahead, .inl (cI G, 8, .inl w_M_ahead)), (a_M_meetsFound, .inl (cI G, 1728, .inl w_M_meetsFound)), (a_M_named, .inl (cI G, 4, .inl w_M_named)), (a_M_pile, .inl (cI G, 60, .inl w_M_pile)), (a_M_deedsFound, .inl (cI G, 8000, .inl w_M_deedsFound))]) (isC := [0, 1]) (isR := [2, 3, 4, 5, 6, 7, 8, 9, 10, 11]) I ⟨⟨rfl, rfl⟩, rfl, rfl, rfl⟩ [10, 11, 0, 1, 2, 3, 4, 5, 6, 7, 8, 9] (fun u => cs_X8_from G a_M a_M_now a_M_kept a_M_aside a_M_errors a_M_meetsFound a_M_deedsFound a_M_ahead a_M_NAMED a_M_code a_M_named a_M_pile a_M_often a_M_trace a_M_widths a_M_sizes a_M_numbers a_M_carried M_images M_at M_open M_use M_isWrong M_coded M_traced M_kind M_number M_told u w_M_now M_widths M_sizes M_numbers w_M_aside w_M_ahead w_M_meetsFound w_M_named w_M_pile w_M_deedsFound) (fun _ => rfl) rfl (run_V (As := [.int (-1000000002 : Int32)]) (rest := []) C hl (wk_X8_finding l G a_M a_M_now a_M_kept a_M_aside a_M_errors a_M_meetsFound a_M_deedsFound a_M_ahead a_M_NAMED a_M_code a_M_named a_M_pile a_M_often a_M_trace a_M_widths a_M_sizes a_M_numbers a_M_carried Hx.size M_images M_at M_open M_use M_isWrong M_coded M_traced M_kind M_number M_told w_M_errors (-1000000002 : Int32) _ hw) gm_X8_87 ⟨⟨rfl, rfl⟩, cn_X8_finding, ⟨(Nat.le_of_ble_eq_true rfl), (Nat.le_of_ble_eq_true rfl)⟩⟩ (pb_blind _ _ _ _) (x_recv I.1 0 rfl rfl) (pb_of I [0, 1] rfl rfl) rfl rfl (Nat.le_of_ble_eq_true rfl) ⟨Nat.le_of_ble_eq_true rfl, Nat.le_of_ble_eq_true rfl⟩ dX8_from_71) (fun r10 u Hx lx hw I => ?_)
  obtain ⟨o9, eo9⟩ : ∃ z, z = u := ⟨_, rfl⟩
  subst eo9
  have I : Iv G A s (cs_X8_from G a_M a_M_now a_M_kept a_M_aside a_M_errors a_M_meetsFound a_M_deedsFound a_M_ahead a_M_NAMED a_M_code a_M_named a_M_pile a_M_often a_M_trace a_M_widths a_M_sizes a_M_numbers a_M_carried M_images M_at M_open M_use M_isWrong M_coded M_traced M_kind M_number M_told o9 w_M_now M_widths M_sizes M_numbers w_M_aside w_M_ahead w_M_meetsFound w_M_named w_M_pile w_M_deedsFound) Hx lx := I
  exact x_ret1 C I (o9, w_M_now, w_M_aside, w_M_ahead, w_M_meetsFound, w_M_named, w_M_pile, w_M_deedsFound) rfl hw dX8_from_74
def lb_X8_from_81 (x1 : Int32) (x2 : Int32) (M_widths : Nat → Int32) (M_sizes : Nat → Int32) (M_numbers : Nat → Int32) (Q : Int32 → (Nat → Int32) → (Nat → Int32) → (Nat → Int32) → (Nat → Int32) → (Nat → Int32) → (Nat → Int32) → (Nat → Int32) → (Nat → Int32) → Prop) : Nat → Int32 → Int32 → Int32 → (Nat → Int32) → (Nat → Int32) → (Nat → Int32) → (Nat → Int32) → (Nat → Int32) → (Nat → Int32) → (Nat → Int32) → (Nat → Int32) → Prop
  | 0 => fun _ _ _ _ _ _ _ _ _ _ _ => False
  | k + 1 => fun (y3 : Int32) (y4 : Int32) (y5 : Int32) (w_M_errors : Nat → Int32) (w_M_now : Nat → Int32) (w_M_aside : Nat → Int32) (w_M_ahead : Nat → Int32) (w_M_meetsFound : Nat → Int32) (w_M_named : Nat → Int32) (w_M_pile : Nat → Int32) (w_M_deedsFound : Nat → Int32) => ((y3 ≤ y5 → ((¬ x2 = (0) → (wp_X8_bits y4 (fun r16 => (Q r16 w_M_errors w_M_now w_M_aside w_M_ahead w_M_meetsFound w_M_named w_M_pile w_M_deedsFound)))) ∧ (x2 = (0) → (Q y4 w_M_errors w_M_now w_M_aside w_M_ahead w_M_meetsFound w_M_named w_M_pile w_M_deedsFound)))) ∧ (¬ y3 ≤ y5 → (wp_X8_comesFrom x1 y5 w_M_now w_M_aside M_numbers w_M_ahead w_M_meetsFound w_M_named w_M_pile w_M_deedsFound (fun r24 o17 o18 o19 o20 o21 o22 o23 => ((r24 = (0) → (∀ v26 : Int32, v26 = (y4 ||| (0 : Int32)) → (lb_X8_from_81 x1 x2 M_widths M_sizes M_numbers Q k y3 v26 (y5 + (1 : Int32)) w_M_errors o17 o18 o19 o20 o21 o22 o23))) ∧ (¬ r24 = (0) → (∀ v27 : Int32, v27 = (y4 ||| (jshl (1 : Int32) y5)) → (lb_X8_from_81 x1 x2 M_widths M_sizes M_numbers Q k y3 v27 (y5 + (1 : Int32)) w_M_errors o17 o18 o19 o20 o21 o22 o23))))))))
set_option maxHeartbeats 4000000 in
set_option maxRecDepth 100000 in
theorem lk_X8_from_81 {p : Program} {l : Launch} {e : Env} {s : State} {m : MethodId} {args : Array Value} {below : List Frame} {meth : Method} {c : Code} {A : Nat → Prop} (G : Gt) (a_M : Nat) (a_M_now : Nat) (a_M_kept : Nat) (a_M_aside : Nat) (a_M_errors : Nat) (a_M_meetsFound : Nat) (a_M_deedsFound : Nat) (a_M_ahead : Nat) (a_M_NAMED : Nat) (a_M_code : Nat) (a_M_named : Nat) (a_M_pile : Nat) (a_M_often : Nat) (a_M_trace : Nat) (a_M_widths : Nat) (a_M_sizes : Nat) (a_M_numbers : Nat) (a_M_carried : Nat) (C : Cx p s m args meth c cX8_from 6 RX8 (some .int)) (x1 : Int32) (x2 : Int32) (M_widths : Nat → Int32) (M_sizes : Nat → Int32) (M_numbers : Nat → Int32) (M_images : Int32) (M_at : Int32) (M_open : Int32) (M_use : Int32) (M_isWrong : Int32) (M_coded : Int32) (M_traced : Int32) (M_kind : Int32) (M_number : Int32) (M_told : Int32) (Q : Int32 → (Nat → Int32) → (Nat → Int32) → (Nat → Int32) → (Nat → Int32) → (Nat → Int32) → (Nat → Int32) → (Nat → Int32) → (Nat → Int32) → Prop) : ∀ (n : Nat) (y3 : Int32) (y4 : Int32) (y5 : Int32) (w_M_errors : Nat → Int32) (w_M_now : Nat → Int32) (w_M_aside : Nat → Int32) (w_M_ahead : Nat → Int32) (w_M_meetsFound : Nat → Int32) (w_M_named : Nat → Int32) (w_M_pile : Nat → Int32) (w_M_deedsFound : Nat → Int32) (Hx : Heap) (lx : List Loc) (ls : Array Slot), lb_X8_from_81 x1 x2 M_widths M_sizes M_numbers Q n y3 y4 y5 w_M_errors w_M_now w_M_aside w_M_ahead w_M_meetsFound w_M_named w_M_pile w_M_deedsFound → Iv G A s (cs_X8_from G a_M a_M_now a_M_kept a_M_aside a_M_errors a_M_meetsFound a_M_deedsFound a_M_ahead a_M_NAMED a_M_code a_M_named a_M_pile a_M_often a_M_trace a_M_widths a_M_sizes a_M_numbers a_M_carried M_images M_at M_open M_use M_isWrong M_coded M_traced M_kind M_number M_told w_M_errors w_M_now M_widths M_sizes M_numbers w_M_aside w_M_ahead w_M_meetsFound w_M_named w_M_pile w_M_deedsFound) Hx lx → lv_has ls 6 [(0, .ref a_M), (1, .int x1), (2, .int x2), (3, .int y3), (4, .int y4), (5, .int y5)] → W p l e rm_X8_from s m args below meth c Hx lx 0 0 (MQ below (qc_X8_from G a_M a_M_now a_M_kept a_M_aside a_M_errors a_M_meetsFound a_M_deedsFound a_M_ahead a_M_NAMED a_M_code a_M_named a_M_pile a_M_often a_M_trace a_M_widths a_M_sizes a_M_numbers a_M_carried M_images M_at M_open M_use M_isWrong M_coded M_traced M_kind M_number M_told M_widths M_sizes M_numbers A Q) args s 0 0 A) (F0 m 81 ls []) := by
  intro n
  induction n with
  | zero => intro y3 y4 y5 w_M_errors w_M_now w_M_aside w_M_ahead w_M_meetsFound w_M_named w_M_pile w_M_deedsFound Hx lx  ls hw I hl; exact False.elim hw
  | succ k ih =>
    intro y3 y4 y5 w_M_errors w_M_now w_M_aside w_M_ahead w_M_meetsFound w_M_named w_M_pile w_M_deedsFound Hx lx  ls hw I hl
    refine x_iload C hl 5 dX8_from_81 rfl ?_
    refine x_iload_n C hl 3 dX8_from_83 rfl ?_
    refine x_icmp_ge C 116 dX8_from_84 (by decide) (fun c14 => ?_) (fun c14 => ?_)
    · have hw := And.left hw c14
      refine x_iload_n C hl 2 dX8_from_116 rfl ?_
      refine x_if_ne C 125 dX8_from_117 (by decide) (fun c15 => ?_) (fun c15 => ?_)
      · have hw := And.left hw c15
        refine x_iload C hl 4 dX8_from_125 rfl ?_
        refine x_ro (run_S (As := [.int y4]) (rest := []) C hl (wk_X8_bits l G y4 _ hw) gm_X8_218 ⟨⟨rfl, rfl⟩, cn_X8_bits, ⟨(Nat.le_of_ble_eq_true rfl), (Nat.le_of_ble_eq_true rfl)⟩⟩ (pr_blind _ _ _) (pr_of I.1 [] rfl) rfl rfl (Nat.le_of_ble_eq_true rfl) ⟨Nat.le_of_ble_eq_true rfl, Nat.le_of_ble_eq_true rfl⟩ dX8_from_127) (fun r16 hw => ?_)
        exact x_ret1 C I (w_M_errors, w_M_now, w_M_aside, w_M_ahead, w_M_meetsFound, w_M_named, w_M_pile, w_M_deedsFound) rfl hw dX8_from_130
      · have hw := And.right hw c15
        refine x_iload C hl 4 dX8_from_120 rfl ?_
        refine x_goto C 130 dX8_from_122 (by decide) ?_
        exact x_ret1 C I (w_M_errors, w_M_now, w_M_aside, w_M_ahead, w_M_meetsFound, w_M_named, w_M_pile, w_M_deedsFound) rfl hw dX8_from_130
    · have hw := And.right hw c14
      refine x_iload C hl 4 dX8_from_87 rfl ?_
      refine x_aload_n C hl 0 dX8_from_89 rfl ?_
      refine x_iload_n C hl 1 dX8_from_90 rfl ?_
      refine x_iload C hl 5 dX8_from_91 rfl ?_
      refine x_mui (wk := cs_X8_comesFrom G a_M a_M_now a_M_kept a_M_aside a_M_errors a_M_meetsFound a_M_deedsFound a_M_ahead a_M_NAMED a_M_code a_M_named a_M_pile a_M_often a_M_trace a_M_widths a_M_sizes a_M_numbers a_M_carried M_images M_at M_open M_use M_isWrong M_coded M_traced M_kind M_number M_told w_M_now w_M_aside M_numbers w_M_ahead w_M_meetsFound w_M_named w_M_pile w_M_deedsFound) (wr := [(a_M_errors, .inl (cI G, 6, .inl w_M_errors)), (a_M_widths, .inl (cI G, 4, .inl M_widths)), (a_M_sizes, .inl (cI G, 4, .inl M_sizes))]) (isC := [0, 2, 6, 5, 7, 8, 9, 10, 11]) (isR := [1, 3, 4]) I ⟨⟨rfl, rfl⟩, rfl, rfl, rfl⟩ [3, 0, 4, 1, 2, 6, 5, 7, 8, 9, 10, 11] (fun u => cs_X8_from G a_M a_M_now a_M_kept a_M_aside a_M_errors a_M_meetsFound a_M_deedsFound a_M_ahead a_M_NAMED a_M_code a_M_named a_M_pile a_M_often a_M_trace a_M_widths a_M_sizes a_M_numbers a_M_carried M_images M_at M_open M_use M_isWrong M_coded M_traced M_kind M_number M_told w_M_errors u.1 M_widths M_sizes M_numbers u.2.1 u.2.2.1 u.2.2.2.1 u.2.2.2.2.1 u.2.2.2.2.2.1 u.2.2.2.2.2.2) (fun _ => rfl) rfl (run_V (As := [.int x1, .int y5]) (rest := [.int y4]) C hl (wk_X8_comesFrom l G a_M a_M_now a_M_kept a_M_aside a_M_errors a_M_meetsFound a_M_deedsFound a_M_ahead a_M_NAMED a_M_code a_M_named a_M_pile a_M_often a_M_trace a_M_widths a_M_sizes a_M_numbers a_M_carried Hx.size M_images M_at M_open M_use M_isWrong M_coded M_traced M_kind M_number M_told w_M_now w_M_aside M_numbers w_M_ahead w_M_meetsFound w_M_named w_M_pile w_M_deedsFound x1 y5 _ hw) gm_X8_266 ⟨⟨rfl, rfl⟩, cn_X8_comesFrom, ⟨(Nat.le_of_ble_eq_true rfl), (Nat.le_of_ble_eq_true rfl)⟩⟩ (pb_blind _ _ _ _) (x_recv I.1 0 rfl rfl) (pb_of I [0, 2, 6, 5, 7, 8, 9, 10, 11] rfl rfl) rfl rfl (Nat.le_of_ble_eq_true rfl) ⟨Nat.le_of_ble_eq_true rfl, Nat.le_of_ble_eq_true rfl⟩ dX8_from_93) (fun r24 u Hx lx hw I => ?_)
      obtain ⟨o17, o18, o19, o20, o21, o22, o23⟩ := u
      have I : Iv G A s (cs_X8_from G a_M a_M_now a_M_kept a_M_aside a_M_errors a_M_meetsFound a_M_deedsFound a_M_ahead a_M_NAMED a_M_code a_M_named a_M_pile a_M_often a_M_trace a_M_widths a_M_sizes a_M_numbers a_M_carried M_images M_at M_open M_use M_isWrong M_coded M_traced M_kind M_number M_told w_M_errors o17 M_widths M_sizes M_numbers o18 o19 o20 o21 o22 o23) Hx lx := I
      refine x_if_eq C 106 dX8_from_96 (by decide) (fun c25 => ?_) (fun c25 => ?_)
      · have hw := And.left hw c25
        refine x_iconst C dX8_from_106 ic_0 ?_
        refine x_ior C dX8_from_107 ?_
        refine lv_topi (fun v26 ev26 => ?_)
        have hw := hw v26 ev26
        refine x_istore C hl [(4, .int v26), (0, .ref a_M), (1, .int x1), (2, .int x2), (3, .int y3), (5, .int y5)] dX8_from_108 (Nat.le_of_ble_eq_true rfl) rfl (fun ls hl => ?_)
        refine x_iinc C hl 5 [(5, .int (y5 + (1 : Int32))), (4, .int v26), (0, .ref a_M), (1, .int x1), (2, .int x2), (3, .int y3)] (y5 + (1 : Int32)) dX8_from_110 rfl (congrArg _ ic_1) (Nat.le_of_ble_eq_true rfl) rfl (fun ls hl => ?_)
        refine x_goto C 81 dX8_from_113 (by decide) ?_
        exact ih y3 v26 (y5 + (1 : Int32)) w_M_errors o17 o18 o19 o20 o21 o22 o23 Hx lx ls hw I (lv_sub hl [2, 3, 4, 5, 1, 0] rfl)
      · have hw := And.right hw c25
        refine x_iconst C dX8_from_99 ic_1 ?_
        refine x_iload C hl 5 dX8_from_100 rfl ?_
        refine x_ishl C dX8_from_102 ?_
        refine x_goto C 107 dX8_from_103 (by decide) ?_
        refine x_ior C dX8_from_107 ?_
        refine lv_topi (fun v27 ev27 => ?_)
        have hw := hw v27 ev27
        refine x_istore C hl [(4, .int v27), (0, .ref a_M), (1, .int x1), (2, .int x2), (3, .int y3), (5, .int y5)] dX8_from_108 (Nat.le_of_ble_eq_true rfl) rfl (fun ls hl => ?_)
        refine x_iinc C hl 5 [(5, .int (y5 + (1 : Int32))), (4, .int v27), (0, .ref a_M), (1, .int x1), (2, .int x2), (3, .int y3)] (y5 + (1 : Int32)) dX8_from_110 rfl (congrArg _ ic_1) (Nat.le_of_ble_eq_true rfl) rfl (fun ls hl => ?_)
        refine x_goto C 81 dX8_from_113 (by decide) ?_
        exact ih y3 v27 (y5 + (1 : Int32)) w_M_errors o17 o18 o19 o20 o21 o22 o23 Hx lx ls hw I (lv_sub hl [2, 3, 4, 5, 1, 0] rfl)
def wp_X8_from (x1 : Int32) (x2 : Int32) (M_errors : Nat → Int32) (M_now : Nat → Int32) (M_widths : Nat → Int32) (M_sizes : Nat → Int32) (M_numbers : Nat → Int32) (M_aside : Nat → Int32) (M_ahead : Nat → Int32) (M_meetsFound : Nat → Int32) (M_named : Nat → Int32) (M_pile : Nat → Int32) (M_deedsFound : Nat → Int32) (Q : Int32 → (Nat → Int32) → (Nat → Int32) → (Nat → Int32) → (Nat → Int32) → (Nat → Int32) → (Nat → Int32) → (Nat → Int32) → (Nat → Int32) → Prop) : Prop := (wp_X8_isSheet x1 (fun r1 => ((r1 = (0) → (lb_X8_from_16 x1 x2 M_widths M_sizes M_numbers Q M_errors M_now M_aside M_ahead M_meetsFound M_named M_pile M_deedsFound)) ∧ (¬ r1 = (0) → (wp_X8_within x2 (0 : Int32) (1 : Int32) (fun r5 => ((¬ r5 = (0) → (∀ v7 : Int32, v7 = (M_now 1) → (vp_in x1 4 ∧ (((M_widths (x1).toNatClampNeg) = (0) → (lb_X8_from_68 x1 x2 M_widths M_sizes M_numbers Q M_errors M_now M_aside M_ahead M_meetsFound M_named M_pile M_deedsFound)) ∧ (¬ (M_widths (x1).toNatClampNeg) = (0) → (vp_in x1 4 ∧ ((¬ (M_sizes (x1).toNatClampNeg) = (v7 + (1 : Int32)) → (lb_X8_from_68 x1 x2 M_widths M_sizes M_numbers Q M_errors M_now M_aside M_ahead M_meetsFound M_named M_pile M_deedsFound)) ∧ ((M_sizes (x1).toNatClampNeg) = (v7 + (1 : Int32)) → (vp_in (((40 : Int32) * x1) + v7) 160 ∧ (wp_X8_isSoon (M_numbers ((((40 : Int32) * x1) + v7)).toNatClampNeg) (fun r12 => ((¬ r12 = (0) → (∃ n, lb_X8_from_81 x1 x2 M_widths M_sizes M_numbers Q n v7 (0 : Int32) (0 : Int32) M_errors M_now M_aside M_ahead M_meetsFound M_named M_pile M_deedsFound)) ∧ (r12 = (0) → (lb_X8_from_68 x1 x2 M_widths M_sizes M_numbers Q M_errors M_now M_aside M_ahead M_meetsFound M_named M_pile M_deedsFound)))))))))))))) ∧ (r5 = (0) → (lb_X8_from_16 x1 x2 M_widths M_sizes M_numbers Q M_errors M_now M_aside M_ahead M_meetsFound M_named M_pile M_deedsFound)))))))))
set_option maxHeartbeats 4000000 in
set_option maxRecDepth 100000 in
theorem wk_X8_from (l : Launch) (G : Gt) (a_M : Nat) (a_M_now : Nat) (a_M_kept : Nat) (a_M_aside : Nat) (a_M_errors : Nat) (a_M_meetsFound : Nat) (a_M_deedsFound : Nat) (a_M_ahead : Nat) (a_M_NAMED : Nat) (a_M_code : Nat) (a_M_named : Nat) (a_M_pile : Nat) (a_M_often : Nat) (a_M_trace : Nat) (a_M_widths : Nat) (a_M_sizes : Nat) (a_M_numbers : Nat) (a_M_carried : Nat) (sz : Nat) (M_images : Int32) (M_at : Int32) (M_open : Int32) (M_use : Int32) (M_isWrong : Int32) (M_coded : Int32) (M_traced : Int32) (M_kind : Int32) (M_number : Int32) (M_told : Int32) (M_errors : Nat → Int32) (M_now : Nat → Int32) (M_widths : Nat → Int32) (M_sizes : Nat → Int32) (M_numbers : Nat → Int32) (M_aside : Nat → Int32) (M_ahead : Nat → Int32) (M_meetsFound : Nat → Int32) (M_named : Nat → Int32) (M_pile : Nat → Int32) (M_deedsFound : Nat → Int32) (x1 : Int32) (x2 : Int32) (Q : Int32 → (Nat → Int32) → (Nat → Int32) → (Nat → Int32) → (Nat → Int32) → (Nat → Int32) → (Nat → Int32) → (Nat → Int32) → (Nat → Int32) → Prop) (hw : wp_X8_from x1 x2 M_errors M_now M_widths M_sizes M_numbers M_aside M_ahead M_meetsFound M_named M_pile M_deedsFound Q) : Met l yX8_from (wc yX8_from cX8_from 6 (some .int)) rm_X8_from (va_Pc [.ref a_M, .int x1, .int x2] (PB G (cs_X8_from G a_M a_M_now a_M_kept a_M_aside a_M_errors a_M_meetsFound a_M_deedsFound a_M_ahead a_M_NAMED a_M_code a_M_named a_M_pile a_M_often a_M_trace a_M_widths a_M_sizes a_M_numbers a_M_carried M_images M_at M_open M_use M_isWrong M_coded M_traced M_kind M_number M_told M_errors M_now M_widths M_sizes M_numbers M_aside M_ahead M_meetsFound M_named M_pile M_deedsFound) sz)) (qc_X8_from G a_M a_M_now a_M_kept a_M_aside a_M_errors a_M_meetsFound a_M_deedsFound a_M_ahead a_M_NAMED a_M_code a_M_named a_M_pile a_M_often a_M_trace a_M_widths a_M_sizes a_M_numbers a_M_carried M_images M_at M_open M_use M_isWrong M_coded M_traced M_kind M_number M_told M_widths M_sizes M_numbers (va_A (cs_X8_from G a_M a_M_now a_M_kept a_M_aside a_M_errors a_M_meetsFound a_M_deedsFound a_M_ahead a_M_NAMED a_M_code a_M_named a_M_pile a_M_often a_M_trace a_M_widths a_M_sizes a_M_numbers a_M_carried M_images M_at M_open M_use M_isWrong M_coded M_traced M_kind M_number M_told M_errors M_now M_widths M_sizes M_numbers M_aside M_ahead M_meetsFound M_named M_pile M_deedsFound) sz) Q) 0 0 (va_A (cs_X8_from G a_M a_M_now a_M_kept a_M_aside a_M_errors a_M_meetsFound a_M_deedsFound a_M_ahead a_M_NAMED a_M_code a_M_named a_M_pile a_M_often a_M_trace a_M_widths a_M_sizes a_M_numbers a_M_carried M_images M_at M_open M_use M_isWrong M_coded M_traced M_kind M_number M_told M_errors M_now M_widths M_sizes M_numbers M_aside M_ahead M_meetsFound M_named M_pile M_deedsFound) sz) := by
  refine x_start pn_X8 (Nat.le_of_ble_eq_true rfl) (fun p e s m below meth c ls C hn hl hB => ?_)
  have I := iv_start hB
  generalize va_A (cs_X8_from G a_M a_M_now a_M_kept a_M_aside a_M_errors a_M_meetsFound a_M_deedsFound a_M_ahead a_M_NAMED a_M_code a_M_named a_M_pile a_M_often a_M_trace a_M_widths a_M_sizes a_M_numbers a_M_carried M_images M_at M_open M_use M_isWrong M_coded M_traced M_kind M_number M_told M_errors M_now M_widths M_sizes M_numbers M_aside M_ahead M_meetsFound M_named M_pile M_deedsFound) sz = A at I ⊢
  have C : Cx p s m [.ref a_M, .int x1, .int x2].toArray meth c cX8_from 6 RX8 (some .int) := C
  have hl : lv_has ls 6 [(0, .ref a_M), (1, .int x1), (2, .int x2)] := hl
  refine x_iload_n C hl 1 dX8_from_0 rfl ?_
  refine x_ro (run_S (As := [.int x1]) (rest := []) C hl (wk_X8_isSheet l G x1 _ hw) gm_X8_263 ⟨⟨rfl, rfl⟩, cn_X8_isSheet, ⟨(Nat.le_of_ble_eq_true rfl), (Nat.le_of_ble_eq_true rfl)⟩⟩ (pr_blind _ _ _) (pr_of I.1 [] rfl) rfl rfl (Nat.le_of_ble_eq_true rfl) ⟨Nat.le_of_ble_eq_true rfl, Nat.le_of_ble_eq_true rfl⟩ dX8_from_1) (fun r1 hw => ?_)
  refine x_if_eq C 16 dX8_from_4 (by decide) (fun c2 => ?_) (fun c2 => ?_)
  · have hw := And.left hw c2
    exact lk_X8_from_16 G a_M a_M_now a_M_kept a_M_aside a_M_errors a_M_meetsFound a_M_deedsFound a_M_ahead a_M_NAMED a_M_code a_M_named a_M_pile a_M_often a_M_trace a_M_widths a_M_sizes a_M_numbers a_M_carried C x1 x2 M_widths M_sizes M_numbers M_images M_at M_open M_use M_isWrong M_coded M_traced M_kind M_number M_told Q M_errors M_now M_aside M_ahead M_meetsFound M_named M_pile M_deedsFound s.heap [] ls hw I (lv_sub hl [0] rfl)
  · have hw := And.right hw c2
    refine x_iload_n C hl 2 dX8_from_7 rfl ?_
    refine x_iconst C dX8_from_8 ic_0 ?_
    refine x_iconst C dX8_from_9 ic_1 ?_
    refine x_ro (run_S (As := [.int x2, .int (0 : Int32), .int (1 : Int32)]) (rest := []) C hl (wk_X8_within l G x2 (0 : Int32) (1 : Int32) _ hw) gm_X8_82 ⟨⟨rfl, rfl⟩, cn_X8_within, ⟨(Nat.le_of_ble_eq_true rfl), (Nat.le_of_ble_eq_true rfl)⟩⟩ (pr_blind _ _ _) (pr_of I.1 [] rfl) rfl rfl (Nat.le_of_ble_eq_true rfl) ⟨Nat.le_of_ble_eq_true rfl, Nat.le_of_ble_eq_true rfl⟩ dX8_from_10) (fun r5 hw => ?_)
    refine x_if_ne C 23 dX8_from_13 (by decide) (fun c6 => ?_) (fun c6 => ?_)
    · have hw := And.left hw c6
      refine x_aload_n C hl 0 dX8_from_23 rfl ?_
      refine x_get C I.1 fl_X8_9 0 rfl rfl dX8_from_24 ?_
      refine x_iconst C dX8_from_27 ic_1 ?_
      refine x_ialdL C I.1 2 1 rfl vi_1_228 vl_1 dX8_from_28 ?_
      refine lv_topi (fun v7 ev7 => ?_)
      have hw := hw v7 ev7
      refine x_istore_n C hl [(3, .int v7), (0, .ref a_M), (1, .int x1), (2, .int x2)] dX8_from_29 (Nat.le_of_ble_eq_true rfl) rfl (fun ls hl => ?_)
      refine x_aload_n C hl 1 dX8_from_30 rfl ?_
      refine x_get C I.1 fl_X8_56 0 rfl rfl dX8_from_31 ?_
      refine x_iload_n C hl 2 dX8_from_34 rfl ?_
      refine x_iald C I.1 3 rfl (And.left hw) dX8_from_35 ?_
      have hw := And.right hw
      refine x_if_eq C 68 dX8_from_36 (by decide) (fun c8 => ?_) (fun c8 => ?_)
      · have hw := And.left hw c8
        exact lk_X8_from_68 G a_M a_M_now a_M_kept a_M_aside a_M_errors a_M_meetsFound a_M_deedsFound a_M_ahead a_M_NAMED a_M_code a_M_named a_M_pile a_M_often a_M_trace a_M_widths a_M_sizes a_M_numbers a_M_carried C x1 x2 M_widths M_sizes M_numbers M_images M_at M_open M_use M_isWrong M_coded M_traced M_kind M_number M_told Q M_errors M_now M_aside M_ahead M_meetsFound M_named M_pile M_deedsFound s.heap [] ls hw I (lv_sub hl [1] rfl)
      · have hw := And.right hw c8
        refine x_aload_n C hl 1 dX8_from_39 rfl ?_
        refine x_get C I.1 fl_X8_59 0 rfl rfl dX8_from_40 ?_
        refine x_iload_n C hl 2 dX8_from_43 rfl ?_
        refine x_iald C I.1 4 rfl (And.left hw) dX8_from_44 ?_
        have hw := And.right hw
        refine x_iload_n C hl 0 dX8_from_45 rfl ?_
        refine x_iconst C dX8_from_46 ic_1 ?_
        refine x_iadd C dX8_from_47 ?_
        refine x_icmp_ne C 68 dX8_from_48 (by decide) (fun c11 => ?_) (fun c11 => ?_)
        · have hw := And.left hw c11
          exact lk_X8_from_68 G a_M a_M_now a_M_kept a_M_aside a_M_errors a_M_meetsFound a_M_deedsFound a_M_ahead a_M_NAMED a_M_code a_M_named a_M_pile a_M_often a_M_trace a_M_widths a_M_sizes a_M_numbers a_M_carried C x1 x2 M_widths M_sizes M_numbers M_images M_at M_open M_use M_isWrong M_coded M_traced M_kind M_number M_told Q M_errors M_now M_aside M_ahead M_meetsFound M_named M_pile M_deedsFound s.heap [] ls hw I (lv_sub hl [1] rfl)
        · have hw := And.right hw c11
          refine x_aload_n C hl 1 dX8_from_51 rfl ?_
          refine x_get C I.1 fl_X8_62 0 rfl rfl dX8_from_52 ?_
          refine x_bipush C dX8_from_55 bp_40 ?_
          refine x_iload_n C hl 2 dX8_from_57 rfl ?_
          refine x_imul C dX8_from_58 ?_
          refine x_iload_n C hl 0 dX8_from_59 rfl ?_
          refine x_iadd C dX8_from_60 ?_
          refine x_iald C I.1 5 rfl (And.left hw) dX8_from_61 ?_
          have hw := And.right hw
          refine x_ro (run_S (As := [.int (M_numbers ((((40 : Int32) * x1) + v7)).toNatClampNeg)]) (rest := []) C hl (wk_X8_isSoon l G (M_numbers ((((40 : Int32) * x1) + v7)).toNatClampNeg) _ hw) gm_X8_257 ⟨⟨rfl, rfl⟩, cn_X8_isSoon, ⟨(Nat.le_of_ble_eq_true rfl), (Nat.le_of_ble_eq_true rfl)⟩⟩ (pr_blind _ _ _) (pr_of I.1 [] rfl) rfl rfl (Nat.le_of_ble_eq_true rfl) ⟨Nat.le_of_ble_eq_true rfl, Nat.le_of_ble_eq_true rfl⟩ dX8_from_62) (fun r12 hw => ?_)
          refine x_if_ne C 75 dX8_from_65 (by decide) (fun c13 => ?_) (fun c13 => ?_)
          · have hw := And.left hw c13
            refine x_iconst C dX8_from_75 ic_0 ?_
            refine x_istore C hl [(4, .int (0 : Int32)), (3, .int v7), (0, .ref a_M), (1, .int x1), (2, .int x2)] dX8_from_76 (Nat.le_of_ble_eq_true rfl) rfl (fun ls hl => ?_)
            refine x_iconst C dX8_from_78 ic_0 ?_
            refine x_istore C hl [(5, .int (0 : Int32)), (4, .int (0 : Int32)), (3, .int v7), (0, .ref a_M), (1, .int x1), (2, .int x2)] dX8_from_79 (Nat.le_of_ble_eq_true rfl) rfl (fun ls hl => ?_)
            obtain ⟨n, hw⟩ := hw
            exact lk_X8_from_81 G a_M a_M_now a_M_kept a_M_aside a_M_errors a_M_meetsFound a_M_deedsFound a_M_ahead a_M_NAMED a_M_code a_M_named a_M_pile a_M_often a_M_trace a_M_widths a_M_sizes a_M_numbers a_M_carried C x1 x2 M_widths M_sizes M_numbers M_images M_at M_open M_use M_isWrong M_coded M_traced M_kind M_number M_told Q n v7 (0 : Int32) (0 : Int32) M_errors M_now M_aside M_ahead M_meetsFound M_named M_pile M_deedsFound s.heap [] ls hw I (lv_sub hl [3, 4, 5, 2, 1, 0] rfl)
          · have hw := And.right hw c13
            exact lk_X8_from_68 G a_M a_M_now a_M_kept a_M_aside a_M_errors a_M_meetsFound a_M_deedsFound a_M_ahead a_M_NAMED a_M_code a_M_named a_M_pile a_M_often a_M_trace a_M_widths a_M_sizes a_M_numbers a_M_carried C x1 x2 M_widths M_sizes M_numbers M_images M_at M_open M_use M_isWrong M_coded M_traced M_kind M_number M_told Q M_errors M_now M_aside M_ahead M_meetsFound M_named M_pile M_deedsFound s.heap [] ls hw I (lv_sub hl [1] rfl)
    · have hw := And.right hw c6
      exact lk_X8_from_16 G a_M a_M_now a_M_kept a_M_aside a_M_errors a_M_meetsFound a_M_deedsFound a_M_ahead a_M_NAMED a_M_code a_M_named a_M_pile a_M_often a_M_trace a_M_widths a_M_sizes a_M_numbers a_M_carried C x1 x2 M_widths M_sizes M_numbers M_images M_at M_open M_use M_isWrong M_coded M_traced M_kind M_number M_told Q M_errors M_now M_aside M_ahead M_meetsFound M_named M_pile M_deedsFound s.heap [] ls hw I (lv_sub hl [0] rfl)
