/-! X1_readName -/
abbrev rm_X1_readName : Room := { frames := 1, cells := 0, slots := 0, locals := 22 }
abbrev cs_X1_readName (G : Gt) (a_D : Nat) (a_D_rule : Nat) (a_D_bytes : Nat) (a_D_rule_signs : Nat) (a_D_rule_numbers : Nat) (a_D_rule_pile : Nat) (D_firstName : Int32) (D_place : Int32) (D_rule_size : Int32) (D_rule_signs : Nat → Int32) (D_rule_numbers : Nat → Int32) : va_W := [(a_D, .inr (1, [.ref a_D_rule, .ref a_D_bytes, .int D_firstName, .int D_place])), (a_D_rule, .inr (3, [.ref a_D_rule_signs, .ref a_D_rule_numbers, .ref a_D_rule_pile, .int D_rule_size])), (a_D_rule_signs, .inl (cI G, 50, .inl D_rule_signs)), (a_D_rule_numbers, .inl (cI G, 50, .inl D_rule_numbers))]
abbrev qc_X1_readName (G : Gt) (a_D : Nat) (a_D_rule : Nat) (a_D_bytes : Nat) (a_D_rule_signs : Nat) (a_D_rule_numbers : Nat) (a_D_rule_pile : Nat) (D_firstName : Int32) (A : Nat → Prop) (Q : Int32 → Int32 → Int32 → (Nat → Int32) → (Nat → Int32) → Prop) : Array Value → State → Outcome → State → Prop := Qi1 G A (fun r (u : Int32 × Int32 × (Nat → Int32) × (Nat → Int32)) => Q r u.1 u.2.1 u.2.2.1 u.2.2.2) (fun u => cs_X1_readName G a_D a_D_rule a_D_bytes a_D_rule_signs a_D_rule_numbers a_D_rule_pile D_firstName u.1 u.2.1 u.2.2.1 u.2.2.2)
def lb_X1_readName_2 (x1 : Int32) (D_firstName : Int32) (Q : Int32 → Int32 → Int32 → (Nat → Int32) → (Nat → Int32) → Prop) : Nat → Int32 → Int32 → Int32 → (Nat → Int32) → (Nat → Int32) → Prop
  | 0 => fun _ _ _ _ _ => False
  | k + 1 => fun (y2 : Int32) (w_D_place : Int32) (w_D_rule_size : Int32) (w_D_rule_signs : Nat → Int32) (w_D_rule_numbers : Nat → Int32) => (((3 : Int32) ≤ y2 → (Q (0 : Int32) w_D_place w_D_rule_size w_D_rule_signs w_D_rule_numbers)) ∧ (¬ (3 : Int32) ≤ y2 → (vp_in (D_firstName + y2) 6 ∧ ((¬ x1 = (kN ((D_firstName + y2)).toNatClampNeg) → (lb_X1_readName_2 x1 D_firstName Q k (y2 + (1 : Int32)) w_D_place w_D_rule_size w_D_rule_signs w_D_rule_numbers)) ∧ (x1 = (kN ((D_firstName + y2)).toNatClampNeg) → (∀ v3 : Int32, v3 = (w_D_place + (1 : Int32)) → (wp_X3_add ((1 : Int32) + y2) (0 : Int32) w_D_rule_size w_D_rule_signs w_D_rule_numbers (fun o4 o5 o6 => (Q (1 : Int32) v3 o4 o5 o6)))))))))
set_option maxHeartbeats 4000000 in
set_option maxRecDepth 100000 in
theorem lk_X1_readName_2 {p : Program} {l : Launch} {e : Env} {s : State} {m : MethodId} {args : Array Value} {below : List Frame} {meth : Method} {c : Code} {A : Nat → Prop} (G : Gt) (a_D : Nat) (a_D_rule : Nat) (a_D_bytes : Nat) (a_D_rule_signs : Nat) (a_D_rule_numbers : Nat) (a_D_rule_pile : Nat) (C : Cx p s m args meth c cX1_readName 3 RX1 (some .boolean)) (x1 : Int32) (D_firstName : Int32) (Q : Int32 → Int32 → Int32 → (Nat → Int32) → (Nat → Int32) → Prop) : ∀ (n : Nat) (y2 : Int32) (w_D_place : Int32) (w_D_rule_size : Int32) (w_D_rule_signs : Nat → Int32) (w_D_rule_numbers : Nat → Int32) (Hx : Heap) (lx : List Loc) (ls : Array Slot), lb_X1_readName_2 x1 D_firstName Q n y2 w_D_place w_D_rule_size w_D_rule_signs w_D_rule_numbers → Iv G A s (cs_X1_readName G a_D a_D_rule a_D_bytes a_D_rule_signs a_D_rule_numbers a_D_rule_pile D_firstName w_D_place w_D_rule_size w_D_rule_signs w_D_rule_numbers) Hx lx → lv_has ls 3 [(0, .ref a_D), (1, .int x1), (2, .int y2)] → W p l e rm_X1_readName s m args below meth c Hx lx 0 0 (MQ below (qc_X1_readName G a_D a_D_rule a_D_bytes a_D_rule_signs a_D_rule_numbers a_D_rule_pile D_firstName A Q) args s 0 0 A) (F0 m 2 ls []) := by
  intro n
  induction n with
  | zero => intro y2 w_D_place w_D_rule_size w_D_rule_signs w_D_rule_numbers Hx lx  ls hw I hl; exact False.elim hw
  | succ k ih =>
    intro y2 w_D_place w_D_rule_size w_D_rule_signs w_D_rule_numbers Hx lx  ls hw I hl
    refine x_iload_n C hl 2 dX1_readName_2 rfl ?_
    refine x_iconst C dX1_readName_3 ic_3 ?_
    refine x_icmp_ge C 50 dX1_readName_4 (by decide) (fun c1 => ?_) (fun c1 => ?_)
    · have hw := And.left hw c1
      refine x_iconst C dX1_readName_50 ic_0 ?_
      exact x_ret1z C I (w_D_place, w_D_rule_size, w_D_rule_signs, w_D_rule_numbers) bz_0 rfl hw dX1_readName_51
    · have hw := And.right hw c1
      refine x_iload_n C hl 1 dX1_readName_7 rfl ?_
      refine x_getsN C I.1 wd_538 dX1_readName_8 ?_
      refine x_aload_n C hl 0 dX1_readName_11 rfl ?_
      refine x_get C I.1 fl_X1_27 0 rfl rfl dX1_readName_12 ?_
      refine x_iload_n C hl 2 dX1_readName_15 rfl ?_
      refine x_iadd C dX1_readName_16 ?_
      refine x_ldN C I.1 (And.left hw) dX1_readName_17 ?_
      have hw := And.right hw
      refine x_icmp_ne C 44 dX1_readName_18 (by decide) (fun c2 => ?_) (fun c2 => ?_)
      · have hw := And.left hw c2
        refine x_iinc C hl 2 [(2, .int (y2 + (1 : Int32))), (0, .ref a_D), (1, .int x1)] (y2 + (1 : Int32)) dX1_readName_44 rfl (congrArg _ ic_1) (Nat.le_of_ble_eq_true rfl) rfl (fun ls hl => ?_)
        refine x_goto C 2 dX1_readName_47 (by decide) ?_
        exact ih (y2 + (1 : Int32)) w_D_place w_D_rule_size w_D_rule_signs w_D_rule_numbers Hx lx ls hw I (lv_sub hl [1, 2, 0] rfl)
      · have hw := And.right hw c2
        refine x_aload_n C hl 0 dX1_readName_21 rfl ?_
        refine x_dup C dX1_readName_22 rfl ?_
        refine x_get C I.1 fl_X1_31 0 rfl rfl dX1_readName_23 ?_
        refine x_iconst C dX1_readName_26 ic_1 ?_
        refine x_iadd C dX1_readName_27 ?_
        refine lv_topi (fun v3 ev3 => ?_)
        have hw := hw v3 ev3
        refine x_put C I fl_X1_31 tyX1 tyX1_ok nmX1 rfl 0 (cs_X1_readName G a_D a_D_rule a_D_bytes a_D_rule_signs a_D_rule_numbers a_D_rule_pile D_firstName v3 w_D_rule_size w_D_rule_signs w_D_rule_numbers) rfl rfl rfl (Nat.le_of_ble_eq_true rfl) rfl dX1_readName_28 (fun Hx lx I => ?_)
        refine x_aload_n C hl 0 dX1_readName_31 rfl ?_
        refine x_get C I.1 fl_X1_12 0 rfl rfl dX1_readName_32 ?_
        refine x_iconst C dX1_readName_35 ic_1 ?_
        refine x_iload_n C hl 2 dX1_readName_36 rfl ?_
        refine x_iadd C dX1_readName_37 ?_
        refine x_iconst C dX1_readName_38 ic_0 ?_
        refine x_muv (wk := cs_X3_add G a_D_rule a_D_rule_signs a_D_rule_numbers a_D_rule_pile w_D_rule_size w_D_rule_signs w_D_rule_numbers) (wr := [(a_D, .inr (1, [.ref a_D_rule, .ref a_D_bytes, .int D_firstName, .int v3]))]) (isC := [1, 2, 3]) (isR := [0]) I ⟨⟨rfl, rfl⟩, rfl, rfl, rfl⟩ [0, 1, 2, 3] (fun u => cs_X1_readName G a_D a_D_rule a_D_bytes a_D_rule_signs a_D_rule_numbers a_D_rule_pile D_firstName v3 u.1 u.2.1 u.2.2) (fun _ => rfl) rfl (run_V (As := [.int ((1 : Int32) + y2), .int (0 : Int32)]) (rest := []) C hl (wk_X3_add l G a_D_rule a_D_rule_signs a_D_rule_numbers a_D_rule_pile Hx.size w_D_rule_size w_D_rule_signs w_D_rule_numbers ((1 : Int32) + y2) (0 : Int32) _ hw) gm_X1_59 ⟨⟨rfl, rfl⟩, cn_X3_add, ⟨(Nat.le_of_ble_eq_true rfl), (Nat.le_of_ble_eq_true rfl)⟩⟩ (pb_blind _ _ _ _) (x_recv I.1 1 rfl rfl) (pb_of I [1, 2, 3] rfl rfl) rfl rfl (Nat.le_of_ble_eq_true rfl) ⟨Nat.le_of_ble_eq_true rfl, Nat.le_of_ble_eq_true rfl⟩ dX1_readName_39) (fun u Hx lx hw I => ?_)
        obtain ⟨o4, o5, o6⟩ := u
        have I : Iv G A s (cs_X1_readName G a_D a_D_rule a_D_bytes a_D_rule_signs a_D_rule_numbers a_D_rule_pile D_firstName v3 o4 o5 o6) Hx lx := I
        refine x_iconst C dX1_readName_42 ic_1 ?_
        exact x_ret1z C I (v3, o4, o5, o6) bz_1 rfl hw dX1_readName_43
def wp_X1_readName (x1 : Int32) (D_firstName : Int32) (D_place : Int32) (D_rule_size : Int32) (D_rule_signs : Nat → Int32) (D_rule_numbers : Nat → Int32) (Q : Int32 → Int32 → Int32 → (Nat → Int32) → (Nat → Int32) → Prop) : Prop := (∃ n, lb_X1_readName_2 x1 D_firstName Q n (0 : Int32) D_place D_rule_size D_rule_signs D_rule_numbers)
set_option maxHeartbeats 4000000 in
set_option maxRecDepth 100000 in
theorem wk_X1_readName (l : Launch) (G : Gt) (a_D : Nat) (a_D_rule : Nat) (a_D_bytes : Nat) (a_D_rule_signs : Nat) (a_D_rule_numbers : Nat) (a_D_rule_pile : Nat) (sz : Nat) (D_firstName : Int32) (D_place : Int32) (D_rule_size : Int32) (D_rule_signs : Nat → Int32) (D_rule_numbers : Nat → Int32) (x1 : Int32) (Q : Int32 → Int32 → Int32 → (Nat → Int32) → (Nat → Int32) → Prop) (hw : wp_X1_readName x1 D_firstName D_place D_rule_size D_rule_signs D_rule_numbers Q) : Met l yX1_readName (wc yX1_readName cX1_readName 3 (some .boolean)) rm_X1_readName (va_Pc [.ref a_D, .int x1] (PB G (cs_X1_readName G a_D a_D_rule a_D_bytes a_D_rule_signs a_D_rule_numbers a_D_rule_pile D_firstName D_place D_rule_size D_rule_signs D_rule_numbers) sz)) (qc_X1_readName G a_D a_D_rule a_D_bytes a_D_rule_signs a_D_rule_numbers a_D_rule_pile D_firstName (va_A (cs_X1_readName G a_D a_D_rule a_D_bytes a_D_rule_signs a_D_rule_numbers a_D_rule_pile D_firstName D_place D_rule_size D_rule_signs D_rule_numbers) sz) Q) 0 0 (va_A (cs_X1_readName G a_D a_D_rule a_D_bytes a_D_rule_signs a_D_rule_numbers a_D_rule_pile D_firstName D_place D_rule_size D_rule_signs D_rule_numbers) sz) := by
  refine x_start pn_X1 (Nat.le_of_ble_eq_true rfl) (fun p e s m below meth c ls C hn hl hB => ?_)
  have I := iv_start hB
  generalize va_A (cs_X1_readName G a_D a_D_rule a_D_bytes a_D_rule_signs a_D_rule_numbers a_D_rule_pile D_firstName D_place D_rule_size D_rule_signs D_rule_numbers) sz = A at I ⊢
  have C : Cx p s m [.ref a_D, .int x1].toArray meth c cX1_readName 3 RX1 (some .boolean) := C
  have hl : lv_has ls 3 [(0, .ref a_D), (1, .int x1)] := hl
  refine x_iconst C dX1_readName_0 ic_0 ?_
  refine x_istore_n C hl [(2, .int (0 : Int32)), (0, .ref a_D), (1, .int x1)] dX1_readName_1 (Nat.le_of_ble_eq_true rfl) rfl (fun ls hl => ?_)
  obtain ⟨n, hw⟩ := hw
  exact lk_X1_readName_2 G a_D a_D_rule a_D_bytes a_D_rule_signs a_D_rule_numbers a_D_rule_pile C x1 D_firstName  Q n (0 : Int32) D_place D_rule_size D_rule_signs D_rule_numbers s.heap [] ls hw I (lv_sub hl [1, 2, 0] rfl)
/-! X2_lay -/
abbrev rm_X2_lay : Room := { frames := 2, cells := 0, slots := 0, locals := 43 }
abbrev cs_X2_lay (G : Gt) (a_W : Nat) (a_W_numbers : Nat) (W_bits : Int32) (W_size : Int32) (W_numbers : Nat → Int32) : va_W := [(a_W, .inr (2, [.ref a_W_numbers, .int W_bits, .int W_size])), (a_W_numbers, .inl (cI G, 40, .inl W_numbers))]
abbrev qc_X2_lay (G : Gt) (a_W : Nat) (a_W_numbers : Nat) (A : Nat → Prop) (Q : Int32 → Int32 → (Nat → Int32) → Prop) : Array Value → State → Outcome → State → Prop := Qv1 G A (fun (u : Int32 × Int32 × (Nat → Int32)) => Q u.1 u.2.1 u.2.2) (fun u => cs_X2_lay G a_W a_W_numbers u.1 u.2.1 u.2.2)
def lb_X2_lay_18 (x1 : Int32) (x2 : Int32) (Q : Int32 → Int32 → (Nat → Int32) → Prop) : Nat → Int32 → Int32 → Int32 → (Nat → Int32) → Prop
  | 0 => fun _ _ _ _ => False
  | k + 1 => fun (y3 : Int32) (w_W_bits : Int32) (w_W_size : Int32) (w_W_numbers : Nat → Int32) => ((w_W_size ≤ y3 → (Q w_W_bits w_W_size w_W_numbers)) ∧ (¬ w_W_size ≤ y3 → (vp_in y3 40 ∧ (lb_X2_lay_18 x1 x2 Q k (y3 + (1 : Int32)) w_W_bits w_W_size (upd w_W_numbers (y3).toNatClampNeg (0 : Int32))))))
set_option maxHeartbeats 4000000 in
set_option maxRecDepth 100000 in
theorem lk_X2_lay_18 {p : Program} {l : Launch} {e : Env} {s : State} {m : MethodId} {args : Array Value} {below : List Frame} {meth : Method} {c : Code} {A : Nat → Prop} (G : Gt) (a_W : Nat) (a_W_numbers : Nat) (C : Cx p s m args meth c cX2_lay 4 RX2 none) (x1 : Int32) (x2 : Int32) (Q : Int32 → Int32 → (Nat → Int32) → Prop) : ∀ (n : Nat) (y3 : Int32) (w_W_bits : Int32) (w_W_size : Int32) (w_W_numbers : Nat → Int32) (Hx : Heap) (lx : List Loc) (ls : Array Slot), lb_X2_lay_18 x1 x2 Q n y3 w_W_bits w_W_size w_W_numbers → Iv G A s (cs_X2_lay G a_W a_W_numbers w_W_bits w_W_size w_W_numbers) Hx lx → lv_has ls 4 [(0, .ref a_W), (3, .int y3)] → W p l e rm_X2_lay s m args below meth c Hx lx 0 0 (MQ below (qc_X2_lay G a_W a_W_numbers A Q) args s 0 0 A) (F0 m 18 ls []) := by
  intro n
  induction n with
  | zero => intro y3 w_W_bits w_W_size w_W_numbers Hx lx  ls hw I hl; exact False.elim hw
  | succ k ih =>
    intro y3 w_W_bits w_W_size w_W_numbers Hx lx  ls hw I hl
    refine x_iload_n C hl 1 dX2_lay_18 rfl ?_
    refine x_aload_n C hl 0 dX2_lay_19 rfl ?_
    refine x_get C I.1 fl_X2_19 0 rfl rfl dX2_lay_20 ?_
    refine x_icmp_ge C 39 dX2_lay_23 (by decide) (fun c2 => ?_) (fun c2 => ?_)
    · have hw := And.left hw c2
      exact x_retv C I (w_W_bits, w_W_size, w_W_numbers) rfl hw dX2_lay_39
    · have hw := And.right hw c2
      refine x_aload_n C hl 0 dX2_lay_26 rfl ?_
      refine x_get C I.1 fl_X2_9 0 rfl rfl dX2_lay_27 ?_
      refine x_iload_n C hl 1 dX2_lay_30 rfl ?_
      refine x_iconst C dX2_lay_31 ic_0 ?_
      refine x_iast C I 1 (cs_X2_lay G a_W a_W_numbers w_W_bits w_W_size (upd w_W_numbers (y3).toNatClampNeg (0 : Int32))) rfl (And.left hw) rfl dX2_lay_32 (fun Hx lx I => ?_)
      have hw := And.right hw
      refine x_iinc C hl 1 [(3, .int (y3 + (1 : Int32))), (0, .ref a_W)] (y3 + (1 : Int32)) dX2_lay_33 rfl (congrArg _ ic_1) (Nat.le_of_ble_eq_true rfl) rfl (fun ls hl => ?_)
      refine x_goto C 18 dX2_lay_36 (by decide) ?_
      exact ih (y3 + (1 : Int32)) w_W_bits w_W_size (upd w_W_numbers (y3).toNatClampNeg (0 : Int32)) Hx lx ls hw I (lv_sub hl [1, 0] rfl)
def wp_X2_lay (x1 : Int32) (x2 : Int32) (W_bits : Int32) (W_size : Int32) (W_numbers : Nat → Int32) (Q : Int32 → Int32 → (Nat → Int32) → Prop) : Prop := (wp_X7_held x2 (0 : Int32) (40 : Int32) (fun r1 => (∃ n, lb_X2_lay_18 x1 x2 Q n (0 : Int32) x1 r1 W_numbers)))
set_option maxHeartbeats 4000000 in
set_option maxRecDepth 100000 in
theorem wk_X2_lay (l : Launch) (G : Gt) (a_W : Nat) (a_W_numbers : Nat) (sz : Nat) (W_bits : Int32) (W_size : Int32) (W_numbers : Nat → Int32) (x1 : Int32) (x2 : Int32) (Q : Int32 → Int32 → (Nat → Int32) → Prop) (hw : wp_X2_lay x1 x2 W_bits W_size W_numbers Q) : Met l yX2_lay (wc yX2_lay cX2_lay 4 none) rm_X2_lay (va_Pc [.ref a_W, .int x1, .int x2] (PB G (cs_X2_lay G a_W a_W_numbers W_bits W_size W_numbers) sz)) (qc_X2_lay G a_W a_W_numbers (va_A (cs_X2_lay G a_W a_W_numbers W_bits W_size W_numbers) sz) Q) 0 0 (va_A (cs_X2_lay G a_W a_W_numbers W_bits W_size W_numbers) sz) := by
  refine x_start pn_X2 (Nat.le_of_ble_eq_true rfl) (fun p e s m below meth c ls C hn hl hB => ?_)
  have I := iv_start hB
  generalize va_A (cs_X2_lay G a_W a_W_numbers W_bits W_size W_numbers) sz = A at I ⊢
  have C : Cx p s m [.ref a_W, .int x1, .int x2].toArray meth c cX2_lay 4 RX2 none := C
  have hl : lv_has ls 4 [(0, .ref a_W), (1, .int x1), (2, .int x2)] := hl
  refine x_aload_n C hl 0 dX2_lay_0 rfl ?_
  refine x_iload_n C hl 1 dX2_lay_1 rfl ?_
  refine x_put C I fl_X2_15 tyX2 tyX2_ok nmX2 rfl 0 (cs_X2_lay G a_W a_W_numbers x1 W_size W_numbers) rfl rfl rfl (Nat.le_of_ble_eq_true rfl) rfl dX2_lay_2 (fun Hx lx I => ?_)
  refine x_aload_n C hl 0 dX2_lay_5 rfl ?_
  refine x_iload_n C hl 2 dX2_lay_6 rfl ?_
  refine x_iconst C dX2_lay_7 ic_0 ?_
  refine x_bipush C dX2_lay_8 bp_40 ?_
  refine x_ro (run_SN (As := [.int x2, .int (0 : Int32), .int (40 : Int32)]) (rest := [.ref a_W]) C hl (wk_X7_held l G x2 (0 : Int32) (40 : Int32) _ hw) gc_X7_held I.1.2.2.2.2.2.2.2.2.2 wd_75 wd_371 ⟨⟨rfl, rfl⟩, cn_X7_held, ⟨(Nat.le_of_ble_eq_true rfl), (Nat.le_of_ble_eq_true rfl)⟩⟩ (pr_blind _ _ _) (pr_of I.1 [] rfl) rfl rfl (Nat.le_of_ble_eq_true rfl) ⟨Nat.le_of_ble_eq_true rfl, Nat.le_of_ble_eq_true rfl⟩ dX2_lay_10) (fun r1 hw => ?_)
  refine x_put C I fl_X2_19 tyX2 tyX2_ok nmX2 rfl 0 (cs_X2_lay G a_W a_W_numbers x1 r1 W_numbers) rfl rfl rfl (Nat.le_of_ble_eq_true rfl) rfl dX2_lay_13 (fun Hx lx I => ?_)
  refine x_iconst C dX2_lay_16 ic_0 ?_
  refine x_istore_n C hl [(3, .int (0 : Int32)), (0, .ref a_W), (1, .int x1), (2, .int x2)] dX2_lay_17 (Nat.le_of_ble_eq_true rfl) rfl (fun ls hl => ?_)
  obtain ⟨n, hw⟩ := hw
  exact lk_X2_lay_18 G a_W a_W_numbers C x1 x2  Q n (0 : Int32) x1 r1 W_numbers Hx lx ls hw I (lv_sub hl [1, 0] rfl)
/-! X3_gives -/
abbrev rm_X3_gives : Room := { frames := 1, cells := 0, slots := 0, locals := 24 }
abbrev cs_X3_gives (G : Gt) (a_U : Nat) (a_U_signs : Nat) (a_U_numbers : Nat) (a_U_pile : Nat) (U_size : Int32) (U_signs : Nat → Int32) (U_numbers : Nat → Int32) (U_pile : Nat → Int32) : va_W := [(a_U, .inr (3, [.ref a_U_signs, .ref a_U_numbers, .ref a_U_pile, .int U_size])), (a_U_signs, .inl (cI G, 50, .inl U_signs)), (a_U_numbers, .inl (cI G, 50, .inl U_numbers)), (a_U_pile, .inl (cI G, 50, .inl U_pile))]
abbrev qc_X3_gives (G : Gt) (a_U : Nat) (a_U_signs : Nat) (a_U_numbers : Nat) (a_U_pile : Nat) (U_size : Int32) (U_signs : Nat → Int32) (U_numbers : Nat → Int32) (A : Nat → Prop) (Q : Int32 → (Nat → Int32) → Prop) : Array Value → State → Outcome → State → Prop := Qi1 G A (fun r (u : (Nat → Int32)) => Q r u) (fun u => cs_X3_gives G a_U a_U_signs a_U_numbers a_U_pile U_size U_signs U_numbers u)
def lb_X3_gives_6 (x1 : Int32) (x2 : Int32) (x3 : Int32) (U_size : Int32) (U_signs : Nat → Int32) (U_numbers : Nat → Int32) (Q : Int32 → (Nat → Int32) → Prop) : Nat → Int32 → Int32 → (Nat → Int32) → Prop
  | 0 => fun _ _ _ => False
  | k + 1 => fun (y4 : Int32) (y5 : Int32) (w_U_pile : Nat → Int32) => ((U_size ≤ y5 → ((y4 < (1 : Int32) → (Q (0 : Int32) w_U_pile)) ∧ (¬ y4 < (1 : Int32) → (Q (w_U_pile 0) w_U_pile)))) ∧ (¬ U_size ≤ y5 → (vp_in y5 50 ∧ (∀ v3 : Int32, v3 = (U_signs (y5).toNatClampNeg) → (((3 : Int32) < v3 → ((¬ v3 = (33 : Int32) → ((y4 < (2 : Int32) → (lb_X3_gives_6 x1 x2 x3 U_size U_signs U_numbers Q k y4 (y5 + (1 : Int32)) w_U_pile)) ∧ (¬ y4 < (2 : Int32) → (vp_in (y4 - (2 : Int32)) 50 ∧ (vp_in (y4 - (1 : Int32)) 50 ∧ (wp_X3_joined v3 (w_U_pile ((y4 - (2 : Int32))).toNatClampNeg) (w_U_pile ((y4 - (1 : Int32))).toNatClampNeg) (fun r7 => (vp_in (y4 - (2 : Int32)) 50 ∧ (lb_X3_gives_6 x1 x2 x3 U_size U_signs U_numbers Q k (y4 + (-1 : Int32)) (y5 + (1 : Int32)) (upd w_U_pile ((y4 - (2 : Int32))).toNatClampNeg r7)))))))))) ∧ (v3 = (33 : Int32) → ((y4 < (1 : Int32) → (lb_X3_gives_6 x1 x2 x3 U_size U_signs U_numbers Q k y4 (y5 + (1 : Int32)) w_U_pile)) ∧ (¬ y4 < (1 : Int32) → (vp_in (y4 - (1 : Int32)) 50 ∧ ((¬ (w_U_pile ((y4 - (1 : Int32))).toNatClampNeg) = (0) → (vp_in (y4 - (1 : Int32)) 50 ∧ (lb_X3_gives_6 x1 x2 x3 U_size U_signs U_numbers Q k y4 (y5 + (1 : Int32)) (upd w_U_pile ((y4 - (1 : Int32))).toNatClampNeg (0 : Int32))))) ∧ ((w_U_pile ((y4 - (1 : Int32))).toNatClampNeg) = (0) → (vp_in (y4 - (1 : Int32)) 50 ∧ (lb_X3_gives_6 x1 x2 x3 U_size U_signs U_numbers Q k y4 (y5 + (1 : Int32)) (upd w_U_pile ((y4 - (1 : Int32))).toNatClampNeg (1 : Int32)))))))))))) ∧ (¬ (3 : Int32) < v3 → (((50 : Int32) ≤ y4 → (lb_X3_gives_6 x1 x2 x3 U_size U_signs U_numbers Q k y4 (y5 + (1 : Int32)) w_U_pile)) ∧ (¬ (50 : Int32) ≤ y4 → (vp_in y5 50 ∧ (wp_X3_single v3 (U_numbers (y5).toNatClampNeg) x1 x2 x3 (fun r11 => (vp_in y4 50 ∧ (lb_X3_gives_6 x1 x2 x3 U_size U_signs U_numbers Q k (y4 + (1 : Int32)) (y5 + (1 : Int32)) (upd w_U_pile (y4).toNatClampNeg r11))))))))))))))
set_option maxHeartbeats 4000000 in
set_option maxRecDepth 100000 in
theorem lk_X3_gives_6 {p : Program} {l : Launch} {e : Env} {s : State} {m : MethodId} {args : Array Value} {below : List Frame} {meth : Method} {c : Code} {A : Nat → Prop} (G : Gt) (a_U : Nat) (a_U_signs : Nat) (a_U_numbers : Nat) (a_U_pile : Nat) (C : Cx p s m args meth c cX3_gives 7 RX3 (some .int)) (x1 : Int32) (x2 : Int32) (x3 : Int32) (U_size : Int32) (U_signs : Nat → Int32) (U_numbers : Nat → Int32) (Q : Int32 → (Nat → Int32) → Prop) : ∀ (n : Nat) (y4 : Int32) (y5 : Int32) (w_U_pile : Nat → Int32) (Hx : Heap) (lx : List Loc) (ls : Array Slot), lb_X3_gives_6 x1 x2 x3 U_size U_signs U_numbers Q n y4 y5 w_U_pile → Iv G A s (cs_X3_gives G a_U a_U_signs a_U_numbers a_U_pile U_size U_signs U_numbers w_U_pile) Hx lx → lv_has ls 7 [(0, .ref a_U), (1, .int x1), (2, .int x2), (3, .int x3), (4, .int y4), (5, .int y5)] → W p l e rm_X3_gives s m args below meth c Hx lx 0 0 (MQ below (qc_X3_gives G a_U a_U_signs a_U_numbers a_U_pile U_size U_signs U_numbers A Q) args s 0 0 A) (F0 m 6 ls []) := by
  intro n
  induction n with
  | zero => intro y4 y5 w_U_pile Hx lx  ls hw I hl; exact False.elim hw
  | succ k ih =>
    intro y4 y5 w_U_pile Hx lx  ls hw I hl
    refine x_iload C hl 5 dX3_gives_6 rfl ?_
    refine x_aload_n C hl 0 dX3_gives_8 rfl ?_
    refine x_get C I.1 fl_X3_21 0 rfl rfl dX3_gives_9 ?_
    refine x_icmp_ge C 154 dX3_gives_12 (by decide) (fun c1 => ?_) (fun c1 => ?_)
    · have hw := And.left hw c1
      refine x_iload C hl 4 dX3_gives_154 rfl ?_
      refine x_iconst C dX3_gives_156 ic_1 ?_
      refine x_icmp_lt C 169 dX3_gives_157 (by decide) (fun c2 => ?_) (fun c2 => ?_)
      · have hw := And.left hw c2
        refine x_iconst C dX3_gives_169 ic_0 ?_
        exact x_ret1 C I w_U_pile rfl hw dX3_gives_170
      · have hw := And.right hw c2
        refine x_aload_n C hl 0 dX3_gives_160 rfl ?_
        refine x_get C I.1 fl_X3_18 0 rfl rfl dX3_gives_161 ?_
        refine x_iconst C dX3_gives_164 ic_0 ?_
        refine x_ialdL C I.1 3 0 rfl vi_0_50 vl_0 dX3_gives_165 ?_
        refine x_goto C 170 dX3_gives_166 (by decide) ?_
        exact x_ret1 C I w_U_pile rfl hw dX3_gives_170
    · have hw := And.right hw c1
      refine x_aload_n C hl 0 dX3_gives_15 rfl ?_
      refine x_get C I.1 fl_X3_9 0 rfl rfl dX3_gives_16 ?_
      refine x_iload C hl 5 dX3_gives_19 rfl ?_
      refine x_iald C I.1 1 rfl (And.left hw) dX3_gives_21 ?_
      have hw := And.right hw
      refine lv_topi (fun v3 ev3 => ?_)
      have hw := hw v3 ev3
      refine x_istore C hl [(6, .int v3), (0, .ref a_U), (1, .int x1), (2, .int x2), (3, .int x3), (4, .int y4), (5, .int y5)] dX3_gives_22 (Nat.le_of_ble_eq_true rfl) rfl (fun ls hl => ?_)
      refine x_iload C hl 0 dX3_gives_24 rfl ?_
      refine x_iconst C dX3_gives_26 ic_3 ?_
      refine x_icmp_gt C 65 dX3_gives_27 (by decide) (fun c4 => ?_) (fun c4 => ?_)
      · have hw := And.left hw c4
        refine x_iload C hl 0 dX3_gives_65 rfl ?_
        refine x_bipush C dX3_gives_67 bp_33 ?_
        refine x_icmp_ne C 107 dX3_gives_69 (by decide) (fun c5 => ?_) (fun c5 => ?_)
        · have hw := And.left hw c5
          refine x_iload C hl 5 dX3_gives_107 rfl ?_
          refine x_iconst C dX3_gives_109 ic_2 ?_
          refine x_icmp_lt C 148 dX3_gives_110 (by decide) (fun c6 => ?_) (fun c6 => ?_)
          · have hw := And.left hw c6
            refine x_iinc C hl 6 [(5, .int (y5 + (1 : Int32))), (6, .int v3), (0, .ref a_U), (1, .int x1), (2, .int x2), (3, .int x3), (4, .int y4)] (y5 + (1 : Int32)) dX3_gives_148 rfl (congrArg _ ic_1) (Nat.le_of_ble_eq_true rfl) rfl (fun ls hl => ?_)
            refine x_goto C 6 dX3_gives_151 (by decide) ?_
            exact ih y4 (y5 + (1 : Int32)) w_U_pile Hx lx ls hw I (lv_sub hl [2, 3, 4, 5, 6, 0] rfl)
          · have hw := And.right hw c6
            refine x_aload_n C hl 1 dX3_gives_113 rfl ?_
            refine x_get C I.1 fl_X3_18 0 rfl rfl dX3_gives_114 ?_
            refine x_iload C hl 5 dX3_gives_117 rfl ?_
            refine x_iconst C dX3_gives_119 ic_2 ?_
            refine x_isub C dX3_gives_120 ?_
            refine x_iload C hl 0 dX3_gives_121 rfl ?_
            refine x_aload_n C hl 1 dX3_gives_123 rfl ?_
            refine x_get C I.1 fl_X3_18 0 rfl rfl dX3_gives_124 ?_
            refine x_iload C hl 5 dX3_gives_127 rfl ?_
            refine x_iconst C dX3_gives_129 ic_2 ?_
            refine x_isub C dX3_gives_130 ?_
            refine x_iald C I.1 3 rfl (And.left hw) dX3_gives_131 ?_
            have hw := And.right hw
            refine x_aload_n C hl 1 dX3_gives_132 rfl ?_
            refine x_get C I.1 fl_X3_18 0 rfl rfl dX3_gives_133 ?_
            refine x_iload C hl 5 dX3_gives_136 rfl ?_
            refine x_iconst C dX3_gives_138 ic_1 ?_
            refine x_isub C dX3_gives_139 ?_
            refine x_iald C I.1 3 rfl (And.left hw) dX3_gives_140 ?_
            have hw := And.right hw
            refine x_ro (run_S (As := [.int v3, .int (w_U_pile ((y4 - (2 : Int32))).toNatClampNeg), .int (w_U_pile ((y4 - (1 : Int32))).toNatClampNeg)]) (rest := [.int (y4 - (2 : Int32)), .ref a_U_pile]) C hl (wk_X3_joined l G v3 (w_U_pile ((y4 - (2 : Int32))).toNatClampNeg) (w_U_pile ((y4 - (1 : Int32))).toNatClampNeg) _ hw) gm_X3_35 ⟨⟨rfl, rfl⟩, cn_X3_joined, ⟨(Nat.le_of_ble_eq_true rfl), (Nat.le_of_ble_eq_true rfl)⟩⟩ (pr_blind _ _ _) (pr_of I.1 [] rfl) rfl rfl (Nat.le_of_ble_eq_true rfl) ⟨Nat.le_of_ble_eq_true rfl, Nat.le_of_ble_eq_true rfl⟩ dX3_gives_141) (fun r7 hw => ?_)
            refine x_iast C I 3 (cs_X3_gives G a_U a_U_signs a_U_numbers a_U_pile U_size U_signs U_numbers (upd w_U_pile ((y4 - (2 : Int32))).toNatClampNeg r7)) rfl (And.left hw) rfl dX3_gives_144 (fun Hx lx I => ?_)
            have hw := And.right hw
            refine x_iinc C hl 5 [(4, .int (y4 + (-1 : Int32))), (6, .int v3), (0, .ref a_U), (1, .int x1), (2, .int x2), (3, .int x3), (5, .int y5)] (y4 + (-1 : Int32)) dX3_gives_145 rfl (congrArg _ ic_m1) (Nat.le_of_ble_eq_true rfl) rfl (fun ls hl => ?_)
            refine x_iinc C hl 6 [(5, .int (y5 + (1 : Int32))), (4, .int (y4 + (-1 : Int32))), (6, .int v3), (0, .ref a_U), (1, .int x1), (2, .int x2), (3, .int x3)] (y5 + (1 : Int32)) dX3_gives_148 rfl (congrArg _ ic_1) (Nat.le_of_ble_eq_true rfl) rfl (fun ls hl => ?_)
            refine x_goto C 6 dX3_gives_151 (by decide) ?_
            exact ih (y4 + (-1 : Int32)) (y5 + (1 : Int32)) (upd w_U_pile ((y4 - (2 : Int32))).toNatClampNeg r7) Hx lx ls hw I (lv_sub hl [3, 4, 5, 6, 1, 0] rfl)
        · have hw := And.right hw c5
          refine x_iload C hl 5 dX3_gives_72 rfl ?_
          refine x_iconst C dX3_gives_74 ic_1 ?_
          refine x_icmp_lt C 148 dX3_gives_75 (by decide) (fun c8 => ?_) (fun c8 => ?_)
          · have hw := And.left hw c8
            refine x_iinc C hl 6 [(5, .int (y5 + (1 : Int32))), (6, .int v3), (0, .ref a_U), (1, .int x1), (2, .int x2), (3, .int x3), (4, .int y4)] (y5 + (1 : Int32)) dX3_gives_148 rfl (congrArg _ ic_1) (Nat.le_of_ble_eq_true rfl) rfl (fun ls hl => ?_)
            refine x_goto C 6 dX3_gives_151 (by decide) ?_
            exact ih y4 (y5 + (1 : Int32)) w_U_pile Hx lx ls hw I (lv_sub hl [2, 3, 4, 5, 6, 0] rfl)
          · have hw := And.right hw c8
            refine x_aload_n C hl 1 dX3_gives_78 rfl ?_
            refine x_get C I.1 fl_X3_18 0 rfl rfl dX3_gives_79 ?_
            refine x_iload C hl 5 dX3_gives_82 rfl ?_
            refine x_iconst C dX3_gives_84 ic_1 ?_
            refine x_isub C dX3_gives_85 ?_
            refine x_aload_n C hl 1 dX3_gives_86 rfl ?_
            refine x_get C I.1 fl_X3_18 0 rfl rfl dX3_gives_87 ?_
            refine x_iload C hl 5 dX3_gives_90 rfl ?_
            refine x_iconst C dX3_gives_92 ic_1 ?_
            refine x_isub C dX3_gives_93 ?_
            refine x_iald C I.1 3 rfl (And.left hw) dX3_gives_94 ?_
            have hw := And.right hw
            refine x_if_ne C 102 dX3_gives_95 (by decide) (fun c9 => ?_) (fun c9 => ?_)
            · have hw := And.left hw c9
              refine x_iconst C dX3_gives_102 ic_0 ?_
              refine x_iast C I 3 (cs_X3_gives G a_U a_U_signs a_U_numbers a_U_pile U_size U_signs U_numbers (upd w_U_pile ((y4 - (1 : Int32))).toNatClampNeg (0 : Int32))) rfl (And.left hw) rfl dX3_gives_103 (fun Hx lx I => ?_)
              have hw := And.right hw
              refine x_goto C 148 dX3_gives_104 (by decide) ?_
              refine x_iinc C hl 6 [(5, .int (y5 + (1 : Int32))), (6, .int v3), (0, .ref a_U), (1, .int x1), (2, .int x2), (3, .int x3), (4, .int y4)] (y5 + (1 : Int32)) dX3_gives_148 rfl (congrArg _ ic_1) (Nat.le_of_ble_eq_true rfl) rfl (fun ls hl => ?_)
              refine x_goto C 6 dX3_gives_151 (by decide) ?_
              exact ih y4 (y5 + (1 : Int32)) (upd w_U_pile ((y4 - (1 : Int32))).toNatClampNeg (0 : Int32)) Hx lx ls hw I (lv_sub hl [2, 3, 4, 5, 6, 0] rfl)
            · have hw := And.right hw c9
              refine x_iconst C dX3_gives_98 ic_1 ?_
              refine x_goto C 103 dX3_gives_99 (by decide) ?_
              refine x_iast C I 3 (cs_X3_gives G a_U a_U_signs a_U_numbers a_U_pile U_size U_signs U_numbers (upd w_U_pile ((y4 - (1 : Int32))).toNatClampNeg (1 : Int32))) rfl (And.left hw) rfl dX3_gives_103 (fun Hx lx I => ?_)
              have hw := And.right hw
              refine x_goto C 148 dX3_gives_104 (by decide) ?_
              refine x_iinc C hl 6 [(5, .int (y5 + (1 : Int32))), (6, .int v3), (0, .ref a_U), (1, .int x1), (2, .int x2), (3, .int x3), (4, .int y4)] (y5 + (1 : Int32)) dX3_gives_148 rfl (congrArg _ ic_1) (Nat.le_of_ble_eq_true rfl) rfl (fun ls hl => ?_)
              refine x_goto C 6 dX3_gives_151 (by decide) ?_
              exact ih y4 (y5 + (1 : Int32)) (upd w_U_pile ((y4 - (1 : Int32))).toNatClampNeg (1 : Int32)) Hx lx ls hw I (lv_sub hl [2, 3, 4, 5, 6, 0] rfl)
      · have hw := And.right hw c4
        refine x_iload C hl 5 dX3_gives_30 rfl ?_
        refine x_bipush C dX3_gives_32 bp_50 ?_
        refine x_icmp_ge C 148 dX3_gives_34 (by decide) (fun c10 => ?_) (fun c10 => ?_)
        · have hw := And.left hw c10
          refine x_iinc C hl 6 [(5, .int (y5 + (1 : Int32))), (6, .int v3), (0, .ref a_U), (1, .int x1), (2, .int x2), (3, .int x3), (4, .int y4)] (y5 + (1 : Int32)) dX3_gives_148 rfl (congrArg _ ic_1) (Nat.le_of_ble_eq_true rfl) rfl (fun ls hl => ?_)
          refine x_goto C 6 dX3_gives_151 (by decide) ?_
          exact ih y4 (y5 + (1 : Int32)) w_U_pile Hx lx ls hw I (lv_sub hl [2, 3, 4, 5, 6, 0] rfl)
        · have hw := And.right hw c10
          refine x_aload_n C hl 1 dX3_gives_37 rfl ?_
          refine x_get C I.1 fl_X3_18 0 rfl rfl dX3_gives_38 ?_
          refine x_iload C hl 5 dX3_gives_41 rfl ?_
          refine x_iload C hl 0 dX3_gives_43 rfl ?_
          refine x_aload_n C hl 1 dX3_gives_45 rfl ?_
          refine x_get C I.1 fl_X3_15 0 rfl rfl dX3_gives_46 ?_
          refine x_iload C hl 6 dX3_gives_49 rfl ?_
          refine x_iald C I.1 2 rfl (And.left hw) dX3_gives_51 ?_
          have hw := And.right hw
          refine x_iload_n C hl 2 dX3_gives_52 rfl ?_
          refine x_iload_n C hl 3 dX3_gives_53 rfl ?_
          refine x_iload_n C hl 4 dX3_gives_54 rfl ?_
          refine x_ro (run_S (As := [.int v3, .int (U_numbers (y5).toNatClampNeg), .int x1, .int x2, .int x3]) (rest := [.int y4, .ref a_U_pile]) C hl (wk_X3_single l G v3 (U_numbers (y5).toNatClampNeg) x1 x2 x3 _ hw) gm_X3_31 ⟨⟨rfl, rfl⟩, cn_X3_single, ⟨(Nat.le_of_ble_eq_true rfl), (Nat.le_of_ble_eq_true rfl)⟩⟩ (pr_blind _ _ _) (pr_of I.1 [] rfl) rfl rfl (Nat.le_of_ble_eq_true rfl) ⟨Nat.le_of_ble_eq_true rfl, Nat.le_of_ble_eq_true rfl⟩ dX3_gives_55) (fun r11 hw => ?_)
          refine x_iast C I 3 (cs_X3_gives G a_U a_U_signs a_U_numbers a_U_pile U_size U_signs U_numbers (upd w_U_pile (y4).toNatClampNeg r11)) rfl (And.left hw) rfl dX3_gives_58 (fun Hx lx I => ?_)
          have hw := And.right hw
          refine x_iinc C hl 5 [(4, .int (y4 + (1 : Int32))), (6, .int v3), (0, .ref a_U), (1, .int x1), (2, .int x2), (3, .int x3), (5, .int y5)] (y4 + (1 : Int32)) dX3_gives_59 rfl (congrArg _ ic_1) (Nat.le_of_ble_eq_true rfl) rfl (fun ls hl => ?_)
          refine x_goto C 148 dX3_gives_62 (by decide) ?_
          refine x_iinc C hl 6 [(5, .int (y5 + (1 : Int32))), (4, .int (y4 + (1 : Int32))), (6, .int v3), (0, .ref a_U), (1, .int x1), (2, .int x2), (3, .int x3)] (y5 + (1 : Int32)) dX3_gives_148 rfl (congrArg _ ic_1) (Nat.le_of_ble_eq_true rfl) rfl (fun ls hl => ?_)
          refine x_goto C 6 dX3_gives_151 (by decide) ?_
          exact ih (y4 + (1 : Int32)) (y5 + (1 : Int32)) (upd w_U_pile (y4).toNatClampNeg r11) Hx lx ls hw I (lv_sub hl [3, 4, 5, 6, 1, 0] rfl)
def wp_X3_gives (x1 : Int32) (x2 : Int32) (x3 : Int32) (U_size : Int32) (U_signs : Nat → Int32) (U_numbers : Nat → Int32) (U_pile : Nat → Int32) (Q : Int32 → (Nat → Int32) → Prop) : Prop := (∃ n, lb_X3_gives_6 x1 x2 x3 U_size U_signs U_numbers Q n (0 : Int32) (0 : Int32) U_pile)
set_option maxHeartbeats 4000000 in
set_option maxRecDepth 100000 in
theorem wk_X3_gives (l : Launch) (G : Gt) (a_U : Nat) (a_U_signs : Nat) (a_U_numbers : Nat) (a_U_pile : Nat) (sz : Nat) (U_size : Int32) (U_signs : Nat → Int32) (U_numbers : Nat → Int32) (U_pile : Nat → Int32) (x1 : Int32) (x2 : Int32) (x3 : Int32) (Q : Int32 → (Nat → Int32) → Prop) (hw : wp_X3_gives x1 x2 x3 U_size U_signs U_numbers U_pile Q) : Met l yX3_gives (wc yX3_gives cX3_gives 7 (some .int)) rm_X3_gives (va_Pc [.ref a_U, .int x1, .int x2, .int x3] (PB G (cs_X3_gives G a_U a_U_signs a_U_numbers a_U_pile U_size U_signs U_numbers U_pile) sz)) (qc_X3_gives G a_U a_U_signs a_U_numbers a_U_pile U_size U_signs U_numbers (va_A (cs_X3_gives G a_U a_U_signs a_U_numbers a_U_pile U_size U_signs U_numbers U_pile) sz) Q) 0 0 (va_A (cs_X3_gives G a_U a_U_signs a_U_numbers a_U_pile U_size U_signs U_numbers U_pile) sz) := by
  refine x_start pn_X3 (Nat.le_of_ble_eq_true rfl) (fun p e s m below meth c ls C hn hl hB => ?_)
  have I := iv_start hB
  generalize va_A (cs_X3_gives G a_U a_U_signs a_U_numbers a_U_pile U_size U_signs U_numbers U_pile) sz = A at I ⊢
  have C : Cx p s m [.ref a_U, .int x1, .int x2, .int x3].toArray meth c cX3_gives 7 RX3 (some .int) := C
  have hl : lv_has ls 7 [(0, .ref a_U), (1, .int x1), (2, .int x2), (3, .int x3)] := hl
  refine x_iconst C dX3_gives_0 ic_0 ?_
  refine x_istore C hl [(4, .int (0 : Int32)), (0, .ref a_U), (1, .int x1), (2, .int x2), (3, .int x3)] dX3_gives_1 (Nat.le_of_ble_eq_true rfl) rfl (fun ls hl => ?_)
  refine x_iconst C dX3_gives_3 ic_0 ?_
  refine x_istore C hl [(5, .int (0 : Int32)), (4, .int (0 : Int32)), (0, .ref a_U), (1, .int x1), (2, .int x2), (3, .int x3)] dX3_gives_4 (Nat.le_of_ble_eq_true rfl) rfl (fun ls hl => ?_)
  obtain ⟨n, hw⟩ := hw
  exact lk_X3_gives_6 G a_U a_U_signs a_U_numbers a_U_pile C x1 x2 x3 U_size U_signs U_numbers  Q n (0 : Int32) (0 : Int32) U_pile s.heap [] ls hw I (lv_sub hl [2, 3, 4, 5, 1, 0] rfl)
/-! X5_stray -/
abbrev rm_X5_stray : Room := { frames := 1, cells := 0, slots := 0, locals := 20 }
abbrev cs_X5_stray (G : Gt) (a_P : Nat) (a_P_meeting : Nat) (a_P_deed : Nat) (a_P_folk : Nat) (a_P_tape : Nat) (a_P_waiting : Nat) (a_P_folk_kind : Nat) (a_P_folk_m : Nat) (a_P_folk_at : Nat) (a_P_folk_free : Nat) (a_P_folk_gloved : Nat) (a_P_folk_deeds : Nat) (a_P_folk_handed : Nat) (a_P_folk_crowd : Nat) (P_z : Int32) (P_folk_size : Int32) (P_folk_step : Int32) (P_folk_loss : Int32) (P_folk_at : Nat → Int32) : va_W := [(a_P, .inr (5, [.ref a_P_meeting, .ref a_P_deed, .ref a_P_folk, .ref a_P_tape, .ref a_P_waiting, .int P_z])), (a_P_folk, .inr (0, [.ref a_P_meeting, .ref a_P_deed, .ref a_P_folk_kind, .ref a_P_folk_m, .ref a_P_folk_at, .ref a_P_folk_free, .ref a_P_folk_gloved, .ref a_P_folk_deeds, .ref a_P_folk_handed, .ref a_P_folk_crowd, .int P_folk_size, .int P_folk_step, .int P_folk_loss])), (a_P_folk_at, .inl (cI G, 8, .inl P_folk_at))]
abbrev qc_X5_stray (G : Gt) (a_P : Nat) (a_P_meeting : Nat) (a_P_deed : Nat) (a_P_folk : Nat) (a_P_tape : Nat) (a_P_waiting : Nat) (a_P_folk_kind : Nat) (a_P_folk_m : Nat) (a_P_folk_at : Nat) (a_P_folk_free : Nat) (a_P_folk_gloved : Nat) (a_P_folk_deeds : Nat) (a_P_folk_handed : Nat) (a_P_folk_crowd : Nat) (P_folk_size : Int32) (P_folk_step : Int32) (P_folk_loss : Int32) (A : Nat → Prop) (Q : Int32 → (Nat → Int32) → Prop) : Array Value → State → Outcome → State → Prop := Qv1 G A (fun (u : Int32 × (Nat → Int32)) => Q u.1 u.2) (fun u => cs_X5_stray G a_P a_P_meeting a_P_deed a_P_folk a_P_tape a_P_waiting a_P_folk_kind a_P_folk_m a_P_folk_at a_P_folk_free a_P_folk_gloved a_P_folk_deeds a_P_folk_handed a_P_folk_crowd u.1 P_folk_size P_folk_step P_folk_loss u.2)
def lb_X5_stray_2 (P_folk_size : Int32) (Q : Int32 → (Nat → Int32) → Prop) : Nat → Int32 → Int32 → (Nat → Int32) → Prop
  | 0 => fun _ _ _ => False
  | k + 1 => fun (y1 : Int32) (w_P_z : Int32) (w_P_folk_at : Nat → Int32) => ((P_folk_size ≤ y1 → (Q w_P_z w_P_folk_at)) ∧ (¬ P_folk_size ≤ y1 → (wp_X5_draw w_P_z (fun r3 o2 => ((¬ (jrem r3 (4 : Int32)) = (0) → (lb_X5_stray_2 P_folk_size Q k (y1 + (1 : Int32)) o2 w_P_folk_at)) ∧ ((jrem r3 (4 : Int32)) = (0) → (∀ v5 : Int32, v5 = (jrem (r3 / (4 : Int32)) (8 : Int32)) → (vp_in y1 8 ∧ (lb_X5_stray_2 P_folk_size Q k (y1 + (1 : Int32)) o2 (upd w_P_folk_at (y1).toNatClampNeg v5))))))))))
set_option maxHeartbeats 4000000 in
set_option maxRecDepth 100000 in
theorem lk_X5_stray_2 {p : Program} {l : Launch} {e : Env} {s : State} {m : MethodId} {args : Array Value} {below : List Frame} {meth : Method} {c : Code} {A : Nat → Prop} (G : Gt) (a_P : Nat) (a_P_meeting : Nat) (a_P_deed : Nat) (a_P_folk : Nat) (a_P_tape : Nat) (a_P_waiting : Nat) (a_P_folk_kind : Nat) (a_P_folk_m : Nat) (a_P_folk_at : Nat) (a_P_folk_free : Nat) (a_P_folk_gloved : Nat) (a_P_folk_deeds : Nat) (a_P_folk_handed : Nat) (a_P_folk_crowd : Nat) (C : Cx p s m args meth c cX5_stray 3 RX5 none) (P_folk_size : Int32) (P_folk_step : Int32) (P_folk_loss : Int32) (Q : Int32 → (Nat → Int32) → Prop) : ∀ (n : Nat) (y1 : Int32) (w_P_z : Int32) (w_P_folk_at : Nat → Int32) (Hx : Heap) (lx : List Loc) (ls : Array Slot), lb_X5_stray_2 P_folk_size Q n y1 w_P_z w_P_folk_at → Iv G A s (cs_X5_stray G a_P a_P_meeting a_P_deed a_P_folk a_P_tape a_P_waiting a_P_folk_kind a_P_folk_m a_P_folk_at a_P_folk_free a_P_folk_gloved a_P_folk_deeds a_P_folk_handed a_P_folk_crowd w_P_z P_folk_size P_folk_step P_folk_loss w_P_folk_at) Hx lx → lv_has ls 3 [(0, .ref a_P), (1, .int y1)] → W p l e rm_X5_stray s m args below meth c Hx lx 0 0 (MQ below (qc_X5_stray G a_P a_P_meeting a_P_deed a_P_folk a_P_tape a_P_waiting a_P_folk_kind a_P_folk_m a_P_folk_at a_P_folk_free a_P_folk_gloved a_P_folk_deeds a_P_folk_handed a_P_folk_crowd P_folk_size P_folk_step P_folk_loss A Q) args s 0 0 A) (F0 m 2 ls []) := by
  intro n
  induction n with
  | zero => intro y1 w_P_z w_P_folk_at Hx lx  ls hw I hl; exact False.elim hw
  | succ k ih =>
    intro y1 w_P_z w_P_folk_at Hx lx  ls hw I hl
    refine x_iload_n C hl 1 dX5_stray_2 rfl ?_
    refine x_aload_n C hl 0 dX5_stray_3 rfl ?_
    refine x_get C I.1 fl_X5_26 0 rfl rfl dX5_stray_4 ?_
    refine x_get C I.1 fl_X5_56 1 rfl rfl dX5_stray_7 ?_
    refine x_icmp_ge C 45 dX5_stray_10 (by decide) (fun c1 => ?_) (fun c1 => ?_)
    · have hw := And.left hw c1
      exact x_retv C I (w_P_z, w_P_folk_at) rfl hw dX5_stray_45
    · have hw := And.right hw c1
      refine x_aload_n C hl 0 dX5_stray_13 rfl ?_
      refine x_mui (wk := cs_X5_draw G a_P a_P_meeting a_P_deed a_P_folk a_P_tape a_P_waiting w_P_z) (wr := [(a_P_folk, .inr (0, [.ref a_P_meeting, .ref a_P_deed, .ref a_P_folk_kind, .ref a_P_folk_m, .ref a_P_folk_at, .ref a_P_folk_free, .ref a_P_folk_gloved, .ref a_P_folk_deeds, .ref a_P_folk_handed, .ref a_P_folk_crowd, .int P_folk_size, .int P_folk_step, .int P_folk_loss])), (a_P_folk_at, .inl (cI G, 8, .inl w_P_folk_at))]) (isC := [0]) (isR := [1, 2]) I ⟨⟨rfl, rfl⟩, rfl, rfl, rfl⟩ [2, 0, 1] (fun u => cs_X5_stray G a_P a_P_meeting a_P_deed a_P_folk a_P_tape a_P_waiting a_P_folk_kind a_P_folk_m a_P_folk_at a_P_folk_free a_P_folk_gloved a_P_folk_deeds a_P_folk_handed a_P_folk_crowd u P_folk_size P_folk_step P_folk_loss w_P_folk_at) (fun _ => rfl) rfl (run_V (As := []) (rest := []) C hl (wk_X5_draw l G a_P a_P_meeting a_P_deed a_P_folk a_P_tape a_P_waiting Hx.size w_P_z _ hw) gm_X5_59 ⟨⟨rfl, rfl⟩, cn_X5_draw, ⟨(Nat.le_of_ble_eq_true rfl), (Nat.le_of_ble_eq_true rfl)⟩⟩ (pb_blind _ _ _ _) (x_recv I.1 0 rfl rfl) (pb_of I [0] rfl rfl) rfl rfl (Nat.le_of_ble_eq_true rfl) ⟨Nat.le_of_ble_eq_true rfl, Nat.le_of_ble_eq_true rfl⟩ dX5_stray_14) (fun r3 u Hx lx hw I => ?_)
      obtain ⟨o2, eo2⟩ : ∃ z, z = u := ⟨_, rfl⟩
      subst eo2
      have I : Iv G A s (cs_X5_stray G a_P a_P_meeting a_P_deed a_P_folk a_P_tape a_P_waiting a_P_folk_kind a_P_folk_m a_P_folk_at a_P_folk_free a_P_folk_gloved a_P_folk_deeds a_P_folk_handed a_P_folk_crowd o2 P_folk_size P_folk_step P_folk_loss w_P_folk_at) Hx lx := I
      refine x_istore_n C hl [(2, .int r3), (0, .ref a_P), (1, .int y1)] dX5_stray_17 (Nat.le_of_ble_eq_true rfl) rfl (fun ls hl => ?_)
      refine x_iload_n C hl 0 dX5_stray_18 rfl ?_
      refine x_iconst C dX5_stray_19 ic_4 ?_
      refine x_irem C nz_4 dX5_stray_20 ?_
      refine x_if_ne C 39 dX5_stray_21 (by decide) (fun c4 => ?_) (fun c4 => ?_)
      · have hw := And.left hw c4
        refine x_iinc C hl 2 [(1, .int (y1 + (1 : Int32))), (2, .int r3), (0, .ref a_P)] (y1 + (1 : Int32)) dX5_stray_39 rfl (congrArg _ ic_1) (Nat.le_of_ble_eq_true rfl) rfl (fun ls hl => ?_)
        refine x_goto C 2 dX5_stray_42 (by decide) ?_
        exact ih (y1 + (1 : Int32)) o2 w_P_folk_at Hx lx ls hw I (lv_sub hl [2, 0] rfl)
      · have hw := And.right hw c4
        refine x_aload_n C hl 1 dX5_stray_24 rfl ?_
        refine x_get C I.1 fl_X5_26 0 rfl rfl dX5_stray_25 ?_
        refine x_get C I.1 fl_X5_63 1 rfl rfl dX5_stray_28 ?_
        refine x_iload_n C hl 2 dX5_stray_31 rfl ?_
        refine x_iload_n C hl 0 dX5_stray_32 rfl ?_
        refine x_iconst C dX5_stray_33 ic_4 ?_
        refine x_idiv C nz_4 dX5_stray_34 ?_
        refine x_bipush C dX5_stray_35 bp_8 ?_
        refine x_irem C nz_8 dX5_stray_37 ?_
        refine lv_topi (fun v5 ev5 => ?_)
        have hw := hw v5 ev5
        refine x_iast C I 2 (cs_X5_stray G a_P a_P_meeting a_P_deed a_P_folk a_P_tape a_P_waiting a_P_folk_kind a_P_folk_m a_P_folk_at a_P_folk_free a_P_folk_gloved a_P_folk_deeds a_P_folk_handed a_P_folk_crowd o2 P_folk_size P_folk_step P_folk_loss (upd w_P_folk_at (y1).toNatClampNeg v5)) rfl (And.left hw) rfl dX5_stray_38 (fun Hx lx I => ?_)
        have hw := And.right hw
        refine x_iinc C hl 2 [(1, .int (y1 + (1 : Int32))), (2, .int r3), (0, .ref a_P)] (y1 + (1 : Int32)) dX5_stray_39 rfl (congrArg _ ic_1) (Nat.le_of_ble_eq_true rfl) rfl (fun ls hl => ?_)
        refine x_goto C 2 dX5_stray_42 (by decide) ?_
        exact ih (y1 + (1 : Int32)) o2 (upd w_P_folk_at (y1).toNatClampNeg v5) Hx lx ls hw I (lv_sub hl [2, 0] rfl)
def wp_X5_stray (P_z : Int32) (P_folk_size : Int32) (P_folk_at : Nat → Int32) (Q : Int32 → (Nat → Int32) → Prop) : Prop := (∃ n, lb_X5_stray_2 P_folk_size Q n (0 : Int32) P_z P_folk_at)
set_option maxHeartbeats 4000000 in
set_option maxRecDepth 100000 in
theorem wk_X5_stray (l : Launch) (G : Gt) (a_P : Nat) (a_P_meeting : Nat) (a_P_deed : Nat) (a_P_folk : Nat) (a_P_tape : Nat) (a_P_waiting : Nat) (a_P_folk_kind : Nat) (a_P_folk_m : Nat) (a_P_folk_at : Nat) (a_P_folk_free : Nat) (a_P_folk_gloved : Nat) (a_P_folk_deeds : Nat) (a_P_folk_handed : Nat) (a_P_folk_crowd : Nat) (sz : Nat) (P_z : Int32) (P_folk_size : Int32) (P_folk_step : Int32) (P_folk_loss : Int32) (P_folk_at : Nat → Int32) (Q : Int32 → (Nat → Int32) → Prop) (hw : wp_X5_stray P_z P_folk_size P_folk_at Q) : Met l yX5_stray (wc yX5_stray cX5_stray 3 none) rm_X5_stray (va_Pc [.ref a_P] (PB G (cs_X5_stray G a_P a_P_meeting a_P_deed a_P_folk a_P_tape a_P_waiting a_P_folk_kind a_P_folk_m a_P_folk_at a_P_folk_free a_P_folk_gloved a_P_folk_deeds a_P_folk_handed a_P_folk_crowd P_z P_folk_size P_folk_step P_folk_loss P_folk_at) sz)) (qc_X5_stray G a_P a_P_meeting a_P_deed a_P_folk a_P_tape a_P_waiting a_P_folk_kind a_P_folk_m a_P_folk_at a_P_folk_free a_P_folk_gloved a_P_folk_deeds a_P_folk_handed a_P_folk_crowd P_folk_size P_folk_step P_folk_loss (va_A (cs_X5_stray G a_P a_P_meeting a_P_deed a_P_folk a_P_tape a_P_waiting a_P_folk_kind a_P_folk_m a_P_folk_at a_P_folk_free a_P_folk_gloved a_P_folk_deeds a_P_folk_handed a_P_folk_crowd P_z P_folk_size P_folk_step P_folk_loss P_folk_at) sz) Q) 0 0 (va_A (cs_X5_stray G a_P a_P_meeting a_P_deed a_P_folk a_P_tape a_P_waiting a_P_folk_kind a_P_folk_m a_P_folk_at a_P_folk_free a_P_folk_gloved a_P_folk_deeds a_P_folk_handed a_P_folk_crowd P_z P_folk_size P_folk_step P_folk_loss P_folk_at) sz) := by
  refine x_start pn_X5 (Nat.le_of_ble_eq_true rfl) (fun p e s m below meth c ls C hn hl hB => ?_)
  have I := iv_start hB
  generalize va_A (cs_X5_stray G a_P a_P_meeting a_P_deed a_P_folk a_P_tape a_P_waiting a_P_folk_kind a_P_folk_m a_P_folk_at a_P_folk_free a_P_folk_gloved a_P_folk_deeds a_P_folk_handed a_P_folk_crowd P_z P_folk_size P_folk_step P_folk_loss P_folk_at) sz = A at I ⊢
  have C : Cx p s m [.ref a_P].toArray meth c cX5_stray 3 RX5 none := C
  have hl : lv_has ls 3 [(0, .ref a_P)] := hl
  refine x_iconst C dX5_stray_0 ic_0 ?_
  refine x_istore_n C hl [(1, .int (0 : Int32)), (0, .ref a_P)] dX5_stray_1 (Nat.le_of_ble_eq_true rfl) rfl (fun ls hl => ?_)
  obtain ⟨n, hw⟩ := hw
  exact lk_X5_stray_2 G a_P a_P_meeting a_P_deed a_P_folk a_P_tape a_P_waiting a_P_folk_kind a_P_folk_m a_P_folk_at a_P_folk_free a_P_folk_gloved a_P_folk_deeds a_P_folk_handed a_P_folk_crowd C P_folk_size P_folk_step P_folk_loss Q n (0 : Int32) P_z P_folk_at s.heap [] ls hw I (lv_sub hl [1, 0] rfl)
/-! X6_bodyOf -/
abbrev rm_X6_bodyOf : Room := { frames := 1, cells := 0, slots := 0, locals := 22 }
abbrev cs_X6_bodyOf (G : Gt) : va_W := []
def lb_X6_bodyOf_4 (x0 : Int32) (x1 : Int32) (Q : Int32 → Prop) : Nat → Int32 → Int32 → Prop
  | 0 => fun _ _ => False
  | k + 1 => fun (y2 : Int32) (y3 : Int32) => (((3 : Int32) ≤ y3 → (Q (0 : Int32))) ∧ (¬ (3 : Int32) ≤ y3 → (wp_X7_within y2 (0 : Int32) (6 : Int32) (fun r2 => ((r2 = (0) → (Q (0 : Int32))) ∧ (¬ r2 = (0) → (wp_X7_within x1 (0 : Int32) (3 : Int32) (fun r4 => ((r4 = (0) → (Q (0 : Int32))) ∧ (¬ r4 = (0) → (vp_in ((y2 * (4 : Int32)) + x1) 28 ∧ (((kB (((y2 * (4 : Int32)) + x1)).toNatClampNeg) = (0) → (vp_in y2 7 ∧ (∀ v7 : Int32, v7 = (kK (y2).toNatClampNeg) → (lb_X6_bodyOf_4 x0 x1 Q k v7 (y3 + (1 : Int32)))))) ∧ (¬ (kB (((y2 * (4 : Int32)) + x1)).toNatClampNeg) = (0) → (vp_in ((y2 * (4 : Int32)) + x1) 28 ∧ (Q (kB (((y2 * (4 : Int32)) + x1)).toNatClampNeg))))))))))))))))
set_option maxHeartbeats 4000000 in
set_option maxRecDepth 100000 in
theorem lk_X6_bodyOf_4 {p : Program} {l : Launch} {e : Env} {s : State} {m : MethodId} {args : Array Value} {below : List Frame} {meth : Method} {c : Code} (G : Gt) (C : Cx p s m args meth c cX6_bodyOf 4 RX6 (some .int)) (x0 : Int32) (x1 : Int32) (Q : Int32 → Prop) : ∀ (n : Nat) (y2 : Int32) (y3 : Int32) (ls : Array Slot), lb_X6_bodyOf_4 x0 x1 Q n y2 y3 → Rd G (fun _ => False) s (cs_X6_bodyOf G ) s.heap [] → lv_has ls 4 [(1, .int x1), (2, .int y2), (3, .int y3)] → W p l e rm_X6_bodyOf s m args below meth c s.heap [] 0 0 (MQ below (vp_Si Q) args s 0 0 (fun _ => False)) (F0 m 4 ls []) := by
  intro n
  induction n with
  | zero => intro y2 y3  ls hw I hl; exact False.elim hw
  | succ k ih =>
    intro y2 y3  ls hw I hl
    refine x_iload_n C hl 2 dX6_bodyOf_4 rfl ?_
    refine x_iconst C dX6_bodyOf_5 ic_3 ?_
    refine x_icmp_ge C 62 dX6_bodyOf_6 (by decide) (fun c1 => ?_) (fun c1 => ?_)
    · have hw := And.left hw c1
      refine x_iconst C dX6_bodyOf_62 ic_0 ?_
      exact x_ret0 C hw dX6_bodyOf_63
    · have hw := And.right hw c1
      refine x_iload_n C hl 1 dX6_bodyOf_9 rfl ?_
      refine x_iconst C dX6_bodyOf_10 ic_0 ?_
      refine x_bipush C dX6_bodyOf_11 bp_6 ?_
      refine x_ro (run_SN (As := [.int y2, .int (0 : Int32), .int (6 : Int32)]) (rest := []) C hl (wk_X7_within l G y2 (0 : Int32) (6 : Int32) _ hw) gc_X7_within I.2.2.2.2.2.2.2.1 wd_75 wd_331 ⟨⟨rfl, rfl⟩, cn_X7_within, ⟨(Nat.le_of_ble_eq_true rfl), (Nat.le_of_ble_eq_true rfl)⟩⟩ (pr_blind _ _ _) (pr_of I [] rfl) rfl rfl (Nat.le_of_ble_eq_true rfl) ⟨Nat.le_of_ble_eq_true rfl, Nat.le_of_ble_eq_true rfl⟩ dX6_bodyOf_13) (fun r2 hw => ?_)
      refine x_if_eq C 62 dX6_bodyOf_16 (by decide) (fun c3 => ?_) (fun c3 => ?_)
      · have hw := And.left hw c3
        refine x_iconst C dX6_bodyOf_62 ic_0 ?_
        exact x_ret0 C hw dX6_bodyOf_63
      · have hw := And.right hw c3
        refine x_iload_n C hl 0 dX6_bodyOf_19 rfl ?_
        refine x_iconst C dX6_bodyOf_20 ic_0 ?_
        refine x_iconst C dX6_bodyOf_21 ic_3 ?_
        refine x_ro (run_SN (As := [.int x1, .int (0 : Int32), .int (3 : Int32)]) (rest := []) C hl (wk_X7_within l G x1 (0 : Int32) (3 : Int32) _ hw) gc_X7_within I.2.2.2.2.2.2.2.1 wd_75 wd_331 ⟨⟨rfl, rfl⟩, cn_X7_within, ⟨(Nat.le_of_ble_eq_true rfl), (Nat.le_of_ble_eq_true rfl)⟩⟩ (pr_blind _ _ _) (pr_of I [] rfl) rfl rfl (Nat.le_of_ble_eq_true rfl) ⟨Nat.le_of_ble_eq_true rfl, Nat.le_of_ble_eq_true rfl⟩ dX6_bodyOf_22) (fun r4 hw => ?_)
        refine x_if_eq C 62 dX6_bodyOf_25 (by decide) (fun c5 => ?_) (fun c5 => ?_)
        · have hw := And.left hw c5
          refine x_iconst C dX6_bodyOf_62 ic_0 ?_
          exact x_ret0 C hw dX6_bodyOf_63
        · have hw := And.right hw c5
          refine x_getsB C I wd_745 dX6_bodyOf_28 ?_
          refine x_iload_n C hl 1 dX6_bodyOf_31 rfl ?_
          refine x_iconst C dX6_bodyOf_32 ic_4 ?_
          refine x_imul C dX6_bodyOf_33 ?_
          refine x_iload_n C hl 0 dX6_bodyOf_34 rfl ?_
          refine x_iadd C dX6_bodyOf_35 ?_
          refine x_ldB C I (And.left hw) dX6_bodyOf_36 ?_
          have hw := And.right hw
          refine x_if_eq C 50 dX6_bodyOf_37 (by decide) (fun c6 => ?_) (fun c6 => ?_)
          · have hw := And.left hw c6
            refine x_getsKN C I I.2.2.2.2.2.2.2.2.1 dX6_bodyOf_50 ?_
            refine x_iload_n C hl 1 dX6_bodyOf_53 rfl ?_
            refine x_ldK C I (And.left hw) dX6_bodyOf_54 ?_
            have hw := And.right hw
            refine lv_topi (fun v7 ev7 => ?_)
            have hw := hw v7 ev7
            refine x_istore_n C hl [(2, .int v7), (1, .int x1), (3, .int y3)] dX6_bodyOf_55 (Nat.le_of_ble_eq_true rfl) rfl (fun ls hl => ?_)
            refine x_iinc C hl 2 [(3, .int (y3 + (1 : Int32))), (2, .int v7), (1, .int x1)] (y3 + (1 : Int32)) dX6_bodyOf_56 rfl (congrArg _ ic_1) (Nat.le_of_ble_eq_true rfl) rfl (fun ls hl => ?_)
            refine x_goto C 4 dX6_bodyOf_59 (by decide) ?_
            exact ih v7 (y3 + (1 : Int32)) ls hw I (lv_sub hl [2, 1, 0] rfl)
          · have hw := And.right hw c6
            refine x_getsB C I wd_745 dX6_bodyOf_40 ?_
            refine x_iload_n C hl 1 dX6_bodyOf_43 rfl ?_
            refine x_iconst C dX6_bodyOf_44 ic_4 ?_
            refine x_imul C dX6_bodyOf_45 ?_
            refine x_iload_n C hl 0 dX6_bodyOf_46 rfl ?_
            refine x_iadd C dX6_bodyOf_47 ?_
            refine x_ldB C I (And.left hw) dX6_bodyOf_48 ?_
            have hw := And.right hw
            exact x_ret0 C hw dX6_bodyOf_49
def wp_X6_bodyOf (x0 : Int32) (x1 : Int32) (Q : Int32 → Prop) : Prop := (∃ n, lb_X6_bodyOf_4 x0 x1 Q n x0 (0 : Int32))
set_option maxHeartbeats 4000000 in
set_option maxRecDepth 100000 in
theorem wk_X6_bodyOf (l : Launch) (G : Gt) (x0 : Int32) (x1 : Int32) (Q : Int32 → Prop) (hw : wp_X6_bodyOf x0 x1 Q) : Met l yX6_bodyOf (wc yX6_bodyOf cX6_bodyOf 4 (some .int)) rm_X6_bodyOf (va_Pc [.int x0, .int x1] (PR G (cs_X6_bodyOf G ))) (vp_Si Q) 0 0 (fun _ => False) := by
  refine x_start pn_X6 (Nat.le_of_ble_eq_true rfl) (fun p e s m below meth c ls C hn hl hB => ?_)
  have I := rd_start hB
  have C : Cx p s m [.int x0, .int x1].toArray meth c cX6_bodyOf 4 RX6 (some .int) := C
  have hl : lv_has ls 4 [(0, .int x0), (1, .int x1)] := hl
  refine x_iload_n C hl 0 dX6_bodyOf_0 rfl ?_
  refine x_istore_n C hl [(2, .int x0), (0, .int x0), (1, .int x1)] dX6_bodyOf_1 (Nat.le_of_ble_eq_true rfl) rfl (fun ls hl => ?_)
  refine x_iconst C dX6_bodyOf_2 ic_0 ?_
  refine x_istore_n C hl [(3, .int (0 : Int32)), (2, .int x0), (0, .int x0), (1, .int x1)] dX6_bodyOf_3 (Nat.le_of_ble_eq_true rfl) rfl (fun ls hl => ?_)
  obtain ⟨n, hw⟩ := hw
  exact lk_X6_bodyOf_4 G  C x0 x1  Q n x0 (0 : Int32) ls hw I (lv_sub hl [3, 1, 0] rfl)
/-! X6_work -/
abbrev rm_X6_of (n : Nat) : Room := { frames := 2 + n * 5, cells := 0, slots := 0, locals := 45 + n * 94 }
abbrev cs_X6_of (G : Gt) (a_V : Nat) (a_V_begun : Nat) (a_V_begun_items : Nat) (V_kind : Int32) (V_number : Int32) (V_m : Int32) (V_begun_size : Int32) (V_begun_items : Nat → Int32) : va_W := [(a_V, .inr (6, [.ref a_V_begun, .int V_kind, .int V_number, .int V_m])), (a_V_begun, .inr (4, [.ref a_V_begun_items, .int V_begun_size])), (a_V_begun_items, .inl (cI G, 40, .inl V_begun_items))]
abbrev qc_X6_of (G : Gt) (a_V : Nat) (a_V_begun : Nat) (a_V_begun_items : Nat) (V_kind : Int32) (V_number : Int32) (V_m : Int32) (A : Nat → Prop) (Q : Int32 → Int32 → (Nat → Int32) → Prop) : Array Value → State → Outcome → State → Prop := Qi1 G A (fun r (u : Int32 × (Nat → Int32)) => Q r u.1 u.2) (fun u => cs_X6_of G a_V a_V_begun a_V_begun_items V_kind V_number V_m u.1 u.2)
abbrev rm_X6_own (n : Nat) : Room := { frames := 3 + n * 5, cells := 0, slots := 0, locals := 70 + n * 94 }
abbrev cs_X6_own (G : Gt) (a_V : Nat) (a_V_begun : Nat) (a_V_begun_items : Nat) (V_kind : Int32) (V_number : Int32) (V_m : Int32) (V_begun_size : Int32) (V_begun_items : Nat → Int32) : va_W := [(a_V, .inr (6, [.ref a_V_begun, .int V_kind, .int V_number, .int V_m])), (a_V_begun, .inr (4, [.ref a_V_begun_items, .int V_begun_size])), (a_V_begun_items, .inl (cI G, 40, .inl V_begun_items))]
abbrev qc_X6_own (G : Gt) (a_V : Nat) (a_V_begun : Nat) (a_V_begun_items : Nat) (V_kind : Int32) (V_number : Int32) (V_m : Int32) (A : Nat → Prop) (Q : Int32 → Int32 → (Nat → Int32) → Prop) : Array Value → State → Outcome → State → Prop := Qi1 G A (fun r (u : Int32 × (Nat → Int32)) => Q r u.1 u.2) (fun u => cs_X6_own G a_V a_V_begun a_V_begun_items V_kind V_number V_m u.1 u.2)
abbrev rm_X6_work (n : Nat) : Room := { frames := 0 + n * 5, cells := 0, slots := 0, locals := 0 + n * 94 }
abbrev cs_X6_work (G : Gt) (a_V : Nat) (a_V_begun : Nat) (a_V_begun_items : Nat) (V_kind : Int32) (V_number : Int32) (V_m : Int32) (V_begun_size : Int32) (V_begun_items : Nat → Int32) : va_W := [(a_V, .inr (6, [.ref a_V_begun, .int V_kind, .int V_number, .int V_m])), (a_V_begun, .inr (4, [.ref a_V_begun_items, .int V_begun_size])), (a_V_begun_items, .inl (cI G, 40, .inl V_begun_items))]
abbrev qc_X6_work (G : Gt) (a_V : Nat) (a_V_begun : Nat) (a_V_begun_items : Nat) (V_kind : Int32) (V_number : Int32) (V_m : Int32) (A : Nat → Prop) (Q : Int32 → Int32 → (Nat → Int32) → Prop) : Array Value → State → Outcome → State → Prop := Qi1 G A (fun r (u : Int32 × (Nat → Int32)) => Q r u.1 u.2) (fun u => cs_X6_work G a_V a_V_begun a_V_begun_items V_kind V_number V_m u.1 u.2)
def wp_X6_work (R0 : Int32 → Int32 → Int32 → Int32 → Int32 → Int32 → Int32 → Int32 → (Nat → Int32) → (Int32 → Int32 → (Nat → Int32) → Prop) → Prop) (R1 : Int32 → Int32 → Int32 → Int32 → Int32 → Int32 → Int32 → (Nat → Int32) → (Int32 → Int32 → (Nat → Int32) → Prop) → Prop) (x1 : Int32) (x2 : Int32) (x3 : Int32) (V_kind : Int32) (V_number : Int32) (V_m : Int32) (V_begun_size : Int32) (V_begun_items : Nat → Int32) (Q : Int32 → Int32 → (Nat → Int32) → Prop) : Prop := ((x1 = (10 : Int32) → (Q (x2 + V_number) V_begun_size V_begun_items)) ∧ (x1 = (11 : Int32) → (R1 (0 : Int32) x2 x3 V_kind V_number V_m V_begun_size V_begun_items (fun r5 o3 o4 => (Q (r5 * (2 : Int32)) o3 o4)))) ∧ (x1 = (12 : Int32) → (Q (x2 - V_m) V_begun_size V_begun_items)) ∧ (x1 = (13 : Int32) → (R1 (1 : Int32) x2 x3 V_kind V_number V_m V_begun_size V_begun_items (fun r10 o8 o9 => (R1 (2 : Int32) x2 x3 V_kind V_number V_m o8 o9 (fun r13 o11 o12 => (Q (r10 ^^^ r13) o11 o12)))))) ∧ (x1 = (20 : Int32) → (R0 (0 : Int32) (0 : Int32) x2 x3 V_kind V_number V_m V_begun_size V_begun_items (fun r17 o15 o16 => (Q (r17 * (3 : Int32)) o15 o16)))) ∧ (x1 = (30 : Int32) → (R0 (0 : Int32) (1 : Int32) x2 x3 V_kind V_number V_m V_begun_size V_begun_items (fun r21 o19 o20 => (R1 (2 : Int32) (1 : Int32) x3 V_kind V_number V_m o19 o20 (fun r24 o22 o23 => (Q (r21 - r24) o22 o23)))))) ∧ (x1 = (40 : Int32) → (R0 (0 : Int32) (2 : Int32) x2 x3 V_kind V_number V_m V_begun_size V_begun_items (fun r28 o26 o27 => (Q (-r28) o26 o27)))) ∧ (x1 = (50 : Int32) → (R0 (1 : Int32) (3 : Int32) x2 x3 V_kind V_number V_m V_begun_size V_begun_items (fun r32 o30 o31 => (R1 (0 : Int32) (2 : Int32) x3 V_kind V_number V_m o30 o31 (fun r35 o33 o34 => (Q (r32 - r35) o33 o34)))))) ∧ (x1 = (60 : Int32) → (R0 (2 : Int32) (1 : Int32) (x2 + (1 : Int32)) x3 V_kind V_number V_m V_begun_size V_begun_items (fun r39 o37 o38 => (Q r39 o37 o38)))) ∧ (x1 = (70 : Int32) → (R0 (3 : Int32) (2 : Int32) x2 x3 V_kind V_number V_m V_begun_size V_begun_items (fun r43 o41 o42 => (Q (r43 ^^^ V_number) o41 o42)))) ∧ (x1 = (71 : Int32) → (R1 (1 : Int32) x2 x3 V_kind V_number V_m V_begun_size V_begun_items (fun r47 o45 o46 => (R0 (3 : Int32) (3 : Int32) x2 x3 V_kind V_number V_m o45 o46 (fun r50 o48 o49 => (Q (r47 - r50) o48 o49)))))) ∧ (¬ x1 = (10 : Int32) → ¬ x1 = (11 : Int32) → ¬ x1 = (12 : Int32) → ¬ x1 = (13 : Int32) → ¬ x1 = (20 : Int32) → ¬ x1 = (30 : Int32) → ¬ x1 = (40 : Int32) → ¬ x1 = (50 : Int32) → ¬ x1 = (60 : Int32) → ¬ x1 = (70 : Int32) → ¬ x1 = (71 : Int32) → (Q (0 : Int32) V_begun_size V_begun_items)))
set_option maxHeartbeats 4000000 in
set_option maxRecDepth 100000 in
theorem wk_X6_work (l : Launch) (G : Gt) (d : Nat) (R0 : Int32 → Int32 → Int32 → Int32 → Int32 → Int32 → Int32 → Int32 → (Nat → Int32) → (Int32 → Int32 → (Nat → Int32) → Prop) → Prop) (hR0 : ∀ (a_V : Nat) (a_V_begun : Nat) (a_V_begun_items : Nat) (sz : Nat) (V_kind : Int32) (V_number : Int32) (V_m : Int32) (V_begun_size : Int32) (V_begun_items : Nat → Int32) (x1 : Int32) (x2 : Int32) (x3 : Int32) (x4 : Int32) (Q : Int32 → Int32 → (Nat → Int32) → Prop), R0 x1 x2 x3 x4 V_kind V_number V_m V_begun_size V_begun_items Q → Met l yX6_of (wc yX6_of cX6_of 6 (some .int)) (rm_X6_of d) (va_Pc [.ref a_V, .int x1, .int x2, .int x3, .int x4] (PB G (cs_X6_of G a_V a_V_begun a_V_begun_items V_kind V_number V_m V_begun_size V_begun_items) sz)) (qc_X6_of G a_V a_V_begun a_V_begun_items V_kind V_number V_m (va_A (cs_X6_of G a_V a_V_begun a_V_begun_items V_kind V_number V_m V_begun_size V_begun_items) sz) Q) 0 0 (va_A (cs_X6_of G a_V a_V_begun a_V_begun_items V_kind V_number V_m V_begun_size V_begun_items) sz)) (R1 : Int32 → Int32 → Int32 → Int32 → Int32 → Int32 → Int32 → (Nat → Int32) → (Int32 → Int32 → (Nat → Int32) → Prop) → Prop) (hR1 : ∀ (a_V : Nat) (a_V_begun : Nat) (a_V_begun_items : Nat) (sz : Nat) (V_kind : Int32) (V_number : Int32) (V_m : Int32) (V_begun_size : Int32) (V_begun_items : Nat → Int32) (x1 : Int32) (x2 : Int32) (x3 : Int32) (Q : Int32 → Int32 → (Nat → Int32) → Prop), R1 x1 x2 x3 V_kind V_number V_m V_begun_size V_begun_items Q → Met l yX6_own (wc yX6_own cX6_own 4 (some .int)) (rm_X6_own d) (va_Pc [.ref a_V, .int x1, .int x2, .int x3] (PB G (cs_X6_own G a_V a_V_begun a_V_begun_items V_kind V_number V_m V_begun_size V_begun_items) sz)) (qc_X6_own G a_V a_V_begun a_V_begun_items V_kind V_number V_m (va_A (cs_X6_own G a_V a_V_begun a_V_begun_items V_kind V_number V_m V_begun_size V_begun_items) sz) Q) 0 0 (va_A (cs_X6_own G a_V a_V_begun a_V_begun_items V_kind V_number V_m V_begun_size V_begun_items) sz)) (a_V : Nat) (a_V_begun : Nat) (a_V_begun_items : Nat) (sz : Nat) (V_kind : Int32) (V_number : Int32) (V_m : Int32) (V_begun_size : Int32) (V_begun_items : Nat → Int32) (x1 : Int32) (x2 : Int32) (x3 : Int32) (Q : Int32 → Int32 → (Nat → Int32) → Prop) (hw : wp_X6_work R0 R1 x1 x2 x3 V_kind V_number V_m V_begun_size V_begun_items Q) : Met l yX6_work (wc yX6_work cX6_work 4 (some .int)) (rm_X6_work (d + 1)) (va_Pc [.ref a_V, .int x1, .int x2, .int x3] (PB G (cs_X6_work G a_V a_V_begun a_V_begun_items V_kind V_number V_m V_begun_size V_begun_items) sz)) (qc_X6_work G a_V a_V_begun a_V_begun_items V_kind V_number V_m (va_A (cs_X6_work G a_V a_V_begun a_V_begun_items V_kind V_number V_m V_begun_size V_begun_items) sz) Q) 0 0 (va_A (cs_X6_work G a_V a_V_begun a_V_begun_items V_kind V_number V_m V_begun_size V_begun_items) sz) := by
  refine x_start pn_X6 (Nat.le_of_ble_eq_true rfl) (fun p e s m below meth c ls C hn hl hB => ?_)
  have I := iv_start hB
  generalize va_A (cs_X6_work G a_V a_V_begun a_V_begun_items V_kind V_number V_m V_begun_size V_begun_items) sz = A at I ⊢
  have C : Cx p s m [.ref a_V, .int x1, .int x2, .int x3].toArray meth c cX6_work 4 RX6 (some .int) := C
  have hl : lv_has ls 4 [(0, .ref a_V), (1, .int x1), (2, .int x2), (3, .int x3)] := hl
  refine x_iload_n C hl 1 dX6_work_0 rfl ?_
  by_cases c1 : x1 = (10 : Int32)
  · have hw := (And.left (hw)) c1
    refine x_lookup C (off := (99)) 100 dX6_work_1 rfl (lk_in c1 rfl) (by decide) ?_
    refine x_iload_n C hl 2 dX6_work_100 rfl ?_
    refine x_aload_n C hl 0 dX6_work_101 rfl ?_
    refine x_get C I.1 fl_X6_24 0 rfl rfl dX6_work_102 ?_
    refine x_iadd C dX6_work_105 ?_
    exact x_ret1 C I (V_begun_size, V_begun_items) rfl hw dX6_work_106
  by_cases c2 : x1 = (11 : Int32)
  · have hw := (And.left (And.right (hw))) c2
    refine x_lookup C (off := (106)) 107 dX6_work_1 rfl (lk_in c2 rfl) (by decide) ?_
    refine x_aload_n C hl 0 dX6_work_107 rfl ?_
    refine x_iconst C dX6_work_108 ic_0 ?_
    refine x_iload_n C hl 2 dX6_work_109 rfl ?_
    refine x_iload_n C hl 3 dX6_work_110 rfl ?_
    refine x_mui (wk := cs_X6_own G a_V a_V_begun a_V_begun_items V_kind V_number V_m V_begun_size V_begun_items) (wr := []) (isC := [0, 1, 2]) (isR := []) I ⟨⟨rfl, rfl⟩, rfl, rfl, rfl⟩ [0, 1, 2] (fun u => cs_X6_work G a_V a_V_begun a_V_begun_items V_kind V_number V_m u.1 u.2) (fun _ => rfl) rfl (run_V (As := [.int (0 : Int32), .int x2, .int x3]) (rest := []) C hl (hR1 a_V a_V_begun a_V_begun_items s.heap.size V_kind V_number V_m V_begun_size V_begun_items (0 : Int32) x2 x3 _ hw) gm_X6_33 ⟨⟨rfl, rfl⟩, cn_X6_own, ⟨(by show (3 + d * 5) + 1 ≤ 0 + (d + 1) * 5; omega), (by show 8 + (4 + 11) + (70 + d * 94) ≤ 0 + (d + 1) * 94; omega)⟩⟩ (pb_blind _ _ _ _) (x_recv I.1 0 rfl rfl) (pb_of I [0, 1, 2] rfl rfl) rfl rfl (Nat.le_of_ble_eq_true rfl) ⟨Nat.le_of_ble_eq_true rfl, Nat.le_of_ble_eq_true rfl⟩ dX6_work_111) (fun r5 u Hx lx hw I => ?_)
    obtain ⟨o3, o4⟩ := u
    have I : Iv G A s (cs_X6_work G a_V a_V_begun a_V_begun_items V_kind V_number V_m o3 o4) Hx lx := I
    refine x_iconst C dX6_work_114 ic_2 ?_
    refine x_imul C dX6_work_115 ?_
    exact x_ret1 C I (o3, o4) rfl hw dX6_work_116
  by_cases c6 : x1 = (12 : Int32)
  · have hw := (And.left (And.right (And.right (hw)))) c6
    refine x_lookup C (off := (116)) 117 dX6_work_1 rfl (lk_in c6 rfl) (by decide) ?_
    refine x_iload_n C hl 2 dX6_work_117 rfl ?_
    refine x_aload_n C hl 0 dX6_work_118 rfl ?_
    refine x_get C I.1 fl_X6_27 0 rfl rfl dX6_work_119 ?_
    refine x_isub C dX6_work_122 ?_
    exact x_ret1 C I (V_begun_size, V_begun_items) rfl hw dX6_work_123
  by_cases c7 : x1 = (13 : Int32)
  · have hw := (And.left (And.right (And.right (And.right (hw))))) c7
    refine x_lookup C (off := (123)) 124 dX6_work_1 rfl (lk_in c7 rfl) (by decide) ?_
    refine x_aload_n C hl 0 dX6_work_124 rfl ?_
    refine x_iconst C dX6_work_125 ic_1 ?_
    refine x_iload_n C hl 2 dX6_work_126 rfl ?_
    refine x_iload_n C hl 3 dX6_work_127 rfl ?_
    refine x_mui (wk := cs_X6_own G a_V a_V_begun a_V_begun_items V_kind V_number V_m V_begun_size V_begun_items) (wr := []) (isC := [0, 1, 2]) (isR := []) I ⟨⟨rfl, rfl⟩, rfl, rfl, rfl⟩ [0, 1, 2] (fun u => cs_X6_work G a_V a_V_begun a_V_begun_items V_kind V_number V_m u.1 u.2) (fun _ => rfl) rfl (run_V (As := [.int (1 : Int32), .int x2, .int x3]) (rest := []) C hl (hR1 a_V a_V_begun a_V_begun_items s.heap.size V_kind V_number V_m V_begun_size V_begun_items (1 : Int32) x2 x3 _ hw) gm_X6_33 ⟨⟨rfl, rfl⟩, cn_X6_own, ⟨(by show (3 + d * 5) + 1 ≤ 0 + (d + 1) * 5; omega), (by show 8 + (4 + 11) + (70 + d * 94) ≤ 0 + (d + 1) * 94; omega)⟩⟩ (pb_blind _ _ _ _) (x_recv I.1 0 rfl rfl) (pb_of I [0, 1, 2] rfl rfl) rfl rfl (Nat.le_of_ble_eq_true rfl) ⟨Nat.le_of_ble_eq_true rfl, Nat.le_of_ble_eq_true rfl⟩ dX6_work_128) (fun r10 u Hx lx hw I => ?_)
    obtain ⟨o8, o9⟩ := u
    have I : Iv G A s (cs_X6_work G a_V a_V_begun a_V_begun_items V_kind V_number V_m o8 o9) Hx lx := I
    refine x_aload_n C hl 0 dX6_work_131 rfl ?_
    refine x_iconst C dX6_work_132 ic_2 ?_
    refine x_iload_n C hl 2 dX6_work_133 rfl ?_
    refine x_iload_n C hl 3 dX6_work_134 rfl ?_
    refine x_mui (wk := cs_X6_own G a_V a_V_begun a_V_begun_items V_kind V_number V_m o8 o9) (wr := []) (isC := [0, 1, 2]) (isR := []) I ⟨⟨rfl, rfl⟩, rfl, rfl, rfl⟩ [0, 1, 2] (fun u => cs_X6_work G a_V a_V_begun a_V_begun_items V_kind V_number V_m u.1 u.2) (fun _ => rfl) rfl (run_V (As := [.int (2 : Int32), .int x2, .int x3]) (rest := [.int r10]) C hl (hR1 a_V a_V_begun a_V_begun_items Hx.size V_kind V_number V_m o8 o9 (2 : Int32) x2 x3 _ hw) gm_X6_33 ⟨⟨rfl, rfl⟩, cn_X6_own, ⟨(by show (3 + d * 5) + 1 ≤ 0 + (d + 1) * 5; omega), (by show 8 + (4 + 11) + (70 + d * 94) ≤ 0 + (d + 1) * 94; omega)⟩⟩ (pb_blind _ _ _ _) (x_recv I.1 0 rfl rfl) (pb_of I [0, 1, 2] rfl rfl) rfl rfl (Nat.le_of_ble_eq_true rfl) ⟨Nat.le_of_ble_eq_true rfl, Nat.le_of_ble_eq_true rfl⟩ dX6_work_135) (fun r13 u Hx lx hw I => ?_)
    obtain ⟨o11, o12⟩ := u
    have I : Iv G A s (cs_X6_work G a_V a_V_begun a_V_begun_items V_kind V_number V_m o11 o12) Hx lx := I
    refine x_ixor C dX6_work_138 ?_
    exact x_ret1 C I (o11, o12) rfl hw dX6_work_139
  by_cases c14 : x1 = (20 : Int32)
  · have hw := (And.left (And.right (And.right (And.right (And.right (hw)))))) c14
    refine x_lookup C (off := (139)) 140 dX6_work_1 rfl (lk_in c14 rfl) (by decide) ?_
    refine x_aload_n C hl 0 dX6_work_140 rfl ?_
    refine x_iconst C dX6_work_141 ic_0 ?_
    refine x_iconst C dX6_work_142 ic_0 ?_
    refine x_iload_n C hl 2 dX6_work_143 rfl ?_
    refine x_iload_n C hl 3 dX6_work_144 rfl ?_
    refine x_mui (wk := cs_X6_of G a_V a_V_begun a_V_begun_items V_kind V_number V_m V_begun_size V_begun_items) (wr := []) (isC := [0, 1, 2]) (isR := []) I ⟨⟨rfl, rfl⟩, rfl, rfl, rfl⟩ [0, 1, 2] (fun u => cs_X6_work G a_V a_V_begun a_V_begun_items V_kind V_number V_m u.1 u.2) (fun _ => rfl) rfl (run_V (As := [.int (0 : Int32), .int (0 : Int32), .int x2, .int x3]) (rest := []) C hl (hR0 a_V a_V_begun a_V_begun_items s.heap.size V_kind V_number V_m V_begun_size V_begun_items (0 : Int32) (0 : Int32) x2 x3 _ hw) gm_X6_37 ⟨⟨rfl, rfl⟩, cn_X6_of, ⟨(by show (2 + d * 5) + 1 ≤ 0 + (d + 1) * 5; omega), (by show 8 + (6 + 11) + (45 + d * 94) ≤ 0 + (d + 1) * 94; omega)⟩⟩ (pb_blind _ _ _ _) (x_recv I.1 0 rfl rfl) (pb_of I [0, 1, 2] rfl rfl) rfl rfl (Nat.le_of_ble_eq_true rfl) ⟨Nat.le_of_ble_eq_true rfl, Nat.le_of_ble_eq_true rfl⟩ dX6_work_145) (fun r17 u Hx lx hw I => ?_)
    obtain ⟨o15, o16⟩ := u
    have I : Iv G A s (cs_X6_work G a_V a_V_begun a_V_begun_items V_kind V_number V_m o15 o16) Hx lx := I
    refine x_iconst C dX6_work_148 ic_3 ?_
    refine x_imul C dX6_work_149 ?_
    exact x_ret1 C I (o15, o16) rfl hw dX6_work_150
  by_cases c18 : x1 = (30 : Int32)
  · have hw := (And.left (And.right (And.right (And.right (And.right (And.right (hw))))))) c18
    refine x_lookup C (off := (150)) 151 dX6_work_1 rfl (lk_in c18 rfl) (by decide) ?_
    refine x_aload_n C hl 0 dX6_work_151 rfl ?_
    refine x_iconst C dX6_work_152 ic_0 ?_
    refine x_iconst C dX6_work_153 ic_1 ?_
    refine x_iload_n C hl 2 dX6_work_154 rfl ?_
    refine x_iload_n C hl 3 dX6_work_155 rfl ?_
    refine x_mui (wk := cs_X6_of G a_V a_V_begun a_V_begun_items V_kind V_number V_m V_begun_size V_begun_items) (wr := []) (isC := [0, 1, 2]) (isR := []) I ⟨⟨rfl, rfl⟩, rfl, rfl, rfl⟩ [0, 1, 2] (fun u => cs_X6_work G a_V a_V_begun a_V_begun_items V_kind V_number V_m u.1 u.2) (fun _ => rfl) rfl (run_V (As := [.int (0 : Int32), .int (1 : Int32), .int x2, .int x3]) (rest := []) C hl (hR0 a_V a_V_begun a_V_begun_items s.heap.size V_kind V_number V_m V_begun_size V_begun_items (0 : Int32) (1 : Int32) x2 x3 _ hw) gm_X6_37 ⟨⟨rfl, rfl⟩, cn_X6_of, ⟨(by show (2 + d * 5) + 1 ≤ 0 + (d + 1) * 5; omega), (by show 8 + (6 + 11) + (45 + d * 94) ≤ 0 + (d + 1) * 94; omega)⟩⟩ (pb_blind _ _ _ _) (x_recv I.1 0 rfl rfl) (pb_of I [0, 1, 2] rfl rfl) rfl rfl (Nat.le_of_ble_eq_true rfl) ⟨Nat.le_of_ble_eq_true rfl, Nat.le_of_ble_eq_true rfl⟩ dX6_work_156) (fun r21 u Hx lx hw I => ?_)
    obtain ⟨o19, o20⟩ := u
    have I : Iv G A s (cs_X6_work G a_V a_V_begun a_V_begun_items V_kind V_number V_m o19 o20) Hx lx := I
    refine x_aload_n C hl 0 dX6_work_159 rfl ?_
    refine x_iconst C dX6_work_160 ic_2 ?_
    refine x_iconst C dX6_work_161 ic_1 ?_
    refine x_iload_n C hl 3 dX6_work_162 rfl ?_
    refine x_mui (wk := cs_X6_own G a_V a_V_begun a_V_begun_items V_kind V_number V_m o19 o20) (wr := []) (isC := [0, 1, 2]) (isR := []) I ⟨⟨rfl, rfl⟩, rfl, rfl, rfl⟩ [0, 1, 2] (fun u => cs_X6_work G a_V a_V_begun a_V_begun_items V_kind V_number V_m u.1 u.2) (fun _ => rfl) rfl (run_V (As := [.int (2 : Int32), .int (1 : Int32), .int x3]) (rest := [.int r21]) C hl (hR1 a_V a_V_begun a_V_begun_items Hx.size V_kind V_number V_m o19 o20 (2 : Int32) (1 : Int32) x3 _ hw) gm_X6_33 ⟨⟨rfl, rfl⟩, cn_X6_own, ⟨(by show (3 + d * 5) + 1 ≤ 0 + (d + 1) * 5; omega), (by show 8 + (4 + 11) + (70 + d * 94) ≤ 0 + (d + 1) * 94; omega)⟩⟩ (pb_blind _ _ _ _) (x_recv I.1 0 rfl rfl) (pb_of I [0, 1, 2] rfl rfl) rfl rfl (Nat.le_of_ble_eq_true rfl) ⟨Nat.le_of_ble_eq_true rfl, Nat.le_of_ble_eq_true rfl⟩ dX6_work_163) (fun r24 u Hx lx hw I => ?_)
    obtain ⟨o22, o23⟩ := u
    have I : Iv G A s (cs_X6_work G a_V a_V_begun a_V_begun_items V_kind V_number V_m o22 o23) Hx lx := I
    refine x_isub C dX6_work_166 ?_
    exact x_ret1 C I (o22, o23) rfl hw dX6_work_167
  by_cases c25 : x1 = (40 : Int32)
  · have hw := (And.left (And.right (And.right (And.right (And.right (And.right (And.right (hw)))))))) c25
    refine x_lookup C (off := (167)) 168 dX6_work_1 rfl (lk_in c25 rfl) (by decide) ?_
    refine x_aload_n C hl 0 dX6_work_168 rfl ?_
    refine x_iconst C dX6_work_169 ic_0 ?_
    refine x_iconst C dX6_work_170 ic_2 ?_
    refine x_iload_n C hl 2 dX6_work_171 rfl ?_
    refine x_iload_n C hl 3 dX6_work_172 rfl ?_
    refine x_mui (wk := cs_X6_of G a_V a_V_begun a_V_begun_items V_kind V_number V_m V_begun_size V_begun_items) (wr := []) (isC := [0, 1, 2]) (isR := []) I ⟨⟨rfl, rfl⟩, rfl, rfl, rfl⟩ [0, 1, 2] (fun u => cs_X6_work G a_V a_V_begun a_V_begun_items V_kind V_number V_m u.1 u.2) (fun _ => rfl) rfl (run_V (As := [.int (0 : Int32), .int (2 : Int32), .int x2, .int x3]) (rest := []) C hl (hR0 a_V a_V_begun a_V_begun_items s.heap.size V_kind V_number V_m V_begun_size V_begun_items (0 : Int32) (2 : Int32) x2 x3 _ hw) gm_X6_37 ⟨⟨rfl, rfl⟩, cn_X6_of, ⟨(by show (2 + d * 5) + 1 ≤ 0 + (d + 1) * 5; omega), (by show 8 + (6 + 11) + (45 + d * 94) ≤ 0 + (d + 1) * 94; omega)⟩⟩ (pb_blind _ _ _ _) (x_recv I.1 0 rfl rfl) (pb_of I [0, 1, 2] rfl rfl) rfl rfl (Nat.le_of_ble_eq_true rfl) ⟨Nat.le_of_ble_eq_true rfl, Nat.le_of_ble_eq_true rfl⟩ dX6_work_173) (fun r28 u Hx lx hw I => ?_)
    obtain ⟨o26, o27⟩ := u
    have I : Iv G A s (cs_X6_work G a_V a_V_begun a_V_begun_items V_kind V_number V_m o26 o27) Hx lx := I
    refine x_ineg C dX6_work_176 ?_
    exact x_ret1 C I (o26, o27) rfl hw dX6_work_177
  by_cases c29 : x1 = (50 : Int32)
  · have hw := (And.left (And.right (And.right (And.right (And.right (And.right (And.right (And.right (hw))))))))) c29
    refine x_lookup C (off := (177)) 178 dX6_work_1 rfl (lk_in c29 rfl) (by decide) ?_
    refine x_aload_n C hl 0 dX6_work_178 rfl ?_
    refine x_iconst C dX6_work_179 ic_1 ?_
    refine x_iconst C dX6_work_180 ic_3 ?_
    refine x_iload_n C hl 2 dX6_work_181 rfl ?_
    refine x_iload_n C hl 3 dX6_work_182 rfl ?_
    refine x_mui (wk := cs_X6_of G a_V a_V_begun a_V_begun_items V_kind V_number V_m V_begun_size V_begun_items) (wr := []) (isC := [0, 1, 2]) (isR := []) I ⟨⟨rfl, rfl⟩, rfl, rfl, rfl⟩ [0, 1, 2] (fun u => cs_X6_work G a_V a_V_begun a_V_begun_items V_kind V_number V_m u.1 u.2) (fun _ => rfl) rfl (run_V (As := [.int (1 : Int32), .int (3 : Int32), .int x2, .int x3]) (rest := []) C hl (hR0 a_V a_V_begun a_V_begun_items s.heap.size V_kind V_number V_m V_begun_size V_begun_items (1 : Int32) (3 : Int32) x2 x3 _ hw) gm_X6_37 ⟨⟨rfl, rfl⟩, cn_X6_of, ⟨(by show (2 + d * 5) + 1 ≤ 0 + (d + 1) * 5; omega), (by show 8 + (6 + 11) + (45 + d * 94) ≤ 0 + (d + 1) * 94; omega)⟩⟩ (pb_blind _ _ _ _) (x_recv I.1 0 rfl rfl) (pb_of I [0, 1, 2] rfl rfl) rfl rfl (Nat.le_of_ble_eq_true rfl) ⟨Nat.le_of_ble_eq_true rfl, Nat.le_of_ble_eq_true rfl⟩ dX6_work_183) (fun r32 u Hx lx hw I => ?_)
    obtain ⟨o30, o31⟩ := u
    have I : Iv G A s (cs_X6_work G a_V a_V_begun a_V_begun_items V_kind V_number V_m o30 o31) Hx lx := I
    refine x_aload_n C hl 0 dX6_work_186 rfl ?_
    refine x_iconst C dX6_work_187 ic_0 ?_
    refine x_iconst C dX6_work_188 ic_2 ?_
    refine x_iload_n C hl 3 dX6_work_189 rfl ?_
    refine x_mui (wk := cs_X6_own G a_V a_V_begun a_V_begun_items V_kind V_number V_m o30 o31) (wr := []) (isC := [0, 1, 2]) (isR := []) I ⟨⟨rfl, rfl⟩, rfl, rfl, rfl⟩ [0, 1, 2] (fun u => cs_X6_work G a_V a_V_begun a_V_begun_items V_kind V_number V_m u.1 u.2) (fun _ => rfl) rfl (run_V (As := [.int (0 : Int32), .int (2 : Int32), .int x3]) (rest := [.int r32]) C hl (hR1 a_V a_V_begun a_V_begun_items Hx.size V_kind V_number V_m o30 o31 (0 : Int32) (2 : Int32) x3 _ hw) gm_X6_33 ⟨⟨rfl, rfl⟩, cn_X6_own, ⟨(by show (3 + d * 5) + 1 ≤ 0 + (d + 1) * 5; omega), (by show 8 + (4 + 11) + (70 + d * 94) ≤ 0 + (d + 1) * 94; omega)⟩⟩ (pb_blind _ _ _ _) (x_recv I.1 0 rfl rfl) (pb_of I [0, 1, 2] rfl rfl) rfl rfl (Nat.le_of_ble_eq_true rfl) ⟨Nat.le_of_ble_eq_true rfl, Nat.le_of_ble_eq_true rfl⟩ dX6_work_190) (fun r35 u Hx lx hw I => ?_)
    obtain ⟨o33, o34⟩ := u
    have I : Iv G A s (cs_X6_work G a_V a_V_begun a_V_begun_items V_kind V_number V_m o33 o34) Hx lx := I
    refine x_isub C dX6_work_193 ?_
    exact x_ret1 C I (o33, o34) rfl hw dX6_work_194
  by_cases c36 : x1 = (60 : Int32)
  · have hw := (And.left (And.right (And.right (And.right (And.right (And.right (And.right (And.right (And.right (hw)))))))))) c36
    refine x_lookup C (off := (194)) 195 dX6_work_1 rfl (lk_in c36 rfl) (by decide) ?_
    refine x_aload_n C hl 0 dX6_work_195 rfl ?_
    refine x_iconst C dX6_work_196 ic_2 ?_
    refine x_iconst C dX6_work_197 ic_1 ?_
    refine x_iload_n C hl 2 dX6_work_198 rfl ?_
    refine x_iconst C dX6_work_199 ic_1 ?_
    refine x_iadd C dX6_work_200 ?_
    refine x_iload_n C hl 3 dX6_work_201 rfl ?_
    refine x_mui (wk := cs_X6_of G a_V a_V_begun a_V_begun_items V_kind V_number V_m V_begun_size V_begun_items) (wr := []) (isC := [0, 1, 2]) (isR := []) I ⟨⟨rfl, rfl⟩, rfl, rfl, rfl⟩ [0, 1, 2] (fun u => cs_X6_work G a_V a_V_begun a_V_begun_items V_kind V_number V_m u.1 u.2) (fun _ => rfl) rfl (run_V (As := [.int (2 : Int32), .int (1 : Int32), .int (x2 + (1 : Int32)), .int x3]) (rest := []) C hl (hR0 a_V a_V_begun a_V_begun_items s.heap.size V_kind V_number V_m V_begun_size V_begun_items (2 : Int32) (1 : Int32) (x2 + (1 : Int32)) x3 _ hw) gm_X6_37 ⟨⟨rfl, rfl⟩, cn_X6_of, ⟨(by show (2 + d * 5) + 1 ≤ 0 + (d + 1) * 5; omega), (by show 8 + (6 + 11) + (45 + d * 94) ≤ 0 + (d + 1) * 94; omega)⟩⟩ (pb_blind _ _ _ _) (x_recv I.1 0 rfl rfl) (pb_of I [0, 1, 2] rfl rfl) rfl rfl (Nat.le_of_ble_eq_true rfl) ⟨Nat.le_of_ble_eq_true rfl, Nat.le_of_ble_eq_true rfl⟩ dX6_work_202) (fun r39 u Hx lx hw I => ?_)
    obtain ⟨o37, o38⟩ := u
    have I : Iv G A s (cs_X6_work G a_V a_V_begun a_V_begun_items V_kind V_number V_m o37 o38) Hx lx := I
    exact x_ret1 C I (o37, o38) rfl hw dX6_work_205
  by_cases c40 : x1 = (70 : Int32)
  · have hw := (And.left (And.right (And.right (And.right (And.right (And.right (And.right (And.right (And.right (And.right (hw))))))))))) c40
    refine x_lookup C (off := (205)) 206 dX6_work_1 rfl (lk_in c40 rfl) (by decide) ?_
    refine x_aload_n C hl 0 dX6_work_206 rfl ?_
    refine x_iconst C dX6_work_207 ic_3 ?_
    refine x_iconst C dX6_work_208 ic_2 ?_
    refine x_iload_n C hl 2 dX6_work_209 rfl ?_
    refine x_iload_n C hl 3 dX6_work_210 rfl ?_
    refine x_mui (wk := cs_X6_of G a_V a_V_begun a_V_begun_items V_kind V_number V_m V_begun_size V_begun_items) (wr := []) (isC := [0, 1, 2]) (isR := []) I ⟨⟨rfl, rfl⟩, rfl, rfl, rfl⟩ [0, 1, 2] (fun u => cs_X6_work G a_V a_V_begun a_V_begun_items V_kind V_number V_m u.1 u.2) (fun _ => rfl) rfl (run_V (As := [.int (3 : Int32), .int (2 : Int32), .int x2, .int x3]) (rest := []) C hl (hR0 a_V a_V_begun a_V_begun_items s.heap.size V_kind V_number V_m V_begun_size V_begun_items (3 : Int32) (2 : Int32) x2 x3 _ hw) gm_X6_37 ⟨⟨rfl, rfl⟩, cn_X6_of, ⟨(by show (2 + d * 5) + 1 ≤ 0 + (d + 1) * 5; omega), (by show 8 + (6 + 11) + (45 + d * 94) ≤ 0 + (d + 1) * 94; omega)⟩⟩ (pb_blind _ _ _ _) (x_recv I.1 0 rfl rfl) (pb_of I [0, 1, 2] rfl rfl) rfl rfl (Nat.le_of_ble_eq_true rfl) ⟨Nat.le_of_ble_eq_true rfl, Nat.le_of_ble_eq_true rfl⟩ dX6_work_211) (fun r43 u Hx lx hw I => ?_)
    obtain ⟨o41, o42⟩ := u
    have I : Iv G A s (cs_X6_work G a_V a_V_begun a_V_begun_items V_kind V_number V_m o41 o42) Hx lx := I
    refine x_aload_n C hl 0 dX6_work_214 rfl ?_
    refine x_get C I.1 fl_X6_24 0 rfl rfl dX6_work_215 ?_
    refine x_ixor C dX6_work_218 ?_
    exact x_ret1 C I (o41, o42) rfl hw dX6_work_219
  by_cases c44 : x1 = (71 : Int32)
  · have hw := (And.left (And.right (And.right (And.right (And.right (And.right (And.right (And.right (And.right (And.right (And.right (hw)))))))))))) c44
    refine x_lookup C (off := (219)) 220 dX6_work_1 rfl (lk_in c44 rfl) (by decide) ?_
    refine x_aload_n C hl 0 dX6_work_220 rfl ?_
    refine x_iconst C dX6_work_221 ic_1 ?_
    refine x_iload_n C hl 2 dX6_work_222 rfl ?_
    refine x_iload_n C hl 3 dX6_work_223 rfl ?_
    refine x_mui (wk := cs_X6_own G a_V a_V_begun a_V_begun_items V_kind V_number V_m V_begun_size V_begun_items) (wr := []) (isC := [0, 1, 2]) (isR := []) I ⟨⟨rfl, rfl⟩, rfl, rfl, rfl⟩ [0, 1, 2] (fun u => cs_X6_work G a_V a_V_begun a_V_begun_items V_kind V_number V_m u.1 u.2) (fun _ => rfl) rfl (run_V (As := [.int (1 : Int32), .int x2, .int x3]) (rest := []) C hl (hR1 a_V a_V_begun a_V_begun_items s.heap.size V_kind V_number V_m V_begun_size V_begun_items (1 : Int32) x2 x3 _ hw) gm_X6_33 ⟨⟨rfl, rfl⟩, cn_X6_own, ⟨(by show (3 + d * 5) + 1 ≤ 0 + (d + 1) * 5; omega), (by show 8 + (4 + 11) + (70 + d * 94) ≤ 0 + (d + 1) * 94; omega)⟩⟩ (pb_blind _ _ _ _) (x_recv I.1 0 rfl rfl) (pb_of I [0, 1, 2] rfl rfl) rfl rfl (Nat.le_of_ble_eq_true rfl) ⟨Nat.le_of_ble_eq_true rfl, Nat.le_of_ble_eq_true rfl⟩ dX6_work_224) (fun r47 u Hx lx hw I => ?_)
    obtain ⟨o45, o46⟩ := u
    have I : Iv G A s (cs_X6_work G a_V a_V_begun a_V_begun_items V_kind V_number V_m o45 o46) Hx lx := I
    refine x_aload_n C hl 0 dX6_work_227 rfl ?_
    refine x_iconst C dX6_work_228 ic_3 ?_
    refine x_iconst C dX6_work_229 ic_3 ?_
    refine x_iload_n C hl 2 dX6_work_230 rfl ?_
    refine x_iload_n C hl 3 dX6_work_231 rfl ?_
    refine x_mui (wk := cs_X6_of G a_V a_V_begun a_V_begun_items V_kind V_number V_m o45 o46) (wr := []) (isC := [0, 1, 2]) (isR := []) I ⟨⟨rfl, rfl⟩, rfl, rfl, rfl⟩ [0, 1, 2] (fun u => cs_X6_work G a_V a_V_begun a_V_begun_items V_kind V_number V_m u.1 u.2) (fun _ => rfl) rfl (run_V (As := [.int (3 : Int32), .int (3 : Int32), .int x2, .int x3]) (rest := [.int r47]) C hl (hR0 a_V a_V_begun a_V_begun_items Hx.size V_kind V_number V_m o45 o46 (3 : Int32) (3 : Int32) x2 x3 _ hw) gm_X6_37 ⟨⟨rfl, rfl⟩, cn_X6_of, ⟨(by show (2 + d * 5) + 1 ≤ 0 + (d + 1) * 5; omega), (by show 8 + (6 + 11) + (45 + d * 94) ≤ 0 + (d + 1) * 94; omega)⟩⟩ (pb_blind _ _ _ _) (x_recv I.1 0 rfl rfl) (pb_of I [0, 1, 2] rfl rfl) rfl rfl (Nat.le_of_ble_eq_true rfl) ⟨Nat.le_of_ble_eq_true rfl, Nat.le_of_ble_eq_true rfl⟩ dX6_work_232) (fun r50 u Hx lx hw I => ?_)
    obtain ⟨o48, o49⟩ := u
    have I : Iv G A s (cs_X6_work G a_V a_V_begun a_V_begun_items V_kind V_number V_m o48 o49) Hx lx := I
    refine x_isub C dX6_work_235 ?_
    exact x_ret1 C I (o48, o49) rfl hw dX6_work_236
  have hw := (And.right (And.right (And.right (And.right (And.right (And.right (And.right (And.right (And.right (And.right (And.right (hw)))))))))))) c1 c2 c6 c7 c14 c18 c25 c29 c36 c40 c44
  refine x_lookup C (off := (236)) 237 dX6_work_1 rfl (lk_out ⟨c1, c2, c6, c7, c14, c18, c25, c29, c36, c40, c44, trivial⟩) (by decide) ?_
  refine x_iconst C dX6_work_237 ic_0 ?_
  exact x_ret1 C I (V_begun_size, V_begun_items) rfl hw dX6_work_238
/-! X6_of -/
def wp_X6_of (R0 : Int32 → Int32 → Int32 → Int32 → Int32 → Int32 → Int32 → Int32 → (Nat → Int32) → (Int32 → Int32 → (Nat → Int32) → Prop) → Prop) (R1 : Int32 → Int32 → Int32 → Int32 → Int32 → Int32 → Int32 → (Nat → Int32) → (Int32 → Int32 → (Nat → Int32) → Prop) → Prop) (x1 : Int32) (x2 : Int32) (x3 : Int32) (x4 : Int32) (V_kind : Int32) (V_number : Int32) (V_m : Int32) (V_begun_size : Int32) (V_begun_items : Nat → Int32) (Q : Int32 → Int32 → (Nat → Int32) → Prop) : Prop := (wp_X6_bodyOf x1 x2 (fun r1 => (((40 : Int32) ≤ x4 → (Q (0 : Int32) V_begun_size V_begun_items)) ∧ (¬ (40 : Int32) ≤ x4 → ((¬ r1 = (0) → (wp_X4_add r1 40 V_begun_size V_begun_items (fun o4 o5 => (wp_X6_work R0 R1 r1 x3 (x4 + (1 : Int32)) V_kind V_number V_m o4 o5 (fun r8 o6 o7 => (Q r8 o6 o7)))))) ∧ (r1 = (0) → (Q (0 : Int32) V_begun_size V_begun_items)))))))
set_option maxHeartbeats 4000000 in
set_option maxRecDepth 100000 in
theorem wk_X6_of (l : Launch) (G : Gt) (d : Nat) (R0 : Int32 → Int32 → Int32 → Int32 → Int32 → Int32 → Int32 → Int32 → (Nat → Int32) → (Int32 → Int32 → (Nat → Int32) → Prop) → Prop) (hR0 : ∀ (a_V : Nat) (a_V_begun : Nat) (a_V_begun_items : Nat) (sz : Nat) (V_kind : Int32) (V_number : Int32) (V_m : Int32) (V_begun_size : Int32) (V_begun_items : Nat → Int32) (x1 : Int32) (x2 : Int32) (x3 : Int32) (x4 : Int32) (Q : Int32 → Int32 → (Nat → Int32) → Prop), R0 x1 x2 x3 x4 V_kind V_number V_m V_begun_size V_begun_items Q → Met l yX6_of (wc yX6_of cX6_of 6 (some .int)) (rm_X6_of d) (va_Pc [.ref a_V, .int x1, .int x2, .int x3, .int x4] (PB G (cs_X6_of G a_V a_V_begun a_V_begun_items V_kind V_number V_m V_begun_size V_begun_items) sz)) (qc_X6_of G a_V a_V_begun a_V_begun_items V_kind V_number V_m (va_A (cs_X6_of G a_V a_V_begun a_V_begun_items V_kind V_number V_m V_begun_size V_begun_items) sz) Q) 0 0 (va_A (cs_X6_of G a_V a_V_begun a_V_begun_items V_kind V_number V_m V_begun_size V_begun_items) sz)) (R1 : Int32 → Int32 → Int32 → Int32 → Int32 → Int32 → Int32 → (Nat → Int32) → (Int32 → Int32 → (Nat → Int32) → Prop) → Prop) (hR1 : ∀ (a_V : Nat) (a_V_begun : Nat) (a_V_begun_items : Nat) (sz : Nat) (V_kind : Int32) (V_number : Int32) (V_m : Int32) (V_begun_size : Int32) (V_begun_items : Nat → Int32) (x1 : Int32) (x2 : Int32) (x3 : Int32) (Q : Int32 → Int32 → (Nat → Int32) → Prop), R1 x1 x2 x3 V_kind V_number V_m V_begun_size V_begun_items Q → Met l yX6_own (wc yX6_own cX6_own 4 (some .int)) (rm_X6_own d) (va_Pc [.ref a_V, .int x1, .int x2, .int x3] (PB G (cs_X6_own G a_V a_V_begun a_V_begun_items V_kind V_number V_m V_begun_size V_begun_items) sz)) (qc_X6_own G a_V a_V_begun a_V_begun_items V_kind V_number V_m (va_A (cs_X6_own G a_V a_V_begun a_V_begun_items V_kind V_number V_m V_begun_size V_begun_items) sz) Q) 0 0 (va_A (cs_X6_own G a_V a_V_begun a_V_begun_items V_kind V_number V_m V_begun_size V_begun_items) sz)) (a_V : Nat) (a_V_begun : Nat) (a_V_begun_items : Nat) (sz : Nat) (V_kind : Int32) (V_number : Int32) (V_m : Int32) (V_begun_size : Int32) (V_begun_items : Nat → Int32) (x1 : Int32) (x2 : Int32) (x3 : Int32) (x4 : Int32) (Q : Int32 → Int32 → (Nat → Int32) → Prop) (hw : wp_X6_of R0 R1 x1 x2 x3 x4 V_kind V_number V_m V_begun_size V_begun_items Q) : Met l yX6_of (wc yX6_of cX6_of 6 (some .int)) (rm_X6_of (d + 1)) (va_Pc [.ref a_V, .int x1, .int x2, .int x3, .int x4] (PB G (cs_X6_of G a_V a_V_begun a_V_begun_items V_kind V_number V_m V_begun_size V_begun_items) sz)) (qc_X6_of G a_V a_V_begun a_V_begun_items V_kind V_number V_m (va_A (cs_X6_of G a_V a_V_begun a_V_begun_items V_kind V_number V_m V_begun_size V_begun_items) sz) Q) 0 0 (va_A (cs_X6_of G a_V a_V_begun a_V_begun_items V_kind V_number V_m V_begun_size V_begun_items) sz) := by
  refine x_start pn_X6 (Nat.le_of_ble_eq_true rfl) (fun p e s m below meth c ls C hn hl hB => ?_)
  have I := iv_start hB
  generalize va_A (cs_X6_of G a_V a_V_begun a_V_begun_items V_kind V_number V_m V_begun_size V_begun_items) sz = A at I ⊢
  have C : Cx p s m [.ref a_V, .int x1, .int x2, .int x3, .int x4].toArray meth c cX6_of 6 RX6 (some .int) := C
  have hl : lv_has ls 6 [(0, .ref a_V), (1, .int x1), (2, .int x2), (3, .int x3), (4, .int x4)] := hl
  refine x_iload_n C hl 1 dX6_of_0 rfl ?_
  refine x_iload_n C hl 2 dX6_of_1 rfl ?_
  refine x_ro (run_S (As := [.int x1, .int x2]) (rest := []) C hl (wk_X6_bodyOf l G x1 x2 _ hw) gm_X6_41 ⟨⟨rfl, rfl⟩, cn_X6_bodyOf, ⟨(by show 1 + 1 ≤ 2 + (d + 1) * 5; omega), (by show 8 + (4 + 11) + 22 ≤ 45 + (d + 1) * 94; omega)⟩⟩ (pr_blind _ _ _) (pr_of I.1 [] rfl) rfl rfl (Nat.le_of_ble_eq_true rfl) ⟨Nat.le_of_ble_eq_true rfl, Nat.le_of_ble_eq_true rfl⟩ dX6_of_2) (fun r1 hw => ?_)
  refine x_istore C hl [(5, .int r1), (0, .ref a_V), (1, .int x1), (2, .int x2), (3, .int x3), (4, .int x4)] dX6_of_5 (Nat.le_of_ble_eq_true rfl) rfl (fun ls hl => ?_)
  refine x_iload C hl 5 dX6_of_7 rfl ?_
  refine x_bipush C dX6_of_9 bp_40 ?_
  refine x_icmp_ge C 19 dX6_of_11 (by decide) (fun c2 => ?_) (fun c2 => ?_)
  · have hw := And.left hw c2
    refine x_iconst C dX6_of_19 ic_0 ?_
    exact x_ret1 C I (V_begun_size, V_begun_items) rfl hw dX6_of_20
  · have hw := And.right hw c2
    refine x_iload C hl 0 dX6_of_14 rfl ?_
    refine x_if_ne C 21 dX6_of_16 (by decide) (fun c3 => ?_) (fun c3 => ?_)
    · have hw := And.left hw c3
      refine x_aload_n C hl 1 dX6_of_21 rfl ?_
      refine x_get C I.1 fl_X6_14 0 rfl rfl dX6_of_22 ?_
      refine x_iload C hl 0 dX6_of_25 rfl ?_
      refine x_muv (wk := cs_X4_add G a_V_begun a_V_begun_items 40 V_begun_size V_begun_items) (wr := [(a_V, .inr (6, [.ref a_V_begun, .int V_kind, .int V_number, .int V_m]))]) (isC := [1, 2]) (isR := [0]) I ⟨⟨rfl, rfl⟩, rfl, rfl, rfl⟩ [0, 1, 2] (fun u => cs_X6_of G a_V a_V_begun a_V_begun_items V_kind V_number V_m u.1 u.2) (fun _ => rfl) rfl (run_V (As := [.int r1]) (rest := []) C hl (wk_X4_add l G a_V_begun a_V_begun_items s.heap.size 40 V_begun_size V_begun_items r1 _ hw) gm_X6_45 ⟨⟨rfl, rfl⟩, cn_X4_add, ⟨(by show 0 + 1 ≤ 2 + (d + 1) * 5; omega), (by show 8 + (2 + 11) + 0 ≤ 45 + (d + 1) * 94; omega)⟩⟩ (pb_blind _ _ _ _) (x_recv I.1 1 rfl rfl) (pb_of I [1, 2] rfl rfl) rfl rfl (Nat.le_of_ble_eq_true rfl) ⟨Nat.le_of_ble_eq_true rfl, Nat.le_of_ble_eq_true rfl⟩ dX6_of_27) (fun u Hx lx hw I => ?_)
      obtain ⟨o4, o5⟩ := u
      have I : Iv G A s (cs_X6_of G a_V a_V_begun a_V_begun_items V_kind V_number V_m o4 o5) Hx lx := I
      refine x_aload_n C hl 1 dX6_of_30 rfl ?_
      refine x_iload C hl 0 dX6_of_31 rfl ?_
      refine x_iload_n C hl 4 dX6_of_33 rfl ?_
      refine x_iload C hl 5 dX6_of_34 rfl ?_
      refine x_iconst C dX6_of_36 ic_1 ?_
      refine x_iadd C dX6_of_37 ?_
      refine x_mui (wk := cs_X6_work G a_V a_V_begun a_V_begun_items V_kind V_number V_m o4 o5) (wr := []) (isC := [0, 1, 2]) (isR := []) I ⟨⟨rfl, rfl⟩, rfl, rfl, rfl⟩ [0, 1, 2] (fun u => cs_X6_of G a_V a_V_begun a_V_begun_items V_kind V_number V_m u.1 u.2) (fun _ => rfl) rfl (run_V (As := [.int r1, .int x3, .int (x4 + (1 : Int32))]) (rest := []) C hl (wk_X6_work l G d R0 hR0 R1 hR1 a_V a_V_begun a_V_begun_items Hx.size V_kind V_number V_m o4 o5 r1 x3 (x4 + (1 : Int32)) _ hw) gm_X6_48 ⟨⟨rfl, rfl⟩, cn_X6_work, ⟨(by show (0 + (d + 1) * 5) + 1 ≤ 2 + (d + 1) * 5; omega), (by show 8 + (4 + 11) + (0 + (d + 1) * 94) ≤ 45 + (d + 1) * 94; omega)⟩⟩ (pb_blind _ _ _ _) (x_recv I.1 0 rfl rfl) (pb_of I [0, 1, 2] rfl rfl) rfl rfl (Nat.le_of_ble_eq_true rfl) ⟨Nat.le_of_ble_eq_true rfl, Nat.le_of_ble_eq_true rfl⟩ dX6_of_38) (fun r8 u Hx lx hw I => ?_)
      obtain ⟨o6, o7⟩ := u
      have I : Iv G A s (cs_X6_of G a_V a_V_begun a_V_begun_items V_kind V_number V_m o6 o7) Hx lx := I
      exact x_ret1 C I (o6, o7) rfl hw dX6_of_41
    · have hw := And.right hw c3
      refine x_iconst C dX6_of_19 ic_0 ?_
      exact x_ret1 C I (V_begun_size, V_begun_items) rfl hw dX6_of_20
/-! X6_own -/
def wp_X6_own (R0 : Int32 → Int32 → Int32 → Int32 → Int32 → Int32 → Int32 → Int32 → (Nat → Int32) → (Int32 → Int32 → (Nat → Int32) → Prop) → Prop) (R1 : Int32 → Int32 → Int32 → Int32 → Int32 → Int32 → Int32 → (Nat → Int32) → (Int32 → Int32 → (Nat → Int32) → Prop) → Prop) (x1 : Int32) (x2 : Int32) (x3 : Int32) (V_kind : Int32) (V_number : Int32) (V_m : Int32) (V_begun_size : Int32) (V_begun_items : Nat → Int32) (Q : Int32 → Int32 → (Nat → Int32) → Prop) : Prop := (wp_X6_of R0 R1 V_kind x1 x2 x3 V_kind V_number V_m V_begun_size V_begun_items (fun r3 o1 o2 => (Q r3 o1 o2)))
set_option maxHeartbeats 4000000 in
set_option maxRecDepth 100000 in
theorem wk_X6_own (l : Launch) (G : Gt) (d : Nat) (R0 : Int32 → Int32 → Int32 → Int32 → Int32 → Int32 → Int32 → Int32 → (Nat → Int32) → (Int32 → Int32 → (Nat → Int32) → Prop) → Prop) (hR0 : ∀ (a_V : Nat) (a_V_begun : Nat) (a_V_begun_items : Nat) (sz : Nat) (V_kind : Int32) (V_number : Int32) (V_m : Int32) (V_begun_size : Int32) (V_begun_items : Nat → Int32) (x1 : Int32) (x2 : Int32) (x3 : Int32) (x4 : Int32) (Q : Int32 → Int32 → (Nat → Int32) → Prop), R0 x1 x2 x3 x4 V_kind V_number V_m V_begun_size V_begun_items Q → Met l yX6_of (wc yX6_of cX6_of 6 (some .int)) (rm_X6_of d) (va_Pc [.ref a_V, .int x1, .int x2, .int x3, .int x4] (PB G (cs_X6_of G a_V a_V_begun a_V_begun_items V_kind V_number V_m V_begun_size V_begun_items) sz)) (qc_X6_of G a_V a_V_begun a_V_begun_items V_kind V_number V_m (va_A (cs_X6_of G a_V a_V_begun a_V_begun_items V_kind V_number V_m V_begun_size V_begun_items) sz) Q) 0 0 (va_A (cs_X6_of G a_V a_V_begun a_V_begun_items V_kind V_number V_m V_begun_size V_begun_items) sz)) (R1 : Int32 → Int32 → Int32 → Int32 → Int32 → Int32 → Int32 → (Nat → Int32) → (Int32 → Int32 → (Nat → Int32) → Prop) → Prop) (hR1 : ∀ (a_V : Nat) (a_V_begun : Nat) (a_V_begun_items : Nat) (sz : Nat) (V_kind : Int32) (V_number : Int32) (V_m : Int32) (V_begun_size : Int32) (V_begun_items : Nat → Int32) (x1 : Int32) (x2 : Int32) (x3 : Int32) (Q : Int32 → Int32 → (Nat → Int32) → Prop), R1 x1 x2 x3 V_kind V_number V_m V_begun_size V_begun_items Q → Met l yX6_own (wc yX6_own cX6_own 4 (some .int)) (rm_X6_own d) (va_Pc [.ref a_V, .int x1, .int x2, .int x3] (PB G (cs_X6_own G a_V a_V_begun a_V_begun_items V_kind V_number V_m V_begun_size V_begun_items) sz)) (qc_X6_own G a_V a_V_begun a_V_begun_items V_kind V_number V_m (va_A (cs_X6_own G a_V a_V_begun a_V_begun_items V_kind V_number V_m V_begun_size V_begun_items) sz) Q) 0 0 (va_A (cs_X6_own G a_V a_V_begun a_V_begun_items V_kind V_number V_m V_begun_size V_begun_items) sz)) (a_V : Nat) (a_V_begun : Nat) (a_V_begun_items : Nat) (sz : Nat) (V_kind : Int32) (V_number : Int32) (V_m : Int32) (V_begun_size : Int32) (V_begun_items : Nat → Int32) (x1 : Int32) (x2 : Int32) (x3 : Int32) (Q : Int32 → Int32 → (Nat → Int32) → Prop) (hw : wp_X6_own R0 R1 x1 x2 x3 V_kind V_number V_m V_begun_size V_begun_items Q) : Met l yX6_own (wc yX6_own cX6_own 4 (some .int)) (rm_X6_own (d + 1)) (va_Pc [.ref a_V, .int x1, .int x2, .int x3] (PB G (cs_X6_own G a_V a_V_begun a_V_begun_items V_kind V_number V_m V_begun_size V_begun_items) sz)) (qc_X6_own G a_V a_V_begun a_V_begun_items V_kind V_number V_m (va_A (cs_X6_own G a_V a_V_begun a_V_begun_items V_kind V_number V_m V_begun_size V_begun_items) sz) Q) 0 0 (va_A (cs_X6_own G a_V a_V_begun a_V_begun_items V_kind V_number V_m V_begun_size V_begun_items) sz) := by
  refine x_start pn_X6 (Nat.le_of_ble_eq_true rfl) (fun p e s m below meth c ls C hn hl hB => ?_)
  have I := iv_start hB
  generalize va_A (cs_X6_own G a_V a_V_begun a_V_begun_items V_kind V_number V_m V_begun_size V_begun_items) sz = A at I ⊢
  have C : Cx p s m [.ref a_V, .int x1, .int x2, .int x3].toArray meth c cX6_own 4 RX6 (some .int) := C
  have hl : lv_has ls 4 [(0, .ref a_V), (1, .int x1), (2, .int x2), (3, .int x3)] := hl
  refine x_aload_n C hl 0 dX6_own_0 rfl ?_
  refine x_aload_n C hl 0 dX6_own_1 rfl ?_
  refine x_get C I.1 fl_X6_20 0 rfl rfl dX6_own_2 ?_
  refine x_iload_n C hl 1 dX6_own_5 rfl ?_
  refine x_iload_n C hl 2 dX6_own_6 rfl ?_
  refine x_iload_n C hl 3 dX6_own_7 rfl ?_
  refine x_mui (wk := cs_X6_of G a_V a_V_begun a_V_begun_items V_kind V_number V_m V_begun_size V_begun_items) (wr := []) (isC := [0, 1, 2]) (isR := []) I ⟨⟨rfl, rfl⟩, rfl, rfl, rfl⟩ [0, 1, 2] (fun u => cs_X6_own G a_V a_V_begun a_V_begun_items V_kind V_number V_m u.1 u.2) (fun _ => rfl) rfl (run_V (As := [.int V_kind, .int x1, .int x2, .int x3]) (rest := []) C hl (wk_X6_of l G d R0 hR0 R1 hR1 a_V a_V_begun a_V_begun_items s.heap.size V_kind V_number V_m V_begun_size V_begun_items V_kind x1 x2 x3 _ hw) gm_X6_37 ⟨⟨rfl, rfl⟩, cn_X6_of, ⟨(by show (2 + (d + 1) * 5) + 1 ≤ 3 + (d + 1) * 5; omega), (by show 8 + (6 + 11) + (45 + (d + 1) * 94) ≤ 70 + (d + 1) * 94; omega)⟩⟩ (pb_blind _ _ _ _) (x_recv I.1 0 rfl rfl) (pb_of I [0, 1, 2] rfl rfl) rfl rfl (Nat.le_of_ble_eq_true rfl) ⟨Nat.le_of_ble_eq_true rfl, Nat.le_of_ble_eq_true rfl⟩ dX6_own_8) (fun r3 u Hx lx hw I => ?_)
  obtain ⟨o1, o2⟩ := u
  have I : Iv G A s (cs_X6_own G a_V a_V_begun a_V_begun_items V_kind V_number V_m o1 o2) Hx lx := I
  exact x_ret1 C I (o1, o2) rfl hw dX6_own_11
/-- the calls among these, by their depth -/
def rc_X6_work : Nat → (Int32 → Int32 → Int32 → Int32 → Int32 → Int32 → Int32 → Int32 → (Nat → Int32) → (Int32 → Int32 → (Nat → Int32) → Prop) → Prop) × (Int32 → Int32 → Int32 → Int32 → Int32 → Int32 → Int32 → (Nat → Int32) → (Int32 → Int32 → (Nat → Int32) → Prop) → Prop)
  | 0 => (fun x1 x2 x3 x4 V_kind V_number V_m V_begun_size V_begun_items Q => False, fun x1 x2 x3 V_kind V_number V_m V_begun_size V_begun_items Q => False)
  | d + 1 => (fun x1 x2 x3 x4 V_kind V_number V_m V_begun_size V_begun_items Q => wp_X6_of (rc_X6_work d).1 (rc_X6_work d).2 x1 x2 x3 x4 V_kind V_number V_m V_begun_size V_begun_items Q, fun x1 x2 x3 V_kind V_number V_m V_begun_size V_begun_items Q => wp_X6_own (rc_X6_work d).1 (rc_X6_work d).2 x1 x2 x3 V_kind V_number V_m V_begun_size V_begun_items Q)
theorem hrc_X6_work (l : Launch) (G : Gt) : ∀ d, (∀ (a_V : Nat) (a_V_begun : Nat) (a_V_begun_items : Nat) (sz : Nat) (V_kind : Int32) (V_number : Int32) (V_m : Int32) (V_begun_size : Int32) (V_begun_items : Nat → Int32) (x1 : Int32) (x2 : Int32) (x3 : Int32) (x4 : Int32) (Q : Int32 → Int32 → (Nat → Int32) → Prop), (rc_X6_work d).1 x1 x2 x3 x4 V_kind V_number V_m V_begun_size V_begun_items Q → Met l yX6_of (wc yX6_of cX6_of 6 (some .int)) (rm_X6_of d) (va_Pc [.ref a_V, .int x1, .int x2, .int x3, .int x4] (PB G (cs_X6_of G a_V a_V_begun a_V_begun_items V_kind V_number V_m V_begun_size V_begun_items) sz)) (qc_X6_of G a_V a_V_begun a_V_begun_items V_kind V_number V_m (va_A (cs_X6_of G a_V a_V_begun a_V_begun_items V_kind V_number V_m V_begun_size V_begun_items) sz) Q) 0 0 (va_A (cs_X6_of G a_V a_V_begun a_V_begun_items V_kind V_number V_m V_begun_size V_begun_items) sz)) ∧ (∀ (a_V : Nat) (a_V_begun : Nat) (a_V_begun_items : Nat) (sz : Nat) (V_kind : Int32) (V_number : Int32) (V_m : Int32) (V_begun_size : Int32) (V_begun_items : Nat → Int32) (x1 : Int32) (x2 : Int32) (x3 : Int32) (Q : Int32 → Int32 → (Nat → Int32) → Prop), (rc_X6_work d).2 x1 x2 x3 V_kind V_number V_m V_begun_size V_begun_items Q → Met l yX6_own (wc yX6_own cX6_own 4 (some .int)) (rm_X6_own d) (va_Pc [.ref a_V, .int x1, .int x2, .int x3] (PB G (cs_X6_own G a_V a_V_begun a_V_begun_items V_kind V_number V_m V_begun_size V_begun_items) sz)) (qc_X6_own G a_V a_V_begun a_V_begun_items V_kind V_number V_m (va_A (cs_X6_own G a_V a_V_begun a_V_begun_items V_kind V_number V_m V_begun_size V_begun_items) sz) Q) 0 0 (va_A (cs_X6_own G a_V a_V_begun a_V_begun_items V_kind V_number V_m V_begun_size V_begun_items) sz))
  | 0 => ⟨fun a_V a_V_begun a_V_begun_items sz V_kind V_number V_m V_begun_size V_begun_items x1 x2 x3 x4 Q hw => False.elim hw, fun a_V a_V_begun a_V_begun_items sz V_kind V_number V_m V_begun_size V_begun_items x1 x2 x3 Q hw => False.elim hw⟩
  | d + 1 => ⟨fun a_V a_V_begun a_V_begun_items sz V_kind V_number V_m V_begun_size V_begun_items x1 x2 x3 x4 Q hw => wk_X6_of l G d _ (hrc_X6_work l G d).1 _ (hrc_X6_work l G d).2 a_V a_V_begun a_V_begun_items sz V_kind V_number V_m V_begun_size V_begun_items x1 x2 x3 x4 Q hw, fun a_V a_V_begun a_V_begun_items sz V_kind V_number V_m V_begun_size V_begun_items x1 x2 x3 Q hw => wk_X6_own l G d _ (hrc_X6_work l G d).1 _ (hrc_X6_work l G d).2 a_V a_V_begun a_V_begun_items sz V_kind V_number V_m V_begun_size V_begun_items x1 x2 x3 Q hw⟩
