/-! the JDK's strings: length and charAt of the two literals -/
theorem cn_J0_length : yJ0_length_8abf5.cls = RJ0 ∧ yJ0_length_8abf5.cls ≠ "java/lang/invoke/MethodHandle" ∧ yJ0_length_8abf5.cls ≠ "java/lang/invoke/VarHandle" ∧ (parseMethodDescriptor yJ0_length_8abf5.desc).map (fun d => d.parameters.length) = some 0 := by decide +kernel
theorem cn_J0_coder : yJ0_coder_7d493.cls = RJ0 ∧ yJ0_coder_7d493.cls ≠ "java/lang/invoke/MethodHandle" ∧ yJ0_coder_7d493.cls ≠ "java/lang/invoke/VarHandle" ∧ (parseMethodDescriptor yJ0_coder_7d493.desc).map (fun d => d.parameters.length) = some 0 := by decide +kernel
theorem cn_J0_isLatin1 : yJ0_isLatin1_aae02.cls = RJ0 ∧ yJ0_isLatin1_aae02.cls ≠ "java/lang/invoke/MethodHandle" ∧ yJ0_isLatin1_aae02.cls ≠ "java/lang/invoke/VarHandle" ∧ (parseMethodDescriptor yJ0_isLatin1_aae02.desc).map (fun d => d.parameters.length) = some 0 := by decide +kernel
theorem cn_J0_charAt : yJ0_charAt_5068e.cls = RJ0 ∧ yJ0_charAt_5068e.cls ≠ "java/lang/invoke/MethodHandle" ∧ yJ0_charAt_5068e.cls ≠ "java/lang/invoke/VarHandle" ∧ (parseMethodDescriptor yJ0_charAt_5068e.desc).map (fun d => d.parameters.length) = some 1 := by decide +kernel
theorem cn_J1_charAt : yJ1_charAt_3b067.cls = RJ1 ∧ yJ1_charAt_3b067.cls ≠ "java/lang/invoke/MethodHandle" ∧ yJ1_charAt_3b067.cls ≠ "java/lang/invoke/VarHandle" ∧ (parseMethodDescriptor yJ1_charAt_3b067.desc).map (fun d => d.parameters.length) = some 2 := by decide +kernel
theorem cn_J0_checkIndex : yJ0_checkIndex_df160.cls = RJ0 ∧ yJ0_checkIndex_df160.cls ≠ "java/lang/invoke/MethodHandle" ∧ yJ0_checkIndex_df160.cls ≠ "java/lang/invoke/VarHandle" ∧ (parseMethodDescriptor yJ0_checkIndex_df160.desc).map (fun d => d.parameters.length) = some 2 := by decide +kernel
theorem cn_J3_checkIndex : yJ3_checkIndex_8e157.cls = RJ3 ∧ yJ3_checkIndex_8e157.cls ≠ "java/lang/invoke/MethodHandle" ∧ yJ3_checkIndex_8e157.cls ≠ "java/lang/invoke/VarHandle" ∧ (parseMethodDescriptor yJ3_checkIndex_8e157.desc).map (fun d => d.parameters.length) = some 3 := by decide +kernel
theorem pn_J0 : plainName RJ0 = true := by decide +kernel
theorem pn_J1 : plainName RJ1 = true := by decide +kernel
theorem pn_J3 : plainName RJ3 = true := by decide +kernel
abbrev rmJ (f w : Nat) : Room := { frames := f, cells := 0, slots := 0, locals := w }
theorem x_ret0t {p : Program} {l : Launch} {e : Env} {R : Room} {s : State} {m : MethodId} {args : Array Value} {below : List Frame} {meth : Method} {c : Code} {cells slots : Nat} {cc : ByteArray} {nL : Nat} {own : String} {pc : Nat} {ls : Array Slot} {ty : FieldType} (C : Cx p s m args meth c cc nL own (some ty)) {post : Int32 → Prop} {v : Int32} {free : Nat → Prop} (hn : narrow ty (.int v) = .int v) (hp : post v) (hdg : decode cc pc = .ok (.ireturn, 1)) : W p l e R s m args below meth c s.heap [] cells slots (MQ below (vp_Si post) args s cells slots free) (F0 m pc ls [.int v]) :=
  W.zret C.1 C.2.1 C.2.2.2.2.2.1 hn (fun t ht _ => ⟨v, rfl, hp, ht⟩) (fun _ h => by cases h) hdg C.2.2.2.2.2.2
theorem len3 {i : Nat} (hi : i < 2) : ([3, 3] : List Nat).getD i 0 = 3 := by
  rcases (show i = 0 ∨ i = 1 by omega) with rfl | rfl <;> rfl
def chs (i k : Nat) : Int32 := (([[115, 104, 110], [102, 109, 115]] : List (List Int32)).getD i []).getD k 0
theorem chs_ok {i k : Nat} (hi : i < 2) (hk : k < 3) : ji2c (chs i k &&& 255) = chs i k ∧ narrow .char (.int (chs i k)) = .int (chs i k) := by
  rcases (show i = 0 ∨ i = 1 by omega) with rfl | rfl <;> rcases (show k = 0 ∨ k = 1 ∨ k = 2 by omega) with rfl | rfl | rfl <;> exact ⟨by decide, by rfl⟩
theorem wk_J0_coder (l : Launch) (G : Gt) {i : Nat} (hi : i < 2) : Met l yJ0_coder_7d493 (wc yJ0_coder_7d493 cJ0_coder_7d493 1 (some .byte)) (rmJ 0 0) (va_Pc [.ref (G.2.2 (6 + i))] (PR G [])) (vp_Si (fun r => r = 0)) 0 0 (fun _ => False) := by
  refine x_start pn_J0 (Nat.le_of_ble_eq_true rfl) (fun p e s m below meth c ls C hn hl hB => ?_)
  have I := rd_start hB
  have C : Cx p s m [.ref (G.2.2 (6 + i))].toArray meth c cJ0_coder_7d493 1 RJ0 (some .byte) := C
  have hl : lv_has ls 1 [(0, .ref (G.2.2 (6 + i)))] := hl
  refine va_gets C.1 C.2.1 I.2.2.2.1.2.2.2.1.1 I.2.2.1 C.2.2.2.1 (C.2.2.2.2.1 _ wd_991) (fun _ h => h) dJ0_coder_7d493_0 ?_
  refine x_if_eq C 13 dJ0_coder_7d493_3 (by decide) (fun c1 => absurd c1 (by decide)) (fun _ => ?_)
  refine x_aload_n C hl 0 dJ0_coder_7d493_6 rfl ?_
  refine vk_getf C.1 C.2.1 (I.2.2.2.1.2.2.2.1.2.1 i hi).2.1 I.2.2.1 C.2.2.2.1 (C.2.2.2.2.1 _ wd_1353) (fun _ h => h) dJ0_coder_7d493_7 ?_
  refine x_goto C 14 dJ0_coder_7d493_10 (by decide) ?_
  exact x_ret0t C (by rfl) rfl dJ0_coder_7d493_14
theorem wk_J0_isLatin1 (l : Launch) (G : Gt) {i : Nat} (hi : i < 2) : Met l yJ0_isLatin1_aae02 (wc yJ0_isLatin1_aae02 cJ0_isLatin1_aae02 1 (some .boolean)) (rmJ 0 0) (va_Pc [.ref (G.2.2 (6 + i))] (PR G [])) (vp_Si (fun r => r = 1)) 0 0 (fun _ => False) := by
  refine x_start pn_J0 (Nat.le_of_ble_eq_true rfl) (fun p e s m below meth c ls C hn hl hB => ?_)
  have I := rd_start hB
  have C : Cx p s m [.ref (G.2.2 (6 + i))].toArray meth c cJ0_isLatin1_aae02 1 RJ0 (some .boolean) := C
  have hl : lv_has ls 1 [(0, .ref (G.2.2 (6 + i)))] := hl
  refine va_gets C.1 C.2.1 I.2.2.2.1.2.2.2.1.1 I.2.2.1 C.2.2.2.1 (C.2.2.2.2.1 _ wd_991) (fun _ h => h) dJ0_isLatin1_aae02_0 ?_
  refine x_if_eq C 17 dJ0_isLatin1_aae02_3 (by decide) (fun c1 => absurd c1 (by decide)) (fun _ => ?_)
  refine x_aload_n C hl 0 dJ0_isLatin1_aae02_6 rfl ?_
  refine vk_getf C.1 C.2.1 (I.2.2.2.1.2.2.2.1.2.1 i hi).2.1 I.2.2.1 C.2.2.2.1 (C.2.2.2.2.1 _ wd_1353) (fun _ h => h) dJ0_isLatin1_aae02_7 ?_
  refine x_if_ne C 17 dJ0_isLatin1_aae02_10 (by decide) (fun c1 => absurd rfl c1) (fun _ => ?_)
  refine x_iconst C dJ0_isLatin1_aae02_13 ic_1 ?_
  refine x_goto C 18 dJ0_isLatin1_aae02_14 (by decide) ?_
  exact x_ret0z C (by decide) rfl dJ0_isLatin1_aae02_18
theorem wk_J0_length (l : Launch) (G : Gt) {i : Nat} (hi : i < 2) : Met l yJ0_length_8abf5 (wc yJ0_length_8abf5 cJ0_length_8abf5 1 (some .int)) (rmJ 1 20) (va_Pc [.ref (G.2.2 (6 + i))] (PR G [])) (vp_Si (fun r => r = 3)) 0 0 (fun _ => False) := by
  refine x_start pn_J0 (Nat.le_of_ble_eq_true rfl) (fun p e s m below meth c ls C hn hl hB => ?_)
  have I := rd_start hB
  have C : Cx p s m [.ref (G.2.2 (6 + i))].toArray meth c cJ0_length_8abf5 1 RJ0 (some .int) := C
  have hl : lv_has ls 1 [(0, .ref (G.2.2 (6 + i)))] := hl
  refine x_aload_n C hl 0 dJ0_length_8abf5_0 rfl ?_
  refine vk_getf C.1 C.2.1 (I.2.2.2.1.2.2.2.1.2.1 i hi).2.2.1 I.2.2.1 C.2.2.2.1 (C.2.2.2.2.1 _ wd_1352) (fun _ h => h) dJ0_length_8abf5_1 ?_
  refine va_tlen C.1 C.2.1 (I.2.2.2.1.2.2.2.1.2.1 i hi).2.2.2 I.2.2.1 (v := 3) (by rw [len3 hi]; rfl) dJ0_length_8abf5_4 ?_
  refine x_aload_n C hl 0 dJ0_length_8abf5_5 rfl ?_
  refine x_ro (run_V (As := []) (rest := [.int 3]) C hl (wk_J0_coder l G hi) gm_J0_335 ⟨⟨rfl, rfl⟩, cn_J0_coder, ⟨Nat.le_of_ble_eq_true rfl, Nat.le_of_ble_eq_true rfl⟩⟩ (pr_blind _ _ _) (vk_recv I.2.2.2.1.2.2.2.1.2 hi I.2.2.1) (pr_of I [] rfl) rfl rfl (Nat.le_of_ble_eq_true rfl) ⟨Nat.le_of_ble_eq_true rfl, Nat.le_of_ble_eq_true rfl⟩ dJ0_length_8abf5_6) (fun r hr => ?_)
  subst hr
  refine x_ishr C dJ0_length_8abf5_9 ?_
  exact x_ret0 C (by decide) dJ0_length_8abf5_10
theorem wk_J3_checkIndex (l : Launch) (G : Gt) {x y : Int32} (h0 : ¬ x < 0) (h1 : x < y) (q : Option Nat) : Met l yJ3_checkIndex_8e157 (wc yJ3_checkIndex_8e157 cJ3_checkIndex_8e157 3 (some .int)) (rmJ 0 0) (va_Pc [.int x, .int y, va_rf q] (PR G [])) (vp_Si (fun _ => True)) 0 0 (fun _ => False) := by
  cases q with
  | none =>
    refine x_start pn_J3 (Nat.le_of_ble_eq_true rfl) (fun p e s m below meth c ls C hn hl hB => ?_)
    have C : Cx p s m [.int x, .int y, .null].toArray meth c cJ3_checkIndex_8e157 3 RJ3 (some .int) := C
    have hl : lv_has ls 3 [(0, .int x), (1, .int y), (2, .null)] := hl
    refine x_iload_n C hl 0 dJ3_checkIndex_8e157_0 rfl ?_
    refine x_if_lt C 9 dJ3_checkIndex_8e157_1 (by decide) (fun c1 => absurd c1 h0) (fun _ => ?_)
    refine x_iload_n C hl 0 dJ3_checkIndex_8e157_4 rfl ?_
    refine x_iload_n C hl 1 dJ3_checkIndex_8e157_5 rfl ?_
    refine x_icmp_lt C 16 dJ3_checkIndex_8e157_6 (by decide) (fun _ => ?_) (fun c1 => absurd h1 c1)
    refine x_iload_n C hl 0 dJ3_checkIndex_8e157_16 rfl ?_
    exact x_ret0 C trivial dJ3_checkIndex_8e157_17
  | some t =>
    refine x_start pn_J3 (Nat.le_of_ble_eq_true rfl) (fun p e s m below meth c ls C hn hl hB => ?_)
    have C : Cx p s m [.int x, .int y, .ref t].toArray meth c cJ3_checkIndex_8e157 3 RJ3 (some .int) := C
    have hl : lv_has ls 3 [(0, .int x), (1, .int y), (2, .ref t)] := hl
    refine x_iload_n C hl 0 dJ3_checkIndex_8e157_0 rfl ?_
    refine x_if_lt C 9 dJ3_checkIndex_8e157_1 (by decide) (fun c1 => absurd c1 h0) (fun _ => ?_)
    refine x_iload_n C hl 0 dJ3_checkIndex_8e157_4 rfl ?_
    refine x_iload_n C hl 1 dJ3_checkIndex_8e157_5 rfl ?_
    refine x_icmp_lt C 16 dJ3_checkIndex_8e157_6 (by decide) (fun _ => ?_) (fun c1 => absurd h1 c1)
    refine x_iload_n C hl 0 dJ3_checkIndex_8e157_16 rfl ?_
    exact x_ret0 C trivial dJ3_checkIndex_8e157_17
theorem wk_J0_checkIndex (l : Launch) (G : Gt) {x y : Int32} (h0 : ¬ x < 0) (h1 : x < y) : Met l yJ0_checkIndex_df160 (wc yJ0_checkIndex_df160 cJ0_checkIndex_df160 2 none) (rmJ 1 22) (va_Pc [.int x, .int y] (PR G [])) (va_Sv (fun _ => True)) 0 0 (fun _ => False) := by
  refine x_start pn_J0 (Nat.le_of_ble_eq_true rfl) (fun p e s m below meth c ls C hn hl hB => ?_)
  have I := rd_start hB
  have C : Cx p s m [.int x, .int y].toArray meth c cJ0_checkIndex_df160 2 RJ0 none := C
  have hl : lv_has ls 2 [(0, .int x), (1, .int y)] := hl
  refine x_iload_n C hl 0 dJ0_checkIndex_df160_0 rfl ?_
  refine x_iload_n C hl 1 dJ0_checkIndex_df160_1 rfl ?_
  rcases I.2.2.2.1.2.2.2.2 with hz | ⟨t, hz⟩
  · refine va_gets C.1 C.2.1 hz I.2.2.1 C.2.2.2.1 (C.2.2.2.2.1 _ wd_1007) (fun _ h => h) dJ0_checkIndex_df160_2 ?_
    refine x_ro (run_SO (As := [.int x, .int y, va_rf none]) (rest := []) C hl (wk_J3_checkIndex l G h0 h1 none) gm_J0_1059 ⟨⟨rfl, rfl⟩, cn_J3_checkIndex, ⟨Nat.le_of_ble_eq_true rfl, Nat.le_of_ble_eq_true rfl⟩⟩ (pr_blind _ _ _) (pr_of I [] rfl) rfl rfl (Nat.le_of_ble_eq_true rfl) ⟨Nat.le_of_ble_eq_true rfl, Nat.le_of_ble_eq_true rfl⟩ dJ0_checkIndex_df160_5) (fun r _ => ?_)
    refine x_pop C dJ0_checkIndex_df160_8 rfl ?_
    exact W.vret C.1 C.2.1 C.2.2.2.2.2.1 (fun t ht _ => ⟨rfl, trivial, ht⟩) (fun _ h => by cases h) dJ0_checkIndex_df160_9 C.2.2.2.2.2.2
  · refine va_gets C.1 C.2.1 hz I.2.2.1 C.2.2.2.1 (C.2.2.2.2.1 _ wd_1007) (fun _ h => h) dJ0_checkIndex_df160_2 ?_
    refine x_ro (run_SO (As := [.int x, .int y, va_rf (some t)]) (rest := []) C hl (wk_J3_checkIndex l G h0 h1 (some t)) gm_J0_1059 ⟨⟨rfl, rfl⟩, cn_J3_checkIndex, ⟨Nat.le_of_ble_eq_true rfl, Nat.le_of_ble_eq_true rfl⟩⟩ (pr_blind _ _ _) (pr_of I [] rfl) rfl rfl (Nat.le_of_ble_eq_true rfl) ⟨Nat.le_of_ble_eq_true rfl, Nat.le_of_ble_eq_true rfl⟩ dJ0_checkIndex_df160_5) (fun r _ => ?_)
    refine x_pop C dJ0_checkIndex_df160_8 rfl ?_
    exact W.vret C.1 C.2.1 C.2.2.2.2.2.1 (fun t ht _ => ⟨rfl, trivial, ht⟩) (fun _ h => by cases h) dJ0_checkIndex_df160_9 C.2.2.2.2.2.2
theorem wk_J1_charAt (l : Launch) (G : Gt) {i k : Nat} (hi : i < 2) (hk : k < 3) : Met l yJ1_charAt_3b067 (wc yJ1_charAt_3b067 cJ1_charAt_3b067 2 (some .char)) (rmJ 2 43) (va_Pc [.ref (G.2.2 (8 + i)), .int (nI k)] (PR G [])) (vp_Si (fun r => r = chs i k)) 0 0 (fun _ => False) := by
  refine x_start pn_J1 (Nat.le_of_ble_eq_true rfl) (fun p e s m below meth c ls C hn hl hB => ?_)
  have I := rd_start hB
  have C : Cx p s m [.ref (G.2.2 (8 + i)), .int (nI k)].toArray meth c cJ1_charAt_3b067 2 RJ1 (some .char) := C
  have hl : lv_has ls 2 [(0, .ref (G.2.2 (8 + i))), (1, .int (nI k))] := hl
  refine x_iload_n C hl 1 dJ1_charAt_3b067_0 rfl ?_
  refine x_aload_n C hl 0 dJ1_charAt_3b067_1 rfl ?_
  refine va_tlen C.1 C.2.1 (I.2.2.2.1.2.2.2.1.2.1 i hi).2.2.2 I.2.2.1 (v := 3) (by rw [len3 hi]; rfl) dJ1_charAt_3b067_2 ?_
  refine va_csv (run_C (run_SO (As := [.int (nI k), .int 3]) (rest := []) C hl (wk_J0_checkIndex l G (x := nI k) (y := 3) (nI_pos (by omega)) (nI_lt hk (by decide))) gm_J1_9 ⟨⟨rfl, rfl⟩, cn_J0_checkIndex, ⟨Nat.le_of_ble_eq_true rfl, Nat.le_of_ble_eq_true rfl⟩⟩ (pr_blind _ _ _) (pr_of I [] rfl) rfl rfl (Nat.le_of_ble_eq_true rfl) ⟨Nat.le_of_ble_eq_true rfl, Nat.le_of_ble_eq_true rfl⟩ dJ1_charAt_3b067_3)) (fun _ => ?_)
  refine x_aload_n C hl 0 dJ1_charAt_3b067_6 rfl ?_
  refine x_iload_n C hl 1 dJ1_charAt_3b067_7 rfl ?_
  refine va_tb C.1 C.2.1 (I.2.2.2.1.2.2.2.1.2.1 i hi).2.2.2 I.2.2.1 (v := .int (chs i k)) (by rw [len3 hi]; exact vp_in_nI hk (by decide)) (by rw [nI_clamp (by omega)]; rfl) dJ1_charAt_3b067_8 ?_
  refine x_sipush C dJ1_charAt_3b067_9 (v := 255) (by decide) ?_
  refine x_iand C dJ1_charAt_3b067_12 ?_
  refine x_i2c C dJ1_charAt_3b067_13 ?_
  rw [(chs_ok hi hk).1]
  exact x_ret0t C (chs_ok hi hk).2 rfl dJ1_charAt_3b067_14
theorem wk_J0_charAt (l : Launch) (G : Gt) {i k : Nat} (hi : i < 2) (hk : k < 3) : Met l yJ0_charAt_5068e (wc yJ0_charAt_5068e cJ0_charAt_5068e 2 (some .char)) (rmJ 3 64) (va_Pc [.ref (G.2.2 (6 + i)), .int (nI k)] (PR G [])) (vp_Si (fun r => r = chs i k)) 0 0 (fun _ => False) := by
  refine x_start pn_J0 (Nat.le_of_ble_eq_true rfl) (fun p e s m below meth c ls C hn hl hB => ?_)
  have I := rd_start hB
  have C : Cx p s m [.ref (G.2.2 (6 + i)), .int (nI k)].toArray meth c cJ0_charAt_5068e 2 RJ0 (some .char) := C
  have hl : lv_has ls 2 [(0, .ref (G.2.2 (6 + i))), (1, .int (nI k))] := hl
  refine x_aload_n C hl 0 dJ0_charAt_5068e_0 rfl ?_
  refine x_ro (run_V (As := []) (rest := []) C hl (wk_J0_isLatin1 l G hi) gm_J0_492 ⟨⟨rfl, rfl⟩, cn_J0_isLatin1, ⟨Nat.le_of_ble_eq_true rfl, Nat.le_of_ble_eq_true rfl⟩⟩ (pr_blind _ _ _) (vk_recv I.2.2.2.1.2.2.2.1.2 hi I.2.2.1) (pr_of I [] rfl) rfl rfl (Nat.le_of_ble_eq_true rfl) ⟨Nat.le_of_ble_eq_true rfl, Nat.le_of_ble_eq_true rfl⟩ dJ0_charAt_5068e_1) (fun r hr => ?_)
  subst hr
  refine x_if_eq C 16 dJ0_charAt_5068e_4 (by decide) (fun c1 => absurd c1 (by decide)) (fun _ => ?_)
  refine x_aload_n C hl 0 dJ0_charAt_5068e_7 rfl ?_
  refine vk_getf C.1 C.2.1 (I.2.2.2.1.2.2.2.1.2.1 i hi).2.2.1 I.2.2.1 C.2.2.2.1 (C.2.2.2.2.1 _ wd_1352) (fun _ h => h) dJ0_charAt_5068e_8 ?_
  refine x_iload_n C hl 1 dJ0_charAt_5068e_11 rfl ?_
  refine x_ro (run_SO (As := [.ref (G.2.2 (8 + i)), .int (nI k)]) (rest := []) C hl (wk_J1_charAt l G hi hk) gm_J0_495 ⟨⟨rfl, rfl⟩, cn_J1_charAt, ⟨Nat.le_of_ble_eq_true rfl, Nat.le_of_ble_eq_true rfl⟩⟩ (pr_blind _ _ _) (pr_of I [] rfl) rfl rfl (Nat.le_of_ble_eq_true rfl) ⟨Nat.le_of_ble_eq_true rfl, Nat.le_of_ble_eq_true rfl⟩ dJ0_charAt_5068e_12) (fun r hr => ?_)
  subst hr
  exact x_ret0t C (chs_ok hi hk).2 rfl dJ0_charAt_5068e_15
def nmF (u : Nat) (x : Int32) : Nat → Nat → Int32 → Int32
  | 0, _, b => b
  | r + 1, j, b => nmF u x r (j + 1) (if chs u j = x then nI j else b)
