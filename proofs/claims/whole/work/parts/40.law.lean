def R_law : String := "ImmunityCatchingLaw"
def lw_P (b : Addr) (xs : List Int32) (args : Array Value) (s : State) : Prop := args = #[.ref b] ∧ s.IntsAt b xs ∧ xs.length ≤ 3072 ∧ (Jvm.Cond.and given_1 narrow_1).before args s = true
def lw_Q (_ : Array Value) (s : State) (o : Outcome) (t : State) : Prop := o = .returned (some (.int 1)) ∧ Framed s o t [] 600000 7302249
def lw_Z (below : List Frame) (a : Array Value) (s : State) : State → Prop := fun t => ∃ o, t.status = .running ∧ Ended t below o ∧ lw_Q a s o t
/-- the law's own end, with 1 on the stack, nothing written that was there before, its room as the claim has it -/
theorem lw_ret {p : Program} {l : Launch} {e : Env} {s : State} {m : MethodId} {below : List Frame} {meth : Method} {c : Code} {b : Nat} (hx : p.tables.exec = Jvm.exec) (hb : c.code = code) (hr : meth.sig.returnType = ret) (hlocks : meth.locks = false) {pc : Nat} {H : Heap} {ls : Array Slot} (hdg : decode code pc = .ok (.ireturn, 1)) : W p l e room_1 s m #[Value.ref b] below meth c H [] 600000 7302249 (lw_Z below #[Value.ref b] s) (F0 m pc ls [.int 1]) := by
  intro T hT X
  obtain ⟨fs, hret, hrun, hended, hW, hframe⟩ := X.leave (v := some (.int 1)) (hlocks := hlocks) (fun h => by rw [hr] at h; cases h)
  have hmeth' : T.vm.method? m = some meth := X.method'
  refine ⟨T.setFrames fs, ?_, .returned (some (.int 1)), hrun, hended, rfl, ⟨_, rfl⟩, hW, hframe⟩
  jvm_step X.here [X.here.top, hx, hb, hdg, hmeth', hr, ret, narrow_b1]
  (try refine ⟨rfl, ?_⟩); (try refine ⟨rfl, ?_⟩)
  first | (intro acts; rw [hret _ acts rfl rfl rfl]) | rw [hret _ _ rfl rfl rfl]
  exact Steps.refl _
/-- what holds at the law's entry: the machine, the code, the tables' words (any of lw_tbl by 'hts w (by decide +kernel)'), the script of L ints xs at the cell b, what the Statement gives of the start (any of its parts by flat_of_before) -/
def lw_At (p : Program) (s : State) (m : MethodId) (meth : Method) (c : Code) (b L : Nat) (xs : Nat → Int32) : Prop :=
  p.tables.exec = Jvm.exec ∧ c.code = code ∧ meth.sig.returnType = ret ∧ c.maxLocals = 4 ∧ s.vm.findClass R_law = some m.cls ∧ (∀ w ∈ lw_tbl, w.before #[Value.ref b] s = true) ∧ va_X b L xs s s.heap ∧ b < s.heap.size ∧ meth.locks = false ∧ (Jvm.Cond.and given_1 narrow_1).before #[Value.ref b] s = true
theorem lw_cmp {i L : Nat} (hL : L ≤ 3072) (hi : i ≤ 4000) (h : ¬ nI L - 6 < nI i) : i + 6 ≤ L := by
  have e6 : (6 : Int32).toInt = 6 := by decide
  rw [fa_lt, fb_subI (by rw [nI_toInt (by omega), e6]; omega) (by rw [nI_toInt (by omega), e6]; omega), nI_toInt (by omega), nI_toInt (by omega), e6] at h
  omega
set_option maxHeartbeats 4000000 in
set_option maxRecDepth 100000 in
theorem law_loop {p : Program} {l : Launch} {e : Env} {s : State} {m : MethodId} {below : List Frame} {meth : Method} {c : Code} {G : Gt} {b L h0 h1 : Nat} {u v : Nat → Nat} {xs : Nat → Int32} (hL : L ≤ 3072) (C : Cx p s m #[Value.ref b] meth c cL_law 4 RL ret) (hX : va_X b L xs s s.heap) (hbl : b < s.heap.size) :
    ∀ (r i : Nat) (ls : Array Slot) (ca : Nat → Nat → Int32) (ci : Nat → Int32) (ma : Nat → Nat → Int32) (mi : Nat → Int32) (H : Heap) (locs : List Loc), L ≤ i + r → i ≤ L + 6 → lv_has ls 4 [(3, .int (nI i)), (2, .ref h1), (1, .ref h0), (0, .ref b)] → Inv ca ci ma mi → Iv G (fun q : Nat => s.heap.size ≤ q) s (WL G h0 u h1 v ca ci ma mi) H locs → W p l e room_1 s m #[Value.ref b] below meth c H locs 93 12297 (lw_Z below #[Value.ref b] s) (F0 m 18 ls []) := by
  intro r
  induction r with
  | zero =>
    intro i ls ca ci ma mi H locs hr hi hl hv I
    refine x_iload_n C hl 0 dL_law_18 rfl ?_
    refine x_aload_n C hl 3 dL_law_19 rfl ?_
    refine va_slen C.1 C.2.1 hX hbl (Nat.not_le.mpr hbl) I.1.2.2.1 dL_law_20 ?_
    refine x_bipush C dL_law_21 (v := 6) (by decide) ?_
    refine x_isub C dL_law_23 ?_
    refine x_icmp_gt C 1410 dL_law_24 (by decide) (fun c1 => ?_) (fun c1 => ?_)
    · refine x_iconst C dL_law_1410 ic_1 ?_
      refine va_forget (fun q hq => I.1.2.2.1.2.2 q hq) ?_
      refine W.widen (k := 600000) (n := 7302249) (Nat.le_of_ble_eq_true rfl) (Nat.le_of_ble_eq_true rfl) ?_
      exact lw_ret C.1 C.2.1 C.2.2.2.2.2.1 C.2.2.2.2.2.2 dL_law_1411
    · have := lw_cmp hL (by omega) c1
      omega
  | succ r ih =>
    intro i ls ca ci ma mi H locs hr hi hl hv I
    refine x_iload_n C hl 0 dL_law_18 rfl ?_
    refine x_aload_n C hl 3 dL_law_19 rfl ?_
    refine va_slen C.1 C.2.1 hX hbl (Nat.not_le.mpr hbl) I.1.2.2.1 dL_law_20 ?_
    refine x_bipush C dL_law_21 (v := 6) (by decide) ?_
    refine x_isub C dL_law_23 ?_
    refine x_icmp_gt C 1410 dL_law_24 (by decide) (fun c1 => ?_) (fun c1 => ?_)
    · refine x_iconst C dL_law_1410 ic_1 ?_
      refine va_forget (fun q hq => I.1.2.2.1.2.2 q hq) ?_
      refine W.widen (k := 600000) (n := 7302249) (Nat.le_of_ble_eq_true rfl) (Nat.le_of_ble_eq_true rfl) ?_
      exact lw_ret C.1 C.2.1 C.2.2.2.2.2.1 C.2.2.2.2.2.2 dL_law_1411
    · have h6 := lw_cmp hL (by omega) c1
      refine x_aload_n C hl 3 dL_law_27 rfl ?_
      refine x_iload_n C hl 0 dL_law_28 rfl ?_
      refine va_sld C.1 C.2.1 hX hbl (Nat.not_le.mpr hbl) I.1.2.2.1 (vp_in_nI (by omega) (by omega)) dL_law_29 ?_
      refine x_bipush C dL_law_30 (v := 63) (by decide) ?_
      refine x_iand C dL_law_32 ?_
      have nx : ∀ (ca : Nat → Nat → Int32) (ci : Nat → Int32) (ma : Nat → Nat → Int32) (mi : Nat → Int32) (H : Heap) (locs : List Loc), Inv ca ci ma mi → Iv G (fun q : Nat => s.heap.size ≤ q) s (WL G h0 u h1 v ca ci ma mi) H locs → W p l e room_1 s m #[Value.ref b] below meth c H locs 93 12297 (lw_Z below #[Value.ref b] s) (F0 m 1404 ls []) := by
        intro ca ci ma mi H locs hv I
        refine x_iinc C hl 0 [(3, .int (nI (i + 6))), (2, .ref h1), (1, .ref h0), (0, .ref b)] (nI (i + 6)) dL_law_1404 rfl (nI_add i 6) (by decide) rfl (fun ls hl => ?_)
        refine x_goto C 18 dL_law_1407 (by decide) ?_
        exact ih (i + 6) ls ca ci ma mi H locs (by omega) (by omega) hl hv I
      generalize xs (nI i).toNatClampNeg &&& 63 = X
      by_cases e0 : X = 0
      · exact x_table C 0 200 dL_law_33 e0 (by decide) (by decide) rfl (by decide) (lc_soul C I hX hbl h6 hL hl hv nx)
      by_cases e1 : X = 1
      · exact x_table C 1 233 dL_law_33 e1 (by decide) (by decide) rfl (by decide) (lc_ofSoul C I hX hbl h6 hL hl hv nx)
      by_cases e2 : X = 2
      · exact x_table C 2 266 dL_law_33 e2 (by decide) (by decide) rfl (by decide) (lc_change C I hX hbl h6 hL hl hv nx)
      by_cases e3 : X = 3
      · exact x_table C 3 309 dL_law_33 e3 (by decide) (by decide) rfl (by decide) (lc_become C I hX hbl h6 hL hl hv nx)
      by_cases e4 : X = 4
      · exact x_table C 4 342 dL_law_33 e4 (by decide) (by decide) rfl (by decide) (lc_as C I hX hbl h6 hL hl hv nx)
      by_cases e5 : X = 5
      · exact x_table C 5 375 dL_law_33 e5 (by decide) (by decide) rfl (by decide) (lc_loss C I hX hbl h6 hL hl hv nx)
      by_cases e6 : X = 6
      · exact x_table C 6 398 dL_law_33 e6 (by decide) (by decide) rfl (by decide) (lc_street C I hX hbl h6 hL hl hv nx)
      by_cases e7 : X = 7
      · exact x_table C 7 431 dL_law_33 e7 (by decide) (by decide) rfl (by decide) (lc_meet C I hX hbl h6 hL hl hv nx)
      by_cases e8 : X = 8
      · exact x_table C 8 464 dL_law_33 e8 (by decide) (by decide) rfl (by decide) (lc_feed C I hX hbl h6 hL hl hv nx)
      by_cases e9 : X = 9
      · exact x_table C 9 527 dL_law_33 e9 (by decide) (by decide) rfl (by decide) (lc_text C I hX hbl h6 hL hl hv nx)
      by_cases e10 : X = 10
      · exact x_table C 10 550 dL_law_33 e10 (by decide) (by decide) rfl (by decide) (lc_law C I hX hbl h6 hL hl hv nx)
      by_cases e11 : X = 11
      · exact x_table C 11 603 dL_law_33 e11 (by decide) (by decide) rfl (by decide) (lc_steps C I hX hbl h6 hL hl hv nx)
      by_cases e12 : X = 12
      · exact x_table C 12 626 dL_law_33 e12 (by decide) (by decide) rfl (by decide) (lc_loose C I hX hbl h6 hL hl hv nx)
      by_cases e13 : X = 13
      · exact x_table C 13 649 dL_law_33 e13 (by decide) (by decide) rfl (by decide) (lc_then C I hX hbl h6 hL hl hv nx)
      by_cases e14 : X = 14
      · exact x_table C 14 692 dL_law_33 e14 (by decide) (by decide) rfl (by decide) (lc_last C I hX hbl h6 hL hl hv nx)
      by_cases e15 : X = 15
      · exact x_table C 15 725 dL_law_33 e15 (by decide) (by decide) rfl (by decide) (lc_reaches C I hX hbl h6 hL hl hv nx)
      by_cases e16 : X = 16
      · exact x_table C 16 748 dL_law_33 e16 (by decide) (by decide) rfl (by decide) (lc_gloves C I hX hbl h6 hL hl hv nx)
      by_cases e17 : X = 17
      · exact x_table C 17 781 dL_law_33 e17 (by decide) (by decide) rfl (by decide) (lc_from C I hX hbl h6 hL hl hv nx)
      by_cases e18 : X = 18
      · exact x_table C 18 814 dL_law_33 e18 (by decide) (by decide) rfl (by decide) (lc_stand C I hX hbl h6 hL hl hv nx)
      by_cases e19 : X = 19
      · exact x_table C 19 857 dL_law_33 e19 (by decide) (by decide) rfl (by decide) (lc_crush C I hX hbl h6 hL hl hv nx)
      by_cases e20 : X = 20
      · exact x_table C 20 890 dL_law_33 e20 (by decide) (by decide) rfl (by decide) (lc_dies C I hX hbl h6 hL hl hv nx)
      by_cases e21 : X = 21
      · exact x_table C 21 903 dL_law_33 e21 (by decide) (by decide) rfl (by decide) (lc_touch C I hX hbl h6 hL hl hv nx)
      by_cases e22 : X = 22
      · exact x_table C 22 946 dL_law_33 e22 (by decide) (by decide) rfl (by decide) (lc_done C I hX hbl h6 hL hl hv nx)
      by_cases e23 : X = 23
      · exact x_table C 23 969 dL_law_33 e23 (by decide) (by decide) rfl (by decide) (lc_odds C I hX hbl h6 hL hl hv nx)
      by_cases e24 : X = 24
      · exact x_table C 24 1012 dL_law_33 e24 (by decide) (by decide) rfl (by decide) (lc_seed C I hX hbl h6 hL hl hv nx)
      by_cases e25 : X = 25
      · exact x_table C 25 1035 dL_law_33 e25 (by decide) (by decide) rfl (by decide) (lc_voice C I hX hbl h6 hL hl hv nx)
      by_cases e26 : X = 26
      · exact x_table C 26 1078 dL_law_33 e26 (by decide) (by decide) rfl (by decide) (lc_trace C I hX hbl h6 hL hl hv nx)
      by_cases e27 : X = 27
      · exact x_table C 27 1101 dL_law_33 e27 (by decide) (by decide) rfl (by decide) (lc_sheet C I hX hbl h6 hL hl hv nx)
      by_cases e28 : X = 28
      · exact x_table C 28 1144 dL_law_33 e28 (by decide) (by decide) rfl (by decide) (lc_put C I hX hbl h6 hL hl hv nx)
      by_cases e29 : X = 29
      · exact x_table C 29 1187 dL_law_33 e29 (by decide) (by decide) rfl (by decide) (lc_move C I hX hbl h6 hL hl hv nx)
      by_cases e30 : X = 30
      · exact x_table C 30 1250 dL_law_33 e30 (by decide) (by decide) rfl (by decide) (lc_frees C I hX hbl h6 hL hl hv nx)
      by_cases e31 : X = 31
      · exact x_table C 31 1273 dL_law_33 e31 (by decide) (by decide) rfl (by decide) (lc_judge C I hX hbl h6 hL hl hv nx)
      by_cases e32 : X = 32
      · exact x_table C 32 1296 dL_law_33 e32 (by decide) (by decide) rfl (by decide) (lc_image C I hX hbl h6 hL hl hv nx)
      by_cases e33 : X = 33
      · exact x_table C 33 1309 dL_law_33 e33 (by decide) (by decide) rfl (by decide) (lc_restore C I hX hbl h6 hL hl hv nx)
      by_cases e34 : X = 34
      · exact x_table C 34 1322 dL_law_33 e34 (by decide) (by decide) rfl (by decide) (lc_tell C I hX hbl h6 hL hl hv nx)
      by_cases e35 : X = 35
      · exact x_table C 35 1345 dL_law_33 e35 (by decide) (by decide) rfl (by decide) (lc_check C I hX hbl h6 hL hl hv nx)
      by_cases e36 : X = 36
      · exact x_table C 36 1358 dL_law_33 e36 (by decide) (by decide) rfl (by decide) (lc_count C I hX hbl h6 hL hl hv nx)
      by_cases e37 : X = 37
      · exact x_table C 37 1381 dL_law_33 e37 (by decide) (by decide) rfl (by decide) (lc_told C I hX hbl h6 hL hl hv nx)
      exact x_tableO C 1404 dL_law_33 (tb_out (lo := 0) (n := 38) ⟨e0, e1, e2, e3, e4, e5, e6, e7, e8, e9, e10, e11, e12, e13, e14, e15, e16, e17, e18, e19, e20, e21, e22, e23, e24, e25, e26, e27, e28, e29, e30, e31, e32, e33, e34, e35, e36, e37, trivial⟩) (by decide) (nx _ _ _ _ _ _ hv I)
theorem df_X7 : ∀ j, j < 9 → defaultValue (tyX7 j) = vp_V [.null, .null, .null, .null, .null, .null, .null, .null, .int 0] j := fun j hj => match j, hj with | 0, _ => rfl | 1, _ => rfl | 2, _ => rfl | 3, _ => rfl | 4, _ => rfl | 5, _ => rfl | 6, _ => rfl | 7, _ => rfl | 8, _ => rfl | n + 9, h => absurd h (by omega)
theorem df_X8 : ∀ j, j < 27 → defaultValue (tyX8 j) = vp_V [.null, .null, .null, .int 0, .null, .null, .null, .null, .null, .int 0, .int 0, .int 0, .int 0, .null, .int 0, .null, .null, .null, .null, .int 0, .int 0, .int 0, .int 0, .null, .null, .null, .null] j := fun j hj => match j, hj with | 0, _ => rfl | 1, _ => rfl | 2, _ => rfl | 3, _ => rfl | 4, _ => rfl | 5, _ => rfl | 6, _ => rfl | 7, _ => rfl | 8, _ => rfl | 9, _ => rfl | 10, _ => rfl | 11, _ => rfl | 12, _ => rfl | 13, _ => rfl | 14, _ => rfl | 15, _ => rfl | 16, _ => rfl | 17, _ => rfl | 18, _ => rfl | 19, _ => rfl | 20, _ => rfl | 21, _ => rfl | 22, _ => rfl | 23, _ => rfl | 24, _ => rfl | 25, _ => rfl | 26, _ => rfl | n + 27, h => absurd h (by omega)
theorem cn_X7_init : yX7_init.cls = RX7 ∧ yX7_init.cls ≠ "java/lang/invoke/MethodHandle" ∧ yX7_init.cls ≠ "java/lang/invoke/VarHandle" ∧ (parseMethodDescriptor yX7_init.desc).map (fun d => d.parameters.length) = some 0 := by decide +kernel
theorem cn_X8_init : yX8_init.cls = RX8 ∧ yX8_init.cls ≠ "java/lang/invoke/MethodHandle" ∧ yX8_init.cls ≠ "java/lang/invoke/VarHandle" ∧ (parseMethodDescriptor yX8_init.desc).map (fun d => d.parameters.length) = some 0 := by decide +kernel
theorem pbr_of {G : Gt} {A : Nat → Prop} {s : State} {ws wc : va_W} {H : Heap} {locs : List Loc} (I : Iv G A s ws H locs) (o : va_AO "ImmunityCatching$Row" s) (isC : List Nat) (hn : va_nd isC = true) (hC : isC.map (fun i => ws[i]?) = wc.map some) {av : List Value} : ∀ U : State, U.heap = H → s.WarmedH U.vm → va_Pc av (PBR G wc H.size) av.toArray U := fun U hU hW =>
  have h := pb_of I isC hn hC (av := av) U hU hW
  ⟨h.1, h.2, o.moved hW.alike⟩
theorem pbs_of {G : Gt} {A : Nat → Prop} {s : State} {ws wc : va_W} {H : Heap} {locs : List Loc} (I : Iv G A s ws H locs) (o : va_AO "java/lang/String" s) (r1 : vk_R "ImmunityCatchingModel" 33 "shn" (G.2.2 6) s) (r2 : vk_R "ImmunityCatchingModel" 35 "fms" (G.2.2 7) s) (isC : List Nat) (hn : va_nd isC = true) (hC : isC.map (fun i => ws[i]?) = wc.map some) {av : List Value} : ∀ U : State, U.heap = H → s.WarmedH U.vm → va_Pc av (PBS G wc H.size) av.toArray U := fun U hU hW =>
  have h := pb_of I isC hn hC (av := av) U hU hW
  ⟨h.1, h.2, r1.warm hW, r2.warm hW, o.moved hW.alike⟩
set_option maxHeartbeats 4000000 in
set_option maxRecDepth 100000 in
theorem whole_start {p : Program} {e : Env} {s : State} {m : MethodId} {below : List Frame} {meth : Method} {c : Code} (l : Launch) (hflags : l.flags = flags0) {b L : Nat} {xs : Nat → Int32} (hL : L ≤ 3072) (C0 : lw_At p s m meth c b L xs) : W p l e room_1 s m #[Value.ref b] below meth c s.heap [] 0 0 (lw_Z below #[Value.ref b] s) (entryFrame m ([Value.ref b] : List Value).toArray 4) := by
  obtain ⟨hx, hb, hr, hml, hown, hts, hX, hbl, hlocks, hgv⟩ := id C0
  obtain ⟨G, hK, hSX, oR, oS, v1, v2⟩ := st_G hts hgv
  have C : Cx p s m #[Value.ref b] meth c cL_law 4 RL ret := ⟨hx, hb, hml, hown, fun w h => hts w (List.mem_filter.mp h).1, hr, hlocks⟩
  have I : Iv G (fun q : Nat => s.heap.size ≤ q) s [] s.heap [] := ⟨⟨fun k q h => by simp at h, hK, va_S.rf, hSX⟩, ⟨fun i j p q h => by simp at h, fun k q h => by simp at h⟩, fun _ h => h⟩
  have hl := lv_entry ([.ref b]) (n := 4) (Nat.le_of_ble_eq_true rfl)
  rw [lg_entry_eq]
  generalize (lg_sl ([.ref b]) ++ List.replicate (4 - (lg_sl ([.ref b])).length) Slot.unset).toArray = ls at hl ⊢
  have hl : lv_has ls 4 [(0, .ref b)] := hl
  refine x_new C I wd_91 wd_92 wd_75 rfl inX7 tyX7 tyX7_ok [.null, .null, .null, .null, .null, .null, .null, .null, .int 0] df_X7 (fun h0 => [(h0, .inr (7, [.null, .null, .null, .null, .null, .null, .null, .null, .int 0]))]) (fun _ => rfl) (Nat.le_of_ble_eq_true rfl) (Nat.le_of_ble_eq_true rfl) dL_law_0 (fun h0 Hx I => ?_)
  have I : Iv G (fun q : Nat => s.heap.size ≤ q) s [(h0, .inr (7, [.null, .null, .null, .null, .null, .null, .null, .null, .int 0]))] Hx [] := I
  refine x_dup C dL_law_3 rfl ?_
  refine x_muv (wk := [(h0, .inr (7, [.null, .null, .null, .null, .null, .null, .null, .null, .int 0]))]) (wr := []) (isC := [0]) (isR := []) I ⟨⟨rfl, rfl⟩, rfl, rfl, rfl⟩ [0, 1, 2, 3, 4, 5, 6, 7, 8, 9, 10, 11, 12, 13, 14, 15, 16, 17, 18, 19, 20, 21, 22, 23, 24, 25, 26, 27, 28, 29, 30, 31, 32, 33, 34, 35, 36, 37, 38, 39, 40, 41, 42, 43, 44, 45, 46, 47, 48, 49, 50, 51, 52, 53, 54, 55, 56, 57, 58, 59, 60, 61, 62, 63, 64, 65, 66, 67, 68, 69, 70, 71, 72, 73, 74] (fun u => cw_X7_init G h0 u) (fun _ => rfl) rfl (run_I (As := []) (rest := [.ref h0]) C hl (wn_X7_init l G h0 Hx.size) gc_X7_init wd_75 wd_93 wd_94 rfl ⟨⟨rfl, rfl⟩, cn_X7_init, ⟨(Nat.le_of_ble_eq_true rfl), (Nat.le_of_ble_eq_true rfl)⟩⟩ (pbr_blind _ _ _ _) (pbr_of I oR [0] rfl rfl) rfl rfl (Nat.le_of_ble_eq_true rfl) ⟨(Nat.le_of_ble_eq_true rfl), (Nat.le_of_ble_eq_true rfl)⟩ dL_law_4) (fun u Hx lx hw I => ?_)
  refine x_astore_n C hl [(1, .ref h0), (0, .ref b)] dL_law_7 (by decide) rfl (fun ls hl => ?_)
  have I : Iv G (fun q : Nat => s.heap.size ≤ q) s [(h0, .inr (7, [.ref (u 0), .ref (u 22), .ref (u 44), .ref (u 53), .ref (u 60), .ref (u 63), .ref (u 72), .ref (u 73), .int 0])), ((u 0), .inr (5, [.ref (u 1), .ref (u 5), .ref (u 9), .ref (u 18), .ref (u 20), .int 1])), ((u 1), .inr (3, [.ref (u 2), .ref (u 3), .ref (u 4), .int 0])), ((u 2), .inl (cI G, 50, .inl (fun _ => 0))), ((u 3), .inl (cI G, 50, .inl (fun _ => 0))), ((u 4), .inl (cI G, 50, .inl (fun _ => 0))), ((u 5), .inr (3, [.ref (u 6), .ref (u 7), .ref (u 8), .int 0])), ((u 6), .inl (cI G, 50, .inl (fun _ => 0))), ((u 7), .inl (cI G, 50, .inl (fun _ => 0))), ((u 8), .inl (cI G, 50, .inl (fun _ => 0))), ((u 9), .inr (0, [.ref (u 1), .ref (u 5), .ref (u 10), .ref (u 11), .ref (u 12), .ref (u 13), .ref (u 14), .ref (u 15), .ref (u 16), .ref (u 17), .int 0, .int 0, .int 1])), ((u 10), .inl (cI G, 8, .inl (fun _ => 0))), ((u 11), .inl (cI G, 8, .inl (fun _ => 0))), ((u 12), .inl (cI G, 8, .inl (fun _ => 0))), ((u 13), .inl (cI G, 8, .inl (fun _ => 0))), ((u 14), .inl (cI G, 8, .inl (fun _ => 0))), ((u 15), .inl (cI G, 8, .inl (fun _ => 0))), ((u 16), .inl (cI G, 8, .inl (fun _ => 0))), ((u 17), .inl (cI G, 8, .inl (fun _ => 0))), ((u 18), .inr (4, [.ref (u 19), .int 0])), ((u 19), .inl (cI G, 50, .inl (fun _ => 0))), ((u 20), .inr (4, [.ref (u 21), .int 0])), ((u 21), .inl (cI G, 20, .inl (fun _ => 0))), ((u 22), .inr (5, [.ref (u 23), .ref (u 27), .ref (u 31), .ref (u 40), .ref (u 42), .int 1])), ((u 23), .inr (3, [.ref (u 24), .ref (u 25), .ref (u 26), .int 0])), ((u 24), .inl (cI G, 50, .inl (fun _ => 0))), ((u 25), .inl (cI G, 50, .inl (fun _ => 0))), ((u 26), .inl (cI G, 50, .inl (fun _ => 0))), ((u 27), .inr (3, [.ref (u 28), .ref (u 29), .ref (u 30), .int 0])), ((u 28), .inl (cI G, 50, .inl (fun _ => 0))), ((u 29), .inl (cI G, 50, .inl (fun _ => 0))), ((u 30), .inl (cI G, 50, .inl (fun _ => 0))), ((u 31), .inr (0, [.ref (u 23), .ref (u 27), .ref (u 32), .ref (u 33), .ref (u 34), .ref (u 35), .ref (u 36), .ref (u 37), .ref (u 38), .ref (u 39), .int 0, .int 0, .int 1])), ((u 32), .inl (cI G, 8, .inl (fun _ => 0))), ((u 33), .inl (cI G, 8, .inl (fun _ => 0))), ((u 34), .inl (cI G, 8, .inl (fun _ => 0))), ((u 35), .inl (cI G, 8, .inl (fun _ => 0))), ((u 36), .inl (cI G, 8, .inl (fun _ => 0))), ((u 37), .inl (cI G, 8, .inl (fun _ => 0))), ((u 38), .inl (cI G, 8, .inl (fun _ => 0))), ((u 39), .inl (cI G, 8, .inl (fun _ => 0))), ((u 40), .inr (4, [.ref (u 41), .int 0])), ((u 41), .inl (cI G, 50, .inl (fun _ => 0))), ((u 42), .inr (4, [.ref (u 43), .int 0])), ((u 43), .inl (cI G, 20, .inl (fun _ => 0))), ((u 44), .inr (0, [.ref (u 1), .ref (u 5), .ref (u 45), .ref (u 46), .ref (u 47), .ref (u 48), .ref (u 49), .ref (u 50), .ref (u 51), .ref (u 52), .int 0, .int 0, .int 1])), ((u 45), .inl (cI G, 8, .inl (fun _ => 0))), ((u 46), .inl (cI G, 8, .inl (fun _ => 0))), ((u 47), .inl (cI G, 8, .inl (fun _ => 0))), ((u 48), .inl (cI G, 8, .inl (fun _ => 0))), ((u 49), .inl (cI G, 8, .inl (fun _ => 0))), ((u 50), .inl (cI G, 8, .inl (fun _ => 0))), ((u 51), .inl (cI G, 8, .inl (fun _ => 0))), ((u 52), .inl (cI G, 8, .inl (fun _ => 0))), ((u 53), .inr (1, [.ref (u 54), .ref (u 58), .int 0, .int 0])), ((u 54), .inr (3, [.ref (u 55), .ref (u 56), .ref (u 57), .int 0])), ((u 55), .inl (cI G, 50, .inl (fun _ => 0))), ((u 56), .inl (cI G, 50, .inl (fun _ => 0))), ((u 57), .inl (cI G, 50, .inl (fun _ => 0))), ((u 58), .inr (4, [.ref (u 59), .int 0])), ((u 59), .inl (cI G, 50, .inl (fun _ => 0))), ((u 60), .inr (6, [.ref (u 61), .int 0, .int 0, .int 0])), ((u 61), .inr (4, [.ref (u 62), .int 0])), ((u 62), .inl (cI G, 40, .inl (fun _ => 0))), ((u 63), .inl (G.2.2 1, 4, .inr (.inr (.inr (.inr (rwf (u 64) (u 66) (u 68) (u 70))))))), ((u 64), .inr (2, [.ref (u 65), .int 0, .int 0])), ((u 65), .inl (cI G, 40, .inl (fun _ => 0))), ((u 66), .inr (2, [.ref (u 67), .int 0, .int 0])), ((u 67), .inl (cI G, 40, .inl (fun _ => 0))), ((u 68), .inr (2, [.ref (u 69), .int 0, .int 0])), ((u 69), .inl (cI G, 40, .inl (fun _ => 0))), ((u 70), .inr (2, [.ref (u 71), .int 0, .int 0])), ((u 71), .inl (cI G, 40, .inl (fun _ => 0))), ((u 72), .inl (cI G, 6, .inl (fun _ => 0))), ((u 73), .inl (cI G, 8, .inl (fun _ => 0)))] Hx lx := I
  refine x_new C I wd_831 wd_832 wd_84 rfl inX8 tyX8 tyX8_ok [.null, .null, .null, .int 0, .null, .null, .null, .null, .null, .int 0, .int 0, .int 0, .int 0, .null, .int 0, .null, .null, .null, .null, .int 0, .int 0, .int 0, .int 0, .null, .null, .null, .null] df_X8 (fun h1 => [(h0, .inr (7, [.ref (u 0), .ref (u 22), .ref (u 44), .ref (u 53), .ref (u 60), .ref (u 63), .ref (u 72), .ref (u 73), .int 0])), ((u 0), .inr (5, [.ref (u 1), .ref (u 5), .ref (u 9), .ref (u 18), .ref (u 20), .int 1])), ((u 1), .inr (3, [.ref (u 2), .ref (u 3), .ref (u 4), .int 0])), ((u 2), .inl (cI G, 50, .inl (fun _ => 0))), ((u 3), .inl (cI G, 50, .inl (fun _ => 0))), ((u 4), .inl (cI G, 50, .inl (fun _ => 0))), ((u 5), .inr (3, [.ref (u 6), .ref (u 7), .ref (u 8), .int 0])), ((u 6), .inl (cI G, 50, .inl (fun _ => 0))), ((u 7), .inl (cI G, 50, .inl (fun _ => 0))), ((u 8), .inl (cI G, 50, .inl (fun _ => 0))), ((u 9), .inr (0, [.ref (u 1), .ref (u 5), .ref (u 10), .ref (u 11), .ref (u 12), .ref (u 13), .ref (u 14), .ref (u 15), .ref (u 16), .ref (u 17), .int 0, .int 0, .int 1])), ((u 10), .inl (cI G, 8, .inl (fun _ => 0))), ((u 11), .inl (cI G, 8, .inl (fun _ => 0))), ((u 12), .inl (cI G, 8, .inl (fun _ => 0))), ((u 13), .inl (cI G, 8, .inl (fun _ => 0))), ((u 14), .inl (cI G, 8, .inl (fun _ => 0))), ((u 15), .inl (cI G, 8, .inl (fun _ => 0))), ((u 16), .inl (cI G, 8, .inl (fun _ => 0))), ((u 17), .inl (cI G, 8, .inl (fun _ => 0))), ((u 18), .inr (4, [.ref (u 19), .int 0])), ((u 19), .inl (cI G, 50, .inl (fun _ => 0))), ((u 20), .inr (4, [.ref (u 21), .int 0])), ((u 21), .inl (cI G, 20, .inl (fun _ => 0))), ((u 22), .inr (5, [.ref (u 23), .ref (u 27), .ref (u 31), .ref (u 40), .ref (u 42), .int 1])), ((u 23), .inr (3, [.ref (u 24), .ref (u 25), .ref (u 26), .int 0])), ((u 24), .inl (cI G, 50, .inl (fun _ => 0))), ((u 25), .inl (cI G, 50, .inl (fun _ => 0))), ((u 26), .inl (cI G, 50, .inl (fun _ => 0))), ((u 27), .inr (3, [.ref (u 28), .ref (u 29), .ref (u 30), .int 0])), ((u 28), .inl (cI G, 50, .inl (fun _ => 0))), ((u 29), .inl (cI G, 50, .inl (fun _ => 0))), ((u 30), .inl (cI G, 50, .inl (fun _ => 0))), ((u 31), .inr (0, [.ref (u 23), .ref (u 27), .ref (u 32), .ref (u 33), .ref (u 34), .ref (u 35), .ref (u 36), .ref (u 37), .ref (u 38), .ref (u 39), .int 0, .int 0, .int 1])), ((u 32), .inl (cI G, 8, .inl (fun _ => 0))), ((u 33), .inl (cI G, 8, .inl (fun _ => 0))), ((u 34), .inl (cI G, 8, .inl (fun _ => 0))), ((u 35), .inl (cI G, 8, .inl (fun _ => 0))), ((u 36), .inl (cI G, 8, .inl (fun _ => 0))), ((u 37), .inl (cI G, 8, .inl (fun _ => 0))), ((u 38), .inl (cI G, 8, .inl (fun _ => 0))), ((u 39), .inl (cI G, 8, .inl (fun _ => 0))), ((u 40), .inr (4, [.ref (u 41), .int 0])), ((u 41), .inl (cI G, 50, .inl (fun _ => 0))), ((u 42), .inr (4, [.ref (u 43), .int 0])), ((u 43), .inl (cI G, 20, .inl (fun _ => 0))), ((u 44), .inr (0, [.ref (u 1), .ref (u 5), .ref (u 45), .ref (u 46), .ref (u 47), .ref (u 48), .ref (u 49), .ref (u 50), .ref (u 51), .ref (u 52), .int 0, .int 0, .int 1])), ((u 45), .inl (cI G, 8, .inl (fun _ => 0))), ((u 46), .inl (cI G, 8, .inl (fun _ => 0))), ((u 47), .inl (cI G, 8, .inl (fun _ => 0))), ((u 48), .inl (cI G, 8, .inl (fun _ => 0))), ((u 49), .inl (cI G, 8, .inl (fun _ => 0))), ((u 50), .inl (cI G, 8, .inl (fun _ => 0))), ((u 51), .inl (cI G, 8, .inl (fun _ => 0))), ((u 52), .inl (cI G, 8, .inl (fun _ => 0))), ((u 53), .inr (1, [.ref (u 54), .ref (u 58), .int 0, .int 0])), ((u 54), .inr (3, [.ref (u 55), .ref (u 56), .ref (u 57), .int 0])), ((u 55), .inl (cI G, 50, .inl (fun _ => 0))), ((u 56), .inl (cI G, 50, .inl (fun _ => 0))), ((u 57), .inl (cI G, 50, .inl (fun _ => 0))), ((u 58), .inr (4, [.ref (u 59), .int 0])), ((u 59), .inl (cI G, 50, .inl (fun _ => 0))), ((u 60), .inr (6, [.ref (u 61), .int 0, .int 0, .int 0])), ((u 61), .inr (4, [.ref (u 62), .int 0])), ((u 62), .inl (cI G, 40, .inl (fun _ => 0))), ((u 63), .inl (G.2.2 1, 4, .inr (.inr (.inr (.inr (rwf (u 64) (u 66) (u 68) (u 70))))))), ((u 64), .inr (2, [.ref (u 65), .int 0, .int 0])), ((u 65), .inl (cI G, 40, .inl (fun _ => 0))), ((u 66), .inr (2, [.ref (u 67), .int 0, .int 0])), ((u 67), .inl (cI G, 40, .inl (fun _ => 0))), ((u 68), .inr (2, [.ref (u 69), .int 0, .int 0])), ((u 69), .inl (cI G, 40, .inl (fun _ => 0))), ((u 70), .inr (2, [.ref (u 71), .int 0, .int 0])), ((u 71), .inl (cI G, 40, .inl (fun _ => 0))), ((u 72), .inl (cI G, 6, .inl (fun _ => 0))), ((u 73), .inl (cI G, 8, .inl (fun _ => 0))), (h1, .inr (8, [.null, .null, .null, .int 0, .null, .null, .null, .null, .null, .int 0, .int 0, .int 0, .int 0, .null, .int 0, .null, .null, .null, .null, .int 0, .int 0, .int 0, .int 0, .null, .null, .null, .null]))]) (fun _ => rfl) (Nat.le_of_ble_eq_true rfl) (Nat.le_of_ble_eq_true rfl) dL_law_8 (fun h1 Hx I => ?_)
  have I : Iv G (fun q : Nat => s.heap.size ≤ q) s [(h0, .inr (7, [.ref (u 0), .ref (u 22), .ref (u 44), .ref (u 53), .ref (u 60), .ref (u 63), .ref (u 72), .ref (u 73), .int 0])), ((u 0), .inr (5, [.ref (u 1), .ref (u 5), .ref (u 9), .ref (u 18), .ref (u 20), .int 1])), ((u 1), .inr (3, [.ref (u 2), .ref (u 3), .ref (u 4), .int 0])), ((u 2), .inl (cI G, 50, .inl (fun _ => 0))), ((u 3), .inl (cI G, 50, .inl (fun _ => 0))), ((u 4), .inl (cI G, 50, .inl (fun _ => 0))), ((u 5), .inr (3, [.ref (u 6), .ref (u 7), .ref (u 8), .int 0])), ((u 6), .inl (cI G, 50, .inl (fun _ => 0))), ((u 7), .inl (cI G, 50, .inl (fun _ => 0))), ((u 8), .inl (cI G, 50, .inl (fun _ => 0))), ((u 9), .inr (0, [.ref (u 1), .ref (u 5), .ref (u 10), .ref (u 11), .ref (u 12), .ref (u 13), .ref (u 14), .ref (u 15), .ref (u 16), .ref (u 17), .int 0, .int 0, .int 1])), ((u 10), .inl (cI G, 8, .inl (fun _ => 0))), ((u 11), .inl (cI G, 8, .inl (fun _ => 0))), ((u 12), .inl (cI G, 8, .inl (fun _ => 0))), ((u 13), .inl (cI G, 8, .inl (fun _ => 0))), ((u 14), .inl (cI G, 8, .inl (fun _ => 0))), ((u 15), .inl (cI G, 8, .inl (fun _ => 0))), ((u 16), .inl (cI G, 8, .inl (fun _ => 0))), ((u 17), .inl (cI G, 8, .inl (fun _ => 0))), ((u 18), .inr (4, [.ref (u 19), .int 0])), ((u 19), .inl (cI G, 50, .inl (fun _ => 0))), ((u 20), .inr (4, [.ref (u 21), .int 0])), ((u 21), .inl (cI G, 20, .inl (fun _ => 0))), ((u 22), .inr (5, [.ref (u 23), .ref (u 27), .ref (u 31), .ref (u 40), .ref (u 42), .int 1])), ((u 23), .inr (3, [.ref (u 24), .ref (u 25), .ref (u 26), .int 0])), ((u 24), .inl (cI G, 50, .inl (fun _ => 0))), ((u 25), .inl (cI G, 50, .inl (fun _ => 0))), ((u 26), .inl (cI G, 50, .inl (fun _ => 0))), ((u 27), .inr (3, [.ref (u 28), .ref (u 29), .ref (u 30), .int 0])), ((u 28), .inl (cI G, 50, .inl (fun _ => 0))), ((u 29), .inl (cI G, 50, .inl (fun _ => 0))), ((u 30), .inl (cI G, 50, .inl (fun _ => 0))), ((u 31), .inr (0, [.ref (u 23), .ref (u 27), .ref (u 32), .ref (u 33), .ref (u 34), .ref (u 35), .ref (u 36), .ref (u 37), .ref (u 38), .ref (u 39), .int 0, .int 0, .int 1])), ((u 32), .inl (cI G, 8, .inl (fun _ => 0))), ((u 33), .inl (cI G, 8, .inl (fun _ => 0))), ((u 34), .inl (cI G, 8, .inl (fun _ => 0))), ((u 35), .inl (cI G, 8, .inl (fun _ => 0))), ((u 36), .inl (cI G, 8, .inl (fun _ => 0))), ((u 37), .inl (cI G, 8, .inl (fun _ => 0))), ((u 38), .inl (cI G, 8, .inl (fun _ => 0))), ((u 39), .inl (cI G, 8, .inl (fun _ => 0))), ((u 40), .inr (4, [.ref (u 41), .int 0])), ((u 41), .inl (cI G, 50, .inl (fun _ => 0))), ((u 42), .inr (4, [.ref (u 43), .int 0])), ((u 43), .inl (cI G, 20, .inl (fun _ => 0))), ((u 44), .inr (0, [.ref (u 1), .ref (u 5), .ref (u 45), .ref (u 46), .ref (u 47), .ref (u 48), .ref (u 49), .ref (u 50), .ref (u 51), .ref (u 52), .int 0, .int 0, .int 1])), ((u 45), .inl (cI G, 8, .inl (fun _ => 0))), ((u 46), .inl (cI G, 8, .inl (fun _ => 0))), ((u 47), .inl (cI G, 8, .inl (fun _ => 0))), ((u 48), .inl (cI G, 8, .inl (fun _ => 0))), ((u 49), .inl (cI G, 8, .inl (fun _ => 0))), ((u 50), .inl (cI G, 8, .inl (fun _ => 0))), ((u 51), .inl (cI G, 8, .inl (fun _ => 0))), ((u 52), .inl (cI G, 8, .inl (fun _ => 0))), ((u 53), .inr (1, [.ref (u 54), .ref (u 58), .int 0, .int 0])), ((u 54), .inr (3, [.ref (u 55), .ref (u 56), .ref (u 57), .int 0])), ((u 55), .inl (cI G, 50, .inl (fun _ => 0))), ((u 56), .inl (cI G, 50, .inl (fun _ => 0))), ((u 57), .inl (cI G, 50, .inl (fun _ => 0))), ((u 58), .inr (4, [.ref (u 59), .int 0])), ((u 59), .inl (cI G, 50, .inl (fun _ => 0))), ((u 60), .inr (6, [.ref (u 61), .int 0, .int 0, .int 0])), ((u 61), .inr (4, [.ref (u 62), .int 0])), ((u 62), .inl (cI G, 40, .inl (fun _ => 0))), ((u 63), .inl (G.2.2 1, 4, .inr (.inr (.inr (.inr (rwf (u 64) (u 66) (u 68) (u 70))))))), ((u 64), .inr (2, [.ref (u 65), .int 0, .int 0])), ((u 65), .inl (cI G, 40, .inl (fun _ => 0))), ((u 66), .inr (2, [.ref (u 67), .int 0, .int 0])), ((u 67), .inl (cI G, 40, .inl (fun _ => 0))), ((u 68), .inr (2, [.ref (u 69), .int 0, .int 0])), ((u 69), .inl (cI G, 40, .inl (fun _ => 0))), ((u 70), .inr (2, [.ref (u 71), .int 0, .int 0])), ((u 71), .inl (cI G, 40, .inl (fun _ => 0))), ((u 72), .inl (cI G, 6, .inl (fun _ => 0))), ((u 73), .inl (cI G, 8, .inl (fun _ => 0))), (h1, .inr (8, [.null, .null, .null, .int 0, .null, .null, .null, .null, .null, .int 0, .int 0, .int 0, .int 0, .null, .int 0, .null, .null, .null, .null, .int 0, .int 0, .int 0, .int 0, .null, .null, .null, .null]))] Hx lx := I
  refine x_dup C dL_law_11 rfl ?_
  refine x_muv (wk := [(h1, .inr (8, [.null, .null, .null, .int 0, .null, .null, .null, .null, .null, .int 0, .int 0, .int 0, .int 0, .null, .int 0, .null, .null, .null, .null, .int 0, .int 0, .int 0, .int 0, .null, .null, .null, .null]))]) (wr := [(h0, .inr (7, [.ref (u 0), .ref (u 22), .ref (u 44), .ref (u 53), .ref (u 60), .ref (u 63), .ref (u 72), .ref (u 73), .int 0])), ((u 0), .inr (5, [.ref (u 1), .ref (u 5), .ref (u 9), .ref (u 18), .ref (u 20), .int 1])), ((u 1), .inr (3, [.ref (u 2), .ref (u 3), .ref (u 4), .int 0])), ((u 2), .inl (cI G, 50, .inl (fun _ => 0))), ((u 3), .inl (cI G, 50, .inl (fun _ => 0))), ((u 4), .inl (cI G, 50, .inl (fun _ => 0))), ((u 5), .inr (3, [.ref (u 6), .ref (u 7), .ref (u 8), .int 0])), ((u 6), .inl (cI G, 50, .inl (fun _ => 0))), ((u 7), .inl (cI G, 50, .inl (fun _ => 0))), ((u 8), .inl (cI G, 50, .inl (fun _ => 0))), ((u 9), .inr (0, [.ref (u 1), .ref (u 5), .ref (u 10), .ref (u 11), .ref (u 12), .ref (u 13), .ref (u 14), .ref (u 15), .ref (u 16), .ref (u 17), .int 0, .int 0, .int 1])), ((u 10), .inl (cI G, 8, .inl (fun _ => 0))), ((u 11), .inl (cI G, 8, .inl (fun _ => 0))), ((u 12), .inl (cI G, 8, .inl (fun _ => 0))), ((u 13), .inl (cI G, 8, .inl (fun _ => 0))), ((u 14), .inl (cI G, 8, .inl (fun _ => 0))), ((u 15), .inl (cI G, 8, .inl (fun _ => 0))), ((u 16), .inl (cI G, 8, .inl (fun _ => 0))), ((u 17), .inl (cI G, 8, .inl (fun _ => 0))), ((u 18), .inr (4, [.ref (u 19), .int 0])), ((u 19), .inl (cI G, 50, .inl (fun _ => 0))), ((u 20), .inr (4, [.ref (u 21), .int 0])), ((u 21), .inl (cI G, 20, .inl (fun _ => 0))), ((u 22), .inr (5, [.ref (u 23), .ref (u 27), .ref (u 31), .ref (u 40), .ref (u 42), .int 1])), ((u 23), .inr (3, [.ref (u 24), .ref (u 25), .ref (u 26), .int 0])), ((u 24), .inl (cI G, 50, .inl (fun _ => 0))), ((u 25), .inl (cI G, 50, .inl (fun _ => 0))), ((u 26), .inl (cI G, 50, .inl (fun _ => 0))), ((u 27), .inr (3, [.ref (u 28), .ref (u 29), .ref (u 30), .int 0])), ((u 28), .inl (cI G, 50, .inl (fun _ => 0))), ((u 29), .inl (cI G, 50, .inl (fun _ => 0))), ((u 30), .inl (cI G, 50, .inl (fun _ => 0))), ((u 31), .inr (0, [.ref (u 23), .ref (u 27), .ref (u 32), .ref (u 33), .ref (u 34), .ref (u 35), .ref (u 36), .ref (u 37), .ref (u 38), .ref (u 39), .int 0, .int 0, .int 1])), ((u 32), .inl (cI G, 8, .inl (fun _ => 0))), ((u 33), .inl (cI G, 8, .inl (fun _ => 0))), ((u 34), .inl (cI G, 8, .inl (fun _ => 0))), ((u 35), .inl (cI G, 8, .inl (fun _ => 0))), ((u 36), .inl (cI G, 8, .inl (fun _ => 0))), ((u 37), .inl (cI G, 8, .inl (fun _ => 0))), ((u 38), .inl (cI G, 8, .inl (fun _ => 0))), ((u 39), .inl (cI G, 8, .inl (fun _ => 0))), ((u 40), .inr (4, [.ref (u 41), .int 0])), ((u 41), .inl (cI G, 50, .inl (fun _ => 0))), ((u 42), .inr (4, [.ref (u 43), .int 0])), ((u 43), .inl (cI G, 20, .inl (fun _ => 0))), ((u 44), .inr (0, [.ref (u 1), .ref (u 5), .ref (u 45), .ref (u 46), .ref (u 47), .ref (u 48), .ref (u 49), .ref (u 50), .ref (u 51), .ref (u 52), .int 0, .int 0, .int 1])), ((u 45), .inl (cI G, 8, .inl (fun _ => 0))), ((u 46), .inl (cI G, 8, .inl (fun _ => 0))), ((u 47), .inl (cI G, 8, .inl (fun _ => 0))), ((u 48), .inl (cI G, 8, .inl (fun _ => 0))), ((u 49), .inl (cI G, 8, .inl (fun _ => 0))), ((u 50), .inl (cI G, 8, .inl (fun _ => 0))), ((u 51), .inl (cI G, 8, .inl (fun _ => 0))), ((u 52), .inl (cI G, 8, .inl (fun _ => 0))), ((u 53), .inr (1, [.ref (u 54), .ref (u 58), .int 0, .int 0])), ((u 54), .inr (3, [.ref (u 55), .ref (u 56), .ref (u 57), .int 0])), ((u 55), .inl (cI G, 50, .inl (fun _ => 0))), ((u 56), .inl (cI G, 50, .inl (fun _ => 0))), ((u 57), .inl (cI G, 50, .inl (fun _ => 0))), ((u 58), .inr (4, [.ref (u 59), .int 0])), ((u 59), .inl (cI G, 50, .inl (fun _ => 0))), ((u 60), .inr (6, [.ref (u 61), .int 0, .int 0, .int 0])), ((u 61), .inr (4, [.ref (u 62), .int 0])), ((u 62), .inl (cI G, 40, .inl (fun _ => 0))), ((u 63), .inl (G.2.2 1, 4, .inr (.inr (.inr (.inr (rwf (u 64) (u 66) (u 68) (u 70))))))), ((u 64), .inr (2, [.ref (u 65), .int 0, .int 0])), ((u 65), .inl (cI G, 40, .inl (fun _ => 0))), ((u 66), .inr (2, [.ref (u 67), .int 0, .int 0])), ((u 67), .inl (cI G, 40, .inl (fun _ => 0))), ((u 68), .inr (2, [.ref (u 69), .int 0, .int 0])), ((u 69), .inl (cI G, 40, .inl (fun _ => 0))), ((u 70), .inr (2, [.ref (u 71), .int 0, .int 0])), ((u 71), .inl (cI G, 40, .inl (fun _ => 0))), ((u 72), .inl (cI G, 6, .inl (fun _ => 0))), ((u 73), .inl (cI G, 8, .inl (fun _ => 0)))]) (isC := [75]) (isR := [0, 1, 2, 3, 4, 5, 6, 7, 8, 9, 10, 11, 12, 13, 14, 15, 16, 17, 18, 19, 20, 21, 22, 23, 24, 25, 26, 27, 28, 29, 30, 31, 32, 33, 34, 35, 36, 37, 38, 39, 40, 41, 42, 43, 44, 45, 46, 47, 48, 49, 50, 51, 52, 53, 54, 55, 56, 57, 58, 59, 60, 61, 62, 63, 64, 65, 66, 67, 68, 69, 70, 71, 72, 73, 74]) I ⟨⟨rfl, rfl⟩, rfl, rfl, rfl⟩ [0, 1, 2, 3, 4, 5, 6, 7, 8, 9, 10, 11, 12, 13, 14, 15, 16, 17, 18, 19, 20, 21, 22, 23, 24, 25, 26, 27, 28, 29, 30, 31, 32, 33, 34, 35, 36, 37, 38, 39, 40, 41, 42, 43, 44, 45, 46, 47, 48, 49, 50, 51, 52, 53, 54, 55, 56, 57, 58, 59, 60, 61, 62, 63, 64, 65, 66, 67, 68, 69, 70, 71, 72, 73, 74, 75, 76, 77, 78, 79, 80, 81, 82, 83, 84, 85, 86, 87, 88, 89, 90, 91, 92] (fun v => WL G h0 u h1 v ca0 ci0 ma0 mi0) (fun _ => rfl) rfl (run_I (As := []) (rest := [.ref h1]) C hl (wn_X8_init l G h1 Hx.size) gc_X8_init wd_84 wd_833 wd_834 rfl ⟨⟨rfl, rfl⟩, cn_X8_init, ⟨(Nat.le_of_ble_eq_true rfl), (Nat.le_of_ble_eq_true rfl)⟩⟩ (pbs_blind _ _ _ _) (pbs_of I oS v1 v2 [75] rfl rfl) rfl rfl (Nat.le_of_ble_eq_true rfl) ⟨(Nat.le_of_ble_eq_true rfl), (Nat.le_of_ble_eq_true rfl)⟩ dL_law_12) (fun v Hx lx hw I => ?_)
  refine x_astore_n C hl [(2, .ref h1), (1, .ref h0), (0, .ref b)] dL_law_15 (by decide) rfl (fun ls hl => ?_)
  refine x_iconst C dL_law_16 ic_0 ?_
  refine x_istore_n C hl [(3, .int 0), (2, .ref h1), (1, .ref h0), (0, .ref b)] dL_law_17 (by decide) rfl (fun ls hl => ?_)
  exact law_loop hL C hX hbl L 0 ls ca0 ci0 ma0 mi0 Hx lx (by omega) (by omega) hl inv0 I
set_option maxHeartbeats 4000000 in
theorem lw_walk (l : Launch) (hflags : l.flags = flags0) (b : Addr) (xs : List Int32) : MetFree l x (headSpec (Jvm.Cond.code x code maxLocals ret :: tables_1) room_1) (lw_P b xs) (fun _ _ _ _ _ => True) lw_Q := by
  refine MetFree.of_bodyS (code := code) (maxLocals := maxLocals) (ret := ret) (by decide) ?_ ?_
  · intro args s m h hn
    obtain ⟨meth, c, h1, h2, h3, h4, h5, h6, -, -⟩ := Cond.code_spec hn (atoms_spec (ws := Jvm.Cond.code x code maxLocals ret :: tables_1) h _ List.mem_cons_self)
    exact ⟨meth, c, h1, h2, h3, h4, h5, h6⟩
  · intro p e s m args below meth c s₁ B hml0 hP _
    obtain ⟨rfl, hx, hbd, hgv⟩ := hP
    obtain ⟨scr, harrAt, hlist, hof, hsmall⟩ := hx
    obtain ⟨hcb, hkn, -, -⟩ := State.arrayAt?_spec harrAt
    have hown : s.vm.findClass R_law = some m.cls := findClass_of_methodNamed B.named
    have hts0 : ∀ c ∈ (Jvm.Cond.code x code maxLocals ret :: tables_1), c.before #[Value.ref b] s = true := atoms_spec (ws := Jvm.Cond.code x code maxLocals ret :: tables_1) B.pre
    have hts : ∀ w ∈ lw_tbl, w.before #[Value.ref b] s = true := k2_hts_sels lw_privs (fun w hw => hts0 w (List.mem_cons_of_mem _ hw)) lw_privs_ok
    have hml : c.maxLocals = 4 := B.maxLocals_eq (hts0 _ List.mem_cons_self)
    have X₀ : Stand p l e room_1 s m #[Value.ref b] below meth c s₁ [] 0 0 := Stand.of_body B
    have hh0 : s₁.heap = s.heap := by rw [B.state]; rfl
    have hsz : scr.slots.size = xs.length := by rw [← Array.length_toList, hlist, List.length_map]
    have hval : ∀ j : Nat, j < xs.length → scr.slots[j]? = some (.int (xs.getD j 0)) := fun j hj => by
      rw [← Array.getElem?_toList, hlist]
      simp [hj]
    have hbl : b < s.heap.size := (Array.getElem?_eq_some_iff.mp hcb).1
    have hX : va_X b xs.length (fun j => xs.getD j 0) s s.heap := ⟨scr, hcb, hof, hkn, hsz, hval⟩
    have K : W p l e room_1 s m #[Value.ref b] below meth c s₁.heap [] 0 0 (lw_Z below #[Value.ref b] s) (entryFrame m ([Value.ref b] : List Value).toArray 4) := by
      rw [hh0]
      exact whole_start l hflags hbd ⟨B.exec, B.bytes, B.returns, hml, hown, hts, hX, hbl, B.notSynchronized, hgv⟩
    obtain ⟨t, a1, o, b1, b2, b3⟩ := K s₁ rfl X₀
    exact ⟨t, o, a1, b1, b2, b3⟩
theorem lw_pre_spec {args : Array Value} {s : State} (h : (Jvm.Cond.and given_1 narrow_1).before args s = true) (hr : rest_1_c.before args s = true) : ∃ (b : Addr) (xs : List Int32), lw_P b xs args s := by
  have hs := flat_of_before _ h
  have hq := flat_of_before _ hr
  have hc : (Cond.count 1).before args s = true := hs _ (by decide +kernel)
  have harr : (Cond.arrayOf (.arg 0) .int).before args s = true := hs _ (by decide +kernel)
  have hle : (Cond.le (.length (.arg 0)) (.int 3072)).before args s = true := hs _ (by decide +kernel)
  have hlen : (Cond.isInt (.length (.arg 0))).before args s = true := hq _ (by decide +kernel)
  have hall : (Cond.all (.arg 0) (.isInt (.elem (.arg 0) (.index 0)))).before args s = true := hq _ (by decide +kernel)
  obtain ⟨b, xs, hb, hx⟩ := State.ints_of_pre rfl harr hlen hall
  have hsm : xs.length < 2 ^ 31 := hx.choose_spec.2.2.2
  have hev : (Term.length (.arg 0)).eval args s none [] s = some (.int xs.length.toInt32) := hx.length_eval hb
  have hv := Cond.le_ints hev (show (Term.int 3072).eval args s none [] s = some (.int 3072) from rfl)
  have hd : xs.length.toInt32 ≤ 3072 := by
    simpa [Cond.before, Cond.holds, hv] using hle
  have hN : xs.length ≤ 3072 := (Int32.ofNat_le_ofNat hsm (by decide)).mp (show Int32.ofNat xs.length ≤ Int32.ofNat 3072 from hd)
  exact ⟨b, xs, Cond.one_arg hc (show args[0]? = some (.ref b) from hb), hx, hN, h⟩
theorem lw_comes (l : Launch) (hflags : l.flags = flags0) : Comes l x (Jvm.Cond.code x code maxLocals ret :: tables_1) room_1 (fun tb e args s => Calls_1 tb e args s ∧ rest_1 tb e args s ∧ Pre_1 tb e args s)
    (fun _ _ args s o t => lw_Q args s o t) := by
  intro p e ha hc hk s m args below hf hfit hheap happ hpre
  obtain ⟨b, xs, hP⟩ := lw_pre_spec hpre.2.2 hpre.2.1
  obtain ⟨k, o, h1, h2, h3, hQ⟩ := lw_walk l hflags b xs p e ha hc hk s m args below hf ((Spec.applies_iff_loose hf).mp happ).1 hP trivial
  exact ⟨k, o, h1, h2, h3, hQ⟩
theorem lw_frame {s t : State} {o : Outcome} {args : Array Value} (h : Framed s o t [] 600000 7302249) :
    Framed s o t (fieldLocs frame_1_writes args s ++ arrayLocs frame_1_arrays args s ++ staticLocs frame_1_statics s) 600000 7302249 := h
theorem lw_limb (L : Cond) (hL : ∀ (args : Array Value) (s t : State), L.after args s (.returned (some (.int 1))) t = true) :
    ArmFor flags0 classFile x code maxLocals ret World_1 tables_1 room_1 Calls_1 rest_1 Pre_1
      (fun tb e a s o t => postC L tb e a s o t ∧ Framed s o t (fieldLocs frame_1_writes a s ++ arrayLocs frame_1_arrays a s ++ staticLocs frame_1_statics s) 600000 7302249) := by
  intro l hflags _ _ p e ha hc hk s m args below hf hfit hheap happ hpre
  obtain ⟨k, o, h1, h2, h3, rfl, hF⟩ := lw_comes l hflags p e ha hc hk s m args below hf hfit hheap happ hpre
  exact ⟨k, _, h1, h2, h3, hL args s _, lw_frame hF⟩
theorem i_vc : Claimed_1_1 ∧ Claimed_1_2 := ⟨lw_limb limb_1_1 (fun args s t => by simp [limb_1_1, Cond.after, Cond.holds, Cond.value]), lw_limb limb_1_2 (fun args s t => Cond.after_iff.mpr (by
  first | (rw [show limb_1_2 = Cond.eq .result (.int 1) from rfl, Cond.eq_ints (x := 1) (y := 1) rfl rfl]; simp; done) | (simp [limb_1_2, Cond.value, Term.eval]; done)))⟩
