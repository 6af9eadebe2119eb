section
variable {p : Program} {l : Launch} {e : Env} {R : Room} {s : State} {m : MethodId} {args : Array Value} {below : List Frame} {meth : Method} {c : Code} {H : Heap} {locs : List Loc} {cells slots : Nat} {Q : State → Prop}
variable {cc : ByteArray} {nL : Nat} {own : String} {ret : Option FieldType} {pc : Nat} {ls : Array Slot} {rest : List Value} {G : Gt} {A : Nat → Prop} {ws : va_W} {lv : List (Nat × Value)}
theorem x_new (C : Cx p s m args meth c cc nL own ret) (I : Iv G A s ws H locs) {index ci N : Nat} {Cn : String} {T : u_T} (hcl : Cond.classLink own index Cn ∈ wz) (hins : Cond.instantiable Cn N ∈ wz) (hini : Cond.initialized Cn ∈ wz) (hc : vwCl[ci]? = some (Cn, T, N)) (hin : ∀ w ∈ u_ws Cn T N, w ∈ wz) (ty : Nat → FieldType) (hty : ∀ k, k < N → parseFieldDescriptor (T k).2.2.1 = some (ty k)) (fs : List Value) (hfs : ∀ j, j < N → defaultValue (ty j) = vp_V fs j) (ws' : Nat → va_W) (hws : ∀ q, ws ++ [(q, .inr (ci, fs))] = ws' q) (hcells : cells + 1 ≤ R.cells) (hslots : slots + N ≤ R.slots) (hdg : decode cc pc = .ok (.new index, 3))
    (kk : ∀ (q : Nat) (H1 : Heap), Iv G A s (ws' q) H1 locs → W p l e R s m args below meth c H1 locs (cells + 1) (slots + N) Q (F0 m (pc + 3) ls (.ref q :: rest))) : W p l e R s m args below meth c H locs cells slots Q (F0 m pc ls rest) :=
  va_new C.1 C.2.1 C.2.2.2.2.1 hin ty hty C.2.2.2.1 (C.2.2.2.2.1 _ hcl) (C.2.2.2.2.1 _ hins) (C.2.2.2.2.1 _ hini) I.1.2.1 I.1.1 I.2.1 I.1.2.2.1 I.2.2 hc hfs hcells hslots hdg (fun q H1 hP hD hS => kk q H1 (hws q ▸ ⟨⟨hP, I.1.2.1, hS, I.1.2.2.2⟩, hD, I.2.2⟩))
theorem k_arr {G : Gt} {cA : ClassId} {tys : List (ClassId × FieldType)} (h : va_K (gD G) vwCl (tyl G) s) (h1 : va_K (gD G) vwCl (tys ++ [(cA, .int)]) s) : cA = cI G := by
  have a1 : s.vm.findClass ("[" ++ (FieldType.int).toString) = some (cI G) := (h.2 0 _ rfl).2
  have a2 : s.vm.findClass ("[" ++ (FieldType.int).toString) = some cA := (h1.2 tys.length (cA, .int) (by simp)).2
  rw [a1] at a2
  exact (Option.some.inj a2).symm
theorem k_arrq {G : Gt} {cA cB : ClassId} {E : String} {k : Nat} {tys : List (ClassId × FieldType)} (h : va_K (gD G) vwCl (tyl G) s) (hk : (tyl G)[k]? = some (cB, .object E)) (h1 : va_K (gD G) vwCl (tys ++ [(cA, .object E)]) s) : cA = cB := by
  obtain ⟨kA, comp, -, -, -, a1⟩ := (h.2 k _ hk).2
  obtain ⟨kB, comq, -, -, -, a2⟩ := (h1.2 tys.length (cA, .object E) (by simp)).2
  rw [a1] at a2
  exact (Option.some.inj a2).symm
theorem x_newa (C : Cx p s m args meth c cc nL own ret) (I : Iv G A s ws H locs) (harr : Cond.arrayClass .int ∈ wz) {n : Int32} (N : Nat) (ws' : Nat → va_W) (hws : ∀ q, ws ++ [(q, .inl (cI G, N, .inl (fun _ => 0)))] = ws' q) (hn : ¬ n < 0) (hN : n.toNatClampNeg = N) (hbytes : N * 4 ≤ 536870912) (hcells : cells + 1 ≤ R.cells) (hslots : slots + N ≤ R.slots) (hdg : decode cc pc = .ok (.newarray .int, 2))
    (kk : ∀ (q : Nat) (H1 : Heap), Iv G A s (ws' q) H1 locs → W p l e R s m args below meth c H1 locs (cells + 1) (slots + N) Q (F0 m (pc + 2) ls (.ref q :: rest))) : W p l e R s m args below meth c H locs cells slots Q (F0 m pc ls (.int n :: rest)) :=
  va_newa (atype := .int) (ty := .int) (a0 := (N, .inl (fun _ => 0))) C.1 C.2.1 (C.2.2.2.2.1 _ harr) rfl I.1.2.1 I.1.1 I.2.1 I.1.2.2.1 I.2.2 (fun _ => rfl) hn hN hbytes hcells hslots hdg (fun q cA H1 hK hP hD hS => by
    have e1 := k_arr I.1.2.1 hK
    subst e1
    exact kk q H1 (hws q ▸ ⟨⟨hP, I.1.2.1, hS, I.1.2.2.2⟩, hD, I.2.2⟩))
theorem x_newq (C : Cx p s m args meth c cc nL own ret) (I : Iv G A s ws H locs) {index : Nat} {E : String} {cB : ClassId} (k : Nat) (hk : (tyl G)[k]? = some (cB, .object E)) (hcl : Cond.classLink own index E ∈ wz) (hov : va_AO E s) {n : Int32} (N : Nat) (ws' : Nat → va_W) (hws : ∀ q, ws ++ [(q, .inl (cB, N, .inr (.inr (.inr (.inr (fun _ => none))))))] = ws' q) (hn : ¬ n < 0) (hN : n.toNatClampNeg = N) (hbytes : N * 4 ≤ 536870912) (hcells : cells + 1 ≤ R.cells) (hslots : slots + N ≤ R.slots) (hdg : decode cc pc = .ok (.anewarray index, 3))
    (kk : ∀ (q : Nat) (H1 : Heap), Iv G A s (ws' q) H1 locs → W p l e R s m args below meth c H1 locs (cells + 1) (slots + N) Q (F0 m (pc + 3) ls (.ref q :: rest))) : W p l e R s m args below meth c H locs cells slots Q (F0 m pc ls (.int n :: rest)) :=
  va_newq C.1 C.2.1 C.2.2.2.1 (C.2.2.2.2.1 _ hcl) hov I.1.2.1 I.1.1 I.2.1 I.1.2.2.1 I.2.2 hn hN hbytes hcells hslots hdg (fun q cA H1 hK hP hD hS => by
    have e1 := k_arrq I.1.2.1 hk hK
    subst e1
    exact kk q H1 (hws q ▸ ⟨⟨hP, I.1.2.1, hS, I.1.2.2.2⟩, hD, I.2.2⟩))
theorem x_objinit (C : Cx p s m args meth c cc nL own ret) (hl : lv_has ls nL lv) {idx a : Nat} (hlk : Cond.methodLink own idx objectInit ∈ wz) (hin : Cond.instanceMethod objectInit ∈ wz) (hcode : Cond.code objectInit ⟨#[0xb1]⟩ 1 none ∈ wz) (hframes : 1 ≤ R.frames) (hlocals : 2 * (F0 m pc ls (.ref a :: rest)).monitorRoom + (rest.map fun v => v.category).sum + 12 ≤ R.locals) (hdg : decode cc pc = .ok (.invokespecial idx, 3)) (kk : W p l e R s m args below meth c H locs cells slots Q (F0 m (pc + 3) ls rest)) : W p l e R s m args below meth c H locs cells slots Q (F0 m pc ls (.ref a :: rest)) :=
  W.objInit C.1 C.2.1 C.2.2.2.1 (C.2.2.2.2.1 _ hlk) (C.2.2.2.2.1 _ hin) (C.2.2.2.2.1 _ hcode) rfl (hl.1.trans C.2.2.1.symm) rfl hdg hframes hlocals (W.eq (g2 := F0 m (pc + 3) ls rest) rfl kk)
theorem x_aast (C : Cx p s m args meth c cc nL own ret) (I : Iv G A s ws H locs) (q0 t0 qk : Nat) (ws' : va_W) {a ci n v : Nat} {cA : ClassId} {r : vw_C} {vs : List Value} {f : Nat → Option Nat} (ha : ws[q0]? = some (a, .inl (cA, n, .inr (.inr (.inr (.inr f)))))) (ht : (tyl G)[t0]? = some (cA, .object r.1)) (hv : ws[qk]? = some (v, .inr (ci, vs))) (hc : vwCl[ci]? = some r) {i : Int32} (hin : vp_in i n) (hws : ws.set q0 (a, .inl (cA, n, .inr (.inr (.inr (.inr (va_up f i.toNatClampNeg (some v))))))) = ws') (hdg : decode cc pc = .ok (.aastore, 1)) (kk : ∀ (H1 : Heap) (locs1 : List Loc), Iv G A s ws' H1 locs1 → W p l e R s m args below meth c H1 locs1 cells slots Q (F0 m (pc + 1) ls rest)) : W p l e R s m args below meth c H locs cells slots Q (F0 m pc ls (.ref v :: .int i :: .ref a :: rest)) :=
  va_astq C.1 C.2.1 I.1.2.1 I.1.1 I.2.1 I.1.2.2.1 q0 t0 qk ci ha ht hv hc hin hdg (fun H1 locs1 hP hD hS => kk H1 locs1 (hws ▸ ⟨⟨hP, I.1.2.1, hS, I.1.2.2.2⟩, hD, I.2.2⟩))
theorem x_aastS (C : Cx p s m args meth c cc nL own ret) (I : Iv G A s ws H locs) (q0 : Nat) (j : Nat) (hj : j < 2) (ws' : va_W) {a n : Nat} {f : Nat → Option Nat} (ha : ws[q0]? = some (a, .inl (G.2.2 2, n, .inr (.inr (.inr (.inr f)))))) {i : Int32} (hin : vp_in i n) (hws : ws.set q0 (a, .inl (G.2.2 2, n, .inr (.inr (.inr (.inr (va_up f i.toNatClampNeg (some (G.2.2 (6 + j))))))))) = ws') (hdg : decode cc pc = .ok (.aastore, 1)) (kk : ∀ (H1 : Heap) (locs1 : List Loc), Iv G A s ws' H1 locs1 → W p l e R s m args below meth c H1 locs1 cells slots Q (F0 m (pc + 1) ls rest)) : W p l e R s m args below meth c H locs cells slots Q (F0 m pc ls (.ref (G.2.2 (6 + j)) :: .int i :: .ref a :: rest)) :=
  vb_astq C.1 C.2.1 I.1.2.1 I.1.1 I.2.1 I.1.2.2.1 q0 2 (E := "java/lang/String") (C := "java/lang/String") ha rfl (vk_recv I.1.2.2.2.1.2.2.2.1.2 hj I.1.2.2.1) (fun _ _ h1 h2 => vb_asgS _ _ h1 h2) hin hdg (fun H1 locs1 hP hD hS => kk H1 locs1 (hws ▸ ⟨⟨hP, I.1.2.1, hS, I.1.2.2.2⟩, hD, I.2.2⟩))
variable {y : MethodName} {bytes : ByteArray} {maxL index mc ms : Nat} {rm : Room} {Qc : Array Value → State → Outcome → State → Prop} {free : Addr → Prop} {b : Nat} {As : List Value} {st0 : List Value}
theorem run_I (C : Cx p s m args meth c cc nL own ret) (hl : lv_has ls nL lv) {Pc : Array Value → State → Prop} (hM : Met l y (wc y bytes maxL none) rm Pc Qc mc ms free) (g : GoodIn wz (wc y bytes maxL none)) (hini : Cond.initialized y.cls ∈ wz) (hlk : Cond.methodLink own index y ∈ wz) (hin : Cond.instanceMethod y ∈ wz) (hnm : y.name = "<init>") {n : Nat} {Cn : String} (hN : CN R y Cn maxL rm mc ms n) (hbl : FrameBlind Pc) (hpc : ∀ U : State, U.heap = H → s.WarmedH U.vm → Pc (Value.ref b :: As).toArray U)
    (hn : As.length = n) (hst : st0 = As.reverse ++ .ref b :: rest) (hW : (rest.map fun v => v.category).sum ≤ 8) (hf : cells + mc ≤ R.cells ∧ slots + ms ≤ R.slots) (hdg : decode cc pc = .ok (.invokespecial index, 3)) : va_Run p l e R s m args below meth c H locs cells slots mc ms (F0 m pc ls st0) rest (Qc (Value.ref b :: As).toArray) free :=
  va_runI ⟨C.1, C.2.1, C.2.2.1, C.2.2.2.1, C.2.2.2.2.1⟩ hM (cwI n C.2.2.2.2.1 g rfl hN.1.1 hN.1.2 (C.2.2.2.2.1 _ hini) (C.2.2.2.2.1 _ hlk) (C.2.2.2.2.1 _ hin) hnm hN.2.1.2 hN.2.2) ⟨hbl, hpc⟩ rfl hn hl.1 hst (lv_room hW) hdg hf
end
/-- the Model's constructor also wants its two texts -/
def PBS (G : Gt) (ws : va_W) (sz : Nat) (U : State) : Prop := PB G ws sz U ∧ vk_R "ImmunityCatchingModel" 33 "shn" (G.2.2 6) U ∧ vk_R "ImmunityCatchingModel" 35 "fms" (G.2.2 7) U ∧ va_AO "java/lang/String" U
theorem pbs_blind (G : Gt) (av : List Value) (ws : va_W) (sz : Nat) : FrameBlind (va_Pc av (PBS G ws sz)) := fun a U g mk q =>
  ⟨q.1, (pb_blind G av ws sz a U g mk ⟨q.1, q.2.1⟩).2, q.2.2.1.same rfl, q.2.2.2.1.same rfl, q.2.2.2.2⟩
/-- the class's constructor wants that rows of rows can be made -/
def PBR (G : Gt) (ws : va_W) (sz : Nat) (U : State) : Prop := PB G ws sz U ∧ va_AO "ImmunityCatching$Row" U
theorem pbr_blind (G : Gt) (av : List Value) (ws : va_W) (sz : Nat) : FrameBlind (va_Pc av (PBR G ws sz)) := fun a U g mk q =>
  ⟨q.1, (pb_blind G av ws sz a U g mk ⟨q.1, q.2.1⟩).2, q.2.2⟩
