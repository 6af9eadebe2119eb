/-! the good words of the tables, one list for every method -/
def wz : List Cond := lw_tbl.filter goodWord
abbrev wc (y : MethodName) (cc : ByteArray) (n : Nat) (r : Option FieldType) : List Cond := Cond.code y cc n r :: wz
theorem wz_good {w : Cond} (h : w ∈ wz) : (w.onTables && w.keeps) = true ∨ ∃ ty, w = .arrayClass ty := good_of_word (List.mem_filter.mp h).2
theorem wz_in {w : Cond} (h : w ∈ lw_tbl) (hg : goodWord w = true) : w ∈ wz := List.mem_filter.mpr ⟨h, hg⟩
theorem gd_code {y : MethodName} {cc : ByteArray} {n : Nat} {r : Option FieldType} (h : Cond.code y cc n r ∈ wz) : GoodIn wz (wc y cc n r) := fun w hw => by
  rcases List.mem_cons.mp hw with rfl | hw
  · exact ⟨h, wz_good h⟩
  · exact ⟨hw, wz_good hw⟩
theorem gd_V {own C : String} {idx : Nat} {y : MethodName} {cc : ByteArray} {n : Nat} {r : Option FieldType} (h1 : Cond.methodLink own idx y ∈ wz) (h2 : Cond.instanceMethod y ∈ wz) (h3 : Cond.selects C y y ∈ wz) (h4 : Cond.initialized C ∈ wz) (h5 : Cond.code y cc n r ∈ wz) : GoodIn wz (wsV own idx C y (wc y cc n r)) := fun w hw => by
  unfold wsV at hw
  rcases List.mem_append.mp hw with hw | hw
  · simp only [List.mem_cons, List.not_mem_nil, or_false] at hw
    rcases hw with rfl | rfl | rfl | rfl
    · exact ⟨h1, wz_good h1⟩
    · exact ⟨h2, wz_good h2⟩
    · exact ⟨h3, wz_good h3⟩
    · exact ⟨h4, wz_good h4⟩
  · exact gd_code h5 w hw
theorem gd_S {own : String} {idx : Nat} {y : MethodName} {cc : ByteArray} {n : Nat} {r : Option FieldType} (h1 : Cond.methodLink own idx y ∈ wz) (h2 : Cond.static y ∈ wz) (h4 : Cond.initialized own ∈ wz) (h5 : Cond.code y cc n r ∈ wz) : GoodIn wz (wsS own idx y (wc y cc n r)) := fun w hw => by
  unfold wsS at hw
  rcases List.mem_append.mp hw with hw | hw
  · simp only [List.mem_cons, List.not_mem_nil, or_false] at hw
    rcases hw with rfl | rfl | rfl
    · exact ⟨h1, wz_good h1⟩
    · exact ⟨h2, wz_good h2⟩
    · exact ⟨h4, wz_good h4⟩
  · exact gd_code h5 w hw
/-! what holds all through a method's walk -/
abbrev Gt : Type := (Nat → ClassId) × (Nat → Nat → Nat) × (Nat → Nat)
abbrev gD (G : Gt) : va_G := (G.1, G.2.1)
abbrev cI (G : Gt) : ClassId := G.2.2 0
abbrev tyl (G : Gt) : List (ClassId × FieldType) := [(G.2.2 0, .int), (G.2.2 1, .object "ImmunityCatching$Row"), (G.2.2 2, .object "java/lang/String")]
/-- the constant rows -/
def kK (j : Nat) : Int32 := ([-1, 0, 0, 0, 1, 2, 3] : List Int32).getD j 0
def kN (j : Nat) : Int32 := ([115, 104, 110, 102, 109, 115] : List Int32).getD j 0
def kB (j : Nat) : Int32 := ([10, 11, 12, 13, 20, 0, 0, 0, 0, 30, 0, 0, 0, 0, 40, 0, 0, 0, 0, 50, 0, 60, 0, 0, 0, 0, 70, 71] : List Int32).getD j 0
def SXs (G : Gt) (A : Nat → Prop) (U : State) (H : Heap) : Prop :=
  (va_Z "ImmunityCatching" "KIND_ABOVE" "[I" (.ref (G.2.2 3)) A U H ∧ va_T .int (G.2.2 3) 7 (fun j => .int (kK j)) A U H) ∧
  (va_Z "ImmunityCatching$Reader" "NAMES" "[C" (.ref (G.2.2 4)) A U H ∧ va_T .char (G.2.2 4) 6 (fun j => .int (kN j)) A U H) ∧
  (va_Z "ImmunityCatching$Voices" "BODIES" "[I" (.ref (G.2.2 5)) A U H ∧ va_T .int (G.2.2 5) 28 (fun j => .int (kB j)) A U H) ∧
  (va_Z "java/lang/String" "COMPACT_STRINGS" "Z" (.int 1) A U H ∧ vk_S 2 [3, 3] [[115, 104, 110], [102, 109, 115]] (fun i => G.2.2 (6 + i)) (fun i => G.2.2 (8 + i)) A U H) ∧
  va_Zq "jdk/internal/util/Preconditions" "SIOOBE_FORMATTER" "Ljava/util/function/BiFunction;" A U H
theorem SXs.moved {G : Gt} {A : Nat → Prop} {u U : State} {H : Heap} (hvm : u.vm.Alike U.vm) (h : SXs G A u H) : SXs G A U H :=
  ⟨⟨h.1.1.moved hvm, h.1.2.moved hvm⟩, ⟨h.2.1.1.moved hvm, h.2.1.2.moved hvm⟩, ⟨h.2.2.1.1.moved hvm, h.2.2.1.2.moved hvm⟩, ⟨h.2.2.2.1.1.moved hvm, h.2.2.2.1.2.moved hvm⟩, h.2.2.2.2.moved hvm⟩
theorem SXs.kept {G : Gt} {A : Nat → Prop} {U : State} {H H1 : Heap} (h : SXs G A U H) (hq : ∀ a : Nat, a < H.size → ¬ A a → H1[a]? = H[a]?) : SXs G A U H1 :=
  ⟨⟨h.1.1.kept hq, h.1.2.kept hq⟩, ⟨h.2.1.1.kept hq, h.2.1.2.kept hq⟩, ⟨h.2.2.1.1.kept hq, h.2.2.1.2.kept hq⟩, ⟨h.2.2.2.1.1.kept hq, h.2.2.2.1.2.kept hq⟩, h.2.2.2.2.kept hq⟩
theorem SXs.narrow {G : Gt} {A B : Nat → Prop} {U : State} {H : Heap} (h : SXs G A U H) (hAB : ∀ q, B q → A q) : SXs G B U H :=
  ⟨⟨h.1.1.narrow hAB, h.1.2.narrow hAB⟩, ⟨h.2.1.1.narrow hAB, h.2.1.2.narrow hAB⟩, ⟨h.2.2.1.1.narrow hAB, h.2.2.1.2.narrow hAB⟩, ⟨h.2.2.2.1.1.narrow hAB, h.2.2.2.1.2.narrow hAB⟩, h.2.2.2.2.narrow hAB⟩
def SX (G : Gt) (A : Nat → Prop) (U : State) (H : Heap) : Prop := SXs G A U H ∧ NW U
theorem SX.same {G : Gt} {A : Nat → Prop} {u U : State} {H : Heap} (hv : u.vm = U.vm) (h : SX G A u H) : SX G A U H := ⟨h.1.moved (hv ▸ Vm.Alike.refl u.vm), h.2.same hv⟩
def Cx (p : Program) (s : State) (m : MethodId) (args : Array Value) (meth : Method) (c : Code) (cc : ByteArray) (nL : Nat) (own : String) (ret : Option FieldType) : Prop :=
  p.tables.exec = Jvm.exec ∧ c.code = cc ∧ c.maxLocals = nL ∧ s.vm.findClass own = some m.cls ∧ (∀ w ∈ wz, w.before args s = true) ∧ meth.sig.returnType = ret ∧ meth.locks = false
/-- what may be read -/
def Rd (G : Gt) (A : Nat → Prop) (s : State) (ws : va_W) (H : Heap) (locs : List Loc) : Prop :=
  va_P (gD G) vwCl ws H ∧ va_K (gD G) vwCl (tyl G) s ∧ va_S A s.heap H locs ∧ SX G A s s.heap
/-- what may be written -/
def Iv (G : Gt) (A : Nat → Prop) (s : State) (ws : va_W) (H : Heap) (locs : List Loc) : Prop :=
  Rd G A s ws H locs ∧ va_D A ws ∧ ∀ q, s.heap.size ≤ q → A q
/-- a method's start: one that only reads, one that writes; the end of one that writes -/
def PR (G : Gt) (ws : va_W) (U : State) : Prop := va_P (gD G) vwCl ws U.heap ∧ va_K (gD G) vwCl (tyl G) U ∧ SX G (fun _ => False) U U.heap
def PB (G : Gt) (ws : va_W) (sz : Nat) (U : State) : Prop := U.heap.size = sz ∧ va_P (gD G) vwCl ws U.heap ∧ va_K (gD G) vwCl (tyl G) U ∧ va_D (fun _ => True) ws ∧ SX G (va_A ws sz) U U.heap
def WB (G : Gt) (A : Nat → Prop) (ws : va_W) (t : State) : Prop := va_P (gD G) vwCl ws t.heap ∧ va_K (gD G) vwCl (tyl G) t ∧ va_D A ws
abbrev Qr0 (Q : Int32 → Prop) : Array Value → State → Outcome → State → Prop := vp_Si Q
abbrev Qi1 {S : Type} (G : Gt) (A : Nat → Prop) (post : Int32 → S → Prop) (w1 : S → va_W) : Array Value → State → Outcome → State → Prop := va_Qi post (fun u t => WB G A (w1 u) t) A
abbrev Qv1 {S : Type} (G : Gt) (A : Nat → Prop) (post : S → Prop) (w1 : S → va_W) : Array Value → State → Outcome → State → Prop := va_Qv post (fun u t => WB G A (w1 u) t) A
theorem Rd.sx {G : Gt} {A : Nat → Prop} {s : State} {ws : va_W} {H : Heap} {locs : List Loc} (h : Rd G A s ws H locs) {U : State} (hU : U.heap = H) (hW : s.WarmedH U.vm) {B : Nat → Prop} (hB : ∀ q, B q → A q) : SX G B U U.heap := by
  rw [hU]
  exact ⟨((h.2.2.2.1.kept (fun a ha hn => h.2.2.1.2.1 a ha hn)).moved hW.alike).narrow hB, h.2.2.2.2.warm hW⟩
theorem pr_blind (G : Gt) (av : List Value) (ws : va_W) : FrameBlind (va_Pc av (PR G ws)) := fun a U g mk q =>
  ⟨q.1, q.2.1, va_K.moved (u := U) (U := U.calling g mk a) (Vm.Alike.refl U.vm) q.2.2.1, SX.same (u := U) (U := U.calling g mk a) rfl q.2.2.2⟩
theorem pb_blind (G : Gt) (av : List Value) (ws : va_W) (sz : Nat) : FrameBlind (va_Pc av (PB G ws sz)) := fun a U g mk q =>
  ⟨q.1, q.2.1, q.2.2.1, va_K.moved (u := U) (U := U.calling g mk a) (Vm.Alike.refl U.vm) q.2.2.2.1, q.2.2.2.2.1, SX.same (u := U) (U := U.calling g mk a) rfl q.2.2.2.2.2⟩
theorem map_filt {ws wc : va_W} {is : List Nat} (h : is.map (fun i => ws[i]?) = wc.map some) : is.filterMap (fun i => ws[i]?) = wc := by
  induction is generalizing wc with
  | nil => cases wc with
    | nil => rfl
    | cons a l => simp at h
  | cons i is ih => cases wc with
    | nil => simp at h
    | cons a l =>
      simp only [List.map_cons, List.cons.injEq] at h
      rw [List.filterMap_cons, h.1]
      exact congrArg _ (ih h.2)
/-- what a callee asks of the heap -/
theorem pr_of {G : Gt} {A : Nat → Prop} {s : State} {ws wc : va_W} {H : Heap} {locs : List Loc} (I : Rd G A s ws H locs) (isC : List Nat) (hC : isC.map (fun i => ws[i]?) = wc.map some) {av : List Value} : ∀ U : State, U.heap = H → s.WarmedH U.vm → va_Pc av (PR G wc) av.toArray U := fun U hU hW =>
  ⟨rfl, by rw [hU]; exact I.1.sub isC (map_filt hC), I.2.1.moved hW.alike, I.sx hU hW (fun _ h => h.elim)⟩
theorem pb_of {G : Gt} {A : Nat → Prop} {s : State} {ws wc : va_W} {H : Heap} {locs : List Loc} (I : Iv G A s ws H locs) (isC : List Nat) (hn : va_nd isC = true) (hC : isC.map (fun i => ws[i]?) = wc.map some) {av : List Value} : ∀ U : State, U.heap = H → s.WarmedH U.vm → va_Pc av (PB G wc H.size) av.toArray U := fun U hU hW =>
  ⟨rfl, by rw [hU], by rw [hU]; exact I.1.1.sub isC (map_filt hC), I.1.2.1.moved hW.alike, (I.2.1.sub isC hn hC).weaken (fun _ _ _ _ => trivial), I.1.sx hU hW (fun q h => va_free I.2.1 I.1.2.2.1 I.2.2 isC hC q h)⟩
theorem gd_SO {own : String} {idx : Nat} {y : MethodName} {cc : ByteArray} {n : Nat} {r : Option FieldType} (h1 : Cond.methodLink own idx y ∈ wz) (h2 : Cond.static y ∈ wz) (h4 : Cond.initialized y.cls ∈ wz) (h5 : Cond.code y cc n r ∈ wz) : GoodIn wz (va_wsS own idx y (wc y cc n r)) := fun w hw => by
  unfold va_wsS at hw
  rcases List.mem_append.mp hw with hw | hw
  · simp only [List.mem_cons, List.not_mem_nil, or_false] at hw
    rcases hw with rfl | rfl | rfl
    · exact ⟨h1, wz_good h1⟩
    · exact ⟨h2, wz_good h2⟩
    · exact ⟨h4, wz_good h4⟩
  · exact gd_code h5 w hw
