/-- the four rows, the two names -/
def rwf (a0 a1 a2 a3 : Nat) : Nat → Option Nat := fun j => if j = 0 then some a0 else if j = 1 then some a1 else if j = 2 then some a2 else if j = 3 then some a3 else none
def nmf (G : Gt) : Nat → Option Nat := fun j => if j = 0 then some (G.2.2 6) else if j = 1 then some (G.2.2 7) else none
theorem vp4 {i : Int32} (h : vp_in i 4) : i = 0 ∨ i = 1 ∨ i = 2 ∨ i = 3 := by
  obtain ⟨j, hj, rfl⟩ := vp_in_of h (by decide)
  rcases (show j = 0 ∨ j = 1 ∨ j = 2 ∨ j = 3 by omega) with rfl | rfl | rfl | rfl
  · exact Or.inl rfl
  · exact Or.inr (Or.inl rfl)
  · exact Or.inr (Or.inr (Or.inl rfl))
  · exact Or.inr (Or.inr (Or.inr rfl))
theorem x_aldq {p : Program} {l : Launch} {e : Env} {R : Room} {s : State} {m : MethodId} {args : Array Value} {below : List Frame} {meth : Method} {c : Code} {H : Heap} {locs : List Loc} {cells slots : Nat} {Q : State → Prop} {cc : ByteArray} {nL : Nat} {own : String} {ret : Option FieldType} {pc : Nat} {ls : Array Slot} {rest : List Value} {G : Gt} {A : Nat → Prop} {ws : va_W} (C : Cx p s m args meth c cc nL own ret) (I : Rd G A s ws H locs) (q0 : Nat) {a n : Nat} {f : Nat → Option Nat} (ha : ws[q0]? = some (a, .inl (G.2.2 1, n, .inr (.inr (.inr (.inr f)))))) {i : Int32} {v : Value} (hin : vp_in i n) (hv : va_rf (f i.toNatClampNeg) = v) (hdg : decode cc pc = .ok (.aaload, 1)) (kk : W p l e R s m args below meth c H locs cells slots Q (F0 m (pc + 1) ls (v :: rest))) : W p l e R s m args below meth c H locs cells slots Q (F0 m pc ls (.int i :: .ref a :: rest)) := by
  subst hv
  exact va_aldq C.1 C.2.1 I.2.1 I.1 q0 1 ha rfl hin hdg kk
