def tmS (i : Nat) : Term := if i = 0 then .string "ImmunityCatchingModel" 33 else .string "ImmunityCatchingModel" 35
set_option maxHeartbeats 4000000 in
set_option maxRecDepth 100000 in
theorem st_G {s : State} {args : Array Value} (hts : ∀ w ∈ lw_tbl, w.before args s = true) (hgv : (Jvm.Cond.and given_1 narrow_1).before args s = true) : ∃ G : Gt, va_K (gD G) vwCl (tyl G) s ∧ SX G (fun q : Nat => s.heap.size ≤ q) s s.heap ∧ va_AO "ImmunityCatching$Row" s ∧ va_AO "java/lang/String" s ∧ vk_R "ImmunityCatchingModel" 33 "shn" (G.2.2 6) s ∧ vk_R "ImmunityCatchingModel" 35 "fms" (G.2.2 7) s := by
  have hz : ∀ w ∈ wz, w.before args s = true := fun w h => hts w (List.mem_filter.mp h).1
  have hs := flat_of_before _ hgv
  have hA : ∀ a : Nat, a < s.heap.size → ¬ (fun q : Nat => s.heap.size ≤ q) a := fun a h => Nat.not_le.mpr h
  obtain ⟨c0, i0, k0⟩ := u_known hz inX0 (hz _ wd_126)
  obtain ⟨c1, i1, k1⟩ := u_known hz inX1 (hz _ wd_230)
  obtain ⟨c2, i2, k2⟩ := u_known hz inX2 (hz _ wd_277)
  obtain ⟨c3, i3, k3⟩ := u_known hz inX3 (hz _ wd_106)
  obtain ⟨c4, i4, k4⟩ := u_known hz inX4 (hz _ wd_183)
  obtain ⟨c5, i5, k5⟩ := u_known hz inX5 (hz _ wd_100)
  obtain ⟨c6, i6, k6⟩ := u_known hz inX6 (hz _ wd_254)
  obtain ⟨c7, i7, k7⟩ := u_known hz inX7 (hz _ wd_92)
  obtain ⟨c8, i8, k8⟩ := u_known hz inX8 (hz _ wd_832)
  obtain ⟨cA, kA, compA, a1, a2, a3⟩ := Cond.arrayClass_spec (hz _ wd_124)
  have oR : va_AO "ImmunityCatching$Row" s := va_AO.of (hts _ (tc_1 (List.mem_of_getElem? (i := 202) rfl)))
  have oS : va_AO "java/lang/String" s := va_AO.of (hts _ (tc_4 (List.mem_of_getElem? (i := 44) rfl)))
  obtain ⟨compR, cR, kR, r1, r2, r3, r4, r5⟩ := Cond.arrayOver_spec oR
  obtain ⟨compS, cS, kS, s1, s2, s3, s4, s5⟩ := Cond.arrayOver_spec oS
  obtain ⟨tK, eK, TK⟩ := va_Tof (s := s) (args := args) (tm := .static "ImmunityCatching" "KIND_ABOVE" "[I") (ty := .int) (N := 7) (f := fun j => .int (kK j)) (A := fun q : Nat => s.heap.size ≤ q) (by decide) (hs _ (by decide +kernel)) (va_eqt (hs _ (by decide +kernel))) (fun j hj => by rcases (show j = 0 ∨ j = 1 ∨ j = 2 ∨ j = 3 ∨ j = 4 ∨ j = 5 ∨ j = 6 by omega) with rfl | rfl | rfl | rfl | rfl | rfl | rfl <;> exact va_eqt (hs _ (by decide +kernel))) hA
  have zK := va_Zof (hts _ (tc_2 (List.mem_of_getElem? (i := 51) rfl))) (hz _ wd_75) eK hA
  obtain ⟨tN, eN, TN⟩ := va_Tof (s := s) (args := args) (tm := .static "ImmunityCatching$Reader" "NAMES" "[C") (ty := .char) (N := 6) (f := fun j => .int (kN j)) (A := fun q : Nat => s.heap.size ≤ q) (by decide) (hs _ (by decide +kernel)) (va_eqt (hs _ (by decide +kernel))) (fun j hj => by rcases (show j = 0 ∨ j = 1 ∨ j = 2 ∨ j = 3 ∨ j = 4 ∨ j = 5 by omega) with rfl | rfl | rfl | rfl | rfl | rfl <;> exact va_eqt (hs _ (by decide +kernel))) hA
  have zN := va_Zof (hts _ (tc_2 (List.mem_of_getElem? (i := 225) rfl))) (hz _ wd_81) eN hA
  obtain ⟨tB, eB, TB⟩ := va_Tof (s := s) (args := args) (tm := .static "ImmunityCatching$Voices" "BODIES" "[I") (ty := .int) (N := 28) (f := fun j => .int (kB j)) (A := fun q : Nat => s.heap.size ≤ q) (by decide) (hs _ (by decide +kernel)) (va_eqt (hs _ (by decide +kernel))) (fun j hj => by rcases (show j = 0 ∨ j = 1 ∨ j = 2 ∨ j = 3 ∨ j = 4 ∨ j = 5 ∨ j = 6 ∨ j = 7 ∨ j = 8 ∨ j = 9 ∨ j = 10 ∨ j = 11 ∨ j = 12 ∨ j = 13 ∨ j = 14 ∨ j = 15 ∨ j = 16 ∨ j = 17 ∨ j = 18 ∨ j = 19 ∨ j = 20 ∨ j = 21 ∨ j = 22 ∨ j = 23 ∨ j = 24 ∨ j = 25 ∨ j = 26 ∨ j = 27 by omega) with rfl | rfl | rfl | rfl | rfl | rfl | rfl | rfl | rfl | rfl | rfl | rfl | rfl | rfl | rfl | rfl | rfl | rfl | rfl | rfl | rfl | rfl | rfl | rfl | rfl | rfl | rfl | rfl <;> exact va_eqt (hs _ (by decide +kernel))) hA
  have zB := va_Zof (hts _ (tc_3 (List.mem_of_getElem? (i := 192) rfl))) (hz _ wd_82) eB hA
  have zC := va_Zof (s := s) (args := args) (C := "java/lang/String") (n := "COMPACT_STRINGS") (d := "Z") (v := .int 1) (A := fun q : Nat => s.heap.size ≤ q) (hts _ (tc_4 (List.mem_of_getElem? (i := 198) rfl))) (hz _ wd_87) (va_eqt (hs _ (by decide +kernel))) hA
  have zQ := va_Zqof (s := s) (args := args) (C := "jdk/internal/util/Preconditions") (n := "SIOOBE_FORMATTER") (d := "Ljava/util/function/BiFunction;") (A := fun q : Nat => s.heap.size ≤ q) (hts _ (tc_4 (List.mem_of_getElem? (i := 214) rfl))) (hz _ wd_89) (hs _ (by decide +kernel)) hA
  obtain ⟨adK, adV, hS, hE⟩ := vk_Sof (s := s) (args := args) (N := 2) (tm := tmS) (len := [3, 3]) (byt := [[115, 104, 110], [102, 109, 115]]) (A := fun q : Nat => s.heap.size ≤ q)
    (fun i hi => by rcases (show i = 0 ∨ i = 1 by omega) with rfl | rfl <;> decide) (fun i hi => by rcases (show i = 0 ∨ i = 1 by omega) with rfl | rfl <;> exact hs _ (by decide +kernel)) (fun i hi => by rcases (show i = 0 ∨ i = 1 by omega) with rfl | rfl <;> exact hs _ (by decide +kernel)) (fun i hi => by rcases (show i = 0 ∨ i = 1 by omega) with rfl | rfl <;> exact hs _ (by decide +kernel)) (fun i hi => by rcases (show i = 0 ∨ i = 1 by omega) with rfl | rfl <;> exact hs _ (by decide +kernel))
    (fun i hi j hj => by
      have j3 : j < 3 := by rw [← len3 hi]; exact hj
      rcases (show i = 0 ∨ i = 1 by omega) with rfl | rfl <;> rcases (show j = 0 ∨ j = 1 ∨ j = 2 by omega) with rfl | rfl | rfl <;> exact hs _ (by decide +kernel))
    (fun i j hi hj ne => by
      rcases (show i = 0 ∨ i = 1 by omega) with rfl | rfl <;> rcases (show j = 0 ∨ j = 1 by omega) with rfl | rfl
      · exact absurd rfl ne
      · exact Or.inl (hs _ (by decide +kernel))
      · exact Or.inr (hs _ (by decide +kernel))
      · exact absurd rfl ne) hA
  refine ⟨((fun k => ([c0, c1, c2, c3, c4, c5, c6, c7, c8] : List ClassId).getD k 0), (fun k => ([i0, i1, i2, i3, i4, i5, i6, i7, i8] : List (Nat → Nat)).getD k (fun _ => 0)), (fun k => ([cA, cR, cS, tK, tN, tB, adK 0, adK 1, adV 0, adV 1] : List Nat).getD k 0)), ⟨fun k q hq => ?_, fun k q hq => ?_⟩, ⟨⟨⟨zK, TK⟩, ⟨zN, TN⟩, ⟨zB, TB⟩, ⟨zC, ⟨fun i hi => ?_, fun i j hi hj e => ?_⟩⟩, zQ⟩, va_Nw.of rfl (hts _ (tc_2 (List.mem_of_getElem? (i := 47) rfl))), va_Nw.of rfl (hts _ (tc_2 (List.mem_of_getElem? (i := 56) rfl))), va_Nw.of rfl (hts _ (tc_3 (List.mem_of_getElem? (i := 30) rfl))), va_Nw.of rfl (hts _ (tc_3 (List.mem_of_getElem? (i := 190) rfl))), va_Nw.of rfl (hts _ (tc_3 (List.mem_of_getElem? (i := 193) rfl))), va_Nw.of rfl (hts _ (tc_3 (List.mem_of_getElem? (i := 211) rfl)))⟩, oR, oS, vk_R.of (hts _ (tc_4 (List.mem_of_getElem? (i := 45) rfl))) (hE 0 (by decide)), vk_R.of (hts _ (tc_4 (List.mem_of_getElem? (i := 46) rfl))) (hE 1 (by decide))⟩
  · match k, hq with
    | 0, hq => cases hq; exact k0
    | 1, hq => cases hq; exact k1
    | 2, hq => cases hq; exact k2
    | 3, hq => cases hq; exact k3
    | 4, hq => cases hq; exact k4
    | 5, hq => cases hq; exact k5
    | 6, hq => cases hq; exact k6
    | 7, hq => cases hq; exact k7
    | 8, hq => cases hq; exact k8
    | k + 9, hq => simp [vwCl] at hq
  · match k, hq with
    | 0, hq => cases hq; exact ⟨fun n z => ⟨fun k h => (by cases h), kA, a2, compA, a3⟩, a1⟩
    | 1, hq => cases hq; exact ⟨fun n z => ⟨fun k h => (by cases h), kR, r3, compR, r4⟩, kR, compR, r3, r4, r1, r5⟩
    | 2, hq => cases hq; exact ⟨fun n z => ⟨fun k h => (by cases h), kS, s3, compS, s4⟩, kS, compS, s3, s4, s1, s5⟩
    | k + 3, hq => simp [tyl] at hq
  · rcases (show i = 0 ∨ i = 1 by omega) with rfl | rfl
    · exact hS.1 0 (by decide)
    · exact hS.1 1 (by decide)
  · rcases (show i = 0 ∨ i = 1 by omega) with rfl | rfl <;> rcases (show j = 0 ∨ j = 1 by omega) with rfl | rfl
    · rfl
    · exact hS.2 0 1 (by decide) (by decide) e
    · exact hS.2 1 0 (by decide) (by decide) e
    · rfl
