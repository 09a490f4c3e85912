/-! the start: the world of K0 out of the statement's premises -/
theorem lt_t {w : Cond} (i : Nat) (h : tables_1[i]? = some w) : w ∈ lw_tbl := List.mem_append_right _ (List.mem_of_getElem? h)
theorem arr_k {s : State} {args : Array Value} {ty : FieldType} (h : (Cond.arrayClass ty).before args s = true) : ∃ cA : ClassId, ArrOfT s cA ty ∧ s.vm.findClass ("[" ++ ty.toString) = some cA := by
  obtain ⟨c, k, comp, h1, h2, h3⟩ := Cond.arrayClass_spec h
  exact ⟨c, fun n z => ⟨fun q h => (by cases h), k, h2, comp, h3⟩, h1⟩
theorem arr_o {s : State} {args : Array Value} {C : String} (h : (Cond.arrayOver (.object C)).before args s = true) : ∃ cA : ClassId, ArrOfT s cA (.object C) ∧ va_RA s cA (.object C) := by
  obtain ⟨comp, c, k, h0, -, h2, h3, h4⟩ := Cond.arrayOver_spec h
  exact ⟨c, fun n z => ⟨fun q h => (by cases h), k, h2, comp, h3⟩, k, comp, h2, h3, h0, h4⟩
def g5 (c0 c1 c2 c3 c4 : ClassId) : Nat → ClassId
  | 0 => c0
  | 1 => c1
  | 2 => c2
  | 3 => c3
  | _ => c4
theorem nws_in : ∀ w ∈ nws, w ∈ lw_tbl := by decide +kernel
theorem xws_in : ∀ w ∈ xws, w ∈ lw_tbl := by decide +kernel
theorem cls_k {s : State} {args : Array Value} (hts : ∀ w ∈ lw_tbl, w.before args s = true) (k : Nat) : ∃ z : ClassId × (Nat → Nat), ∀ q : vw_C, cls[k]? = some q → u_Kn s q.1 q.2.1 q.2.2 z.1 z.2 := by
  have hg : ∀ w ∈ gw, w.before args s = true := fun w hw => hts w (List.mem_filter.mp hw).1
  match k with
  | 0 =>
    obtain ⟨c, i, h⟩ := u_known (n := 6) hg ck_Diary.2.1 (hts (.instantiable R_Diary 6) (lt_t 128 (by decide +kernel)))
    exact ⟨(c, i), fun q hq => by cases hq; exact h⟩
  | 1 =>
    obtain ⟨c, i, h⟩ := u_known (n := 6) hg ck_Group.2.1 (hts (.instantiable R_Group 6) (lt_t 156 (by decide +kernel)))
    exact ⟨(c, i), fun q hq => by cases hq; exact h⟩
  | 2 =>
    obtain ⟨c, i, h⟩ := u_known (n := 4) hg ck_Heap.2.1 (hts (.instantiable R_Heap 4) (lt_t 276 (by decide +kernel)))
    exact ⟨(c, i), fun q hq => by cases hq; exact h⟩
  | 3 =>
    obtain ⟨c, i, h⟩ := u_known (n := 6) hg ck_House.2.1 (hts (.instantiable R_House 6) (lt_t 37 (by decide +kernel)))
    exact ⟨(c, i), fun q hq => by cases hq; exact h⟩
  | 4 =>
    obtain ⟨c, i, h⟩ := u_known (n := 3) hg ck_Line.2.1 (hts (.instantiable R_Line 3) (lt_t 256 (by decide +kernel)))
    exact ⟨(c, i), fun q hq => by cases hq; exact h⟩
  | 5 =>
    obtain ⟨c, i, h⟩ := u_known (n := 2) hg ck_Pairs.2.1 (hts (.instantiable R_Pairs 2) (lt_t 69 (by decide +kernel)))
    exact ⟨(c, i), fun q hq => by cases hq; exact h⟩
  | 6 =>
    obtain ⟨c, i, h⟩ := u_known (n := 8) hg ck_Prop.2.1 (hts (.instantiable R_Prop 8) (lt_t 391 (by decide +kernel)))
    exact ⟨(c, i), fun q hq => by cases hq; exact h⟩
  | 7 =>
    obtain ⟨c, i, h⟩ := u_known (n := 2) hg ck_Row.2.1 (hts (.instantiable R_Row 2) (lt_t 112 (by decide +kernel)))
    exact ⟨(c, i), fun q hq => by cases hq; exact h⟩
  | 8 =>
    obtain ⟨c, i, h⟩ := u_known (n := 7) hg ck_Step.2.1 (hts (.instantiable R_Step 7) (lt_t 443 (by decide +kernel)))
    exact ⟨(c, i), fun q hq => by cases hq; exact h⟩
  | 9 =>
    obtain ⟨c, i, h⟩ := u_known (n := 12) hg ck_Walk.2.1 (hts (.instantiable R_Walk 12) (lt_t 249 (by decide +kernel)))
    exact ⟨(c, i), fun q hq => by cases hq; exact h⟩
  | 10 =>
    obtain ⟨c, i, h⟩ := u_known (n := 6) hg ck_LH.2.1 (hts (.instantiable R_LH 6) (lt_t 29 (by decide +kernel)))
    exact ⟨(c, i), fun q hq => by cases hq; exact h⟩
  | 11 =>
    obtain ⟨c, i, h⟩ := u_known (n := 54) hg ck_Mod.2.1 (hts (.instantiable R_Mod 54) (lt_t 1073 (by decide +kernel)))
    exact ⟨(c, i), fun q hq => by cases hq; exact h⟩
  | 12 =>
    obtain ⟨c, i, h⟩ := u_known (n := 3) hg ck_AL.2.1 (hts (.instantiable R_AL 3) (lt_t 43 (by decide +kernel)))
    exact ⟨(c, i), fun q hq => by cases hq; exact h⟩
  | 13 =>
    obtain ⟨c, i, h⟩ := u_known (n := 2) hg ck_Pair.2.1 (hts (.instantiable R_Pair 2) (lt_t 509 (by decide +kernel)))
    exact ⟨(c, i), fun q hq => by cases hq; exact h⟩
  | k + 14 => exact ⟨(0, fun _ => 0), fun q hq => by simp [cls] at hq⟩
set_option maxRecDepth 20000 in
theorem k0_start {s : State} {b : Nat} (hts : ∀ w ∈ lw_tbl, w.before #[Value.ref b] s = true) (hgv : (Jvm.Cond.and given_1 narrow_1).before #[Value.ref b] s = true) : ∃ G : aG, gB G = s.heap.size ∧ gS G = b ∧ K0 G s := by
  have hq := flat_of_before _ hgv
  obtain ⟨f, hf⟩ := Classical.axiomOfChoice (cls_k hts)
  obtain ⟨c0, a0, b0⟩ := arr_k (hts (.arrayClass .int) (lt_t 126 (by decide +kernel)))
  obtain ⟨c1, a1, b1⟩ := arr_k (hts (.arrayClass .boolean) (lt_t 1242 (by decide +kernel)))
  obtain ⟨c2, a2, b2⟩ := arr_k (hts (.arrayClass .byte) (lt_t 274 (by decide +kernel)))
  obtain ⟨c3, a3, b3⟩ := arr_k (hts (.arrayClass .long) (lt_t 1508 (by decide +kernel)))
  have hao := hts (.arrayOver (.object "java/lang/Object")) (lt_t 238 (by decide +kernel))
  obtain ⟨c4, a4, b4⟩ := arr_o hao
  have hA : ∀ a : Nat, a < s.heap.size → ¬ (fun q : Nat => s.heap.size ≤ q) a := fun a h => Nat.not_le.mpr h
  obtain ⟨ea, he, hT⟩ := va_Tof (tm := .static "java/util/ArrayList" "DEFAULTCAPACITY_EMPTY_ELEMENTDATA" "[Ljava/lang/Object;") (ty := .object "java/lang/Object") (N := 0) (f := fun _ => .null) (A := fun q => s.heap.size ≤ q) (by decide) (hq _ (by decide +kernel)) (va_eqt (hq (Cond.eq (.length (.static "java/util/ArrayList" "DEFAULTCAPACITY_EMPTY_ELEMENTDATA" "[Ljava/lang/Object;")) (.int 0)) (by decide +kernel))) (fun j hj => absurd hj (Nat.not_lt_zero _)) hA
  have hZ := va_Zof (A := fun q => s.heap.size ≤ q) (hts (.laysStatic "java/util/ArrayList" "DEFAULTCAPACITY_EMPTY_ELEMENTDATA" "[Ljava/lang/Object;") (lt_t 55 (by decide +kernel))) (hts (.initialized "java/util/ArrayList") (by decide +kernel)) he hA
  obtain ⟨mi, hmi⟩ := va_Mi.of (hq (Cond.isRef (.mirror "[Ljava/lang/Object;")) (by decide +kernel))
  have hU := vx_Zqof (A := fun q => s.heap.size ≤ q) (hts (.laysStatic Bundle.tN "UNASSIGNED_STACK" Bundle.steD) (lt_t 1016 (by decide +kernel))) (hts (.initialized Bundle.tN) (by decide +kernel)) (hq (Cond.isRef (.static Bundle.tN "UNASSIGNED_STACK" Bundle.steD)) (by decide +kernel)) hA
  have hN := vx_Zqof (A := fun q => s.heap.size ≤ q) (hts (.laysStatic Bundle.tN "SUPPRESSED_SENTINEL" Bundle.listD) (lt_t 1018 (by decide +kernel))) (hts (.initialized Bundle.tN) (by decide +kernel)) (hq (Cond.isRef (.static Bundle.tN "SUPPRESSED_SENTINEL" Bundle.listD)) (by decide +kernel)) hA
  have hxs : ∀ q ∈ xstr, ∃ sa : Nat, vk_R "LockedHouse" q.1 q.2 sa s := by
    intro q hm
    simp only [xstr, List.mem_cons, List.not_mem_nil, or_false] at hm
    rcases hm with rfl | rfl | rfl | rfl
    · obtain ⟨a, _, _, _, e1, -⟩ := Cond.exactly_spec (hq (Cond.exactly (.string "LockedHouse" 188) "java/lang/String") (by decide +kernel))
      exact ⟨a, vk_R.of (hts _ (lt_t 1028 (by decide +kernel))) e1⟩
    · obtain ⟨a, _, _, _, e1, -⟩ := Cond.exactly_spec (hq (Cond.exactly (.string "LockedHouse" 277) "java/lang/String") (by decide +kernel))
      exact ⟨a, vk_R.of (hts _ (lt_t 1061 (by decide +kernel))) e1⟩
    · obtain ⟨a, _, _, _, e1, -⟩ := Cond.exactly_spec (hq (Cond.exactly (.string "LockedHouse" 287) "java/lang/String") (by decide +kernel))
      exact ⟨a, vk_R.of (hts _ (lt_t 1063 (by decide +kernel))) e1⟩
    · obtain ⟨a, _, _, _, e1, -⟩ := Cond.exactly_spec (hq (Cond.exactly (.string "LockedHouse" 298) "java/lang/String") (by decide +kernel))
      exact ⟨a, vk_R.of (hts _ (lt_t 1071 (by decide +kernel))) e1⟩
  refine ⟨((s.heap.size, ea, b, mi), (fun k => (f k).1, fun k => (f k).2), g5 c0 c1 c2 c3 c4), rfl, rfl, ⟨fun k q h => hf k q h, ?_⟩, ?_, hZ, hT, hmi, va_AO.of hao, ⟨va_Dc.of (hts _ (lt_t 1529 (by decide +kernel))), ⟨hU, hN⟩, ⟨?_, hxs⟩⟩, Nat.le_refl _⟩
  · intro k q hk
    match k, hk with
    | 0, hk => cases hk; exact ⟨a0, b0⟩
    | 1, hk => cases hk; exact ⟨a1, b1⟩
    | 2, hk => cases hk; exact ⟨a2, b2⟩
    | 3, hk => cases hk; exact ⟨a3, b3⟩
    | 4, hk => cases hk; exact ⟨a4, b4⟩
    | k + 5, hk => simp [gT] at hk
  · exact fun w hw => va_Nw.of (nws_tab w hw) (hts w (nws_in w hw))
  · exact fun w hw => va_Nw.of (xws_tab w hw) (hts w (xws_in w hw))
