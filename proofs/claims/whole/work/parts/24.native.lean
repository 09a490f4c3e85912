section RUN7
variable {G : aG} {My : MethodName} {Mc : ByteArray} {Ml : Nat} {Mr : Option FieldType} {d mc ms : Nat} {F : FT} {pc pc2 tgt : Nat} {lv lv2 : List (Nat × Value)} {st : List Value} {w : aH} {k n : Nat} {nx t t1 t2 : Nat} {h : Nat → Option aC}
abbrev gcN : MethodName := ⟨"java/lang/Object", "getClass", "()Ljava/lang/Class;"⟩
theorem gc_sel : Cond.selects "[Ljava/lang/Object;" gcN gcN ∈ gw := by decide +kernel
theorem gc_ins : Cond.instanceMethod gcN ∈ gw := by decide +kernel
theorem gc_nat : Cond.native gcN ∈ gw := by decide +kernel
theorem aw_getClass {idx a N : Nat} {f : Nat → Option Nat} (hd : DN Mc pc (.invokevirtual idx) 3 pc2) (hc : Cond.methodLink My.cls idx gcN ∈ gw) (ha : w.2 a = some (cO t N f)) (hdd : 1 ≤ d) (hst : (st.map fun v => v.category).sum ≤ 8) (kk : AW G (My, Mc, Ml, Mr) d mc ms F pc2 lv (.ref 2 :: st) w k n) : AW G (My, Mc, Ml, Mr) d mc ms F pc lv (.ref a :: st) w k n := by
  obtain ⟨hd, rfl⟩ := hd
  intro p l e R s m args below meth c H locs ls X hR hl
  have hK := X.2.2.2.2.2.2.2.2.1
  have hts := X.2.2.2.2.1
  have hRm := X.2.2.2.2.2.2.2.2.2.2
  obtain ⟨-, -, -, -, -, g4⟩ := (hK.1.2 4 _ rfl).2
  exact va_getC X.1 X.2.1 (by rw [X.2.2.1]; exact hl.1.symm) (C := "[Ljava/lang/Object;") (mi := gM G) X.2.2.2.1 (hts _ hc) (va_Dc.use hK.2.2.2.2.2.2.1.1) (hts _ gc_sel) (hts _ gc_ins) (hts _ gc_nat) hK.2.2.2.2.1 ⟨_, (hR.2.2 a _ ha).2.2, rfl, g4⟩ (Nat.le_trans hdd hRm.1) (by rw [tv_cats]; have := hRm.2.1; omega) hd (kk p l e R s m args below meth c H locs ls X hR hl)
theorem aw_ldcM {idx : Nat} (hd : DN Mc pc (.ldc idx) 2 pc2) (hc : Cond.classLink My.cls idx "[Ljava/lang/Object;" ∈ gw) (kk : AW G (My, Mc, Ml, Mr) d mc ms F pc2 lv (.ref 2 :: st) w k n) : AW G (My, Mc, Ml, Mr) d mc ms F pc lv st w k n := by
  obtain ⟨hd, rfl⟩ := hd
  intro p l e R s m args below meth c H locs ls X hR hl
  exact va_ldcM X.1 X.2.1 X.2.2.2.1 (X.2.2.2.2.1 _ hc) X.2.2.2.2.2.2.2.2.1.2.2.2.2.1 hd (kk p l e R s m args below meth c H locs ls X hR hl)
theorem ac_nat : Cond.native arraycopyName ∈ gw := by decide +kernel
theorem ac_sta : Cond.static arraycopyName ∈ gw := by decide +kernel
theorem ac_ini : Cond.initialized "java/lang/System" ∈ gw := by decide +kernel
/-- all of one row of references, into the beginning of another -/
theorem aw_acopy {idx a b N0 N1 C : Nat} {f g : Nat → Option Nat} {q : vw_C} {ci : Nat} (hd : DN Mc pc (.invokestatic idx) 3 pc2) (hc : Cond.methodLink My.cls idx arraycopyName ∈ gw) (ha : h a = some (cO t1 N0 f)) (hb : h b = some (cO t2 N1 g)) (hC0 : C ≤ N0) (hC1 : C ≤ N1) (hCs : C ≤ 1000000) (hq : cls[ci]? = some q) (hcast : Cond.castable q.1 "java/lang/Object" ∈ nws) (hel : ∀ i : Nat, i < C → ∀ y : Nat, f i = some y → ∃ tt fs, h y = some (tt, .inr (ci, fs))) (hdd : 1 ≤ d) (hst : (st.map fun v => v.category).sum ≤ 8)
    (kk : AW G (My, Mc, Ml, Mr) d mc ms F pc2 lv st (nx, hset h b (cO t2 N1 (va_cpy f g 0 0 C))) k n) : AW G (My, Mc, Ml, Mr) d mc ms F pc lv (.int (nI C) :: .int 0 :: .ref b :: .int 0 :: .ref a :: st) (nx, h) k n := by
  obtain ⟨hd, rfl⟩ := hd
  intro p l e R s m args below meth c H locs ls X hR hl
  have hK := X.2.2.2.2.2.2.2.2.1
  have hS := X.2.2.2.2.2.2.2.2.2.1
  have hts := X.2.2.2.2.1
  have hRm := X.2.2.2.2.2.2.2.2.2.2
  have hc0 : H[ta G a]? = some (vp_cell (gC G 4) (N0, .inr (.inr (.inr (.inr (fun j => (f j).map (ta G))))))) := (hR.2.2 a _ ha).2.2
  have hc1 : H[ta G b]? = some (vp_cell (gC G 4) (N1, .inr (.inr (.inr (.inr (fun j => (g j).map (ta G))))))) := (hR.2.2 b _ hb).2.2
  obtain ⟨-, k0, hk0, cm0, hkk0⟩ := (hK.1.2 4 _ rfl).1 N0 (fun j => va_rf ((f j).map (ta G)))
  have z0 : (0 : Int32).toNatClampNeg = 0 := rfl
  have zC : (nI C).toNatClampNeg = C := nI_clamp (by omega)
  have iC : (nI C).toInt = (C : Int) := nI_toInt (by omega)
  intro T hT XT
  obtain ⟨vm', X', step⟩ := XT.arraycopy X.1 X.2.2.2.1 (hts _ hc) (hts _ ac_nat) (hts _ ac_sta) (hts _ ac_ini) (src := ta G a) (dst := ta G b) (cs := vp_cell (gC G 4) (N0, .inr (.inr (.inr (.inr (fun j => (f j).map (ta G))))))) (cd := vp_cell (gC G 4) (N1, .inr (.inr (.inr (.inr (fun j => (g j).map (ta G))))))) (srcPos := 0) (destPos := 0) (n := nI C) (by rw [hT]; exact hc0) (by rw [hT]; exact hc1)
    (fun _ h => by cases h) (fun _ h => by cases h) (fun h => by cases h) (fun h => by cases h) hk0 hk0 hkk0 hkk0 rfl (by decide) (by decide) (nI_pos (by omega))
    (by rw [iC]; show ¬ (0 : Int) + _ > ((arrV _ N0 (fun j => va_rf ((f j).map (ta G)))).slots.size : Int); rw [arrV_size]; omega)
    (by rw [iC]; show ¬ (0 : Int) + _ > ((arrV _ N1 (fun j => va_rf ((g j).map (ta G)))).slots.size : Int); rw [arrV_size]; omega)
    (fun vm₁ hal i hi => by
      rw [zC] at hi
      have e1 : (vp_cell (gC G 4) (N0, .inr (.inr (.inr (.inr (fun j => (f j).map (ta G))))))).slots.getD ((0 : Int32).toNatClampNeg + i) .null = va_rf ((f i).map (ta G)) := by
        show (arrV (gC G 4) N0 (fun j => va_rf ((f j).map (ta G)))).slots.getD _ _ = _
        rw [z0, Nat.zero_add, Array.getD_eq_getD_getElem?, arrV_read _ _ (by omega)]
        rfl
      rw [e1]
      cases hy : f i with
      | none => exact ⟨rfl, trivial⟩
      | some y =>
        obtain ⟨tt, fs, hfs⟩ := hel i hi y hy
        obtain ⟨cellV, g1, g2, g3⟩ := va_recv hK.1 (hR.at (w := (nx, h)) hfs) hq (q0 := 0) rfl
        obtain ⟨kC, hkC, -⟩ := Vm.findClass_spec g3
        obtain ⟨kA, comp, r1, r2, r3, -⟩ := (hK.1.2 4 _ rfl).2
        cases hk0.symm.trans r1
        cases hkk0.symm.trans r2
        obtain ⟨kE, hkE, -⟩ := Vm.findClass_spec r3
        obtain ⟨kC', hkC', -⟩ := hal.2.2 _ _ hkC
        obtain ⟨kE', hkE', -⟩ := hal.2.2 _ _ hkE
        obtain ⟨c0, t0, f1, f2, f3⟩ := Cond.castable_spec (va_Nw.use (A := args) rfl (hK.2.1 _ hcast))
        cases f1.symm.trans g3
        cases f2.symm.trans r3
        refine ⟨rfl, cellV, (show T.heap[ta G y]? = some cellV by rw [hT]; exact g1), (fun q h => by rw [h] at g2; cases g2), ⟨kC', hkC'⟩, ⟨kE', hkE'⟩, ?_⟩
        show vm₁.assignable _ _ = true
        rw [hal.assignable]
        exact f3)
    (g := F0 m pc ls (.int (nI C) :: .int 0 :: .ref (ta G b) :: .int 0 :: .ref (ta G a) :: st.map (tv G))) rfl (by show ls.size = _; rw [hl.1, X.2.2.1]) (rest := st.map (tv G)) rfl (by rw [X.2.1]; exact hd) (Nat.le_trans hdd hRm.1) (by show 2 * 0 + _ + _ ≤ _; rw [tv_cats]; have hw : nativeFrameWords "java/lang/System" "arraycopy" 5 ≤ 20 := (by decide); have := hRm.2.1; omega)
  have e1 : copied (vp_cell (gC G 4) (N0, .inr (.inr (.inr (.inr (fun j => (f j).map (ta G))))))) (vp_cell (gC G 4) (N1, .inr (.inr (.inr (.inr (fun j => (g j).map (ta G))))))) 0 0 (nI C) = vp_cell (gC G 4) (N1, .inr (.inr (.inr (.inr (va_cpy (fun j => (f j).map (ta G)) (fun j => (g j).map (ta G)) (0 : Int32).toNatClampNeg (0 : Int32).toNatClampNeg (nI C).toNatClampNeg))))) := by
    rw [vp_cell_q, vp_cell_q, vp_cell_q]
    exact va_copied (fun z => va_rf z) (gC G 4) (gC G 4) (fun j => (f j).map (ta G)) (fun j => (g j).map (ta G)) (by rw [zC, z0]; omega)
  have e2 : va_cpy (fun j => (f j).map (ta G)) (fun j => (g j).map (ta G)) (0 : Int32).toNatClampNeg (0 : Int32).toNatClampNeg (nI C).toNatClampNeg = fun j => (va_cpy f g 0 0 C j).map (ta G) := by
    rw [zC, z0]
    funext j
    simp only [va_cpy]
    split <;> rfl
  rw [e2] at e1
  rw [e1] at X' step
  have hlb : ta G b < H.size := (Array.getElem?_eq_some_iff.mp hc1).1
  have oq : ∀ q : Nat, q ≠ ta G b → ((T.setVm vm').setCell (ta G b) (vp_cell (gC G 4) (N1, .inr (.inr (.inr (.inr (fun j => (va_cpy f g 0 0 C j).map (ta G)))))))).heap[q]? = H[q]? := fun q hq => by rw [heapAt_setCell_ne _ (Ne.symm hq)]; show T.heap[q]? = _; rw [hT]
  obtain ⟨t, a1, b1⟩ := kk p l e R s m args below meth c _ _ ls (axS X ⟨by rw [size_setCell]; show _ ≤ T.heap.size; rw [hT]; exact hS.1, fun q g1 g2 => by
      rw [oq q (fun e => g2 (by rw [e]; exact ta_A (hR.ge hb)))]
      exact hS.2.1 q g1 g2, fun q hq => by
      rcases List.mem_append.mp hq with h | h
      · exact hS.2.2 q h
      · obtain ⟨z, -, hz⟩ := List.mem_map.mp h
        rw [← hz]
        exact ta_A (hR.ge hb)⟩) (Rel.set hR hb (by rw [size_setCell]; show T.heap.size = _; rw [hT]) oq (by
      show _ = some (vp_cell _ _)
      rw [heapAt_setCell_self _ (by show _ < T.heap.size; rw [hT]; exact hlb)]
      rfl)) hl _ rfl X'
  exact ⟨t, step t a1, b1⟩
end RUN7
