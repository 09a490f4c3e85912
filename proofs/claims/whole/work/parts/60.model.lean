/-! the reference: its object and its rows, by the numbers of the fields -/
def mfl (A : Nat → Nat) (sc : Nat → Int32) : List Value := [.int (sc 0), .int (sc 1), .ref (A 2), .ref (A 3), .int (sc 4), .ref (A 5), .ref (A 6), .ref (A 7), .ref (A 8), .ref (A 9), .ref (A 10), .ref (A 11), .ref (A 12), .ref (A 13), .ref (A 14), .int (sc 15), .ref (A 16), .ref (A 17), .int (sc 18), .ref (A 19), .ref (A 20), .ref (A 21), .ref (A 22), .int (sc 23), .ref (A 24), .ref (A 25), .int (sc 26), .int (sc 27), .ref (A 28), .ref (A 29), .ref (A 30), .ref (A 31), .ref (A 32), .ref (A 33), .ref (A 34), .ref (A 35), .ref (A 36), .int (sc 37), .ref (A 38), .int (sc 39), .ref (A 40), .ref (A 41), .ref (A 42), .ref (A 43), .ref (A 44), .ref (A 45), .ref (A 46), .ref (A 47), .ref (A 48), .ref (A 49), .int (sc 50), .ref (A 51), .ref (A 52), .ref (A 53)]
def mln : Nat → Nat
  | 2 => 12
  | 3 => 12
  | 5 => 24
  | 6 => 24
  | 7 => 24
  | 8 => 24
  | 9 => 24
  | 10 => 96
  | 11 => 96
  | 12 => 24
  | 13 => 96
  | 14 => 96
  | 16 => 6
  | 17 => 6
  | 19 => 12
  | 20 => 12
  | 21 => 12
  | 22 => 12
  | 24 => 12
  | 25 => 24
  | 28 => 480000
  | 29 => 20000
  | 30 => 20000
  | 31 => 20000
  | 32 => 20001
  | 33 => 480000
  | 34 => 480000
  | 35 => 20000
  | 36 => 20000
  | 38 => 20004
  | 40 => 20000
  | 41 => 20000
  | 42 => 20000
  | 43 => 4096
  | 44 => 4
  | 45 => 4
  | 46 => 4
  | 47 => 4
  | 48 => 4
  | 49 => 4
  | 51 => 200
  | 52 => 200
  | 53 => 200
  | _ => 0
def mial : List Nat := [2, 3, 5, 6, 7, 8, 9, 10, 11, 12, 13, 14, 16, 17, 19, 20, 21, 22, 24, 25, 28, 30, 31, 32, 33, 35, 36, 38, 40, 41, 43, 45, 46, 47, 48, 49, 51, 52, 53]
def mia (f : Nat) : Bool := mial.contains f
def miz (f : Nat) : Bool := [29, 42, 44].contains f
def MT : List Nat := [50, 62, 63, 65, 66, 67, 68, 69, 70, 71, 72, 73, 74, 76, 77, 79, 80, 81, 82, 84, 85, 88, 89, 90, 91, 92, 93, 94, 95, 96, 98, 100, 101, 102, 103, 104, 105, 106, 107, 108, 109, 111, 112, 113]
def MoS (h : Nat → Option aC) (a : Nat) (A : Nat → Nat) (sc : Nat → Int32) (ar : Nat → Nat → Int32) : Prop := h a = some (ob 50 11 (mfl A sc)) ∧ (∀ f, mia f = true → h (A f) = some (cI (60 + f) (mln f) (ar f))) ∧ (∀ f, miz f = true → h (A f) = some (cZ (60 + f) (mln f) (ar f))) ∧ h (A 34) = some (cB 94 480000 (ar 34))
def ups (ar : Nat → Nat → Int32) (f : Nat) (g : Nat → Int32) : Nat → Nat → Int32 := fun j => if j = f then g else ar j
theorem ups_s {ar : Nat → Nat → Int32} {f : Nat} {g : Nat → Int32} : ups ar f g f = g := if_pos rfl
theorem ups_n {ar : Nat → Nat → Int32} {f j : Nat} {g : Nat → Int32} (h : j ≠ f) : ups ar f g j = ar j := if_neg h
theorem MoS.fr {h h2 : Nat → Option aC} {a : Nat} {A : Nat → Nat} {sc : Nat → Int32} {ar : Nat → Nat → Int32} {T : List Nat} (hm : MoS h a A sc ar) (hf : Fr T h h2) (ht : ∀ x ∈ MT, x ∉ T) : MoS h2 a A sc ar := by
  have k1 : ∀ f, mia f = true → 60 + f ∈ MT := by
    intro f hf
    have k0 : ∀ f ∈ mial, 60 + f ∈ MT := by decide
    exact k0 f (List.contains_iff_mem.mp hf)
  have k2 : ∀ f, miz f = true → 60 + f ∈ MT := by
    intro f hf
    have k0 : ∀ f ∈ ([29, 42, 44] : List Nat), 60 + f ∈ MT := by decide
    exact k0 f (List.contains_iff_mem.mp hf)
  exact ⟨hf _ _ hm.1 (ht 50 (by decide)), fun f hf2 => hf _ _ (hm.2.1 f hf2) (ht _ (k1 f hf2)), fun f hf2 => hf _ _ (hm.2.2.1 f hf2) (ht _ (k2 f hf2)), hf _ _ hm.2.2.2 (ht 94 (by decide))⟩
theorem miz_ia {f : Nat} (h : miz f = true) : mia f = false := by
  have k0 : ∀ f ∈ ([29, 42, 44] : List Nat), mia f = false := by decide
  exact k0 f (List.contains_iff_mem.mp h)
theorem mi34 : mia 34 = false ∧ miz 34 = false := by decide
/-- one row of it has changed -/
theorem MoS.seti {h h1 : Nat → Option aC} {a : Nat} {A : Nat → Nat} {sc : Nat → Int32} {ar : Nat → Nat → Int32} {f : Nat} {g : Nat → Int32} (hm : MoS h a A sc ar) (hf : mia f = true) (h2 : h1 (A f) = some (cI (60 + f) (mln f) g)) (fr : Fr [60 + f] h h1) : MoS h1 a A sc (ups ar f g) := by
  have n34 : 34 ≠ f := fun e => by rw [← e] at hf; exact absurd hf (by decide)
  refine ⟨fr _ _ hm.1 (by simp only [List.mem_singleton]; omega), fun j hj => ?_, fun j hj => ?_, ?_⟩
  · by_cases e : j = f
    · subst e; rw [ups_s]; exact h2
    · rw [ups_n e]; exact fr _ _ (hm.2.1 j hj) (by simp only [List.mem_singleton]; omega)
  · have e : j ≠ f := fun e => by rw [← e, miz_ia hj] at hf; cases hf
    rw [ups_n e]; exact fr _ _ (hm.2.2.1 j hj) (by simp only [List.mem_singleton]; omega)
  · rw [ups_n n34]; exact fr _ _ hm.2.2.2 (by simp only [List.mem_singleton]; omega)
theorem MoS.setz {h h1 : Nat → Option aC} {a : Nat} {A : Nat → Nat} {sc : Nat → Int32} {ar : Nat → Nat → Int32} {f : Nat} {g : Nat → Int32} (hm : MoS h a A sc ar) (hf : miz f = true) (h2 : h1 (A f) = some (cZ (60 + f) (mln f) g)) (fr : Fr [60 + f] h h1) : MoS h1 a A sc (ups ar f g) := by
  have n34 : 34 ≠ f := fun e => by rw [← e] at hf; exact absurd hf (by decide)
  refine ⟨fr _ _ hm.1 (by simp only [List.mem_singleton]; omega), fun j hj => ?_, fun j hj => ?_, ?_⟩
  · have e : j ≠ f := fun e => by rw [← e] at hf; rw [miz_ia hf] at hj; cases hj
    rw [ups_n e]; exact fr _ _ (hm.2.1 j hj) (by simp only [List.mem_singleton]; omega)
  · by_cases e : j = f
    · subst e; rw [ups_s]; exact h2
    · rw [ups_n e]; exact fr _ _ (hm.2.2.1 j hj) (by simp only [List.mem_singleton]; omega)
  · rw [ups_n n34]; exact fr _ _ hm.2.2.2 (by simp only [List.mem_singleton]; omega)
theorem MoS.setb {h h1 : Nat → Option aC} {a : Nat} {A : Nat → Nat} {sc : Nat → Int32} {ar : Nat → Nat → Int32} {g : Nat → Int32} (hm : MoS h a A sc ar) (h2 : h1 (A 34) = some (cB 94 480000 g)) (fr : Fr [94] h h1) : MoS h1 a A sc (ups ar 34 g) := by
  refine ⟨fr _ _ hm.1 (by simp), fun j hj => ?_, fun j hj => ?_, ?_⟩
  · have e : j ≠ 34 := fun e => by rw [e] at hj; exact absurd hj (by decide)
    rw [ups_n e]; exact fr _ _ (hm.2.1 j hj) (by simp only [List.mem_singleton]; omega)
  · have e : j ≠ 34 := fun e => by rw [e] at hj; exact absurd hj (by decide)
    rw [ups_n e]; exact fr _ _ (hm.2.2.1 j hj) (by simp only [List.mem_singleton]; omega)
  · rw [ups_s]; exact h2
theorem MoS.put {h h1 : Nat → Option aC} {a : Nat} {A : Nat → Nat} {sc sc2 : Nat → Int32} {ar : Nat → Nat → Int32} (hm : MoS h a A sc ar) (h2 : h1 a = some (ob 50 11 (mfl A sc2))) (fr : Fr [50] h h1) : MoS h1 a A sc2 ar :=
  ⟨h2, fun j hj => fr _ _ (hm.2.1 j hj) (by simp only [List.mem_singleton]; omega), fun j hj => fr _ _ (hm.2.2.1 j hj) (by simp only [List.mem_singleton]; omega), fr _ _ hm.2.2.2 (by simp)⟩
section RUM
variable {G : aG} {My : MethodName} {Mc : ByteArray} {Ml : Nat} {Mr : Option FieldType} {d mc ms : Nat} {F : FT} {pc pc2 : Nat} {lv : List (Nat × Value)} {st : List Value} {k n nx a : Nat} {h : Nat → Option aC} {A : Nat → Nat} {sc : Nat → Int32} {ar : Nat → Nat → Int32}
theorem am_st {f : Nat} {i x : Int32} (hm : MoS h a A sc ar) (hd : DN Mc pc .iastore 1 pc2) (hf : mia f = true) (hin : vp_in i (mln f)) (kk : ∀ h1, MoS h1 a A sc (ups ar f (upd (ar f) i.toNatClampNeg x)) → Fr [60 + f] h h1 → AW G (My, Mc, Ml, Mr) d mc ms F pc2 lv st (nx, h1) k n) : AW G (My, Mc, Ml, Mr) d mc ms F pc lv (.int x :: .int i :: .ref (A f) :: st) (nx, h) k n := by
  refine aw_iastore hd (hm.2.1 f hf) hin ?_
  exact kk _ (hm.seti hf (hs_eq _ _ _) (Fr.set (hm.2.1 f hf) (by simp))) (Fr.set (hm.2.1 f hf) (by simp))
theorem am_zst {f : Nat} {i x : Int32} (hm : MoS h a A sc ar) (hd : DN Mc pc .bastore 1 pc2) (hf : miz f = true) (hin : vp_in i (mln f)) (kk : ∀ h1, MoS h1 a A sc (ups ar f (upd (ar f) i.toNatClampNeg (vp_nar .boolean x))) → Fr [60 + f] h h1 → AW G (My, Mc, Ml, Mr) d mc ms F pc2 lv st (nx, h1) k n) : AW G (My, Mc, Ml, Mr) d mc ms F pc lv (.int x :: .int i :: .ref (A f) :: st) (nx, h) k n := by
  refine aw_bastoreZ hd (hm.2.2.1 f hf) hin ?_
  exact kk _ (hm.setz hf (hs_eq _ _ _) (Fr.set (hm.2.2.1 f hf) (by simp))) (Fr.set (hm.2.2.1 f hf) (by simp))
theorem am_bst {i x : Int32} (hm : MoS h a A sc ar) (hd : DN Mc pc .bastore 1 pc2) (hin : vp_in i 480000) (kk : ∀ h1, MoS h1 a A sc (ups ar 34 (upd (ar 34) i.toNatClampNeg (vp_nar .byte x))) → Fr [94] h h1 → AW G (My, Mc, Ml, Mr) d mc ms F pc2 lv st (nx, h1) k n) : AW G (My, Mc, Ml, Mr) d mc ms F pc lv (.int x :: .int i :: .ref (A 34) :: st) (nx, h) k n := by
  refine aw_bastore hd hm.2.2.2 hin ?_
  exact kk _ (hm.setb (hs_eq _ _ _) (Fr.set hm.2.2.2 (by simp))) (Fr.set hm.2.2.2 (by simp))
theorem am_ld {f : Nat} {i : Int32} (hm : MoS h a A sc ar) (hd : DN Mc pc .iaload 1 pc2) (hf : mia f = true) (hin : vp_in i (mln f)) (kk : AW G (My, Mc, Ml, Mr) d mc ms F pc2 lv (.int (ar f i.toNatClampNeg) :: st) (nx, h) k n) : AW G (My, Mc, Ml, Mr) d mc ms F pc lv (.int i :: .ref (A f) :: st) (nx, h) k n := aw_iaload hd (hm.2.1 f hf) hin kk
theorem am_zld {f : Nat} {i : Int32} (hm : MoS h a A sc ar) (hd : DN Mc pc .baload 1 pc2) (hf : miz f = true) (hin : vp_in i (mln f)) (kk : AW G (My, Mc, Ml, Mr) d mc ms F pc2 lv (.int (ar f i.toNatClampNeg) :: st) (nx, h) k n) : AW G (My, Mc, Ml, Mr) d mc ms F pc lv (.int i :: .ref (A f) :: st) (nx, h) k n := aw_baloadZ hd (hm.2.2.1 f hf) hin kk
theorem am_bld {i : Int32} (hm : MoS h a A sc ar) (hd : DN Mc pc .baload 1 pc2) (hin : vp_in i 480000) (kk : AW G (My, Mc, Ml, Mr) d mc ms F pc2 lv (.int (ar 34 i.toNatClampNeg) :: st) (nx, h) k n) : AW G (My, Mc, Ml, Mr) d mc ms F pc lv (.int i :: .ref (A 34) :: st) (nx, h) k n := aw_baload hd hm.2.2.2 hin kk
theorem am_get {idx f : Nat} {v : Value} (hm : MoS h a A sc ar) (hd : DN Mc pc (.getfield idx) 3 pc2) (hf : FL My.cls idx 11 f) (hv : (mfl A sc)[f]? = some v) (kk : AW G (My, Mc, Ml, Mr) d mc ms F pc2 lv (v :: st) (nx, h) k n) : AW G (My, Mc, Ml, Mr) d mc ms F pc lv (.ref a :: st) (nx, h) k n := aw_get hd hf hm.1 hv kk
theorem am_put {idx f : Nat} {x : Int32} (hm : MoS h a A sc ar) (hd : DN Mc pc (.putfield idx) 3 pc2) (hf : PL My.cls idx 11 f false) (hs : (mfl A sc).set f (.int x) = mfl A (upd sc f x)) (hl : f < 54) (hn : narrow (cty 11 f) (.int x) = .int x) (hfit : fits (cty 11 f) (.int x) = true) (kk : ∀ h1, MoS h1 a A (upd sc f x) ar → Fr [50] h h1 → AW G (My, Mc, Ml, Mr) d mc ms F pc2 lv st (nx, h1) k n) : AW G (My, Mc, Ml, Mr) d mc ms F pc lv (.int x :: .ref a :: st) (nx, h) k n := by
  refine aw_put hd hf hm.1 (by simpa [mfl] using hl) hn hfit ?_
  rw [hs]
  exact kk _ (hm.put (hs_eq _ _ _) (Fr.set hm.1 (by simp))) (Fr.set hm.1 (by simp))
end RUM
theorem ms_0 (A : Nat → Nat) (sc : Nat → Int32) (x : Int32) : (mfl A sc).set 0 (.int x) = mfl A (upd sc 0 x) := by simp [mfl, upd]
theorem ms_1 (A : Nat → Nat) (sc : Nat → Int32) (x : Int32) : (mfl A sc).set 1 (.int x) = mfl A (upd sc 1 x) := by simp [mfl, upd]
theorem ms_4 (A : Nat → Nat) (sc : Nat → Int32) (x : Int32) : (mfl A sc).set 4 (.int x) = mfl A (upd sc 4 x) := by simp [mfl, upd]
theorem ms_15 (A : Nat → Nat) (sc : Nat → Int32) (x : Int32) : (mfl A sc).set 15 (.int x) = mfl A (upd sc 15 x) := by simp [mfl, upd]
theorem ms_18 (A : Nat → Nat) (sc : Nat → Int32) (x : Int32) : (mfl A sc).set 18 (.int x) = mfl A (upd sc 18 x) := by simp [mfl, upd]
theorem ms_23 (A : Nat → Nat) (sc : Nat → Int32) (x : Int32) : (mfl A sc).set 23 (.int x) = mfl A (upd sc 23 x) := by simp [mfl, upd]
theorem ms_26 (A : Nat → Nat) (sc : Nat → Int32) (x : Int32) : (mfl A sc).set 26 (.int x) = mfl A (upd sc 26 x) := by simp [mfl, upd]
theorem ms_27 (A : Nat → Nat) (sc : Nat → Int32) (x : Int32) : (mfl A sc).set 27 (.int x) = mfl A (upd sc 27 x) := by simp [mfl, upd]
theorem ms_37 (A : Nat → Nat) (sc : Nat → Int32) (x : Int32) : (mfl A sc).set 37 (.int x) = mfl A (upd sc 37 x) := by simp [mfl, upd]
theorem ms_39 (A : Nat → Nat) (sc : Nat → Int32) (x : Int32) : (mfl A sc).set 39 (.int x) = mfl A (upd sc 39 x) := by simp [mfl, upd]
theorem ms_50 (A : Nat → Nat) (sc : Nat → Int32) (x : Int32) : (mfl A sc).set 50 (.int x) = mfl A (upd sc 50 x) := by simp [mfl, upd]
