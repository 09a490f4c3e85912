/-! rules over Nat: what is compared, added, taken off is nI of something -/
section RUN
variable {G : aG} {My : MethodName} {Mc : ByteArray} {Ml : Nat} {Mr : Option FieldType} {d mc ms : Nat} {F : FT} {pc pc2 tgt : Nat} {lv lv2 : List (Nat × Value)} {st : List Value} {w : aH} {k n : Nat}
theorem aw_icmpN_eq {x y : Nat} (hd : BR Mc pc (.if_icmp .eq) tgt pc2) (ha : x < 2 ^ 31) (hb : y < 2 ^ 31) (kt : x = y → AW G (My, Mc, Ml, Mr) d mc ms F tgt lv st w k n) (kf : ¬ x = y → AW G (My, Mc, Ml, Mr) d mc ms F pc2 lv st w k n) : AW G (My, Mc, Ml, Mr) d mc ms F pc lv (.int (nI y) :: .int (nI x) :: st) w k n := aw_icmp_eq hd (fun z => kt ((nI_eq ha hb).mp z)) (fun z => kf (fun q => z (congrArg nI q)))
theorem aw_ifN_eq {x : Nat} (hd : BR Mc pc (.ifCond .eq) tgt pc2) (ha : x < 2 ^ 31) (kt : x = 0 → AW G (My, Mc, Ml, Mr) d mc ms F tgt lv st w k n) (kf : ¬ x = 0 → AW G (My, Mc, Ml, Mr) d mc ms F pc2 lv st w k n) : AW G (My, Mc, Ml, Mr) d mc ms F pc lv (.int (nI x) :: st) w k n := by
  have hb : 0 < 2 ^ 31 := by decide
  refine aw_if_eq hd (fun z => kt ?_) (fun z => kf ?_) <;> rw [← nI_0] at z
  · exact (nI_eq ha hb).mp z
  · exact fun q => z (congrArg nI q)
theorem aw_icmpN_ne {x y : Nat} (hd : BR Mc pc (.if_icmp .ne) tgt pc2) (ha : x < 2 ^ 31) (hb : y < 2 ^ 31) (kt : ¬ x = y → AW G (My, Mc, Ml, Mr) d mc ms F tgt lv st w k n) (kf : x = y → AW G (My, Mc, Ml, Mr) d mc ms F pc2 lv st w k n) : AW G (My, Mc, Ml, Mr) d mc ms F pc lv (.int (nI y) :: .int (nI x) :: st) w k n := aw_icmp_ne hd (fun z => kt (fun q => z (congrArg nI q))) (fun z => kf ((nI_eq ha hb).mp z))
theorem aw_ifN_ne {x : Nat} (hd : BR Mc pc (.ifCond .ne) tgt pc2) (ha : x < 2 ^ 31) (kt : ¬ x = 0 → AW G (My, Mc, Ml, Mr) d mc ms F tgt lv st w k n) (kf : x = 0 → AW G (My, Mc, Ml, Mr) d mc ms F pc2 lv st w k n) : AW G (My, Mc, Ml, Mr) d mc ms F pc lv (.int (nI x) :: st) w k n := by
  have hb : 0 < 2 ^ 31 := by decide
  refine aw_if_ne hd (fun z => kt ?_) (fun z => kf ?_) <;> rw [← nI_0] at z
  · exact fun q => z (congrArg nI q)
  · exact (nI_eq ha hb).mp z
theorem aw_icmpN_lt {x y : Nat} (hd : BR Mc pc (.if_icmp .lt) tgt pc2) (ha : x < 2 ^ 31) (hb : y < 2 ^ 31) (kt : x < y → AW G (My, Mc, Ml, Mr) d mc ms F tgt lv st w k n) (kf : y ≤ x → AW G (My, Mc, Ml, Mr) d mc ms F pc2 lv st w k n) : AW G (My, Mc, Ml, Mr) d mc ms F pc lv (.int (nI y) :: .int (nI x) :: st) w k n := aw_icmp_lt hd (fun z => kt ((nI_ltI ha hb).mp z)) (fun z => kf (Nat.not_lt.mp (fun q => z ((nI_ltI ha hb).mpr q))))
theorem aw_ifN_lt {x : Nat} (hd : BR Mc pc (.ifCond .lt) tgt pc2) (ha : x < 2 ^ 31) (kt : x < 0 → AW G (My, Mc, Ml, Mr) d mc ms F tgt lv st w k n) (kf : 0 ≤ x → AW G (My, Mc, Ml, Mr) d mc ms F pc2 lv st w k n) : AW G (My, Mc, Ml, Mr) d mc ms F pc lv (.int (nI x) :: st) w k n := by
  have hb : 0 < 2 ^ 31 := by decide
  refine aw_if_lt hd (fun z => kt ?_) (fun z => kf ?_) <;> rw [← nI_0] at z
  · exact (nI_ltI ha hb).mp z
  · exact Nat.not_lt.mp (fun q => z ((nI_ltI ha hb).mpr q))
theorem aw_icmpN_ge {x y : Nat} (hd : BR Mc pc (.if_icmp .ge) tgt pc2) (ha : x < 2 ^ 31) (hb : y < 2 ^ 31) (kt : y ≤ x → AW G (My, Mc, Ml, Mr) d mc ms F tgt lv st w k n) (kf : x < y → AW G (My, Mc, Ml, Mr) d mc ms F pc2 lv st w k n) : AW G (My, Mc, Ml, Mr) d mc ms F pc lv (.int (nI y) :: .int (nI x) :: st) w k n := aw_icmp_ge hd (fun z => kt ((nI_leI hb ha).mp z)) (fun z => kf (Nat.not_le.mp (fun q => z ((nI_leI hb ha).mpr q))))
theorem aw_ifN_ge {x : Nat} (hd : BR Mc pc (.ifCond .ge) tgt pc2) (ha : x < 2 ^ 31) (kt : 0 ≤ x → AW G (My, Mc, Ml, Mr) d mc ms F tgt lv st w k n) (kf : x < 0 → AW G (My, Mc, Ml, Mr) d mc ms F pc2 lv st w k n) : AW G (My, Mc, Ml, Mr) d mc ms F pc lv (.int (nI x) :: st) w k n := by
  have hb : 0 < 2 ^ 31 := by decide
  refine aw_if_ge hd (fun z => kt ?_) (fun z => kf ?_) <;> rw [← nI_0] at z
  · exact (nI_leI hb ha).mp z
  · exact Nat.not_le.mp (fun q => z ((nI_leI hb ha).mpr q))
theorem aw_icmpN_gt {x y : Nat} (hd : BR Mc pc (.if_icmp .gt) tgt pc2) (ha : x < 2 ^ 31) (hb : y < 2 ^ 31) (kt : y < x → AW G (My, Mc, Ml, Mr) d mc ms F tgt lv st w k n) (kf : x ≤ y → AW G (My, Mc, Ml, Mr) d mc ms F pc2 lv st w k n) : AW G (My, Mc, Ml, Mr) d mc ms F pc lv (.int (nI y) :: .int (nI x) :: st) w k n := aw_icmp_gt hd (fun z => kt ((nI_ltI hb ha).mp z)) (fun z => kf (Nat.not_lt.mp (fun q => z ((nI_ltI hb ha).mpr q))))
theorem aw_ifN_gt {x : Nat} (hd : BR Mc pc (.ifCond .gt) tgt pc2) (ha : x < 2 ^ 31) (kt : 0 < x → AW G (My, Mc, Ml, Mr) d mc ms F tgt lv st w k n) (kf : x ≤ 0 → AW G (My, Mc, Ml, Mr) d mc ms F pc2 lv st w k n) : AW G (My, Mc, Ml, Mr) d mc ms F pc lv (.int (nI x) :: st) w k n := by
  have hb : 0 < 2 ^ 31 := by decide
  refine aw_if_gt hd (fun z => kt ?_) (fun z => kf ?_) <;> rw [← nI_0] at z
  · exact (nI_ltI hb ha).mp z
  · exact Nat.not_lt.mp (fun q => z ((nI_ltI hb ha).mpr q))
theorem aw_icmpN_le {x y : Nat} (hd : BR Mc pc (.if_icmp .le) tgt pc2) (ha : x < 2 ^ 31) (hb : y < 2 ^ 31) (kt : x ≤ y → AW G (My, Mc, Ml, Mr) d mc ms F tgt lv st w k n) (kf : y < x → AW G (My, Mc, Ml, Mr) d mc ms F pc2 lv st w k n) : AW G (My, Mc, Ml, Mr) d mc ms F pc lv (.int (nI y) :: .int (nI x) :: st) w k n := aw_icmp_le hd (fun z => kt ((nI_leI ha hb).mp z)) (fun z => kf (Nat.not_le.mp (fun q => z ((nI_leI ha hb).mpr q))))
theorem aw_ifN_le {x : Nat} (hd : BR Mc pc (.ifCond .le) tgt pc2) (ha : x < 2 ^ 31) (kt : x ≤ 0 → AW G (My, Mc, Ml, Mr) d mc ms F tgt lv st w k n) (kf : 0 < x → AW G (My, Mc, Ml, Mr) d mc ms F pc2 lv st w k n) : AW G (My, Mc, Ml, Mr) d mc ms F pc lv (.int (nI x) :: st) w k n := by
  have hb : 0 < 2 ^ 31 := by decide
  refine aw_if_le hd (fun z => kt ?_) (fun z => kf ?_) <;> rw [← nI_0] at z
  · exact (nI_leI ha hb).mp z
  · exact Nat.not_le.mp (fun q => z ((nI_leI ha hb).mpr q))
theorem aw_ifB_eq {b : Bool} (hd : BR Mc pc (.ifCond .eq) tgt pc2) (kt : b = false → AW G (My, Mc, Ml, Mr) d mc ms F tgt lv st w k n) (kf : b = true → AW G (My, Mc, Ml, Mr) d mc ms F pc2 lv st w k n) : AW G (My, Mc, Ml, Mr) d mc ms F pc lv (.int (bI b) :: st) w k n := aw_if_eq hd (fun z => kt (bI_0.mp z)) (fun z => kf (bI_1.mp z))
theorem aw_ifB_ne {b : Bool} (hd : BR Mc pc (.ifCond .ne) tgt pc2) (kt : b = true → AW G (My, Mc, Ml, Mr) d mc ms F tgt lv st w k n) (kf : b = false → AW G (My, Mc, Ml, Mr) d mc ms F pc2 lv st w k n) : AW G (My, Mc, Ml, Mr) d mc ms F pc lv (.int (bI b) :: st) w k n := aw_if_ne hd (fun z => kt (bI_1.mp z)) (fun z => kf (bI_0.mp z))
theorem aw_iaddN {x y : Nat} (hd : DN Mc pc (.iadd) 1 pc2)  (kk : AW G (My, Mc, Ml, Mr) d mc ms F pc2 lv (.int (nI (x + y)) :: st) w k n) : AW G (My, Mc, Ml, Mr) d mc ms F pc lv (.int (nI y) :: .int (nI x) :: st) w k n := aw_iadd hd (by rw [nI_add]; exact kk)
theorem aw_imulN {x y : Nat} (hd : DN Mc pc (.imul) 1 pc2)  (kk : AW G (My, Mc, Ml, Mr) d mc ms F pc2 lv (.int (nI (x * y)) :: st) w k n) : AW G (My, Mc, Ml, Mr) d mc ms F pc lv (.int (nI y) :: .int (nI x) :: st) w k n := aw_imul hd (by rw [pk_mul]; exact kk)
theorem aw_isubN {x y : Nat} (hd : DN Mc pc (.isub) 1 pc2) (h0 : y ≤ x) (kk : AW G (My, Mc, Ml, Mr) d mc ms F pc2 lv (.int (nI (x - y)) :: st) w k n) : AW G (My, Mc, Ml, Mr) d mc ms F pc lv (.int (nI y) :: .int (nI x) :: st) w k n := aw_isub hd (by rw [pk_sub h0]; exact kk)
theorem aw_idivN {x y : Nat} (hd : DN Mc pc (.idiv) 1 pc2) (h0 : 0 < y) (hx : x < 2 ^ 31) (hy : y < 2 ^ 31) (kk : AW G (My, Mc, Ml, Mr) d mc ms F pc2 lv (.int (nI (x / y)) :: st) w k n) : AW G (My, Mc, Ml, Mr) d mc ms F pc lv (.int (nI y) :: .int (nI x) :: st) w k n := aw_idiv hd (nI_ne0 h0 hy) (by rw [pk_div hx h0 hy]; exact kk)
theorem aw_iremN {x y : Nat} (hd : DN Mc pc (.irem) 1 pc2) (h0 : 0 < y) (hx : x < 2 ^ 31) (hy : y < 2 ^ 31) (kk : AW G (My, Mc, Ml, Mr) d mc ms F pc2 lv (.int (nI (x % y)) :: st) w k n) : AW G (My, Mc, Ml, Mr) d mc ms F pc lv (.int (nI y) :: .int (nI x) :: st) w k n := aw_irem hd (nI_ne0 h0 hy) (by rw [pk_rem hx h0 hy]; exact kk)
theorem aw_iincN {i x : Nat} (hd : DN Mc pc (.iinc i 1) 3 pc2) (hn : i < Ml) (hg : lget lv i = some (.int (nI x))) (h : lset lv i (.int (nI (x + 1))) = lv2) (kk : AW G (My, Mc, Ml, Mr) d mc ms F pc2 lv2 st w k n) : AW G (My, Mc, Ml, Mr) d mc ms F pc lv st w k n := aw_iinc hd hn hg (nI_1 x) h kk
end RUN
/-! the reference, with the frame -/
def MoF (h0 h : Nat → Option aC) (a : Nat) (A : Nat → Nat) (sc : Nat → Int32) (ar : Nat → Nat → Int32) : Prop := MoS h a A sc ar ∧ Fr MT h0 h
def MR (nx a : Nat) (h0 : Nat → Option aC) (A : Nat → Nat) (P : Option Value → (Nat → Int32) → (Nat → Nat → Int32) → Prop) : Option Value → aH → Prop := fun r w => ∃ h2 sc2 ar2, w = (nx, h2) ∧ MoF h0 h2 a A sc2 ar2 ∧ P r sc2 ar2
theorem fr60 {f : Nat} (hT : MT.contains (60 + f) = true) : ∀ x, x ∈ [60 + f] → x ∈ MT := fun x hx => by rw [List.mem_singleton.mp hx]; exact List.contains_iff_mem.mp hT
theorem mia_T {f : Nat} (h : mia f = true) : MT.contains (60 + f) = true := by
  have k0 : ∀ f ∈ mial, MT.contains (60 + f) = true := by decide
  exact k0 f (List.contains_iff_mem.mp h)
theorem miz_T {f : Nat} (h : miz f = true) : MT.contains (60 + f) = true := by
  have k0 : ∀ f ∈ ([29, 42, 44] : List Nat), MT.contains (60 + f) = true := by decide
  exact k0 f (List.contains_iff_mem.mp h)
section RUM2
variable {G : aG} {My : MethodName} {Mc : ByteArray} {Ml : Nat} {Mr : Option FieldType} {d mc ms : Nat} {F : FT} {pc pc2 : Nat} {lv : List (Nat × Value)} {st : List Value} {k n nx a : Nat} {h h0 : Nat → Option aC} {A : Nat → Nat} {sc : Nat → Int32} {ar : Nat → Nat → Int32}
theorem mo_ld {f i N : Nat} {v : Int32} (hm : MoF h0 h a A sc ar) (hd : DN Mc pc .iaload 1 pc2) (hf : mia f = true) (hN : mln f = N) (hl : N ≤ 1000000) (hi : i < N) (hv : ar f i = v) (kk : AW G (My, Mc, Ml, Mr) d mc ms F pc2 lv (.int v :: st) (nx, h) k n) : AW G (My, Mc, Ml, Mr) d mc ms F pc lv (.int (nI i) :: .ref (A f) :: st) (nx, h) k n := by
  refine am_ld hm.1 hd hf (vp_in_nI (by omega) (by omega)) ?_
  rw [nI_clamp (by omega), hv]; exact kk
theorem mo_zld {f i N : Nat} {v : Int32} (hm : MoF h0 h a A sc ar) (hd : DN Mc pc .baload 1 pc2) (hf : miz f = true) (hN : mln f = N) (hl : N ≤ 1000000) (hi : i < N) (hv : ar f i = v) (kk : AW G (My, Mc, Ml, Mr) d mc ms F pc2 lv (.int v :: st) (nx, h) k n) : AW G (My, Mc, Ml, Mr) d mc ms F pc lv (.int (nI i) :: .ref (A f) :: st) (nx, h) k n := by
  refine am_zld hm.1 hd hf (vp_in_nI (by omega) (by omega)) ?_
  rw [nI_clamp (by omega), hv]; exact kk
theorem mo_bld {i : Nat} {v : Int32} (hm : MoF h0 h a A sc ar) (hd : DN Mc pc .baload 1 pc2) (hi : i < 480000) (hv : ar 34 i = v) (kk : AW G (My, Mc, Ml, Mr) d mc ms F pc2 lv (.int v :: st) (nx, h) k n) : AW G (My, Mc, Ml, Mr) d mc ms F pc lv (.int (nI i) :: .ref (A 34) :: st) (nx, h) k n := by
  refine am_bld hm.1 hd (vp_in_nI hi (by omega)) ?_
  rw [nI_clamp (by omega), hv]; exact kk
theorem mo_st {f i N : Nat} {x : Int32} (hm : MoF h0 h a A sc ar) (hd : DN Mc pc .iastore 1 pc2) (hf : mia f = true) (hN : mln f = N) (hl : N ≤ 1000000) (hi : i < N) (kk : ∀ h1, MoF h0 h1 a A sc (ups ar f (upd (ar f) i x)) → AW G (My, Mc, Ml, Mr) d mc ms F pc2 lv st (nx, h1) k n) : AW G (My, Mc, Ml, Mr) d mc ms F pc lv (.int x :: .int (nI i) :: .ref (A f) :: st) (nx, h) k n := by
  refine am_st hm.1 hd hf (vp_in_nI (by omega) (by omega)) (fun h1 q1 q2 => ?_)
  rw [nI_clamp (by omega)] at q1
  exact kk h1 ⟨q1, hm.2.tr (q2.up (fr60 (mia_T hf)))⟩
theorem mo_zst {f i N : Nat} {x : Int32} (hm : MoF h0 h a A sc ar) (hd : DN Mc pc .bastore 1 pc2) (hf : miz f = true) (hN : mln f = N) (hl : N ≤ 1000000) (hi : i < N) (hx : vp_nar .boolean x = x) (kk : ∀ h1, MoF h0 h1 a A sc (ups ar f (upd (ar f) i x)) → AW G (My, Mc, Ml, Mr) d mc ms F pc2 lv st (nx, h1) k n) : AW G (My, Mc, Ml, Mr) d mc ms F pc lv (.int x :: .int (nI i) :: .ref (A f) :: st) (nx, h) k n := by
  refine am_zst hm.1 hd hf (vp_in_nI (by omega) (by omega)) (fun h1 q1 q2 => ?_)
  rw [nI_clamp (by omega), hx] at q1
  exact kk h1 ⟨q1, hm.2.tr (q2.up (fr60 (miz_T hf)))⟩
theorem mo_bst {i : Nat} {x : Int32} (hm : MoF h0 h a A sc ar) (hd : DN Mc pc .bastore 1 pc2) (hi : i < 480000) (hx : vp_nar .byte x = x) (kk : ∀ h1, MoF h0 h1 a A sc (ups ar 34 (upd (ar 34) i x)) → AW G (My, Mc, Ml, Mr) d mc ms F pc2 lv st (nx, h1) k n) : AW G (My, Mc, Ml, Mr) d mc ms F pc lv (.int x :: .int (nI i) :: .ref (A 34) :: st) (nx, h) k n := by
  refine am_bst hm.1 hd (vp_in_nI hi (by omega)) (fun h1 q1 q2 => ?_)
  rw [nI_clamp (by omega), hx] at q1
  exact kk h1 ⟨q1, hm.2.tr (q2.up (by decide))⟩
theorem mo_get {idx f : Nat} {v : Value} (hm : MoF h0 h a A sc ar) (hd : DN Mc pc (.getfield idx) 3 pc2) (hf : FL My.cls idx 11 f) (hv : (mfl A sc)[f]? = some v) (kk : AW G (My, Mc, Ml, Mr) d mc ms F pc2 lv (v :: st) (nx, h) k n) : AW G (My, Mc, Ml, Mr) d mc ms F pc lv (.ref a :: st) (nx, h) k n := aw_get hd hf hm.1.1 hv kk
theorem mo_gets {idx f : Nat} {v : Int32} (hm : MoF h0 h a A sc ar) (hd : DN Mc pc (.getfield idx) 3 pc2) (hf : FL My.cls idx 11 f) (hv : (mfl A sc)[f]? = some (.int (sc f))) (hx : sc f = v) (kk : AW G (My, Mc, Ml, Mr) d mc ms F pc2 lv (.int v :: st) (nx, h) k n) : AW G (My, Mc, Ml, Mr) d mc ms F pc lv (.ref a :: st) (nx, h) k n := aw_get hd hf hm.1.1 hv (by rw [hx]; exact kk)
theorem mo_put {idx f : Nat} {x : Int32} (hm : MoF h0 h a A sc ar) (hd : DN Mc pc (.putfield idx) 3 pc2) (hf : PL My.cls idx 11 f false) (hs : (mfl A sc).set f (.int x) = mfl A (upd sc f x)) (hl : f < 54) (hn : narrow (cty 11 f) (.int x) = .int x) (hfit : fits (cty 11 f) (.int x) = true) (kk : ∀ h1, MoF h0 h1 a A (upd sc f x) ar → AW G (My, Mc, Ml, Mr) d mc ms F pc2 lv st (nx, h1) k n) : AW G (My, Mc, Ml, Mr) d mc ms F pc lv (.int x :: .ref a :: st) (nx, h) k n :=
  am_put hm.1 hd hf hs hl hn hfit (fun h1 q1 q2 => kk h1 ⟨q1, hm.2.tr (q2.up (by decide))⟩)
end RUM2
section RUM3
variable {G : aG} {My : MethodName} {Mc : ByteArray} {Ml : Nat} {Mr : Option FieldType} {d mc ms : Nat} {F : FT} {pc pc2 : Nat} {lv : List (Nat × Value)} {k n nx a : Nat} {h h0 : Nat → Option aC} {A : Nat → Nat}
theorem aw_callv_M0 {M' : MI} {d2 idx ci ac b t : Nat} {fs av rest stk : List Value} {q : vw_C} {P : (Nat → Int32) → (Nat → Nat → Int32) → Prop} (hm : AMet G M' d2 0 0 (.ref b :: av) (nx, h) (MR nx a h0 A (fun r sc2 ar2 => r = none ∧ P sc2 ar2))) (hd : DN Mc pc (.invokevirtual idx) 3 pc2) (hc : CLv My.cls idx M' ac) (hb : h b = some (t, .inr (ci, fs))) (hq : cls[ci]? = some q) (hcl : q.1 = M'.1.cls) (hs : stk = av.reverse ++ .ref b :: rest) (ha : av.length = ac) (hdd : d2 + 1 ≤ d) (hst : (rest.map fun v => v.category).sum ≤ 8) (hk : k ≤ mc) (hn : n ≤ ms) (kk : ∀ h sc ar, MoF h0 h a A sc ar → P sc ar → AW G (My, Mc, Ml, Mr) d mc ms F pc2 lv rest (nx, h) k n) : AW G (My, Mc, Ml, Mr) d mc ms F pc lv stk (nx, h) k n :=
  aw_callv hd hc hm hb hq hcl hs ha hdd hk hn hst (fun r w2 h => by obtain ⟨h2, sc2, ar2, rfl, hm, rfl, hp⟩ := h; exact kk _ _ _ hm hp)
theorem aw_callv_MI {M' : MI} {d2 idx ci ac b t : Nat} {fs av rest stk : List Value} {q : vw_C} {v : Value} {P : (Nat → Int32) → (Nat → Nat → Int32) → Prop} (hm : AMet G M' d2 0 0 (.ref b :: av) (nx, h) (MR nx a h0 A (fun r sc2 ar2 => r = some v ∧ P sc2 ar2))) (hd : DN Mc pc (.invokevirtual idx) 3 pc2) (hc : CLv My.cls idx M' ac) (hb : h b = some (t, .inr (ci, fs))) (hq : cls[ci]? = some q) (hcl : q.1 = M'.1.cls) (hs : stk = av.reverse ++ .ref b :: rest) (ha : av.length = ac) (hdd : d2 + 1 ≤ d) (hst : (rest.map fun v => v.category).sum ≤ 8) (hk : k ≤ mc) (hn : n ≤ ms) (kk : ∀ h sc ar, MoF h0 h a A sc ar → P sc ar → AW G (My, Mc, Ml, Mr) d mc ms F pc2 lv (v :: rest) (nx, h) k n) : AW G (My, Mc, Ml, Mr) d mc ms F pc lv stk (nx, h) k n :=
  aw_callv hd hc hm hb hq hcl hs ha hdd hk hn hst (fun r w2 h => by obtain ⟨h2, sc2, ar2, rfl, hm, rfl, hp⟩ := h; exact kk _ _ _ hm hp)
end RUM3
/-- a loop that goes up to N over the reference's numbers -/
theorem mloop {h0 : Nat → Option aC} {a : Nat} {A : Nat → Nat} (N : Nat) (T : Nat → (Nat → Option aC) → (Nat → Int32) → (Nat → Nat → Int32) → Prop) (I : Nat → (Nat → Int32) → (Nat → Nat → Int32) → Prop) (hs : ∀ i h sc ar, i ≤ N → MoF h0 h a A sc ar → I i sc ar → (i < N → ∀ h sc ar, MoF h0 h a A sc ar → I (i + 1) sc ar → T (i + 1) h sc ar) → T i h sc ar) : ∀ i h sc ar, i ≤ N → MoF h0 h a A sc ar → I i sc ar → T i h sc ar := by
  intro i h sc ar hi
  obtain ⟨j, hj⟩ : ∃ j, i + j = N := ⟨N - i, by omega⟩
  induction j generalizing i h sc ar with
  | zero => intro hm h2; exact hs i h sc ar hi hm h2 (fun q => by omega)
  | succ j ih => intro hm h2; exact hs i h sc ar hi hm h2 (fun _ h sc ar hm2 h3 => ih (i + 1) h sc ar (by omega) (by omega) hm2 h3)
/-- a loop that goes down -/
theorem mdown {h0 : Nat → Option aC} {a : Nat} {A : Nat → Nat} (T : Nat → (Nat → Option aC) → (Nat → Int32) → (Nat → Nat → Int32) → Prop) (I : Nat → (Nat → Int32) → (Nat → Nat → Int32) → Prop) (hs : ∀ i h sc ar, MoF h0 h a A sc ar → I i sc ar → (∀ j h sc ar, j < i → MoF h0 h a A sc ar → I j sc ar → T j h sc ar) → T i h sc ar) : ∀ i h sc ar, MoF h0 h a A sc ar → I i sc ar → T i h sc ar := by
  intro i
  induction i using Nat.strongRecOn with
  | ind i ih => intro h sc ar hm hI; exact hs i h sc ar hm hI (fun j h sc ar hj hm hI => ih j hj h sc ar hm hI)
/-- what was kept -/
def Kp (Ls La : List Nat) (sc : Nat → Int32) (ar : Nat → Nat → Int32) (sc2 : Nat → Int32) (ar2 : Nat → Nat → Int32) : Prop := (∀ f, Ls.contains f = false → sc2 f = sc f) ∧ (∀ f, La.contains f = false → ar2 f = ar f)
theorem Kp.rf {Ls La : List Nat} {sc : Nat → Int32} {ar : Nat → Nat → Int32} : Kp Ls La sc ar sc ar := ⟨fun _ _ => rfl, fun _ _ => rfl⟩
theorem Kp.tr {Ls La : List Nat} {sc sc1 sc2 : Nat → Int32} {ar ar1 ar2 : Nat → Nat → Int32} (p : Kp Ls La sc ar sc1 ar1) (q : Kp Ls La sc1 ar1 sc2 ar2) : Kp Ls La sc ar sc2 ar2 := ⟨fun f hf => (q.1 f hf).trans (p.1 f hf), fun f hf => (q.2 f hf).trans (p.2 f hf)⟩
theorem Kp.up {Ls La Ls2 La2 : List Nat} {sc sc2 : Nat → Int32} {ar ar2 : Nat → Nat → Int32} (p : Kp Ls La sc ar sc2 ar2) (h1 : ∀ x ∈ Ls, x ∈ Ls2) (h2 : ∀ x ∈ La, x ∈ La2) : Kp Ls2 La2 sc ar sc2 ar2 :=
  ⟨fun f hf => p.1 f (Bool.eq_false_iff.mpr fun q => absurd (List.contains_iff_mem.mpr (h1 f (List.contains_iff_mem.mp q))) (Bool.eq_false_iff.mp hf)), fun f hf => p.2 f (Bool.eq_false_iff.mpr fun q => absurd (List.contains_iff_mem.mpr (h2 f (List.contains_iff_mem.mp q))) (Bool.eq_false_iff.mp hf))⟩
theorem Kp.st {Ls La : List Nat} {sc : Nat → Int32} {ar : Nat → Nat → Int32} {f : Nat} {g : Nat → Int32} (hf : La.contains f = true) : Kp Ls La sc ar sc (ups ar f g) := ⟨fun _ _ => rfl, fun j hj => ups_n (fun e => by rw [e, hf] at hj; cases hj)⟩
theorem Kp.put {Ls La : List Nat} {sc : Nat → Int32} {ar : Nat → Nat → Int32} {f : Nat} {x : Int32} (hf : Ls.contains f = true) : Kp Ls La sc ar (upd sc f x) ar := ⟨fun j hj => pk_un (fun e => by rw [e, hf] at hj; cases hj), fun _ _ => rfl⟩
theorem MoH.kp {sc sc2 : Nat → Int32} {ar ar2 : Nat → Nat → Int32} {hs : HSt} {Ls La : List Nat} (hh : MoH sc ar hs) (hk : Kp Ls La sc ar sc2 ar2) (h1 : ([1, 4, 15, 18].all fun x => !Ls.contains x) = true) (h2 : ([2, 3, 5, 6, 7, 8, 9, 10, 11, 12, 13, 14, 16, 17, 19, 20, 21, 22].all fun x => !La.contains x) = true) : MoH sc2 ar2 hs := by
  simp only [List.all_cons, List.all_nil, Bool.and_eq_true, Bool.not_eq_true'] at h1 h2
  obtain ⟨a1, a2, a3, a4, -⟩ := h1
  obtain ⟨b1, b2, b3, b4, b5, b6, b7, b8, b9, b10, b11, b12, b13, b14, b15, b16, b17, b18, -⟩ := h2
  unfold MoH
  rw [hk.1 _ a1, hk.1 _ a2, hk.1 _ a3, hk.1 _ a4, hk.2 _ b1, hk.2 _ b2, hk.2 _ b3, hk.2 _ b4, hk.2 _ b5, hk.2 _ b6, hk.2 _ b7, hk.2 _ b8, hk.2 _ b9, hk.2 _ b10, hk.2 _ b11, hk.2 _ b12, hk.2 _ b13, hk.2 _ b14, hk.2 _ b15, hk.2 _ b16, hk.2 _ b17, hk.2 _ b18]
  exact hh
theorem MoW.kp {sc sc2 : Nat → Int32} {ar ar2 : Nat → Nat → Int32} {hs : HSt} {Ls La : List Nat} (hw : MoW sc ar hs) (hk : Kp Ls La sc ar sc2 ar2) (h1 : Ls.contains 26 = false) (h2 : La.contains 24 = false) (h3 : La.contains 25 = false) : MoW sc2 ar2 hs := by
  unfold MoW
  rw [hk.1 _ h1, hk.2 _ h2, hk.2 _ h3]
  exact hw
