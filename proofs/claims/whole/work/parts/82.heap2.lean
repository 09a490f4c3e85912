section CIR
variable {G : aG} {My : MethodName} {Mc : ByteArray} {Ml : Nat} {Mr : Option FieldType} {d mc ms : Nat} {F : FT} {pc pc2 : Nat} {lv : List (Nat × Value)} {st : List Value} {k n nx : Nat} {h : Nat → Option aC} {t : Nat}
theorem ci_ld {a N i : Nat} {f : Nat → Int32} {v : Int32} (hd : DN Mc pc .iaload 1 pc2) (ha : h a = some (cI t N f)) (hN : N ≤ 1000000) (hi : i < N) (hv : f i = v) (kk : AW G (My, Mc, Ml, Mr) d mc ms F pc2 lv (.int v :: st) (nx, h) k n) : AW G (My, Mc, Ml, Mr) d mc ms F pc lv (.int (nI i) :: .ref a :: st) (nx, h) k n := by
  refine aw_iaload hd ha (vp_in_nI hi (by omega)) ?_
  rw [nI_clamp (by omega), hv]; exact kk
theorem ci_st {a N i : Nat} {f : Nat → Int32} {x : Int32} (hd : DN Mc pc .iastore 1 pc2) (ha : h a = some (cI t N f)) (hN : N ≤ 1000000) (hi : i < N) (kk : ∀ h1 : Nat → Option aC, h1 a = some (cI t N (upd f i x)) → Fr [t] h h1 → (∀ q, q ≠ a → h1 q = h q) → AW G (My, Mc, Ml, Mr) d mc ms F pc2 lv st (nx, h1) k n) : AW G (My, Mc, Ml, Mr) d mc ms F pc lv (.int x :: .int (nI i) :: .ref a :: st) (nx, h) k n := by
  refine aw_iastore hd ha (vp_in_nI hi (by omega)) ?_
  rw [nI_clamp (by omega)]
  exact kk _ (hs_eq _ _ _) (Fr.set ha (List.mem_singleton.mpr rfl)) (fun _ hq => hs_ne hq rfl)
end CIR
/-! Heap -/
def HeS (h : Nat → Option aC) (a s c p N : Nat) (fs fc fp : Nat → Int32) (n : Nat) : Prop := h a = some (ob 40 2 [.ref s, .ref c, .ref p, .int (nI n)]) ∧ h s = some (cI 41 N fs) ∧ h c = some (cI 42 N fc) ∧ h p = some (cI 43 N fp)
abbrev HTg : List Nat := [40, 41, 42, 43]
theorem HeS.fr {h h2 : Nat → Option aC} {a s c p N n : Nat} {fs fc fp : Nat → Int32} {T : List Nat} (hm : HeS h a s c p N fs fc fp n) (hf : Fr T h h2) (h0 : 40 ∉ T) (h1 : 41 ∉ T) (h3 : 42 ∉ T) (h4 : 43 ∉ T) : HeS h2 a s c p N fs fc fp n := ⟨hf _ _ hm.1 h0, hf _ _ hm.2.1 h1, hf _ _ hm.2.2.1 h3, hf _ _ hm.2.2.2 h4⟩
/-- the class's heap in its rows; the place q aside -/
def HeM (N : Nat) (fs fc fp : Nat → Int32) (n : Nat) (hp key : Nat → Nat) (q : Nat) : Prop := (∀ i, i < n → i ≠ q → fc i = nI (hp i) ∧ hp i < N ∧ fp (hp i) = nI i) ∧ (∀ c, c < N → fs c = if key c < FAR then nI (key c) else -2)
theorem HeM.put {N : Nat} {fs fc fp : Nat → Int32} {n : Nat} {hp key : Nat → Nat} {q x : Nat} (h : HeM N fs fc fp n hp key q) (q2 : Nat) (hx : x < N) (hinj : ∀ i, i < n → i ≠ q → i ≠ q2 → hp i ≠ x) : HeM N fs (upd fc q (nI x)) (upd fp x (nI q)) n (updn hp q x) key q2 := by
  refine ⟨fun i hi hq => ?_, h.2⟩
  by_cases e : i = q
  · subst e; rw [pk_us, un_s, pk_us]; exact ⟨rfl, hx, rfl⟩
  · rw [pk_un e, un_n e, pk_un (hinj i hi e hq)]; exact h.1 i hi e
theorem HeM.any {N : Nat} {fs fc fp : Nat → Int32} {n : Nat} {hp key : Nat → Nat} (h : HeM N fs fc fp n hp key n) (q : Nat) : HeM N fs fc fp n hp key q := ⟨fun i hi _ => h.1 i hi (by omega), h.2⟩
theorem HeM.key {N : Nat} {fs fc fp : Nat → Int32} {n : Nat} {hp key : Nat → Nat} {q x v : Nat} (h : HeM N fs fc fp n hp key q) (hv : v < FAR) : HeM N (upd fs x (nI v)) fc fp n hp (updn key x v) q := by
  refine ⟨h.1, fun c hc => ?_⟩
  by_cases e : c = x
  · subst e; rw [pk_us, un_s, if_pos hv]
  · rw [pk_un e, un_n e]; exact h.2 c hc
set_option maxHeartbeats 4000000 in
set_option maxRecDepth 20000 in
theorem c_Heap_isEmpty {G : aG} {nx : Nat} {h : Nat → Option aC} {a s c p N n : Nat} {fs fc fp : Nat → Int32} (hm : HeS h a s c p N fs fc fp n) (hN : N ≤ 20000) (hn : n ≤ 20000) : AMet G m_Heap_isEmpty 0 0 0 [.ref a] (nx, h) (RV (.int (bI (decide (n = 0)))) (nx, h)) := by
  obtain ⟨q1, q2, q3, q4⟩ := hm
  refine amet_of pf_Heap_isEmpty (Nat.le_of_ble_eq_true rfl) ?_
  show AW G m_Heap_isEmpty 0 0 0 _ 0 [(0, .ref a)] [] (nx, h) 0 0
  refine aw_aload_n (i := 0) d_Heap_isEmpty_0 rfl rfl ?_
  apply aw_get d_Heap_isEmpty_1 fl_Heap_33; exact q1; rfl
  refine aw_ifN_ne d_Heap_isEmpty_4 (by omega) (fun br4_ => ?_) (fun br4_ => ?_)
  · skip
    have hr_ : decide (n = 0) = false := decide_eq_false br4_
    refine aw_iconst (v := nI 0) d_Heap_isEmpty_11 (by decide) ?_
    refine aw_zret d_Heap_isEmpty_12 rfl rfl (Nat.le_refl _) (Nat.le_refl _) ?_
    exact ⟨by rw [hr_]; rfl, rfl⟩
  · skip
    have hr_ : decide (n = 0) = true := decide_eq_true br4_
    refine aw_iconst (v := nI 1) d_Heap_isEmpty_7 (by decide) ?_
    refine aw_goto d_Heap_isEmpty_8 ?_
    refine aw_zret d_Heap_isEmpty_12 rfl rfl (Nat.le_refl _) (Nat.le_refl _) ?_
    exact ⟨by rw [hr_]; rfl, rfl⟩

set_option maxHeartbeats 4000000 in
set_option maxRecDepth 20000 in
theorem c_Heap_sumOf {G : aG} {nx : Nat} {h : Nat → Option aC} {a s c p N n : Nat} {fs fc fp : Nat → Int32} (hm : HeS h a s c p N fs fc fp n) (hN : N ≤ 20000) {x : Nat} (hx : x < N) : AMet G m_Heap_sumOf 0 0 0 [.ref a, .int (nI x)] (nx, h) (RV (.int (fs x)) (nx, h)) := by
  obtain ⟨q1, q2, q3, q4⟩ := hm
  refine amet_of pf_Heap_sumOf (Nat.le_of_ble_eq_true rfl) ?_
  show AW G m_Heap_sumOf 0 0 0 _ 0 [(0, .ref a), (1, .int (nI x))] [] (nx, h) 0 0
  refine aw_iload_n (i := 1) d_Heap_sumOf_0 rfl rfl ?_
  refine aw_if_lt d_Heap_sumOf_1 (fun br1_ => absurd br1_ (nI_pos (by omega))) (fun br1_ => ?_)
  refine aw_iload_n (i := 1) d_Heap_sumOf_4 rfl rfl ?_
  refine aw_aload_n (i := 0) d_Heap_sumOf_5 rfl rfl ?_
  apply aw_get d_Heap_sumOf_6 fl_Heap_15; exact q1; rfl
  apply aw_alen d_Heap_sumOf_9; exact q2; decide
  refine aw_icmp_ge d_Heap_sumOf_10 (fun br10_ => absurd br10_ (nI_ge hx (by omega))) (fun br10_ => ?_)
  refine aw_aload_n (i := 0) d_Heap_sumOf_13 rfl rfl ?_
  apply aw_get d_Heap_sumOf_14 fl_Heap_15; exact q1; rfl
  refine aw_iload_n (i := 1) d_Heap_sumOf_17 rfl rfl ?_
  apply ci_ld d_Heap_sumOf_18; exact q2; omega; omega; exact rfl
  refine aw_goto d_Heap_sumOf_19 ?_
  refine aw_iret d_Heap_sumOf_24 rfl (Nat.le_refl _) (Nat.le_refl _) ?_
  exact ⟨rfl, rfl⟩

set_option maxHeartbeats 4000000 in
set_option maxRecDepth 20000 in
theorem c_Heap_codeAt {G : aG} {nx : Nat} {h : Nat → Option aC} {a s c p N n : Nat} {fs fc fp : Nat → Int32} (hm : HeS h a s c p N fs fc fp n) (hN : N ≤ 20000) {x : Nat} (hx : x < N) : AMet G m_Heap_codeAt 0 0 0 [.ref a, .int (nI x)] (nx, h) (RV (.int (fc x)) (nx, h)) := by
  obtain ⟨q1, q2, q3, q4⟩ := hm
  refine amet_of pf_Heap_codeAt (Nat.le_of_ble_eq_true rfl) ?_
  show AW G m_Heap_codeAt 0 0 0 _ 0 [(0, .ref a), (1, .int (nI x))] [] (nx, h) 0 0
  refine aw_iload_n (i := 1) d_Heap_codeAt_0 rfl rfl ?_
  refine aw_if_lt d_Heap_codeAt_1 (fun br1_ => absurd br1_ (nI_pos (by omega))) (fun br1_ => ?_)
  refine aw_iload_n (i := 1) d_Heap_codeAt_4 rfl rfl ?_
  refine aw_aload_n (i := 0) d_Heap_codeAt_5 rfl rfl ?_
  apply aw_get d_Heap_codeAt_6 fl_Heap_21; exact q1; rfl
  apply aw_alen d_Heap_codeAt_9; exact q3; decide
  refine aw_icmp_ge d_Heap_codeAt_10 (fun br10_ => absurd br10_ (nI_ge hx (by omega))) (fun br10_ => ?_)
  refine aw_aload_n (i := 0) d_Heap_codeAt_13 rfl rfl ?_
  apply aw_get d_Heap_codeAt_14 fl_Heap_21; exact q1; rfl
  refine aw_iload_n (i := 1) d_Heap_codeAt_17 rfl rfl ?_
  apply ci_ld d_Heap_codeAt_18; exact q3; omega; omega; exact rfl
  refine aw_goto d_Heap_codeAt_19 ?_
  refine aw_iret d_Heap_codeAt_23 rfl (Nat.le_refl _) (Nat.le_refl _) ?_
  exact ⟨rfl, rfl⟩

set_option maxHeartbeats 4000000 in
set_option maxRecDepth 20000 in
theorem c_Heap_place {G : aG} {nx : Nat} {h : Nat → Option aC} {a s c p N n : Nat} {fs fc fp : Nat → Int32} (hm : HeS h a s c p N fs fc fp n) (hN : N ≤ 20000) {x y : Nat} (hx : x < N) (hy : y < N) : AMet G m_Heap_place 0 0 0 [.ref a, .int (nI x), .int (nI y)] (nx, h) (fun r w => r = none ∧ ∃ h2, w = (nx, h2) ∧ HeS h2 a s c p N fs (upd fc y (nI x)) (upd fp x (nI y)) n ∧ Fr HTg h h2) := by
  obtain ⟨q1, q2, q3, q4⟩ := hm
  refine amet_of pf_Heap_place (Nat.le_of_ble_eq_true rfl) ?_
  show AW G m_Heap_place 0 0 0 _ 0 [(0, .ref a), (1, .int (nI x)), (2, .int (nI y))] [] (nx, h) 0 0
  refine aw_iload_n (i := 2) d_Heap_place_0 rfl rfl ?_
  refine aw_if_lt d_Heap_place_1 (fun br1_ => absurd br1_ (nI_pos (by omega))) (fun br1_ => ?_)
  refine aw_iload_n (i := 2) d_Heap_place_4 rfl rfl ?_
  refine aw_aload_n (i := 0) d_Heap_place_5 rfl rfl ?_
  apply aw_get d_Heap_place_6 fl_Heap_21; exact q1; rfl
  apply aw_alen d_Heap_place_9; exact q3; decide
  refine aw_icmp_ge d_Heap_place_10 (fun br10_ => absurd br10_ (nI_ge hy (by omega))) (fun br10_ => ?_)
  refine aw_iload_n (i := 1) d_Heap_place_13 rfl rfl ?_
  refine aw_if_lt d_Heap_place_14 (fun br14_ => absurd br14_ (nI_pos (by omega))) (fun br14_ => ?_)
  refine aw_iload_n (i := 1) d_Heap_place_17 rfl rfl ?_
  refine aw_aload_n (i := 0) d_Heap_place_18 rfl rfl ?_
  apply aw_get d_Heap_place_19 fl_Heap_24; exact q1; rfl
  apply aw_alen d_Heap_place_22; exact q4; decide
  refine aw_icmp_ge d_Heap_place_23 (fun br23_ => absurd br23_ (nI_ge hx (by omega))) (fun br23_ => ?_)
  refine aw_aload_n (i := 0) d_Heap_place_26 rfl rfl ?_
  apply aw_get d_Heap_place_27 fl_Heap_21; exact q1; rfl
  refine aw_iload_n (i := 2) d_Heap_place_30 rfl rfl ?_
  refine aw_iload_n (i := 1) d_Heap_place_31 rfl rfl ?_
  apply ci_st d_Heap_place_32; exact q3; omega; omega; intro h1_ e1_ f1_ o1_
  have q1_ := f1_ _ _ q1 (by simp)
  have q2_ := f1_ _ _ q2 (by simp)
  have q4_ := f1_ _ _ q4 (by simp)
  have f2_ := f1_
  have e2_ := e1_
  refine aw_aload_n (i := 0) d_Heap_place_33 rfl rfl ?_
  apply aw_get d_Heap_place_34 fl_Heap_24; exact q1_; rfl
  refine aw_iload_n (i := 1) d_Heap_place_37 rfl rfl ?_
  refine aw_iload_n (i := 2) d_Heap_place_38 rfl rfl ?_
  apply ci_st d_Heap_place_39; exact q4_; omega; omega; intro h1_ e1_ f1_ o1_
  refine aw_vret d_Heap_place_40 rfl (Nat.le_refl _) (Nat.le_refl _) ?_
  exact ⟨rfl, _, rfl, ⟨f1_ _ _ q1_ (by simp), f1_ _ _ q2_ (by simp), f1_ _ _ e2_ (by simp), e1_⟩, (f2_.up (by decide)).tr (f1_.up (by decide))⟩

set_option maxHeartbeats 4000000 in
set_option maxRecDepth 20000 in
theorem c_Heap_begin {G : aG} {nx : Nat} {h : Nat → Option aC} {a s c p N n : Nat} {fs fc fp : Nat → Int32} (hm : HeS h a s c p N fs fc fp n) (hN : N ≤ 20000) : AMet G m_Heap_begin 1 0 0 [.ref a] (nx, h) (fun r w => r = none ∧ ∃ h2 fs2, w = (nx, h2) ∧ HeS h2 a s c p N fs2 fc fp 0 ∧ Fr HTg h h2 ∧ ∀ x, x < N → fs2 x = -2) := by
  obtain ⟨q1, q2, q3, q4⟩ := hm
  refine amet_of pf_Heap_begin (Nat.le_of_ble_eq_true rfl) ?_
  show AW G m_Heap_begin 1 0 0 _ 0 [(0, .ref a)] [] (nx, h) 0 0
  refine aw_aload_n (i := 0) d_Heap_begin_0 rfl rfl ?_
  apply aw_get d_Heap_begin_1 fl_Heap_15; exact q1; rfl
  refine aw_bipush (v := -2) d_Heap_begin_4 (by decide) ?_
  apply aw_calls_q (c_Arr_fill2 q2 (by omega) (-2)) d_Heap_begin_6 cl_Heap_27; rfl; rfl; decide; exact Nat.le_of_ble_eq_true rfl; exact (Nat.le_refl _); exact (Nat.le_refl _)
  refine aw_nm q2 ?_
  intro h1_ e1_ f1_ o1_
  have q1_ := f1_ _ _ q1 (by simp)
  have q3_ := f1_ _ _ q3 (by simp)
  have q4_ := f1_ _ _ q4 (by simp)
  refine aw_aload_n (i := 0) d_Heap_begin_9 rfl rfl ?_
  refine aw_iconst (v := nI 0) d_Heap_begin_10 (by decide) ?_
  apply aw_put d_Heap_begin_11 pl_Heap_33; exact q1_; exact Nat.le_of_ble_eq_true rfl; rfl; rfl
  refine aw_vret d_Heap_begin_14 rfl (Nat.le_refl _) (Nat.le_refl _) ?_
  refine ⟨rfl, _, _, rfl, ⟨hs_eq _ _ _, hs_tag e1_ q1_ (by simp), hs_tag q3_ q1_ (by simp), hs_tag q4_ q1_ (by simp)⟩, (f1_.up (by simp)).tr (Fr.set q1_ (by simp)), fun x hx => fl0_in hx⟩

set_option maxHeartbeats 4000000 in
set_option maxRecDepth 20000 in
theorem c_Heap_lift {G : aG} {nx : Nat} {h : Nat → Option aC} {a s c p N n : Nat} {fs fc fp : Nat → Int32} (hm : HeS h a s c p N fs fc fp n) (hN : N ≤ 20000) {N2 : Nat} {hp pl key : Nat → Nat} {C : Nat → Prop} {x q : Nat} (hN2 : N2 ≤ N) (hn : n ≤ N2) (hU : Hu n hp pl key C x q) (hM : HeM N2 fs fc fp n hp key q) (hC : ∀ c, C c → key c < FAR) (hx : x < N2) : AMet G m_Heap_lift 1 0 0 [.ref a, .int (nI x), .int (nI q)] (nx, h) (fun r w => r = none ∧ ∃ h2 fc2 fp2 hp2 pl2, w = (nx, h2) ∧ HeS h2 a s c p N fs fc2 fp2 n ∧ Fr HTg h h2 ∧ Hp n hp2 pl2 key C ∧ HeM N2 fs fc2 fp2 n hp2 key n) := by
  have hCx : key x < FAR := hC x ((hU.2.2.2.2.2 x).mpr (Or.inl rfl))
  have hqn0 := hU.1
  obtain ⟨q0, hq0⟩ : ∃ z, z = q := ⟨q, rfl⟩
  refine amet_of pf_Heap_lift (Nat.le_of_ble_eq_true rfl) ?_
  show AW G m_Heap_lift 1 0 0 _ 0 [(0, .ref a), (1, .int (nI x)), (2, .int (nI q))] [] (nx, h) 0 0
  refine aw_iload_n (i := 2) d_Heap_lift_0 rfl rfl ?_
  refine aw_istore_n (i := 3) (lv2 := [(0, _), (1, _), (2, _), (3, _)]) d_Heap_lift_1 rfl (by decide) rfl ?_
  have hqq : nI q = nI q0 := by rw [hq0]
  refine aw_drop (lv2 := [(0, .ref a), (1, .int (nI x)), (2, .int (nI q0)), (3, .int (nI q))]) [0, 1, 2, 3] (by rw [← hqq]; rfl) ?_
  refine Nat.strongRecOn (motive := fun q => ∀ (h1 : Nat → Option aC) (fc fp : Nat → Int32) (hp pl : Nat → Nat), (HeS h1 a s c p N fs fc fp n ∧ Fr HTg h h1 ∧ Hu n hp pl key C x q ∧ HeM N2 fs fc fp n hp key q) → AW G m_Heap_lift 1 0 0 _ 2 [(0, .ref a), (1, .int (nI x)), (2, .int (nI q0)), (3, .int (nI q))] [] (nx, h1) 0 0) (q) (fun q ih => ?_) _ fc fp hp pl ⟨hm, Fr.rf, hU, hM⟩
  intro h1 fc fp hp pl hI
  obtain ⟨hS, frh, hU, hM⟩ := hI
  have hqn := hU.1
  have hkx := hM.2 x hx
  rw [if_pos hCx] at hkx
  have hkxb : key x < 268435456 := hCx
  refine aw_iload_n (i := 3) d_Heap_lift_2 rfl rfl ?_
  refine aw_ifN_le d_Heap_lift_3 (by omega) (fun br3_ => ?_) (fun br3_ => ?_)
  · skip
    have hfin := hU.fin (fun h9 => by omega)
    have hM9 := hM.put n hx (fun i hi hq _ => (hU.2.1 i hi hq).2)
    refine aw_aload_n (i := 0) d_Heap_lift_50 rfl rfl ?_
    refine aw_iload_n (i := 1) d_Heap_lift_51 rfl rfl ?_
    refine aw_iload_n (i := 3) d_Heap_lift_52 rfl rfl ?_
    apply aw_callv d_Heap_lift_53 cl_Heap_52 (c_Heap_place hS hN (x := x) (y := q) (by omega) (by omega)); exact hS.1; rfl; rfl; rfl; rfl; decide; exact (Nat.le_refl _); exact (Nat.le_refl _); exact Nat.le_of_ble_eq_true rfl
    rintro _ _ ⟨rfl, h3, rfl, hS3, fr3⟩
    refine aw_vret d_Heap_lift_56 rfl (Nat.le_refl _) (Nat.le_refl _) ?_
    exact ⟨rfl, _, _, _, _, _, rfl, hS3, frh.tr fr3, hfin, hM9⟩
  · skip
    have hpa : (q - 1) / 2 < n := by omega
    have hpe := hM.1 _ hpa (by omega)
    have hCp : C (hp ((q - 1) / 2)) := (hU.2.2.2.2.2 _).mpr (Or.inr ⟨_, hpa, by omega, rfl⟩)
    have hkp := hM.2 _ hpe.2.1
    rw [if_pos (hC _ hCp)] at hkp
    have hkpb : key (hp ((q - 1) / 2)) < 268435456 := hC _ hCp
    refine aw_aload_n (i := 0) d_Heap_lift_6 rfl rfl ?_
    refine aw_iload_n (i := 3) d_Heap_lift_7 rfl rfl ?_
    refine aw_iconst (v := nI 1) d_Heap_lift_8 (by decide) ?_
    refine aw_isubN d_Heap_lift_9 (by omega) ?_
    refine aw_iconst (v := nI 2) d_Heap_lift_10 (by decide) ?_
    refine aw_idivN d_Heap_lift_11 (by omega) (by omega) (by omega) ?_
    apply aw_callv_p (c_Heap_codeAt hS hN (x := (q - 1) / 2) (by omega)) d_Heap_lift_12 cl_Heap_45; exact hS.1; rfl; rfl; rfl; rfl; decide; exact Nat.le_of_ble_eq_true rfl; exact (Nat.le_refl _); exact (Nat.le_refl _)
    rw [hpe.1]
    refine aw_istore (lv2 := [(0, _), (1, _), (2, _), (3, _), (4, _)]) d_Heap_lift_15 (by decide) rfl ?_
    refine aw_aload_n (i := 0) d_Heap_lift_17 rfl rfl ?_
    refine aw_iload d_Heap_lift_18 rfl ?_
    apply aw_callv_p (c_Heap_sumOf hS hN (x := hp ((q - 1) / 2)) (by omega)) d_Heap_lift_20 cl_Heap_49; exact hS.1; rfl; rfl; rfl; rfl; decide; exact Nat.le_of_ble_eq_true rfl; exact (Nat.le_refl _); exact (Nat.le_refl _)
    rw [hkp]
    refine aw_aload_n (i := 0) d_Heap_lift_23 rfl rfl ?_
    refine aw_iload_n (i := 1) d_Heap_lift_24 rfl rfl ?_
    apply aw_callv_p (c_Heap_sumOf hS hN (x := x) (by omega)) d_Heap_lift_25 cl_Heap_49; exact hS.1; rfl; rfl; rfl; rfl; decide; exact Nat.le_of_ble_eq_true rfl; exact (Nat.le_refl _); exact (Nat.le_refl _)
    rw [hkx]
    refine aw_icmpN_gt d_Heap_lift_28 (by omega) (by omega) (fun br28_ => ?_) (fun br28_ => ?_)
    · skip
      refine aw_aload_n (i := 0) d_Heap_lift_34 rfl rfl ?_
      refine aw_iload d_Heap_lift_35 rfl ?_
      refine aw_iload_n (i := 3) d_Heap_lift_37 rfl rfl ?_
      apply aw_callv d_Heap_lift_38 cl_Heap_52 (c_Heap_place hS hN (x := hp ((q - 1) / 2)) (y := q) (by omega) (by omega)); exact hS.1; rfl; rfl; rfl; rfl; decide; exact (Nat.le_refl _); exact (Nat.le_refl _); exact Nat.le_of_ble_eq_true rfl
      rintro _ _ ⟨rfl, h3, rfl, hS3, fr3⟩
      refine aw_iload_n (i := 3) d_Heap_lift_41 rfl rfl ?_
      refine aw_iconst (v := nI 1) d_Heap_lift_42 (by decide) ?_
      refine aw_isubN d_Heap_lift_43 (by omega) ?_
      refine aw_iconst (v := nI 2) d_Heap_lift_44 (by decide) ?_
      refine aw_idivN d_Heap_lift_45 (by omega) (by omega) (by omega) ?_
      refine aw_istore_n (i := 3) (lv2 := [(0, _), (1, _), (2, _), (3, _), (4, _)]) d_Heap_lift_46 rfl (by decide) rfl ?_
      refine aw_goto d_Heap_lift_47 ?_
      refine aw_drop (lv2 := [(0, _), (1, _), (2, _), (3, _)]) [0, 1, 2, 3] rfl ?_
      exact ih _ (by omega) _ _ _ _ _ ⟨hS3, frh.tr fr3, hU.step br3_ br28_, hM.put _ hpe.2.1 (fun i hi h1 h2 e => h2 (by have a1 := (hU.2.1 i hi h1).1; have a2 := (hU.2.1 _ hpa (by omega)).1; rw [e] at a1; omega))⟩
    · skip
      have hfin := hU.fin (fun h9 => br28_)
      have hM9 := hM.put n hx (fun i hi hq _ => (hU.2.1 i hi hq).2)
      refine aw_goto d_Heap_lift_31 ?_
      refine aw_aload_n (i := 0) d_Heap_lift_50 rfl rfl ?_
      refine aw_iload_n (i := 1) d_Heap_lift_51 rfl rfl ?_
      refine aw_iload_n (i := 3) d_Heap_lift_52 rfl rfl ?_
      apply aw_callv d_Heap_lift_53 cl_Heap_52 (c_Heap_place hS hN (x := x) (y := q) (by omega) (by omega)); exact hS.1; rfl; rfl; rfl; rfl; decide; exact (Nat.le_refl _); exact (Nat.le_refl _); exact Nat.le_of_ble_eq_true rfl
      rintro _ _ ⟨rfl, h3, rfl, hS3, fr3⟩
      refine aw_vret d_Heap_lift_56 rfl (Nat.le_refl _) (Nat.le_refl _) ?_
      exact ⟨rfl, _, _, _, _, _, rfl, hS3, frh.tr fr3, hfin, hM9⟩

set_option maxHeartbeats 4000000 in
set_option maxRecDepth 20000 in
theorem c_Heap_sink {G : aG} {nx : Nat} {h : Nat → Option aC} {a s c p N n : Nat} {fs fc fp : Nat → Int32} (hm : HeS h a s c p N fs fc fp n) (hN : N ≤ 20000) {N2 : Nat} {hp pl key : Nat → Nat} {C : Nat → Prop} {x : Nat} (hN2 : N2 ≤ N) (hn : n ≤ N2) (hD : Hd n hp pl key C x 0) (hM : HeM N2 fs fc fp n hp key 0) (hC : ∀ c, C c → key c < FAR) (hx : x < N2) : AMet G m_Heap_sink 1 0 0 [.ref a, .int (nI x)] (nx, h) (fun r w => r = none ∧ ∃ h2 fc2 fp2 hp2 pl2, w = (nx, h2) ∧ HeS h2 a s c p N fs fc2 fp2 n ∧ Fr HTg h h2 ∧ Hp n hp2 pl2 key C ∧ HeM N2 fs fc2 fp2 n hp2 key n) := by
  have hCx : key x < FAR := hC x ((hD.2.2.2.2.2 x).mpr (Or.inl rfl))
  refine amet_of pf_Heap_sink (Nat.le_of_ble_eq_true rfl) ?_
  show AW G m_Heap_sink 1 0 0 _ 0 [(0, .ref a), (1, .int (nI x))] [] (nx, h) 0 0
  refine aw_iconst (v := nI 0) d_Heap_sink_0 (by decide) ?_
  refine aw_istore_n (i := 2) (lv2 := [(0, _), (1, _), (2, _)]) d_Heap_sink_1 rfl (by decide) rfl ?_
  refine Nat.strongRecOn (motive := fun m => ∀ (h1 : Nat → Option aC) (fc fp : Nat → Int32) (hp pl : Nat → Nat) (q : Nat), (HeS h1 a s c p N fs fc fp n ∧ Fr HTg h h1 ∧ Hd n hp pl key C x q ∧ HeM N2 fs fc fp n hp key q ∧ m = n - q) → AW G m_Heap_sink 1 0 0 _ 2 [(0, .ref a), (1, .int (nI x)), (2, .int (nI q))] [] (nx, h1) 0 0) (n - 0) (fun m ih => ?_) _ fc fp hp pl 0 ⟨hm, Fr.rf, hD, hM, rfl⟩
  intro h1 fc fp hp pl q hI
  obtain ⟨hS, frh, hD, hM, hme⟩ := hI
  have hqn := hD.1
  have hkx := hM.2 x hx
  rw [if_pos hCx] at hkx
  have hkxb : key x < 268435456 := hCx
  refine aw_iload_n (i := 2) d_Heap_sink_2 rfl rfl ?_
  refine aw_iconst (v := nI 2) d_Heap_sink_3 (by decide) ?_
  refine aw_imulN d_Heap_sink_4 ?_
  refine aw_iconst (v := nI 1) d_Heap_sink_5 (by decide) ?_
  refine aw_iaddN d_Heap_sink_6 ?_
  refine aw_aload_n (i := 0) d_Heap_sink_7 rfl rfl ?_
  apply aw_get d_Heap_sink_8 fl_Heap_33; exact hS.1; rfl
  refine aw_icmpN_ge d_Heap_sink_11 (by omega) (by omega) (fun br11_ => ?_) (fun br11_ => ?_)
  · skip
    have hfin := hD.fin (fun i h0 hi hpa => by omega)
    have hM9 := hM.put n hx (fun i hi hq _ => (hD.2.1 i hi hq).2)
    refine aw_aload_n (i := 0) d_Heap_sink_91 rfl rfl ?_
    refine aw_iload_n (i := 1) d_Heap_sink_92 rfl rfl ?_
    refine aw_iload_n (i := 2) d_Heap_sink_93 rfl rfl ?_
    apply aw_callv d_Heap_sink_94 cl_Heap_52 (c_Heap_place hS hN (x := x) (y := q) (by omega) (by omega)); exact hS.1; rfl; rfl; rfl; rfl; decide; exact (Nat.le_refl _); exact (Nat.le_refl _); exact Nat.le_of_ble_eq_true rfl
    rintro _ _ ⟨rfl, h3, rfl, hS3, fr3⟩
    refine aw_vret d_Heap_sink_97 rfl (Nat.le_refl _) (Nat.le_refl _) ?_
    exact ⟨rfl, _, _, _, _, _, rfl, hS3, frh.tr fr3, hfin, hM9⟩
  · skip
    have hL := hM.1 (q * 2 + 1) (by omega) (by omega)
    have hCL : C (hp (q * 2 + 1)) := (hD.2.2.2.2.2 _).mpr (Or.inr ⟨_, by omega, by omega, rfl⟩)
    have hkL := hM.2 _ hL.2.1
    rw [if_pos (hC _ hCL)] at hkL
    have hbL : key (hp (q * 2 + 1)) < 268435456 := hC _ hCL
    refine aw_iload_n (i := 2) d_Heap_sink_14 rfl rfl ?_
    refine aw_iconst (v := nI 2) d_Heap_sink_15 (by decide) ?_
    refine aw_imulN d_Heap_sink_16 ?_
    refine aw_iconst (v := nI 1) d_Heap_sink_17 (by decide) ?_
    refine aw_iaddN d_Heap_sink_18 ?_
    refine aw_istore_n (i := 3) (lv2 := [(0, _), (1, _), (2, _), (3, _)]) d_Heap_sink_19 rfl (by decide) rfl ?_
    refine aw_iload_n (i := 3) d_Heap_sink_20 rfl rfl ?_
    refine aw_iconst (v := nI 1) d_Heap_sink_21 (by decide) ?_
    refine aw_iaddN d_Heap_sink_22 ?_
    refine aw_aload_n (i := 0) d_Heap_sink_23 rfl rfl ?_
    apply aw_get d_Heap_sink_24 fl_Heap_33; exact hS.1; rfl
    refine aw_icmpN_ge d_Heap_sink_27 (by omega) (by omega) (fun br27_ => ?_) (fun br27_ => ?_)
    · skip
      have hsib : ∀ i, 0 < i → i < n → (i - 1) / 2 = q → key (hp (q * 2 + 1)) ≤ key (hp i) := fun i h0 hi hpa => by
        have e : i = q * 2 + 1 := by omega
        rw [e]; exact Nat.le_refl _
      refine aw_aload_n (i := 0) d_Heap_sink_56 rfl rfl ?_
      refine aw_iload_n (i := 1) d_Heap_sink_57 rfl rfl ?_
      apply aw_callv_p (c_Heap_sumOf hS hN (x := x) (by omega)) d_Heap_sink_58 cl_Heap_49; exact hS.1; rfl; rfl; rfl; rfl; decide; exact Nat.le_of_ble_eq_true rfl; exact (Nat.le_refl _); exact (Nat.le_refl _)
      rw [hkx]
      refine aw_aload_n (i := 0) d_Heap_sink_61 rfl rfl ?_
      refine aw_aload_n (i := 0) d_Heap_sink_62 rfl rfl ?_
      refine aw_iload_n (i := 3) d_Heap_sink_63 rfl rfl ?_
      apply aw_callv_p (c_Heap_codeAt hS hN (x := q * 2 + 1) (by omega)) d_Heap_sink_64 cl_Heap_45; exact hS.1; rfl; rfl; rfl; rfl; decide; exact Nat.le_of_ble_eq_true rfl; exact (Nat.le_refl _); exact (Nat.le_refl _)
      rw [hL.1]
      apply aw_callv_p (c_Heap_sumOf hS hN (x := hp (q * 2 + 1)) (by omega)) d_Heap_sink_67 cl_Heap_49; exact hS.1; rfl; rfl; rfl; rfl; decide; exact Nat.le_of_ble_eq_true rfl; exact (Nat.le_refl _); exact (Nat.le_refl _)
      rw [hkL]
      refine aw_icmpN_gt d_Heap_sink_70 (by omega) (by omega) (fun br70_ => ?_) (fun br70_ => ?_)
      · skip
        refine aw_aload_n (i := 0) d_Heap_sink_76 rfl rfl ?_
        refine aw_aload_n (i := 0) d_Heap_sink_77 rfl rfl ?_
        refine aw_iload_n (i := 3) d_Heap_sink_78 rfl rfl ?_
        apply aw_callv_p (c_Heap_codeAt hS hN (x := q * 2 + 1) (by omega)) d_Heap_sink_79 cl_Heap_45; exact hS.1; rfl; rfl; rfl; rfl; decide; exact Nat.le_of_ble_eq_true rfl; exact (Nat.le_refl _); exact (Nat.le_refl _)
        rw [hL.1]
        refine aw_iload_n (i := 2) d_Heap_sink_82 rfl rfl ?_
        apply aw_callv d_Heap_sink_83 cl_Heap_52 (c_Heap_place hS hN (x := hp (q * 2 + 1)) (y := q) (by omega) (by omega)); exact hS.1; rfl; rfl; rfl; rfl; decide; exact (Nat.le_refl _); exact (Nat.le_refl _); exact Nat.le_of_ble_eq_true rfl
        rintro _ _ ⟨rfl, h3, rfl, hS3, fr3⟩
        refine aw_iload_n (i := 3) d_Heap_sink_86 rfl rfl ?_
        refine aw_istore_n (i := 2) (lv2 := [(0, _), (1, _), (2, _), (3, _)]) d_Heap_sink_87 rfl (by decide) rfl ?_
        refine aw_goto d_Heap_sink_88 ?_
        refine aw_drop (lv2 := [(0, _), (1, _), (2, _)]) [0, 1, 2] rfl ?_
        exact ih _ (by omega) _ _ _ _ _ (q * 2 + 1) ⟨hS3, frh.tr fr3, hD.step (by omega) (by omega) (by omega) br70_ hsib, hM.put _ hL.2.1 (fun i hi h1 h2 e => h2 (by have a1 := (hD.2.1 i hi h1).1; have a2 := (hD.2.1 (q * 2 + 1) (by omega) (by omega)).1; rw [e] at a1; omega)), rfl⟩
      · skip
        have hfin := hD.fin (fun i h0 hi hpa => Nat.le_trans br70_ (hsib i h0 hi hpa))
        have hM9 := hM.put n hx (fun i hi hq _ => (hD.2.1 i hi hq).2)
        refine aw_goto d_Heap_sink_73 ?_
        refine aw_aload_n (i := 0) d_Heap_sink_91 rfl rfl ?_
        refine aw_iload_n (i := 1) d_Heap_sink_92 rfl rfl ?_
        refine aw_iload_n (i := 2) d_Heap_sink_93 rfl rfl ?_
        apply aw_callv d_Heap_sink_94 cl_Heap_52 (c_Heap_place hS hN (x := x) (y := q) (by omega) (by omega)); exact hS.1; rfl; rfl; rfl; rfl; decide; exact (Nat.le_refl _); exact (Nat.le_refl _); exact Nat.le_of_ble_eq_true rfl
        rintro _ _ ⟨rfl, h3, rfl, hS3, fr3⟩
        refine aw_vret d_Heap_sink_97 rfl (Nat.le_refl _) (Nat.le_refl _) ?_
        exact ⟨rfl, _, _, _, _, _, rfl, hS3, frh.tr fr3, hfin, hM9⟩
    · skip
      have hR := hM.1 (q * 2 + 1 + 1) (by omega) (by omega)
      have hCR : C (hp (q * 2 + 1 + 1)) := (hD.2.2.2.2.2 _).mpr (Or.inr ⟨_, by omega, by omega, rfl⟩)
      have hkR := hM.2 _ hR.2.1
      rw [if_pos (hC _ hCR)] at hkR
      have hbR : key (hp (q * 2 + 1 + 1)) < 268435456 := hC _ hCR
      refine aw_aload_n (i := 0) d_Heap_sink_30 rfl rfl ?_
      refine aw_aload_n (i := 0) d_Heap_sink_31 rfl rfl ?_
      refine aw_iload_n (i := 3) d_Heap_sink_32 rfl rfl ?_
      refine aw_iconst (v := nI 1) d_Heap_sink_33 (by decide) ?_
      refine aw_iaddN d_Heap_sink_34 ?_
      apply aw_callv_p (c_Heap_codeAt hS hN (x := q * 2 + 1 + 1) (by omega)) d_Heap_sink_35 cl_Heap_45; exact hS.1; rfl; rfl; rfl; rfl; decide; exact Nat.le_of_ble_eq_true rfl; exact (Nat.le_refl _); exact (Nat.le_refl _)
      rw [hR.1]
      apply aw_callv_p (c_Heap_sumOf hS hN (x := hp (q * 2 + 1 + 1)) (by omega)) d_Heap_sink_38 cl_Heap_49; exact hS.1; rfl; rfl; rfl; rfl; decide; exact Nat.le_of_ble_eq_true rfl; exact (Nat.le_refl _); exact (Nat.le_refl _)
      rw [hkR]
      refine aw_aload_n (i := 0) d_Heap_sink_41 rfl rfl ?_
      refine aw_aload_n (i := 0) d_Heap_sink_42 rfl rfl ?_
      refine aw_iload_n (i := 3) d_Heap_sink_43 rfl rfl ?_
      apply aw_callv_p (c_Heap_codeAt hS hN (x := q * 2 + 1) (by omega)) d_Heap_sink_44 cl_Heap_45; exact hS.1; rfl; rfl; rfl; rfl; decide; exact Nat.le_of_ble_eq_true rfl; exact (Nat.le_refl _); exact (Nat.le_refl _)
      rw [hL.1]
      apply aw_callv_p (c_Heap_sumOf hS hN (x := hp (q * 2 + 1)) (by omega)) d_Heap_sink_47 cl_Heap_49; exact hS.1; rfl; rfl; rfl; rfl; decide; exact Nat.le_of_ble_eq_true rfl; exact (Nat.le_refl _); exact (Nat.le_refl _)
      rw [hkL]
      refine aw_icmpN_ge d_Heap_sink_50 (by omega) (by omega) (fun br50_ => ?_) (fun br50_ => ?_)
      · skip
        have hsib : ∀ i, 0 < i → i < n → (i - 1) / 2 = q → key (hp (q * 2 + 1)) ≤ key (hp i) := fun i h0 hi hpa => by
          rcases (show i = q * 2 + 1 ∨ i = q * 2 + 1 + 1 by omega) with e | e
          · rw [e]; exact Nat.le_refl _
          · rw [e]; exact br50_
        refine aw_aload_n (i := 0) d_Heap_sink_56 rfl rfl ?_
        refine aw_iload_n (i := 1) d_Heap_sink_57 rfl rfl ?_
        apply aw_callv_p (c_Heap_sumOf hS hN (x := x) (by omega)) d_Heap_sink_58 cl_Heap_49; exact hS.1; rfl; rfl; rfl; rfl; decide; exact Nat.le_of_ble_eq_true rfl; exact (Nat.le_refl _); exact (Nat.le_refl _)
        rw [hkx]
        refine aw_aload_n (i := 0) d_Heap_sink_61 rfl rfl ?_
        refine aw_aload_n (i := 0) d_Heap_sink_62 rfl rfl ?_
        refine aw_iload_n (i := 3) d_Heap_sink_63 rfl rfl ?_
        apply aw_callv_p (c_Heap_codeAt hS hN (x := q * 2 + 1) (by omega)) d_Heap_sink_64 cl_Heap_45; exact hS.1; rfl; rfl; rfl; rfl; decide; exact Nat.le_of_ble_eq_true rfl; exact (Nat.le_refl _); exact (Nat.le_refl _)
        rw [hL.1]
        apply aw_callv_p (c_Heap_sumOf hS hN (x := hp (q * 2 + 1)) (by omega)) d_Heap_sink_67 cl_Heap_49; exact hS.1; rfl; rfl; rfl; rfl; decide; exact Nat.le_of_ble_eq_true rfl; exact (Nat.le_refl _); exact (Nat.le_refl _)
        rw [hkL]
        refine aw_icmpN_gt d_Heap_sink_70 (by omega) (by omega) (fun br70_ => ?_) (fun br70_ => ?_)
        · skip
          refine aw_aload_n (i := 0) d_Heap_sink_76 rfl rfl ?_
          refine aw_aload_n (i := 0) d_Heap_sink_77 rfl rfl ?_
          refine aw_iload_n (i := 3) d_Heap_sink_78 rfl rfl ?_
          apply aw_callv_p (c_Heap_codeAt hS hN (x := q * 2 + 1) (by omega)) d_Heap_sink_79 cl_Heap_45; exact hS.1; rfl; rfl; rfl; rfl; decide; exact Nat.le_of_ble_eq_true rfl; exact (Nat.le_refl _); exact (Nat.le_refl _)
          rw [hL.1]
          refine aw_iload_n (i := 2) d_Heap_sink_82 rfl rfl ?_
          apply aw_callv d_Heap_sink_83 cl_Heap_52 (c_Heap_place hS hN (x := hp (q * 2 + 1)) (y := q) (by omega) (by omega)); exact hS.1; rfl; rfl; rfl; rfl; decide; exact (Nat.le_refl _); exact (Nat.le_refl _); exact Nat.le_of_ble_eq_true rfl
          rintro _ _ ⟨rfl, h3, rfl, hS3, fr3⟩
          refine aw_iload_n (i := 3) d_Heap_sink_86 rfl rfl ?_
          refine aw_istore_n (i := 2) (lv2 := [(0, _), (1, _), (2, _), (3, _)]) d_Heap_sink_87 rfl (by decide) rfl ?_
          refine aw_goto d_Heap_sink_88 ?_
          refine aw_drop (lv2 := [(0, _), (1, _), (2, _)]) [0, 1, 2] rfl ?_
          exact ih _ (by omega) _ _ _ _ _ (q * 2 + 1) ⟨hS3, frh.tr fr3, hD.step (by omega) (by omega) (by omega) br70_ hsib, hM.put _ hL.2.1 (fun i hi h1 h2 e => h2 (by have a1 := (hD.2.1 i hi h1).1; have a2 := (hD.2.1 (q * 2 + 1) (by omega) (by omega)).1; rw [e] at a1; omega)), rfl⟩
        · skip
          have hfin := hD.fin (fun i h0 hi hpa => Nat.le_trans br70_ (hsib i h0 hi hpa))
          have hM9 := hM.put n hx (fun i hi hq _ => (hD.2.1 i hi hq).2)
          refine aw_goto d_Heap_sink_73 ?_
          refine aw_aload_n (i := 0) d_Heap_sink_91 rfl rfl ?_
          refine aw_iload_n (i := 1) d_Heap_sink_92 rfl rfl ?_
          refine aw_iload_n (i := 2) d_Heap_sink_93 rfl rfl ?_
          apply aw_callv d_Heap_sink_94 cl_Heap_52 (c_Heap_place hS hN (x := x) (y := q) (by omega) (by omega)); exact hS.1; rfl; rfl; rfl; rfl; decide; exact (Nat.le_refl _); exact (Nat.le_refl _); exact Nat.le_of_ble_eq_true rfl
          rintro _ _ ⟨rfl, h3, rfl, hS3, fr3⟩
          refine aw_vret d_Heap_sink_97 rfl (Nat.le_refl _) (Nat.le_refl _) ?_
          exact ⟨rfl, _, _, _, _, _, rfl, hS3, frh.tr fr3, hfin, hM9⟩
      · skip
        have hsib : ∀ i, 0 < i → i < n → (i - 1) / 2 = q → key (hp (q * 2 + 1 + 1)) ≤ key (hp i) := fun i h0 hi hpa => by
          rcases (show i = q * 2 + 1 ∨ i = q * 2 + 1 + 1 by omega) with e | e
          · rw [e]; exact Nat.le_of_lt br50_
          · rw [e]; exact Nat.le_refl _
        refine aw_iincN (lv2 := [(0, _), (1, _), (2, _), (3, _)]) d_Heap_sink_53 (by decide) rfl rfl ?_
        refine aw_aload_n (i := 0) d_Heap_sink_56 rfl rfl ?_
        refine aw_iload_n (i := 1) d_Heap_sink_57 rfl rfl ?_
        apply aw_callv_p (c_Heap_sumOf hS hN (x := x) (by omega)) d_Heap_sink_58 cl_Heap_49; exact hS.1; rfl; rfl; rfl; rfl; decide; exact Nat.le_of_ble_eq_true rfl; exact (Nat.le_refl _); exact (Nat.le_refl _)
        rw [hkx]
        refine aw_aload_n (i := 0) d_Heap_sink_61 rfl rfl ?_
        refine aw_aload_n (i := 0) d_Heap_sink_62 rfl rfl ?_
        refine aw_iload_n (i := 3) d_Heap_sink_63 rfl rfl ?_
        apply aw_callv_p (c_Heap_codeAt hS hN (x := q * 2 + 1 + 1) (by omega)) d_Heap_sink_64 cl_Heap_45; exact hS.1; rfl; rfl; rfl; rfl; decide; exact Nat.le_of_ble_eq_true rfl; exact (Nat.le_refl _); exact (Nat.le_refl _)
        rw [hR.1]
        apply aw_callv_p (c_Heap_sumOf hS hN (x := hp (q * 2 + 1 + 1)) (by omega)) d_Heap_sink_67 cl_Heap_49; exact hS.1; rfl; rfl; rfl; rfl; decide; exact Nat.le_of_ble_eq_true rfl; exact (Nat.le_refl _); exact (Nat.le_refl _)
        rw [hkR]
        refine aw_icmpN_gt d_Heap_sink_70 (by omega) (by omega) (fun br70_ => ?_) (fun br70_ => ?_)
        · skip
          refine aw_aload_n (i := 0) d_Heap_sink_76 rfl rfl ?_
          refine aw_aload_n (i := 0) d_Heap_sink_77 rfl rfl ?_
          refine aw_iload_n (i := 3) d_Heap_sink_78 rfl rfl ?_
          apply aw_callv_p (c_Heap_codeAt hS hN (x := q * 2 + 1 + 1) (by omega)) d_Heap_sink_79 cl_Heap_45; exact hS.1; rfl; rfl; rfl; rfl; decide; exact Nat.le_of_ble_eq_true rfl; exact (Nat.le_refl _); exact (Nat.le_refl _)
          rw [hR.1]
          refine aw_iload_n (i := 2) d_Heap_sink_82 rfl rfl ?_
          apply aw_callv d_Heap_sink_83 cl_Heap_52 (c_Heap_place hS hN (x := hp (q * 2 + 1 + 1)) (y := q) (by omega) (by omega)); exact hS.1; rfl; rfl; rfl; rfl; decide; exact (Nat.le_refl _); exact (Nat.le_refl _); exact Nat.le_of_ble_eq_true rfl
          rintro _ _ ⟨rfl, h3, rfl, hS3, fr3⟩
          refine aw_iload_n (i := 3) d_Heap_sink_86 rfl rfl ?_
          refine aw_istore_n (i := 2) (lv2 := [(0, _), (1, _), (2, _), (3, _)]) d_Heap_sink_87 rfl (by decide) rfl ?_
          refine aw_goto d_Heap_sink_88 ?_
          refine aw_drop (lv2 := [(0, _), (1, _), (2, _)]) [0, 1, 2] rfl ?_
          exact ih _ (by omega) _ _ _ _ _ (q * 2 + 1 + 1) ⟨hS3, frh.tr fr3, hD.step (by omega) (by omega) (by omega) br70_ hsib, hM.put _ hR.2.1 (fun i hi h1 h2 e => h2 (by have a1 := (hD.2.1 i hi h1).1; have a2 := (hD.2.1 (q * 2 + 1 + 1) (by omega) (by omega)).1; rw [e] at a1; omega)), rfl⟩
        · skip
          have hfin := hD.fin (fun i h0 hi hpa => Nat.le_trans br70_ (hsib i h0 hi hpa))
          have hM9 := hM.put n hx (fun i hi hq _ => (hD.2.1 i hi hq).2)
          refine aw_goto d_Heap_sink_73 ?_
          refine aw_aload_n (i := 0) d_Heap_sink_91 rfl rfl ?_
          refine aw_iload_n (i := 1) d_Heap_sink_92 rfl rfl ?_
          refine aw_iload_n (i := 2) d_Heap_sink_93 rfl rfl ?_
          apply aw_callv d_Heap_sink_94 cl_Heap_52 (c_Heap_place hS hN (x := x) (y := q) (by omega) (by omega)); exact hS.1; rfl; rfl; rfl; rfl; decide; exact (Nat.le_refl _); exact (Nat.le_refl _); exact Nat.le_of_ble_eq_true rfl
          rintro _ _ ⟨rfl, h3, rfl, hS3, fr3⟩
          refine aw_vret d_Heap_sink_97 rfl (Nat.le_refl _) (Nat.le_refl _) ?_
          exact ⟨rfl, _, _, _, _, _, rfl, hS3, frh.tr fr3, hfin, hM9⟩

set_option maxHeartbeats 4000000 in
set_option maxRecDepth 20000 in
theorem c_Heap_sink0 {G : aG} {nx : Nat} {h : Nat → Option aC} {a s c p N : Nat} {fs fc fp : Nat → Int32} (hm : HeS h a s c p N fs fc fp 0) (hN : N ≤ 20000) {x : Nat} (hx : x < N) : AMet G m_Heap_sink 1 0 0 [.ref a, .int (nI x)] (nx, h) (fun r w => r = none ∧ ∃ h2 fc2 fp2, w = (nx, h2) ∧ HeS h2 a s c p N fs fc2 fp2 0 ∧ Fr HTg h h2) := by
  refine amet_of pf_Heap_sink (Nat.le_of_ble_eq_true rfl) ?_
  show AW G m_Heap_sink 1 0 0 _ 0 [(0, .ref a), (1, .int (nI x))] [] (nx, h) 0 0
  refine aw_iconst (v := nI 0) d_Heap_sink_0 (by decide) ?_
  refine aw_istore_n (i := 2) (lv2 := [(0, _), (1, _), (2, _)]) d_Heap_sink_1 rfl (by decide) rfl ?_
  refine aw_iload_n (i := 2) d_Heap_sink_2 rfl rfl ?_
  refine aw_iconst (v := nI 2) d_Heap_sink_3 (by decide) ?_
  refine aw_imulN d_Heap_sink_4 ?_
  refine aw_iconst (v := nI 1) d_Heap_sink_5 (by decide) ?_
  refine aw_iaddN d_Heap_sink_6 ?_
  refine aw_aload_n (i := 0) d_Heap_sink_7 rfl rfl ?_
  apply aw_get d_Heap_sink_8 fl_Heap_33; exact hm.1; rfl
  refine aw_icmp_ge d_Heap_sink_11 (fun br11_ => ?_) (fun br11_ => absurd (nI_le (a := 0) (b := 0 * 2 + 1) (by omega) (by decide)) br11_)
  refine aw_aload_n (i := 0) d_Heap_sink_91 rfl rfl ?_
  refine aw_iload_n (i := 1) d_Heap_sink_92 rfl rfl ?_
  refine aw_iload_n (i := 2) d_Heap_sink_93 rfl rfl ?_
  apply aw_callv d_Heap_sink_94 cl_Heap_52 (c_Heap_place hm hN (x := x) (y := 0) (by omega) (by omega)); exact hm.1; rfl; rfl; rfl; rfl; decide; exact (Nat.le_refl _); exact (Nat.le_refl _); exact Nat.le_of_ble_eq_true rfl
  rintro _ _ ⟨rfl, h3, rfl, hS3, fr3⟩
  refine aw_vret d_Heap_sink_97 rfl (Nat.le_refl _) (Nat.le_refl _) ?_
  exact ⟨rfl, _, _, _, rfl, hS3, fr3⟩

theorem nI_ne2 {n : Nat} (h : n < 2 ^ 31) : ¬ nI n = -2 := by
  intro e
  have := nI_pos (n := n) h
  rw [e] at this; exact this (by decide)
set_option maxHeartbeats 4000000 in
set_option maxRecDepth 20000 in
theorem c_Heap_offer {G : aG} {nx : Nat} {h : Nat → Option aC} {a s c p N n : Nat} {fs fc fp : Nat → Int32} (hm : HeS h a s c p N fs fc fp n) (hN : N ≤ 20000) {N2 : Nat} {hp pl key : Nat → Nat} {C : Nat → Prop} {x v : Nat} (hN2 : N2 ≤ N) (hn : n ≤ N2) (hP : Hp n hp pl key C) (hM : HeM N2 fs fc fp n hp key n) (hC : ∀ c, C c → key c < FAR) (hkF : key x ≤ FAR) (hx : x < N2) (hv : v < FAR) (hcx : v < key x → key x < FAR → C x) : AMet G m_Heap_offer 2 0 0 [.ref a, .int (nI x), .int (nI v)] (nx, h) (fun r w => r = none ∧ ∃ h2 fs2 fc2 fp2 n2 hp2 pl2, w = (nx, h2) ∧ HeS h2 a s c p N fs2 fc2 fp2 n2 ∧ Fr HTg h h2 ∧ n2 ≤ N2 ∧ Hp n2 hp2 pl2 (if v < key x then updn key x v else key) (if v < key x then (fun c => c = x ∨ C c) else C) ∧ HeM N2 fs2 fc2 fp2 n2 hp2 (if v < key x then updn key x v else key) n2) := by
  obtain ⟨q1, q2, q3, q4⟩ := hm
  have hsx := hM.2 x hx
  have hvb : v < 268435456 := hv
  have hCN : ∀ c, C c → c < N2 := fun c hc => by
    obtain ⟨i, hi, e⟩ := (hP.2.2 c).mp hc
    rw [← e]; exact (hM.1 i hi (by omega)).2.1
  refine amet_of pf_Heap_offer (Nat.le_of_ble_eq_true rfl) ?_
  show AW G m_Heap_offer 2 0 0 _ 0 [(0, .ref a), (1, .int (nI x)), (2, .int (nI v))] [] (nx, h) 0 0
  refine aw_iload_n (i := 1) d_Heap_offer_0 rfl rfl ?_
  refine aw_if_lt d_Heap_offer_1 (fun br1_ => absurd br1_ (nI_pos (by omega))) (fun br1_ => ?_)
  refine aw_iload_n (i := 1) d_Heap_offer_4 rfl rfl ?_
  refine aw_aload_n (i := 0) d_Heap_offer_5 rfl rfl ?_
  apply aw_get d_Heap_offer_6 fl_Heap_15; exact q1; rfl
  apply aw_alen d_Heap_offer_9; exact q2; decide
  refine aw_icmp_lt d_Heap_offer_10 (fun br10_ => ?_) (fun br10_ => absurd (nI_lt (show x < N by omega) (by omega)) br10_)
  refine aw_aload_n (i := 0) d_Heap_offer_14 rfl rfl ?_
  apply aw_get d_Heap_offer_15 fl_Heap_15; exact q1; rfl
  refine aw_iload_n (i := 1) d_Heap_offer_18 rfl rfl ?_
  apply ci_ld d_Heap_offer_19; exact q2; omega; omega; exact hsx
  refine aw_bipush (v := -2) d_Heap_offer_20 (by decide) ?_
  refine aw_icmp_ne d_Heap_offer_22 (fun br22_ => ?_) (fun br22_ => ?_)
  · skip
    have hse : key x < FAR := Nat.not_le.mp (fun q => br22_ (by rw [if_neg (by omega)]))
    have hseb : key x < 268435456 := hse
    rw [if_pos hse] at hsx
    refine aw_iload_n (i := 2) d_Heap_offer_68 rfl rfl ?_
    refine aw_aload_n (i := 0) d_Heap_offer_69 rfl rfl ?_
    apply aw_get d_Heap_offer_70 fl_Heap_15; exact q1; rfl
    refine aw_iload_n (i := 1) d_Heap_offer_73 rfl rfl ?_
    apply ci_ld d_Heap_offer_74; exact q2; omega; omega; exact hsx
    refine aw_icmpN_ge d_Heap_offer_75 (by omega) (by omega) (fun br75_ => ?_) (fun br75_ => ?_)
    · skip
      refine aw_vret d_Heap_offer_96 rfl (Nat.le_refl _) (Nat.le_refl _) ?_
      have hnl : ¬ v < key x := by omega
      refine ⟨rfl, _, _, _, _, _, hp, pl, rfl, ⟨q1, q2, q3, q4⟩, Fr.rf, hn, ?_, ?_⟩
      · rw [if_neg hnl, if_neg hnl]; exact hP
      · rw [if_neg hnl]; exact hM
    · skip
      have hCx := hcx br75_ hse
      obtain ⟨i9, hi9, e9⟩ := (hP.2.2 x).mp hCx
      have hpx : pl x = i9 := by rw [← e9]; exact hP.1 i9 hi9
      have hfpx : fp x = nI (pl x) := by rw [hpx, ← e9]; exact (hM.1 i9 hi9 (by omega)).2.2
      refine aw_aload_n (i := 0) d_Heap_offer_78 rfl rfl ?_
      apply aw_get d_Heap_offer_79 fl_Heap_15; exact q1; rfl
      refine aw_iload_n (i := 1) d_Heap_offer_82 rfl rfl ?_
      refine aw_iload_n (i := 2) d_Heap_offer_83 rfl rfl ?_
      apply ci_st d_Heap_offer_84; exact q2; omega; omega; intro h1_ e1_ f1_ o1_
      have q1_ := f1_ _ _ q1 (by simp)
      have q3_ := f1_ _ _ q3 (by simp)
      have q4_ := f1_ _ _ q4 (by simp)
      have fA_ := f1_
      have e2_ := e1_
      have hS : HeS h1_ a s c p N (upd fs x (nI v)) fc fp n := ⟨q1_, e1_, q3_, q4_⟩
      have hfr : Fr HTg h h1_ := fA_.up (by simp)
      have hU := hP.hole (key2 := updn key x v) hCx (by rw [un_s]; omega) (fun c hc => un_n hc)
      have hM2 := (hM.key (x := x) hv).any (pl x)
      have hn2 : n ≤ N2 := hn
      have hC2 : ∀ d, C d → updn key x v d < FAR := by
        intro d hd
        by_cases e : d = x
        · rw [e, un_s]; exact hv
        · rw [un_n e]; exact hC d hd
      refine aw_aload_n (i := 0) d_Heap_offer_85 rfl rfl ?_
      refine aw_iload_n (i := 1) d_Heap_offer_86 rfl rfl ?_
      refine aw_aload_n (i := 0) d_Heap_offer_87 rfl rfl ?_
      apply aw_get d_Heap_offer_88 fl_Heap_24; exact hS.1; rfl
      refine aw_iload_n (i := 1) d_Heap_offer_91 rfl rfl ?_
      apply ci_ld d_Heap_offer_92; exact hS.2.2.2; omega; omega; exact hfpx
      apply aw_callv d_Heap_offer_93 cl_Heap_37 (c_Heap_lift hS hN (x := x) (q := pl x) hN2 hn2 hU hM2 hC2 hx); exact hS.1; rfl; rfl; rfl; rfl; decide; exact (Nat.le_refl _); exact (Nat.le_refl _); exact Nat.le_of_ble_eq_true rfl
      rintro _ _ ⟨rfl, h3, fc3, fp3, hp3, pl3, rfl, hS3, fr3, hHp3, hM3⟩
      refine aw_vret d_Heap_offer_96 rfl (Nat.le_refl _) (Nat.le_refl _) ?_
      refine ⟨rfl, _, _, _, _, _, hp3, pl3, rfl, hS3, hfr.tr fr3, hn2, ?_, ?_⟩
      · rw [if_pos br75_, if_pos br75_]; exact hHp3.iff (fun d => ⟨fun q => q.elim (fun e => by rw [e]; exact hCx) id, Or.inr⟩)
      · rw [if_pos br75_]; exact hM3
  · skip
    have hun : ¬ key x < FAR := fun q => by rw [if_pos q] at br22_; exact absurd br22_ (nI_ne2 (Nat.lt_trans q (by decide)))
    have hnC : ¬ C x := fun q => hun (hC x q)
    have hlen := hP.len hCN hx hnC
    have hvk : v < key x := by omega
    refine aw_aload_n (i := 0) d_Heap_offer_25 rfl rfl ?_
    apply aw_get d_Heap_offer_26 fl_Heap_33; exact q1; rfl
    refine aw_aload_n (i := 0) d_Heap_offer_29 rfl rfl ?_
    apply aw_get d_Heap_offer_30 fl_Heap_21; exact q1; rfl
    apply aw_alen d_Heap_offer_33; exact q3; decide
    refine aw_icmp_ge d_Heap_offer_34 (fun br34_ => absurd br34_ (nI_ge (show n < N by omega) (by omega))) (fun br34_ => ?_)
    refine aw_aload_n (i := 0) d_Heap_offer_37 rfl rfl ?_
    apply aw_get d_Heap_offer_38 fl_Heap_15; exact q1; rfl
    refine aw_iload_n (i := 1) d_Heap_offer_41 rfl rfl ?_
    refine aw_iload_n (i := 2) d_Heap_offer_42 rfl rfl ?_
    apply ci_st d_Heap_offer_43; exact q2; omega; omega; intro h1_ e1_ f1_ o1_
    have q1_ := f1_ _ _ q1 (by simp)
    have q3_ := f1_ _ _ q3 (by simp)
    have q4_ := f1_ _ _ q4 (by simp)
    have fA_ := f1_
    have e2_ := e1_
    refine aw_aload_n (i := 0) d_Heap_offer_44 rfl rfl ?_
    refine aw_dup d_Heap_offer_45 rfl ?_
    apply aw_get d_Heap_offer_46 fl_Heap_33; exact q1_; rfl
    refine aw_iconst (v := nI 1) d_Heap_offer_49 (by decide) ?_
    refine aw_iaddN d_Heap_offer_50 ?_
    apply aw_put d_Heap_offer_51 pl_Heap_33; exact q1_; exact Nat.le_of_ble_eq_true rfl; rfl; rfl
    refine aw_nm q1_ ?_
    intro h2_ q1b fB_ oB_
    have hS : HeS h2_ a s c p N (upd fs x (nI v)) fc fp (n + 1) := ⟨q1b, fB_ _ _ e2_ (by simp), fB_ _ _ q3_ (by simp), fB_ _ _ q4_ (by simp)⟩
    have hfr : Fr HTg h h2_ := (fA_.up (by simp)).tr (fB_.up (by simp))
    have hU := hP.more (key2 := updn key x v) hnC (fun c hc => un_n hc)
    have hM2 : HeM N2 (upd fs x (nI v)) fc fp (n + 1) hp (updn key x v) n := ⟨fun i hi hq => hM.1 i (by omega) hq, (hM.key hv).2⟩
    have hn2 : n + 1 ≤ N2 := hlen
    have hC2 : ∀ d, (d = x ∨ C d) → updn key x v d < FAR := by
      rintro d (rfl | hd)
      · rw [un_s]; exact hv
      · rw [un_n (fun e => hnC (by rw [← e]; exact hd))]; exact hC d hd
    refine aw_aload_n (i := 0) d_Heap_offer_54 rfl rfl ?_
    refine aw_iload_n (i := 1) d_Heap_offer_55 rfl rfl ?_
    refine aw_aload_n (i := 0) d_Heap_offer_56 rfl rfl ?_
    apply aw_get d_Heap_offer_57 fl_Heap_33; exact hS.1; rfl
    refine aw_iconst (v := nI 1) d_Heap_offer_60 (by decide) ?_
    refine aw_isubN d_Heap_offer_61 (by omega) ?_
    apply aw_callv d_Heap_offer_62 cl_Heap_37 (c_Heap_lift hS hN (x := x) (q := n) hN2 hn2 hU hM2 hC2 hx); exact hS.1; rfl; rfl; rfl; rfl; decide; exact (Nat.le_refl _); exact (Nat.le_refl _); exact Nat.le_of_ble_eq_true rfl
    rintro _ _ ⟨rfl, h3, fc3, fp3, hp3, pl3, rfl, hS3, fr3, hHp3, hM3⟩
    refine aw_goto d_Heap_offer_65 ?_
    refine aw_vret d_Heap_offer_96 rfl (Nat.le_refl _) (Nat.le_refl _) ?_
    refine ⟨rfl, _, _, _, _, _, hp3, pl3, rfl, hS3, hfr.tr fr3, hn2, ?_, ?_⟩
    · rw [if_pos hvk, if_pos hvk]; exact hHp3
    · rw [if_pos hvk]; exact hM3

set_option maxHeartbeats 4000000 in
set_option maxRecDepth 20000 in
theorem c_Heap_take {G : aG} {nx : Nat} {h : Nat → Option aC} {a s c p N n : Nat} {fs fc fp : Nat → Int32} (hm : HeS h a s c p N fs fc fp (n + 1)) (hN : N ≤ 20000) {N2 : Nat} {hp pl key : Nat → Nat} {C : Nat → Prop} (hN2 : N2 ≤ N) (hn : n + 1 ≤ N2) (hP : Hp (n + 1) hp pl key C) (hM : HeM N2 fs fc fp (n + 1) hp key (n + 1)) (hC : ∀ c, C c → key c < FAR) : AMet G m_Heap_take 2 0 0 [.ref a] (nx, h) (fun r w => r = some (.int (nI (hp 0))) ∧ ∃ h2 fc2 fp2 hp2 pl2, w = (nx, h2) ∧ HeS h2 a s c p N fs fc2 fp2 n ∧ Fr HTg h h2 ∧ Hp n hp2 pl2 key (fun c => C c ∧ c ≠ hp 0) ∧ HeM N2 fs fc2 fp2 n hp2 key n) := by
  obtain ⟨q1, q2, q3, q4⟩ := hm
  have hz0 := hM.1 0 (by omega) (by omega)
  have hzn := hM.1 n (by omega) (by omega)
  refine amet_of pf_Heap_take (Nat.le_of_ble_eq_true rfl) ?_
  show AW G m_Heap_take 2 0 0 _ 0 [(0, .ref a)] [] (nx, h) 0 0
  refine aw_aload_n (i := 0) d_Heap_take_0 rfl rfl ?_
  apply aw_get d_Heap_take_1 fl_Heap_33; exact q1; rfl
  refine aw_iconst (v := nI 1) d_Heap_take_4 (by decide) ?_
  refine aw_icmp_lt d_Heap_take_5 (fun br5_ => absurd br5_ (nI_nlt (a := n + 1) (b := 1) (by omega) (by omega))) (fun br5_ => ?_)
  refine aw_aload_n (i := 0) d_Heap_take_8 rfl rfl ?_
  apply aw_get d_Heap_take_9 fl_Heap_33; exact q1; rfl
  refine aw_aload_n (i := 0) d_Heap_take_12 rfl rfl ?_
  apply aw_get d_Heap_take_13 fl_Heap_21; exact q1; rfl
  apply aw_alen d_Heap_take_16; exact q3; decide
  refine aw_icmp_le d_Heap_take_17 (fun br17_ => ?_) (fun br17_ => absurd (nI_le (show n + 1 ≤ N by omega) (by omega)) br17_)
  refine aw_aload_n (i := 0) d_Heap_take_22 rfl rfl ?_
  apply aw_get d_Heap_take_23 fl_Heap_21; exact q1; rfl
  refine aw_iconst (v := nI 0) d_Heap_take_26 (by decide) ?_
  apply ci_ld d_Heap_take_27; exact q3; omega; omega; exact hz0.1
  refine aw_istore_n (i := 1) (lv2 := [(0, _), (1, _)]) d_Heap_take_28 rfl (by decide) rfl ?_
  refine aw_aload_n (i := 0) d_Heap_take_29 rfl rfl ?_
  refine aw_dup d_Heap_take_30 rfl ?_
  apply aw_get d_Heap_take_31 fl_Heap_33; exact q1; rfl
  refine aw_iconst (v := nI 1) d_Heap_take_34 (by decide) ?_
  refine aw_isubN d_Heap_take_35 (by omega) ?_
  apply aw_put d_Heap_take_36 pl_Heap_33; exact q1; exact Nat.le_of_ble_eq_true rfl; rfl; rfl
  refine aw_nm q1 ?_
  intro h1_ q1b fB_ oB_
  have hS : HeS h1_ a s c p N fs fc fp n := ⟨q1b, fB_ _ _ q2 (by simp), fB_ _ _ q3 (by simp), fB_ _ _ q4 (by simp)⟩
  have hfr : Fr HTg h h1_ := fB_.up (by simp)
  refine aw_aload_n (i := 0) d_Heap_take_39 rfl rfl ?_
  refine aw_aload_n (i := 0) d_Heap_take_40 rfl rfl ?_
  apply aw_get d_Heap_take_41 fl_Heap_21; exact hS.1; rfl
  refine aw_aload_n (i := 0) d_Heap_take_44 rfl rfl ?_
  apply aw_get d_Heap_take_45 fl_Heap_33; exact hS.1; rfl
  apply ci_ld d_Heap_take_48; exact hS.2.2.1; omega; omega; exact hzn.1
  by_cases hn0 : n = 0
  · subst hn0
    apply aw_callv (d_Heap_take_49) cl_Heap_41 (c_Heap_sink0 hS hN (x := hp 0) (by omega)); exact hS.1; rfl; rfl; rfl; rfl; decide; exact (Nat.le_refl _); exact (Nat.le_refl _); exact Nat.le_of_ble_eq_true rfl
    rintro _ _ ⟨rfl, h3, fc3, fp3, rfl, hS3, fr3⟩
    refine aw_iload_n (i := 1) d_Heap_take_52 rfl rfl ?_
    refine aw_iret d_Heap_take_53 rfl (Nat.le_refl _) (Nat.le_refl _) ?_
    exact ⟨rfl, _, _, _, hp, pl, rfl, hS3, hfr.tr fr3, hP.take0 hp pl, fun i hi => by omega, hM.2⟩
  apply aw_callv d_Heap_take_49 cl_Heap_41 (c_Heap_sink hS hN (x := hp n) hN2 (by omega) (hP.take (by omega)) ⟨fun i hi _ => hM.1 i (by omega) (by omega), hM.2⟩ (fun d hd => hC d hd.1) hzn.2.1); exact hS.1; rfl; rfl; rfl; rfl; decide; exact (Nat.le_refl _); exact (Nat.le_refl _); exact Nat.le_of_ble_eq_true rfl
  rintro _ _ ⟨rfl, h3, fc3, fp3, hp3, pl3, rfl, hS3, fr3, hHp3, hM3⟩
  refine aw_iload_n (i := 1) d_Heap_take_52 rfl rfl ?_
  refine aw_iret d_Heap_take_53 rfl (Nat.le_refl _) (Nat.le_refl _) ?_
  exact ⟨rfl, _, _, _, hp3, pl3, rfl, hS3, hfr.tr fr3, hHp3, hM3⟩

