/-! what is made -/
theorem dom_o {nx a : Nat} {h h1 : Nat → Option aC} {c0 : aC} (hd : Dom nx h) (ha : h a = some c0) (ho : ∀ q, q ≠ a → h1 q = h q) : Dom nx h1 := by
  intro q c hq
  by_cases e : q = a
  · rw [e]; exact hd a c0 ha
  · rw [ho q e] at hq; exact hd q c hq
theorem max_0 {G : aG} {nx : Nat} {h : Nat → Option aC} (M : Nat) (hM : M ≤ 20000) : AMet G m_Math_max 0 0 0 [.int (nI 0), .int (nI M)] (nx, h) (RV (.int (nI M)) (nx, h)) := by
  have := c_Math_max_nI (G := G) (nx := nx) (h := h) 0 M (by decide) (by omega)
  rw [Nat.zero_max] at this; exact this
set_option maxHeartbeats 4000000 in
set_option maxRecDepth 20000 in
theorem c_Line_init {G : aG} {nx : Nat} {h : Nat → Option aC} (t : Nat) {a M : Nat} (hM : M ≤ 20000) (ha : h a = some (ob t 4 [.null, .null, .int 0])) (hd : Dom nx h) : AMet G m_Line_init 1 2 (2 * M) [.ref a, .int (nI M)] (nx, h) (fun r w => r = none ∧ ∃ h2, w = (nx + 2, h2) ∧ Dom (nx + 2) h2 ∧ LiA t h2 a M [] ∧ Fr [t] h h2) := by
  have FR : Fr [t] h h := Fr.rf
  refine amet_of pf_Line_init (Nat.le_of_ble_eq_true rfl) ?_
  show AW G m_Line_init 1 2 (2 * M) _ 0 [(0, .ref a), (1, .int (nI M))] [] (nx, h) 0 0
  refine aw_aload_n (i := 0) d_Line_init_0 rfl rfl ?_
  refine aw_objInit d_Line_init_1 oi_Line_3 (by decide) (Nat.le_of_ble_eq_true rfl) ?_
  refine aw_aload_n (i := 0) d_Line_init_4 rfl rfl ?_
  refine aw_iconst (v := nI 0) d_Line_init_5 (by decide) ?_
  refine aw_iload_n (i := 1) d_Line_init_6 rfl rfl ?_
  apply aw_calls_p (max_0 M hM) d_Line_init_7 cl_Line_9; rfl; rfl; decide; exact Nat.le_of_ble_eq_true rfl; exact (by omega); exact (by omega)
  refine aw_newaI (t + 1) (N := M) d_Line_init_10 rfl (by omega) (by omega) (by omega) ?_
  refine aw_nn hd ?_
  intro h hb f_ o_ hd
  have ha := f_ _ _ ha (by first | (simp; done) | (simp; omega))
  have FR := FR.tr (f_.up (fun _ z => absurd z List.not_mem_nil))
  apply aw_putF d_Line_init_12 pl_Line_15 rfl; exact ha; exact Nat.le_of_ble_eq_true rfl; exact rfl; exact rfl
  refine aw_nm ha ?_
  intro h ha_ f_ o_
  have hd := dom_o hd ha o_
  have hb := f_ _ _ hb (by first | (simp; done) | (simp; omega))
  have ha := ha_
  have FR := FR.tr (f_.up (by first | (simp; done) | (simp; omega)))
  refine aw_aload_n (i := 0) d_Line_init_15 rfl rfl ?_
  refine aw_iconst (v := nI 0) d_Line_init_16 (by decide) ?_
  refine aw_iload_n (i := 1) d_Line_init_17 rfl rfl ?_
  apply aw_calls_p (max_0 M hM) d_Line_init_18 cl_Line_9; rfl; rfl; decide; exact Nat.le_of_ble_eq_true rfl; exact (by omega); exact (by omega)
  refine aw_newaB (t + 2) (N := M) d_Line_init_21 rfl (by omega) (by omega) (by omega) ?_
  refine aw_nn hd ?_
  intro h hc f_ o_ hd
  have ha := f_ _ _ ha (by first | (simp; done) | (simp; omega))
  have hb := f_ _ _ hb (by first | (simp; done) | (simp; omega))
  have FR := FR.tr (f_.up (fun _ z => absurd z List.not_mem_nil))
  apply aw_putF d_Line_init_23 pl_Line_21 rfl; exact ha; exact Nat.le_of_ble_eq_true rfl; exact rfl; exact rfl
  refine aw_nm ha ?_
  intro h ha_ f_ o_
  have hd := dom_o hd ha o_
  have hb := f_ _ _ hb (by first | (simp; done) | (simp; omega))
  have hc := f_ _ _ hc (by first | (simp; done) | (simp; omega))
  have ha := ha_
  have FR := FR.tr (f_.up (by first | (simp; done) | (simp; omega)))
  refine aw_vret d_Line_init_26 rfl (by omega) (by omega) ?_
  exact ⟨rfl, h, rfl, hd, ⟨_, _, _, _, ha, hb, hc, Nat.zero_le _, hM, fun j hj => absurd hj (Nat.not_lt_zero _), fun c hc => rfl, fun c hc => absurd hc List.not_mem_nil⟩, FR⟩

set_option maxHeartbeats 4000000 in
set_option maxRecDepth 20000 in
theorem c_Heap_init {G : aG} {nx : Nat} {h : Nat → Option aC} {a M : Nat} (hM : M ≤ 20000) (ha : h a = some (ob 40 2 [.null, .null, .null, .int 0])) (hd : Dom nx h) : AMet G m_Heap_init 1 3 (3 * M) [.ref a, .int (nI M)] (nx, h) (fun r w => r = none ∧ ∃ h2, w = (nx + 3, h2) ∧ Dom (nx + 3) h2 ∧ (∃ s c p fs fc fp, HeS h2 a s c p M fs fc fp 0) ∧ Fr [40] h h2) := by
  have FR : Fr [40] h h := Fr.rf
  refine amet_of pf_Heap_init (Nat.le_of_ble_eq_true rfl) ?_
  show AW G m_Heap_init 1 3 (3 * M) _ 0 [(0, .ref a), (1, .int (nI M))] [] (nx, h) 0 0
  refine aw_aload_n (i := 0) d_Heap_init_0 rfl rfl ?_
  refine aw_objInit d_Heap_init_1 oi_Heap_3 (by decide) (Nat.le_of_ble_eq_true rfl) ?_
  refine aw_aload_n (i := 0) d_Heap_init_4 rfl rfl ?_
  refine aw_iconst (v := nI 0) d_Heap_init_5 (by decide) ?_
  refine aw_iload_n (i := 1) d_Heap_init_6 rfl rfl ?_
  apply aw_calls_p (max_0 M hM) d_Heap_init_7 cl_Heap_9; rfl; rfl; decide; exact Nat.le_of_ble_eq_true rfl; exact (by omega); exact (by omega)
  refine aw_newaI (41) (N := M) d_Heap_init_10 rfl (by omega) (by omega) (by omega) ?_
  refine aw_nn hd ?_
  intro h hb f_ o_ hd
  have ha := f_ _ _ ha (by first | (simp; done) | (simp; omega))
  have FR := FR.tr (f_.up (fun _ z => absurd z List.not_mem_nil))
  apply aw_putF d_Heap_init_12 pl_Heap_15 rfl; exact ha; exact Nat.le_of_ble_eq_true rfl; exact rfl; exact rfl
  refine aw_nm ha ?_
  intro h ha_ f_ o_
  have hd := dom_o hd ha o_
  have hb := f_ _ _ hb (by first | (simp; done) | (simp; omega))
  have ha := ha_
  have FR := FR.tr (f_.up (by first | (simp; done) | (simp; omega)))
  refine aw_aload_n (i := 0) d_Heap_init_15 rfl rfl ?_
  refine aw_iconst (v := nI 0) d_Heap_init_16 (by decide) ?_
  refine aw_iload_n (i := 1) d_Heap_init_17 rfl rfl ?_
  apply aw_calls_p (max_0 M hM) d_Heap_init_18 cl_Heap_9; rfl; rfl; decide; exact Nat.le_of_ble_eq_true rfl; exact (by omega); exact (by omega)
  refine aw_newaI (42) (N := M) d_Heap_init_21 rfl (by omega) (by omega) (by omega) ?_
  refine aw_nn hd ?_
  intro h hc f_ o_ hd
  have ha := f_ _ _ ha (by first | (simp; done) | (simp; omega))
  have hb := f_ _ _ hb (by first | (simp; done) | (simp; omega))
  have FR := FR.tr (f_.up (fun _ z => absurd z List.not_mem_nil))
  apply aw_putF d_Heap_init_23 pl_Heap_21 rfl; exact ha; exact Nat.le_of_ble_eq_true rfl; exact rfl; exact rfl
  refine aw_nm ha ?_
  intro h ha_ f_ o_
  have hd := dom_o hd ha o_
  have hb := f_ _ _ hb (by first | (simp; done) | (simp; omega))
  have hc := f_ _ _ hc (by first | (simp; done) | (simp; omega))
  have ha := ha_
  have FR := FR.tr (f_.up (by first | (simp; done) | (simp; omega)))
  refine aw_aload_n (i := 0) d_Heap_init_26 rfl rfl ?_
  refine aw_iconst (v := nI 0) d_Heap_init_27 (by decide) ?_
  refine aw_iload_n (i := 1) d_Heap_init_28 rfl rfl ?_
  apply aw_calls_p (max_0 M hM) d_Heap_init_29 cl_Heap_9; rfl; rfl; decide; exact Nat.le_of_ble_eq_true rfl; exact (by omega); exact (by omega)
  refine aw_newaI (43) (N := M) d_Heap_init_32 rfl (by omega) (by omega) (by omega) ?_
  refine aw_nn hd ?_
  intro h he f_ o_ hd
  have ha := f_ _ _ ha (by first | (simp; done) | (simp; omega))
  have hb := f_ _ _ hb (by first | (simp; done) | (simp; omega))
  have hc := f_ _ _ hc (by first | (simp; done) | (simp; omega))
  have FR := FR.tr (f_.up (fun _ z => absurd z List.not_mem_nil))
  apply aw_putF d_Heap_init_34 pl_Heap_24 rfl; exact ha; exact Nat.le_of_ble_eq_true rfl; exact rfl; exact rfl
  refine aw_nm ha ?_
  intro h ha_ f_ o_
  have hd := dom_o hd ha o_
  have hb := f_ _ _ hb (by first | (simp; done) | (simp; omega))
  have hc := f_ _ _ hc (by first | (simp; done) | (simp; omega))
  have he := f_ _ _ he (by first | (simp; done) | (simp; omega))
  have ha := ha_
  have FR := FR.tr (f_.up (by first | (simp; done) | (simp; omega)))
  refine aw_vret d_Heap_init_37 rfl (by omega) (by omega) ?_
  exact ⟨rfl, h, rfl, hd, ⟨_, _, _, _, _, _, ha, hb, hc, he⟩, FR⟩

set_option maxHeartbeats 4000000 in
set_option maxRecDepth 20000 in
theorem c_Pairs_init {G : aG} {nx : Nat} {h : Nat → Option aC} (b : Nat) {a M : Nat} (pas : List Nat) (hM6 : M ≤ 6) (ha : h a = some (ob b 5 [.null, .int 0])) (hd : Dom nx h) : AMet G m_Pairs_init 4 1 3 [.ref a, .int (nI M)] (nx, h) (fun r w => r = none ∧ ∃ h2, w = (nx + 1, h2) ∧ Dom (nx + 1) h2 ∧ PaA b h2 a M [] pas ∧ Fr [b, b + 1] h h2) := by
  have FR : Fr [b, b + 1] h h := Fr.rf
  refine amet_of pf_Pairs_init (Nat.le_of_ble_eq_true rfl) ?_
  show AW G m_Pairs_init 4 1 3 _ 0 [(0, .ref a), (1, .int (nI M))] [] (nx, h) 0 0
  refine aw_aload_n (i := 0) d_Pairs_init_0 rfl rfl ?_
  refine aw_objInit d_Pairs_init_1 oi_Pairs_1 (by decide) (Nat.le_of_ble_eq_true rfl) ?_
  refine aw_aload_n (i := 0) d_Pairs_init_4 rfl rfl ?_
  refine aw_new (b + 1) (N := 3) d_Pairs_init_5 nl_Pairs_7 rfl (by omega) (by omega) ?_
  refine aw_nn hd ?_
  intro h hb f_ o_ hd
  have ha := f_ _ _ ha (by first | (simp; done) | (simp; omega))
  have FR := FR.tr (f_.up (fun _ z => absurd z List.not_mem_nil))
  refine aw_dup d_Pairs_init_8 rfl ?_
  apply aw_calli d_Pairs_init_9 cl_Pairs_9 (c_AL_init hb); rfl; rfl; decide; exact (by omega); exact (by omega); exact Nat.le_of_ble_eq_true rfl
  rintro _ _ ⟨rfl, rfl⟩
  refine aw_nm hb ?_
  intro h hb_ fr_ o_
  have hd := dom_o hd hb o_
  have hb := hb_
  have ha := fr_ _ _ ha (by first | (simp; done) | (simp; omega))
  have FR := FR.tr (fr_.up (by first | (simp; done) | (simp; omega)))
  apply aw_putF d_Pairs_init_12 pl_Pairs_10 rfl; exact ha; exact Nat.le_of_ble_eq_true rfl; exact rfl; exact rfl
  refine aw_nm ha ?_
  intro h ha_ f_ o_
  have hd := dom_o hd ha o_
  have hb := f_ _ _ hb (by first | (simp; done) | (simp; omega))
  have ha := ha_
  have FR := FR.tr (f_.up (by first | (simp; done) | (simp; omega)))
  refine aw_aload_n (i := 0) d_Pairs_init_15 rfl rfl ?_
  refine aw_iload_n (i := 1) d_Pairs_init_16 rfl rfl ?_
  apply aw_putF d_Pairs_init_17 pl_Pairs_16 rfl; exact ha; exact Nat.le_of_ble_eq_true rfl; exact rfl; exact rfl
  refine aw_nm ha ?_
  intro h ha_ f_ o_
  have hd := dom_o hd ha o_
  have hb := f_ _ _ hb (by first | (simp; done) | (simp; omega))
  have ha := ha_
  have FR := FR.tr (f_.up (by first | (simp; done) | (simp; omega)))
  refine aw_vret d_Pairs_init_20 rfl (by omega) (by omega) ?_
  exact ⟨rfl, h, rfl, hd, ⟨_, [], ha, ⟨0, 0, hb, Or.inl ⟨rfl, rfl⟩⟩, rfl, Nat.zero_le _, hM6, fun j hj => absurd hj (Nat.not_lt_zero _)⟩, FR⟩

set_option maxHeartbeats 4000000 in
set_option maxRecDepth 20000 in
theorem c_Prop_init {G : aG} {nx : Nat} {h : Nat → Option aC} (t : Nat) {a k w : Nat} {nu fi : Int32} (hk2 : 2 ≤ k) (hk : k ≤ 4) (hw1 : 1 ≤ w) (hw : w ≤ 20000) (ha : h a = some (ob t 6 [.int 0, .int 0, .int 0, .int 0, .int 0, .int 0, .int 0, .int 0])) (hd : Dom nx h) : AMet G m_Prop_init 1 0 0 [.ref a, .int nu, .int (nI k), .int fi, .int (nI w)] (nx, h) (fun r w9 => r = none ∧ ∃ h2, w9 = (nx, h2) ∧ Dom nx h2 ∧ h2 a = some (ob t 6 [.int nu, .int (nI k), .int fi, .int (nI w), .int (-1), .int (-1), .int (-1), .int (-1)]) ∧ Fr [t] h h2) := by
  have FR : Fr [t] h h := Fr.rf
  refine amet_of pf_Prop_init (Nat.le_of_ble_eq_true rfl) ?_
  show AW G m_Prop_init 1 0 0 _ 0 [(0, .ref a), (1, .int nu), (2, .int (nI k)), (3, .int fi), (4, .int (nI w))] [] (nx, h) 0 0
  refine aw_aload_n (i := 0) d_Prop_init_0 rfl rfl ?_
  refine aw_objInit d_Prop_init_1 oi_Prop_3 (by decide) (Nat.le_of_ble_eq_true rfl) ?_
  refine aw_aload_n (i := 0) d_Prop_init_4 rfl rfl ?_
  refine aw_iconst (v := -1) d_Prop_init_5 (by decide) ?_
  apply aw_put d_Prop_init_6 pl_Prop_9; exact ha; exact Nat.le_of_ble_eq_true rfl; exact rfl; exact rfl
  refine aw_nm ha ?_
  intro h ha_ f_ o_
  have hd := dom_o hd ha o_
  have ha := ha_
  have FR := FR.tr (f_.up (by first | (simp; done) | (simp; omega)))
  refine aw_aload_n (i := 0) d_Prop_init_9 rfl rfl ?_
  refine aw_iconst (v := -1) d_Prop_init_10 (by decide) ?_
  apply aw_put d_Prop_init_11 pl_Prop_15; exact ha; exact Nat.le_of_ble_eq_true rfl; exact rfl; exact rfl
  refine aw_nm ha ?_
  intro h ha_ f_ o_
  have hd := dom_o hd ha o_
  have ha := ha_
  have FR := FR.tr (f_.up (by first | (simp; done) | (simp; omega)))
  refine aw_aload_n (i := 0) d_Prop_init_14 rfl rfl ?_
  refine aw_iconst (v := -1) d_Prop_init_15 (by decide) ?_
  apply aw_put d_Prop_init_16 pl_Prop_18; exact ha; exact Nat.le_of_ble_eq_true rfl; exact rfl; exact rfl
  refine aw_nm ha ?_
  intro h ha_ f_ o_
  have hd := dom_o hd ha o_
  have ha := ha_
  have FR := FR.tr (f_.up (by first | (simp; done) | (simp; omega)))
  refine aw_aload_n (i := 0) d_Prop_init_19 rfl rfl ?_
  refine aw_iconst (v := -1) d_Prop_init_20 (by decide) ?_
  apply aw_put d_Prop_init_21 pl_Prop_21; exact ha; exact Nat.le_of_ble_eq_true rfl; exact rfl; exact rfl
  refine aw_nm ha ?_
  intro h ha_ f_ o_
  have hd := dom_o hd ha o_
  have ha := ha_
  have FR := FR.tr (f_.up (by first | (simp; done) | (simp; omega)))
  refine aw_aload_n (i := 0) d_Prop_init_24 rfl rfl ?_
  refine aw_iload_n (i := 1) d_Prop_init_25 rfl rfl ?_
  apply aw_putF d_Prop_init_26 pl_Prop_24 rfl; exact ha; exact Nat.le_of_ble_eq_true rfl; exact rfl; exact rfl
  refine aw_nm ha ?_
  intro h ha_ f_ o_
  have hd := dom_o hd ha o_
  have ha := ha_
  have FR := FR.tr (f_.up (by first | (simp; done) | (simp; omega)))
  refine aw_aload_n (i := 0) d_Prop_init_29 rfl rfl ?_
  refine aw_iconst (v := nI 2) d_Prop_init_30 (by decide) ?_
  refine aw_iload_n (i := 2) d_Prop_init_31 rfl rfl ?_
  apply aw_calls_p (c_Math_max_nI 2 k (by decide) (by omega)) d_Prop_init_32 cl_Prop_27; rfl; rfl; decide; exact Nat.le_of_ble_eq_true rfl; exact (by omega); exact (by omega)
  rw [Nat.max_eq_right hk2]
  apply aw_putF d_Prop_init_35 pl_Prop_33 rfl; exact ha; exact Nat.le_of_ble_eq_true rfl; exact rfl; exact rfl
  refine aw_nm ha ?_
  intro h ha_ f_ o_
  have hd := dom_o hd ha o_
  have ha := ha_
  have FR := FR.tr (f_.up (by first | (simp; done) | (simp; omega)))
  refine aw_aload_n (i := 0) d_Prop_init_38 rfl rfl ?_
  refine aw_iconst (v := nI 1) d_Prop_init_39 (by decide) ?_
  refine aw_iload d_Prop_init_40 rfl ?_
  apply aw_calls_p (c_Math_max_nI 1 w (by decide) (by omega)) d_Prop_init_42 cl_Prop_27; rfl; rfl; decide; exact Nat.le_of_ble_eq_true rfl; exact (by omega); exact (by omega)
  rw [Nat.max_eq_right hw1]
  apply aw_putF d_Prop_init_45 pl_Prop_36 rfl; exact ha; exact Nat.le_of_ble_eq_true rfl; exact rfl; exact rfl
  refine aw_nm ha ?_
  intro h ha_ f_ o_
  have hd := dom_o hd ha o_
  have ha := ha_
  have FR := FR.tr (f_.up (by first | (simp; done) | (simp; omega)))
  refine aw_aload_n (i := 0) d_Prop_init_48 rfl rfl ?_
  refine aw_iload_n (i := 3) d_Prop_init_49 rfl rfl ?_
  apply aw_putF d_Prop_init_50 pl_Prop_39 rfl; exact ha; exact Nat.le_of_ble_eq_true rfl; exact rfl; exact rfl
  refine aw_nm ha ?_
  intro h ha_ f_ o_
  have hd := dom_o hd ha o_
  have ha := ha_
  have FR := FR.tr (f_.up (by first | (simp; done) | (simp; omega)))
  refine aw_vret d_Prop_init_53 rfl (by omega) (by omega) ?_
  exact ⟨rfl, h, rfl, hd, ha, FR⟩

set_option maxHeartbeats 4000000 in
set_option maxRecDepth 20000 in
theorem c_Row_init {G : aG} {nx : Nat} {h : Nat → Option aC} {a : Nat} (ha : h a = some (ob 11 7 [.null, .int 0])) (hd : Dom nx h) : AMet G m_Row_init 1 1 256 [.ref a] (nx, h) (fun r w => r = none ∧ ∃ h2, w = (nx + 1, h2) ∧ Dom (nx + 1) h2 ∧ RoA h2 a 256 [] ∧ Fr [11] h h2) := by
  have FR : Fr [11] h h := Fr.rf
  refine amet_of pf_Row_init (Nat.le_of_ble_eq_true rfl) ?_
  show AW G m_Row_init 1 1 256 _ 0 [(0, .ref a)] [] (nx, h) 0 0
  refine aw_aload_n (i := 0) d_Row_init_0 rfl rfl ?_
  refine aw_objInit d_Row_init_1 oi_Row_3 (by decide) (Nat.le_of_ble_eq_true rfl) ?_
  refine aw_aload_n (i := 0) d_Row_init_4 rfl rfl ?_
  refine aw_sipush (v := nI 256) d_Row_init_5 (by decide) ?_
  refine aw_newaI (12) (N := 256) d_Row_init_8 rfl (by omega) (by omega) (by omega) ?_
  refine aw_nn hd ?_
  intro h hb f_ o_ hd
  have ha := f_ _ _ ha (by first | (simp; done) | (simp; omega))
  have FR := FR.tr (f_.up (fun _ z => absurd z List.not_mem_nil))
  apply aw_put d_Row_init_10 pl_Row_9; exact ha; exact Nat.le_of_ble_eq_true rfl; exact rfl; exact rfl
  refine aw_nm ha ?_
  intro h ha_ f_ o_
  have hd := dom_o hd ha o_
  have hb := f_ _ _ hb (by first | (simp; done) | (simp; omega))
  have ha := ha_
  have FR := FR.tr (f_.up (by first | (simp; done) | (simp; omega)))
  refine aw_vret d_Row_init_13 rfl (by omega) (by omega) ?_
  exact ⟨rfl, h, rfl, hd, ⟨_, _, ha, hb, Nat.zero_le _, by decide, fun j hj => absurd hj (Nat.not_lt_zero _)⟩, FR⟩

set_option maxHeartbeats 4000000 in
set_option maxRecDepth 20000 in
theorem c_Diary_init {G : aG} {nx : Nat} {h : Nat → Option aC} {a : Nat} (ha : h a = some (ob 13 0 [.null, .null, .null, .int 0, .int 0, .int 0])) (hd : Dom nx h) : AMet G m_Diary_init 1 3 600 [.ref a] (nx, h) (fun r w => r = none ∧ ∃ h2, w = (nx + 3, h2) ∧ Dom (nx + 3) h2 ∧ DiA h2 a [] ∧ Fr [13] h h2) := by
  have FR : Fr [13] h h := Fr.rf
  refine amet_of pf_Diary_init (Nat.le_of_ble_eq_true rfl) ?_
  show AW G m_Diary_init 1 3 600 _ 0 [(0, .ref a)] [] (nx, h) 0 0
  refine aw_aload_n (i := 0) d_Diary_init_0 rfl rfl ?_
  refine aw_objInit d_Diary_init_1 oi_Diary_3 (by decide) (Nat.le_of_ble_eq_true rfl) ?_
  refine aw_aload_n (i := 0) d_Diary_init_4 rfl rfl ?_
  refine aw_sipush (v := nI 200) d_Diary_init_5 (by decide) ?_
  refine aw_newaI (14) (N := 200) d_Diary_init_8 rfl (by omega) (by omega) (by omega) ?_
  refine aw_nn hd ?_
  intro h hb f_ o_ hd
  have ha := f_ _ _ ha (by first | (simp; done) | (simp; omega))
  have FR := FR.tr (f_.up (fun _ z => absurd z List.not_mem_nil))
  apply aw_putF d_Diary_init_10 pl_Diary_9 rfl; exact ha; exact Nat.le_of_ble_eq_true rfl; exact rfl; exact rfl
  refine aw_nm ha ?_
  intro h ha_ f_ o_
  have hd := dom_o hd ha o_
  have hb := f_ _ _ hb (by first | (simp; done) | (simp; omega))
  have ha := ha_
  have FR := FR.tr (f_.up (by first | (simp; done) | (simp; omega)))
  refine aw_aload_n (i := 0) d_Diary_init_13 rfl rfl ?_
  refine aw_sipush (v := nI 200) d_Diary_init_14 (by decide) ?_
  refine aw_newaI (15) (N := 200) d_Diary_init_17 rfl (by omega) (by omega) (by omega) ?_
  refine aw_nn hd ?_
  intro h hc f_ o_ hd
  have ha := f_ _ _ ha (by first | (simp; done) | (simp; omega))
  have hb := f_ _ _ hb (by first | (simp; done) | (simp; omega))
  have FR := FR.tr (f_.up (fun _ z => absurd z List.not_mem_nil))
  apply aw_putF d_Diary_init_19 pl_Diary_15 rfl; exact ha; exact Nat.le_of_ble_eq_true rfl; exact rfl; exact rfl
  refine aw_nm ha ?_
  intro h ha_ f_ o_
  have hd := dom_o hd ha o_
  have hb := f_ _ _ hb (by first | (simp; done) | (simp; omega))
  have hc := f_ _ _ hc (by first | (simp; done) | (simp; omega))
  have ha := ha_
  have FR := FR.tr (f_.up (by first | (simp; done) | (simp; omega)))
  refine aw_aload_n (i := 0) d_Diary_init_22 rfl rfl ?_
  refine aw_sipush (v := nI 200) d_Diary_init_23 (by decide) ?_
  refine aw_newaI (16) (N := 200) d_Diary_init_26 rfl (by omega) (by omega) (by omega) ?_
  refine aw_nn hd ?_
  intro h he f_ o_ hd
  have ha := f_ _ _ ha (by first | (simp; done) | (simp; omega))
  have hb := f_ _ _ hb (by first | (simp; done) | (simp; omega))
  have hc := f_ _ _ hc (by first | (simp; done) | (simp; omega))
  have FR := FR.tr (f_.up (fun _ z => absurd z List.not_mem_nil))
  apply aw_putF d_Diary_init_28 pl_Diary_18 rfl; exact ha; exact Nat.le_of_ble_eq_true rfl; exact rfl; exact rfl
  refine aw_nm ha ?_
  intro h ha_ f_ o_
  have hd := dom_o hd ha o_
  have hb := f_ _ _ hb (by first | (simp; done) | (simp; omega))
  have hc := f_ _ _ hc (by first | (simp; done) | (simp; omega))
  have he := f_ _ _ he (by first | (simp; done) | (simp; omega))
  have ha := ha_
  have FR := FR.tr (f_.up (by first | (simp; done) | (simp; omega)))
  refine aw_vret d_Diary_init_31 rfl (by omega) (by omega) ?_
  exact ⟨rfl, h, rfl, hd, ⟨_, _, _, _, _, _, ha, hb, hc, he, fun j hj => absurd hj (Nat.not_lt_zero _)⟩, FR⟩

set_option maxHeartbeats 4000000 in
set_option maxRecDepth 20000 in
theorem c_Step_init {G : aG} {nx : Nat} {h : Nat → Option aC} (j : Nat) {a : Nat} (pas : List Nat) {kd hn tk rm : Int32} (ha : h a = some (ob (300 + 20 * j) 8 [.int 0, .int 0, .int 0, .int 0, .null, .null, .int 0])) (hd : Dom nx h) : AMet G m_Step_init 5 4 10 [.ref a, .int kd, .int hn, .int tk, .int rm] (nx, h) (fun r w => r = none ∧ ∃ h2, w = (nx + 4, h2) ∧ Dom (nx + 4) h2 ∧ (∃ na ga : Nat, h2 a = some (ob (300 + 20 * j) 8 [.int kd, .int hn, .int tk, .int rm, .ref na, .ref ga, .int 0]) ∧ PaA (301 + 20 * j) h2 na 4 [] pas ∧ PaA (306 + 20 * j) h2 ga 4 [] pas) ∧ Fr [300 + 20 * j, 301 + 20 * j, 302 + 20 * j, 306 + 20 * j, 307 + 20 * j] h h2) := by
  have FR : Fr [300 + 20 * j, 301 + 20 * j, 302 + 20 * j, 306 + 20 * j, 307 + 20 * j] h h := Fr.rf
  refine amet_of pf_Step_init (Nat.le_of_ble_eq_true rfl) ?_
  show AW G m_Step_init 5 4 10 _ 0 [(0, .ref a), (1, .int kd), (2, .int hn), (3, .int tk), (4, .int rm)] [] (nx, h) 0 0
  refine aw_aload_n (i := 0) d_Step_init_0 rfl rfl ?_
  refine aw_objInit d_Step_init_1 oi_Step_3 (by decide) (Nat.le_of_ble_eq_true rfl) ?_
  refine aw_aload_n (i := 0) d_Step_init_4 rfl rfl ?_
  refine aw_new (301 + 20 * j) (N := 2) d_Step_init_5 nl_Step_9 rfl (by omega) (by omega) ?_
  refine aw_nn hd ?_
  intro h hb f_ o_ hd
  have ha := f_ _ _ ha (by first | (simp; done) | (simp; omega))
  have FR := FR.tr (f_.up (fun _ z => absurd z List.not_mem_nil))
  refine aw_dup d_Step_init_8 rfl ?_
  refine aw_iconst (v := nI 4) d_Step_init_9 (by decide) ?_
  apply aw_calli d_Step_init_10 cl_Step_11 (c_Pairs_init (301 + 20 * j) (M := 4) pas (by decide) hb hd); rfl; rfl; decide; exact (by omega); exact (by omega); exact Nat.le_of_ble_eq_true rfl
  rintro _ _ ⟨rfl, h, rfl, hd, hP, fr_⟩
  have ha := fr_ _ _ ha (by first | (simp; done) | (simp; omega))
  have FR := FR.tr (fr_.up (by first | (simp; done) | (simp; omega)))
  apply aw_putF d_Step_init_13 pl_Step_14 rfl; exact ha; exact Nat.le_of_ble_eq_true rfl; exact rfl; exact rfl
  refine aw_nm ha ?_
  intro h ha_ f_ o_
  have hd := dom_o hd ha o_
  have ha := ha_
  have FR := FR.tr (f_.up (by first | (simp; done) | (simp; omega)))
  have hP := hP.fr f_ (fun x hx => by simp; omega)
  refine aw_aload_n (i := 0) d_Step_init_16 rfl rfl ?_
  refine aw_new (306 + 20 * j) (N := 2) d_Step_init_17 nl_Step_9 rfl (by omega) (by omega) ?_
  refine aw_nn hd ?_
  intro h hb f_ o_ hd
  have ha := f_ _ _ ha (by first | (simp; done) | (simp; omega))
  have FR := FR.tr (f_.up (fun _ z => absurd z List.not_mem_nil))
  have hP := hP.fr f_ (fun x hx => by simp)
  refine aw_dup d_Step_init_20 rfl ?_
  refine aw_iconst (v := nI 4) d_Step_init_21 (by decide) ?_
  apply aw_calli d_Step_init_22 cl_Step_11 (c_Pairs_init (306 + 20 * j) (M := 4) pas (by decide) hb hd); rfl; rfl; decide; exact (by omega); exact (by omega); exact Nat.le_of_ble_eq_true rfl
  rintro _ _ ⟨rfl, h, rfl, hd, hQ, fr_⟩
  have hP := hP.fr fr_ (fun x hx => by simp; omega)
  have ha := fr_ _ _ ha (by first | (simp; done) | (simp; omega))
  have FR := FR.tr (fr_.up (by first | (simp; done) | (simp; omega)))
  apply aw_putF d_Step_init_25 pl_Step_20 rfl; exact ha; exact Nat.le_of_ble_eq_true rfl; exact rfl; exact rfl
  refine aw_nm ha ?_
  intro h ha_ f_ o_
  have hd := dom_o hd ha o_
  have ha := ha_
  have FR := FR.tr (f_.up (by first | (simp; done) | (simp; omega)))
  have hP := hP.fr f_ (fun x hx => by simp; omega)
  have hQ := hQ.fr f_ (fun x hx => by simp; omega)
  refine aw_aload_n (i := 0) d_Step_init_28 rfl rfl ?_
  refine aw_iload_n (i := 1) d_Step_init_29 rfl rfl ?_
  apply aw_putF d_Step_init_30 pl_Step_23 rfl; exact ha; exact Nat.le_of_ble_eq_true rfl; exact rfl; exact rfl
  refine aw_nm ha ?_
  intro h ha_ f_ o_
  have hd := dom_o hd ha o_
  have ha := ha_
  have FR := FR.tr (f_.up (by first | (simp; done) | (simp; omega)))
  have hP := hP.fr f_ (fun x hx => by simp; omega)
  have hQ := hQ.fr f_ (fun x hx => by simp; omega)
  refine aw_aload_n (i := 0) d_Step_init_33 rfl rfl ?_
  refine aw_iload_n (i := 2) d_Step_init_34 rfl rfl ?_
  apply aw_putF d_Step_init_35 pl_Step_27 rfl; exact ha; exact Nat.le_of_ble_eq_true rfl; exact rfl; exact rfl
  refine aw_nm ha ?_
  intro h ha_ f_ o_
  have hd := dom_o hd ha o_
  have ha := ha_
  have FR := FR.tr (f_.up (by first | (simp; done) | (simp; omega)))
  have hP := hP.fr f_ (fun x hx => by simp; omega)
  have hQ := hQ.fr f_ (fun x hx => by simp; omega)
  refine aw_aload_n (i := 0) d_Step_init_38 rfl rfl ?_
  refine aw_iload_n (i := 3) d_Step_init_39 rfl rfl ?_
  apply aw_putF d_Step_init_40 pl_Step_30 rfl; exact ha; exact Nat.le_of_ble_eq_true rfl; exact rfl; exact rfl
  refine aw_nm ha ?_
  intro h ha_ f_ o_
  have hd := dom_o hd ha o_
  have ha := ha_
  have FR := FR.tr (f_.up (by first | (simp; done) | (simp; omega)))
  have hP := hP.fr f_ (fun x hx => by simp; omega)
  have hQ := hQ.fr f_ (fun x hx => by simp; omega)
  refine aw_aload_n (i := 0) d_Step_init_43 rfl rfl ?_
  refine aw_iload d_Step_init_44 rfl ?_
  apply aw_putF d_Step_init_46 pl_Step_33 rfl; exact ha; exact Nat.le_of_ble_eq_true rfl; exact rfl; exact rfl
  refine aw_nm ha ?_
  intro h ha_ f_ o_
  have hd := dom_o hd ha o_
  have ha := ha_
  have FR := FR.tr (f_.up (by first | (simp; done) | (simp; omega)))
  have hP := hP.fr f_ (fun x hx => by simp; omega)
  have hQ := hQ.fr f_ (fun x hx => by simp; omega)
  refine aw_vret d_Step_init_49 rfl (by omega) (by omega) ?_
  exact ⟨rfl, h, rfl, hd, ⟨_, _, ha, hP, hQ⟩, FR⟩

set_option maxHeartbeats 4000000 in
set_option maxRecDepth 20000 in
theorem c_House_init {G : aG} {nx : Nat} {h : Nat → Option aC} {a : Nat} (ha : h a = some (ob 2 3 [.null, .null, .null, .int 0, .int 0, .int 0])) (hd : Dom nx h) : AMet G m_House_init 5 4 11 [.ref a] (nx, h) (fun r w => r = none ∧ ∃ h2, w = (nx + 4, h2) ∧ Dom (nx + 4) h2 ∧ (∃ ad : AD, ad.1 = a ∧ HoA h2 hsC ad (hsta hsC)) ∧ Fr [2, 3, 5, 7, 8] h h2) := by
  have FR : Fr [2, 3, 5, 7, 8] h h := Fr.rf
  refine amet_of pf_House_init (Nat.le_of_ble_eq_true rfl) ?_
  show AW G m_House_init 5 4 11 _ 0 [(0, .ref a)] [] (nx, h) 0 0
  refine aw_aload_n (i := 0) d_House_init_0 rfl rfl ?_
  refine aw_objInit d_House_init_1 oi_House_3 (by decide) (Nat.le_of_ble_eq_true rfl) ?_
  refine aw_aload_n (i := 0) d_House_init_4 rfl rfl ?_
  refine aw_new (3) (N := 3) d_House_init_5 nl_House_9 rfl (by omega) (by omega) ?_
  refine aw_nn hd ?_
  intro h hp f_ o_ hd
  have ha := f_ _ _ ha (by first | (simp; done) | (simp; omega))
  have FR := FR.tr (f_.up (fun _ z => absurd z List.not_mem_nil))
  refine aw_dup d_House_init_8 rfl ?_
  apply aw_calli d_House_init_9 cl_House_11 (c_AL_init hp); rfl; rfl; decide; exact (by omega); exact (by omega); exact Nat.le_of_ble_eq_true rfl
  rintro _ _ ⟨rfl, rfl⟩
  refine aw_nm hp ?_
  intro h hp_ fr_ o_
  have hd := dom_o hd hp o_
  have hp := hp_
  have ha := fr_ _ _ ha (by first | (simp; done) | (simp; omega))
  have FR := FR.tr (fr_.up (by first | (simp; done) | (simp; omega)))
  apply aw_putF d_House_init_12 pl_House_12 rfl; exact ha; exact Nat.le_of_ble_eq_true rfl; exact rfl; exact rfl
  refine aw_nm ha ?_
  intro h ha_ f_ o_
  have hd := dom_o hd ha o_
  have hp := f_ _ _ hp (by first | (simp; done) | (simp; omega))
  have ha := ha_
  have FR := FR.tr (f_.up (by first | (simp; done) | (simp; omega)))
  refine aw_aload_n (i := 0) d_House_init_15 rfl rfl ?_
  refine aw_new (5) (N := 3) d_House_init_16 nl_House_9 rfl (by omega) (by omega) ?_
  refine aw_nn hd ?_
  intro h hs9 f_ o_ hd
  have ha := f_ _ _ ha (by first | (simp; done) | (simp; omega))
  have hp := f_ _ _ hp (by first | (simp; done) | (simp; omega))
  have FR := FR.tr (f_.up (fun _ z => absurd z List.not_mem_nil))
  refine aw_dup d_House_init_19 rfl ?_
  apply aw_calli d_House_init_20 cl_House_11 (c_AL_init hs9); rfl; rfl; decide; exact (by omega); exact (by omega); exact Nat.le_of_ble_eq_true rfl
  rintro _ _ ⟨rfl, rfl⟩
  refine aw_nm hs9 ?_
  intro h hs_ fr_ o_
  have hd := dom_o hd hs9 o_
  have hs9 := hs_
  have ha := fr_ _ _ ha (by first | (simp; done) | (simp; omega))
  have hp := fr_ _ _ hp (by first | (simp; done) | (simp; omega))
  have FR := FR.tr (fr_.up (by first | (simp; done) | (simp; omega)))
  apply aw_putF d_House_init_23 pl_House_18 rfl; exact ha; exact Nat.le_of_ble_eq_true rfl; exact rfl; exact rfl
  refine aw_nm ha ?_
  intro h ha_ f_ o_
  have hd := dom_o hd ha o_
  have hp := f_ _ _ hp (by first | (simp; done) | (simp; omega))
  have hs9 := f_ _ _ hs9 (by first | (simp; done) | (simp; omega))
  have ha := ha_
  have FR := FR.tr (f_.up (by first | (simp; done) | (simp; omega)))
  refine aw_aload_n (i := 0) d_House_init_26 rfl rfl ?_
  refine aw_new (7) (N := 2) d_House_init_27 nl_House_21 rfl (by omega) (by omega) ?_
  refine aw_nn hd ?_
  intro h hb f_ o_ hd
  have ha := f_ _ _ ha (by first | (simp; done) | (simp; omega))
  have hp := f_ _ _ hp (by first | (simp; done) | (simp; omega))
  have hs9 := f_ _ _ hs9 (by first | (simp; done) | (simp; omega))
  have FR := FR.tr (f_.up (fun _ z => absurd z List.not_mem_nil))
  refine aw_dup d_House_init_30 rfl ?_
  refine aw_bipush (v := nI 6) d_House_init_31 (by decide) ?_
  apply aw_calli d_House_init_33 cl_House_23 (c_Pairs_init 7 (M := 6) [] (by decide) hb hd); rfl; rfl; decide; exact (by omega); exact (by omega); exact Nat.le_of_ble_eq_true rfl
  rintro _ _ ⟨rfl, h, rfl, hd, hP, fr_⟩
  have ha := fr_ _ _ ha (by first | (simp; done) | (simp; omega))
  have hp := fr_ _ _ hp (by first | (simp; done) | (simp; omega))
  have hs9 := fr_ _ _ hs9 (by first | (simp; done) | (simp; omega))
  have FR := FR.tr (fr_.up (by first | (simp; done) | (simp; omega)))
  apply aw_putF d_House_init_36 pl_House_26 rfl; exact ha; exact Nat.le_of_ble_eq_true rfl; exact rfl; exact rfl
  refine aw_nm ha ?_
  intro h ha_ f_ o_
  have hd := dom_o hd ha o_
  have hp := f_ _ _ hp (by first | (simp; done) | (simp; omega))
  have hs9 := f_ _ _ hs9 (by first | (simp; done) | (simp; omega))
  have ha := ha_
  have FR := FR.tr (f_.up (by first | (simp; done) | (simp; omega)))
  have hP := hP.fr f_ (fun x hx => by simp; omega)
  refine aw_aload_n (i := 0) d_House_init_39 rfl rfl ?_
  refine aw_iconst (v := nI 2) d_House_init_40 (by decide) ?_
  apply aw_put d_House_init_41 pl_House_30; exact ha; exact Nat.le_of_ble_eq_true rfl; exact rfl; exact rfl
  refine aw_nm ha ?_
  intro h ha_ f_ o_
  have hd := dom_o hd ha o_
  have hp := f_ _ _ hp (by first | (simp; done) | (simp; omega))
  have hs9 := f_ _ _ hs9 (by first | (simp; done) | (simp; omega))
  have ha := ha_
  have FR := FR.tr (f_.up (by first | (simp; done) | (simp; omega)))
  have hP := hP.fr f_ (fun x hx => by simp; omega)
  refine aw_aload_n (i := 0) d_House_init_44 rfl rfl ?_
  refine aw_iconst (v := nI 1) d_House_init_45 (by decide) ?_
  apply aw_put d_House_init_46 pl_House_34; exact ha; exact Nat.le_of_ble_eq_true rfl; exact rfl; exact rfl
  refine aw_nm ha ?_
  intro h ha_ f_ o_
  have hd := dom_o hd ha o_
  have hp := f_ _ _ hp (by first | (simp; done) | (simp; omega))
  have hs9 := f_ _ _ hs9 (by first | (simp; done) | (simp; omega))
  have ha := ha_
  have FR := FR.tr (f_.up (by first | (simp; done) | (simp; omega)))
  have hP := hP.fr f_ (fun x hx => by simp; omega)
  refine aw_aload_n (i := 0) d_House_init_49 rfl rfl ?_
  refine aw_iconst (v := nI 0) d_House_init_50 (by decide) ?_
  apply aw_put d_House_init_51 pl_House_37; exact ha; exact Nat.le_of_ble_eq_true rfl; exact rfl; exact rfl
  refine aw_nm ha ?_
  intro h ha_ f_ o_
  have hd := dom_o hd ha o_
  have hp := f_ _ _ hp (by first | (simp; done) | (simp; omega))
  have hs9 := f_ _ _ hs9 (by first | (simp; done) | (simp; omega))
  have ha := ha_
  have FR := FR.tr (f_.up (by first | (simp; done) | (simp; omega)))
  have hP := hP.fr f_ (fun x hx => by simp; omega)
  refine aw_vret d_House_init_54 rfl (by omega) (by omega) ?_
  exact ⟨rfl, h, rfl, hd, ⟨(_, _, _, _, [], []), rfl, ha, ⟨0, 0, hp, Or.inl ⟨rfl, rfl⟩⟩, ⟨0, 0, hs9, Or.inl ⟨rfl, rfl⟩⟩, hP, ⟨rfl, fun i hi => absurd hi (Nat.not_lt_zero _)⟩, ⟨rfl, fun i hi => absurd hi (Nat.not_lt_zero _)⟩⟩, FR⟩

def aW (a0 a1 a2 a3 a4 a5 a6 a7 a8 a9 a10 : Nat) : Nat → Nat
  | 0 => a0
  | 1 => a1
  | 2 => a2
  | 3 => a3
  | 4 => a4
  | 5 => a5
  | 6 => a6
  | 7 => a7
  | 8 => a8
  | 9 => a9
  | _ => a10
def fW (f0 f1 f2 f3 f4 f5 : Nat → Int32) : Nat → Nat → Int32
  | 0 => f0
  | 1 => f1
  | 2 => f2
  | 3 => f3
  | 4 => f4
  | _ => f5
theorem wa_mk {h : Nat → Option aC} {a0 a1 a2 a3 a4 a5 a6 a7 a8 a9 a10 M : Nat} {f0 f1 f2 f3 f4 f5 : Nat → Int32} (ha : h a0 = some (ob 30 9 [.int (nI M), .ref a1, .ref a2, .ref a3, .ref a4, .ref a5, .ref a6, .ref a7, .int 0, .int 0, .int 0, .int 0])) (h1 : LiA 31 h a1 M []) (h3 : h a3 = some (cI 34 M f0)) (h4 : LiA 35 h a4 M []) (h5 : h a5 = some (cI 38 M f1)) (h6 : h a6 = some (cI 39 M f2)) (h7 : HeS h a7 a8 a9 a10 M f3 f4 f5 0) (hM : M ≤ 20000) : ∃ (A : Nat → Nat) (ar : Nat → Nat → Int32), A 0 = a0 ∧ A 2 = a2 ∧ WaS h A M (false, false, false, 0) [] [] ar 0 := ⟨aW a0 a1 a2 a3 a4 a5 a6 a7 a8 a9 a10, fW f0 f1 f2 f3 f4 f5, rfl, rfl, ha, h1, h3, h4, h5, h6, h7, hM⟩
set_option maxHeartbeats 4000000 in
set_option maxRecDepth 20000 in
theorem c_Walk_init {G : aG} {nx : Nat} {h : Nat → Option aC} {a b M : Nat} (hM : M ≤ 20000) (ha : h a = some (ob 30 9 [.int 0, .null, .null, .null, .null, .null, .null, .null, .int 0, .int 0, .int 0, .int 0])) (hd : Dom nx h) : AMet G m_Walk_init 2 13 (10 * M + 10) [.ref a, .ref b, .int (nI M)] (nx, h) (fun r w => r = none ∧ ∃ h2, w = (nx + 13, h2) ∧ Dom (nx + 13) h2 ∧ (∃ (A : Nat → Nat) (ar : Nat → Nat → Int32), A 0 = a ∧ A 2 = b ∧ WaS h2 A M (false, false, false, 0) [] [] ar 0) ∧ Fr [30, 31, 35, 40] h h2) := by
  have FR : Fr [30, 31, 35, 40] h h := Fr.rf
  refine amet_of pf_Walk_init (Nat.le_of_ble_eq_true rfl) ?_
  show AW G m_Walk_init 2 13 (10 * M + 10) _ 0 [(0, .ref a), (1, .ref b), (2, .int (nI M))] [] (nx, h) 0 0
  refine aw_aload_n (i := 0) d_Walk_init_0 rfl rfl ?_
  refine aw_objInit d_Walk_init_1 oi_Walk_3 (by decide) (Nat.le_of_ble_eq_true rfl) ?_
  refine aw_aload_n (i := 0) d_Walk_init_4 rfl rfl ?_
  refine aw_aload_n (i := 1) d_Walk_init_5 rfl rfl ?_
  apply aw_putF d_Walk_init_6 pl_Walk_9 rfl; exact ha; exact Nat.le_of_ble_eq_true rfl; exact rfl; exact rfl
  refine aw_nm ha ?_
  intro h ha_ f_ o_
  have hd := dom_o hd ha o_
  have ha := ha_
  have FR := FR.tr (f_.up (by first | (simp; done) | (simp; omega)))
  refine aw_aload_n (i := 0) d_Walk_init_9 rfl rfl ?_
  refine aw_iconst (v := nI 0) d_Walk_init_10 (by decide) ?_
  refine aw_iload_n (i := 2) d_Walk_init_11 rfl rfl ?_
  apply aw_calls_p (max_0 M hM) d_Walk_init_12 cl_Walk_15; rfl; rfl; decide; exact Nat.le_of_ble_eq_true rfl; exact (by omega); exact (by omega)
  apply aw_putF d_Walk_init_15 pl_Walk_21 rfl; exact ha; exact Nat.le_of_ble_eq_true rfl; exact rfl; exact rfl
  refine aw_nm ha ?_
  intro h ha_ f_ o_
  have hd := dom_o hd ha o_
  have ha := ha_
  have FR := FR.tr (f_.up (by first | (simp; done) | (simp; omega)))
  refine aw_aload_n (i := 0) d_Walk_init_18 rfl rfl ?_
  refine aw_new (31) (N := 3) d_Walk_init_19 nl_Walk_25 rfl (by omega) (by omega) ?_
  refine aw_nn hd ?_
  intro h hb f_ o_ hd
  have ha := f_ _ _ ha (by first | (simp; done) | (simp; omega))
  have FR := FR.tr (f_.up (fun _ z => absurd z List.not_mem_nil))
  refine aw_dup d_Walk_init_22 rfl ?_
  refine aw_aload_n (i := 0) d_Walk_init_23 rfl rfl ?_
  apply aw_get d_Walk_init_24 fl_Walk_21; exact ha; rfl
  apply aw_calli d_Walk_init_27 cl_Walk_27 (c_Line_init 31 (M := M) hM hb hd); rfl; rfl; decide; exact (by omega); exact (by omega); exact Nat.le_of_ble_eq_true rfl
  rintro _ _ ⟨rfl, h, rfl, hd, hL1, fr_⟩
  have ha := fr_ _ _ ha (by first | (simp; done) | (simp; omega))
  have FR := FR.tr (fr_.up (by first | (simp; done) | (simp; omega)))
  apply aw_putF d_Walk_init_30 pl_Walk_30 rfl; exact ha; exact Nat.le_of_ble_eq_true rfl; exact rfl; exact rfl
  refine aw_nm ha ?_
  intro h ha_ f_ o_
  have hd := dom_o hd ha o_
  have ha := ha_
  have FR := FR.tr (f_.up (by first | (simp; done) | (simp; omega)))
  have hL1 := hL1.fr f_ (fun x hx => by first | (simp; done) | (simp; omega))
  refine aw_aload_n (i := 0) d_Walk_init_33 rfl rfl ?_
  refine aw_aload_n (i := 0) d_Walk_init_34 rfl rfl ?_
  apply aw_get d_Walk_init_35 fl_Walk_21; exact ha; rfl
  refine aw_newaI (34) (N := M) d_Walk_init_38 rfl (by omega) (by omega) (by omega) ?_
  refine aw_nn hd ?_
  intro h ho f_ o_ hd
  have ha := f_ _ _ ha (by first | (simp; done) | (simp; omega))
  have FR := FR.tr (f_.up (fun _ z => absurd z List.not_mem_nil))
  have hL1 := hL1.fr f_ (fun x hx => by first | (simp; done) | (simp; omega))
  apply aw_putF d_Walk_init_40 pl_Walk_34 rfl; exact ha; exact Nat.le_of_ble_eq_true rfl; exact rfl; exact rfl
  refine aw_nm ha ?_
  intro h ha_ f_ o_
  have hd := dom_o hd ha o_
  have ho := f_ _ _ ho (by first | (simp; done) | (simp; omega))
  have ha := ha_
  have FR := FR.tr (f_.up (by first | (simp; done) | (simp; omega)))
  have hL1 := hL1.fr f_ (fun x hx => by first | (simp; done) | (simp; omega))
  refine aw_aload_n (i := 0) d_Walk_init_43 rfl rfl ?_
  refine aw_new (35) (N := 3) d_Walk_init_44 nl_Walk_25 rfl (by omega) (by omega) ?_
  refine aw_nn hd ?_
  intro h hb f_ o_ hd
  have ha := f_ _ _ ha (by first | (simp; done) | (simp; omega))
  have ho := f_ _ _ ho (by first | (simp; done) | (simp; omega))
  have FR := FR.tr (f_.up (fun _ z => absurd z List.not_mem_nil))
  have hL1 := hL1.fr f_ (fun x hx => by first | (simp; done) | (simp; omega))
  refine aw_dup d_Walk_init_47 rfl ?_
  refine aw_aload_n (i := 0) d_Walk_init_48 rfl rfl ?_
  apply aw_get d_Walk_init_49 fl_Walk_21; exact ha; rfl
  apply aw_calli d_Walk_init_52 cl_Walk_27 (c_Line_init 35 (M := M) hM hb hd); rfl; rfl; decide; exact (by omega); exact (by omega); exact Nat.le_of_ble_eq_true rfl
  rintro _ _ ⟨rfl, h, rfl, hd, hL2, fr_⟩
  have hL1 := hL1.fr fr_ (fun x hx => by first | (simp; done) | (simp; omega))
  have ha := fr_ _ _ ha (by first | (simp; done) | (simp; omega))
  have ho := fr_ _ _ ho (by first | (simp; done) | (simp; omega))
  have FR := FR.tr (fr_.up (by first | (simp; done) | (simp; omega)))
  apply aw_putF d_Walk_init_55 pl_Walk_38 rfl; exact ha; exact Nat.le_of_ble_eq_true rfl; exact rfl; exact rfl
  refine aw_nm ha ?_
  intro h ha_ f_ o_
  have hd := dom_o hd ha o_
  have ho := f_ _ _ ho (by first | (simp; done) | (simp; omega))
  have ha := ha_
  have FR := FR.tr (f_.up (by first | (simp; done) | (simp; omega)))
  have hL1 := hL1.fr f_ (fun x hx => by first | (simp; done) | (simp; omega))
  have hL2 := hL2.fr f_ (fun x hx => by first | (simp; done) | (simp; omega))
  refine aw_aload_n (i := 0) d_Walk_init_58 rfl rfl ?_
  refine aw_aload_n (i := 0) d_Walk_init_59 rfl rfl ?_
  apply aw_get d_Walk_init_60 fl_Walk_21; exact ha; rfl
  refine aw_newaI (38) (N := M) d_Walk_init_63 rfl (by omega) (by omega) (by omega) ?_
  refine aw_nn hd ?_
  intro h ht f_ o_ hd
  have ha := f_ _ _ ha (by first | (simp; done) | (simp; omega))
  have ho := f_ _ _ ho (by first | (simp; done) | (simp; omega))
  have FR := FR.tr (f_.up (fun _ z => absurd z List.not_mem_nil))
  have hL1 := hL1.fr f_ (fun x hx => by first | (simp; done) | (simp; omega))
  have hL2 := hL2.fr f_ (fun x hx => by first | (simp; done) | (simp; omega))
  apply aw_putF d_Walk_init_65 pl_Walk_41 rfl; exact ha; exact Nat.le_of_ble_eq_true rfl; exact rfl; exact rfl
  refine aw_nm ha ?_
  intro h ha_ f_ o_
  have hd := dom_o hd ha o_
  have ho := f_ _ _ ho (by first | (simp; done) | (simp; omega))
  have ht := f_ _ _ ht (by first | (simp; done) | (simp; omega))
  have ha := ha_
  have FR := FR.tr (f_.up (by first | (simp; done) | (simp; omega)))
  have hL1 := hL1.fr f_ (fun x hx => by first | (simp; done) | (simp; omega))
  have hL2 := hL2.fr f_ (fun x hx => by first | (simp; done) | (simp; omega))
  refine aw_aload_n (i := 0) d_Walk_init_68 rfl rfl ?_
  refine aw_aload_n (i := 0) d_Walk_init_69 rfl rfl ?_
  apply aw_get d_Walk_init_70 fl_Walk_21; exact ha; rfl
  refine aw_newaI (39) (N := M) d_Walk_init_73 rfl (by omega) (by omega) (by omega) ?_
  refine aw_nn hd ?_
  intro h hg f_ o_ hd
  have ha := f_ _ _ ha (by first | (simp; done) | (simp; omega))
  have ho := f_ _ _ ho (by first | (simp; done) | (simp; omega))
  have ht := f_ _ _ ht (by first | (simp; done) | (simp; omega))
  have FR := FR.tr (f_.up (fun _ z => absurd z List.not_mem_nil))
  have hL1 := hL1.fr f_ (fun x hx => by first | (simp; done) | (simp; omega))
  have hL2 := hL2.fr f_ (fun x hx => by first | (simp; done) | (simp; omega))
  apply aw_putF d_Walk_init_75 pl_Walk_44 rfl; exact ha; exact Nat.le_of_ble_eq_true rfl; exact rfl; exact rfl
  refine aw_nm ha ?_
  intro h ha_ f_ o_
  have hd := dom_o hd ha o_
  have ho := f_ _ _ ho (by first | (simp; done) | (simp; omega))
  have ht := f_ _ _ ht (by first | (simp; done) | (simp; omega))
  have hg := f_ _ _ hg (by first | (simp; done) | (simp; omega))
  have ha := ha_
  have FR := FR.tr (f_.up (by first | (simp; done) | (simp; omega)))
  have hL1 := hL1.fr f_ (fun x hx => by first | (simp; done) | (simp; omega))
  have hL2 := hL2.fr f_ (fun x hx => by first | (simp; done) | (simp; omega))
  refine aw_aload_n (i := 0) d_Walk_init_78 rfl rfl ?_
  refine aw_new (40) (N := 4) d_Walk_init_79 nl_Walk_47 rfl (by omega) (by omega) ?_
  refine aw_nn hd ?_
  intro h hb f_ o_ hd
  have ha := f_ _ _ ha (by first | (simp; done) | (simp; omega))
  have ho := f_ _ _ ho (by first | (simp; done) | (simp; omega))
  have ht := f_ _ _ ht (by first | (simp; done) | (simp; omega))
  have hg := f_ _ _ hg (by first | (simp; done) | (simp; omega))
  have FR := FR.tr (f_.up (fun _ z => absurd z List.not_mem_nil))
  have hL1 := hL1.fr f_ (fun x hx => by first | (simp; done) | (simp; omega))
  have hL2 := hL2.fr f_ (fun x hx => by first | (simp; done) | (simp; omega))
  refine aw_dup d_Walk_init_82 rfl ?_
  refine aw_aload_n (i := 0) d_Walk_init_83 rfl rfl ?_
  apply aw_get d_Walk_init_84 fl_Walk_21; exact ha; rfl
  apply aw_calli d_Walk_init_87 cl_Walk_49 (c_Heap_init (M := M) hM hb hd); rfl; rfl; decide; exact (by omega); exact (by omega); exact Nat.le_of_ble_eq_true rfl
  rintro _ _ ⟨rfl, h, rfl, hd, ⟨s9, c9, p9, fs9, fc9, fp9, hH⟩, fr_⟩
  have hL1 := hL1.fr fr_ (fun x hx => by first | (simp; done) | (simp; omega))
  have hL2 := hL2.fr fr_ (fun x hx => by first | (simp; done) | (simp; omega))
  have ha := fr_ _ _ ha (by first | (simp; done) | (simp; omega))
  have ho := fr_ _ _ ho (by first | (simp; done) | (simp; omega))
  have ht := fr_ _ _ ht (by first | (simp; done) | (simp; omega))
  have hg := fr_ _ _ hg (by first | (simp; done) | (simp; omega))
  have FR := FR.tr (fr_.up (by first | (simp; done) | (simp; omega)))
  apply aw_putF d_Walk_init_90 pl_Walk_50 rfl; exact ha; exact Nat.le_of_ble_eq_true rfl; exact rfl; exact rfl
  refine aw_nm ha ?_
  intro h ha_ f_ o_
  have hd := dom_o hd ha o_
  have ho := f_ _ _ ho (by first | (simp; done) | (simp; omega))
  have ht := f_ _ _ ht (by first | (simp; done) | (simp; omega))
  have hg := f_ _ _ hg (by first | (simp; done) | (simp; omega))
  have ha := ha_
  have FR := FR.tr (f_.up (by first | (simp; done) | (simp; omega)))
  have hL1 := hL1.fr f_ (fun x hx => by first | (simp; done) | (simp; omega))
  have hL2 := hL2.fr f_ (fun x hx => by first | (simp; done) | (simp; omega))
  have hH := hH.fr f_ (by simp) (by simp) (by simp) (by simp)
  refine aw_vret d_Walk_init_93 rfl (by omega) (by omega) ?_
  exact ⟨rfl, h, rfl, hd, wa_mk ha hL1 ho hL2 ht hg hH hM, FR⟩

