/-! what changes the house -/
set_option maxHeartbeats 4000000 in
set_option maxRecDepth 20000 in
theorem c_AL_clear {G : aG} {nx : Nat} {h : Nat → Option aC} {t te a : Nat} {xs : List Nat} (hl : Lsx t te h a xs) (hte : t ≠ te) : AMet G m_AL_clear 0 0 0 [.ref a] (nx, h) (fun r w => r = none ∧ ∃ h2, w = (nx, h2) ∧ Lsx t te h2 a [] ∧ Fr [t, te] h h2) := by
  obtain ⟨m, e, g1, g2⟩ := hl
  refine amet_of pf_AL_clear (Nat.le_of_ble_eq_true rfl) ?_
  show AW G m_AL_clear 0 0 0 _ 0 [(0, .ref a)] [] (nx, h) 0 0
  refine aw_aload_n (i := 0) d_AL_clear_0 rfl rfl ?_
  refine aw_dup d_AL_clear_1 rfl ?_
  apply aw_get d_AL_clear_2 fl_AL_63; exact g1; rfl
  refine aw_iconst (v := 1) d_AL_clear_5 (by decide) ?_
  refine aw_iadd d_AL_clear_6 ?_
  apply aw_put d_AL_clear_7 pl_AL_63; exact g1; exact Nat.le_of_ble_eq_true rfl; rfl; rfl
  refine aw_nm g1 ?_
  intro h1 g1 f1 o1
  have g3 : (e = 0 ∧ xs = [] ∨ ∃ (N : Nat) (f : Nat → Option Nat), h1 e = some (cO te N f) ∧ xs.length ≤ N ∧ 1 ≤ N ∧ N ≤ 100) := by
    rcases g2 with q | ⟨N, f, k1, k2, k3, k4, _⟩
    · exact Or.inl q
    · exact Or.inr ⟨N, f, f1 _ _ k1 (by simpa using Ne.symm hte), k2, k3, k4⟩
  have FR : Fr [t, te] h h1 := f1.up (by simp)
  refine aw_aload_n (i := 0) d_AL_clear_10 rfl rfl ?_
  apply aw_get d_AL_clear_11 fl_AL_9; exact g1; rfl
  refine aw_astore_n (i := 1) (lv2 := [(0, _), (1, _)]) d_AL_clear_14 rfl (by decide) rfl ?_
  refine aw_aload_n (i := 0) d_AL_clear_15 rfl rfl ?_
  apply aw_get d_AL_clear_16 fl_AL_48; exact g1; rfl
  refine aw_istore_n (i := 2) (lv2 := [(0, _), (1, _), (2, _)]) d_AL_clear_19 rfl (by decide) rfl ?_
  refine aw_aload_n (i := 0) d_AL_clear_20 rfl rfl ?_
  refine aw_iconst (v := 0) d_AL_clear_21 (by decide) ?_
  refine aw_dup_x1 d_AL_clear_22 rfl rfl ?_
  apply aw_put d_AL_clear_23 pl_AL_48; exact g1; exact Nat.le_of_ble_eq_true rfl; rfl; rfl
  refine aw_nm g1 ?_
  intro h2 g1 f2 o2
  have g3 : (e = 0 ∧ xs = [] ∨ ∃ (N : Nat) (f : Nat → Option Nat), h2 e = some (cO te N f) ∧ xs.length ≤ N ∧ 1 ≤ N ∧ N ≤ 100) := by
    rcases g3 with q | ⟨N, f, k1, k2, k3, k4⟩
    · exact Or.inl q
    · exact Or.inr ⟨N, f, f2 _ _ k1 (by simpa using Ne.symm hte), k2, k3, k4⟩
  have FR := FR.tr (f2.up (by simp))
  refine aw_istore_n (i := 3) (lv2 := [(0, _), (1, _), (2, _), (3, _)]) d_AL_clear_26 rfl (by decide) rfl ?_
  refine Nat.strongRecOn (motive := fun m9 => ∀ (i : Nat) (hh : Nat → Option aC), (m9 = xs.length - i ∧ i ≤ xs.length ∧ hh a = some (ob t 12 [.int (m + 1), .ref e, .int 0]) ∧ (e = 0 ∧ xs = [] ∨ ∃ (N : Nat) (f : Nat → Option Nat), hh e = some (cO te N f) ∧ xs.length ≤ N ∧ 1 ≤ N ∧ N ≤ 100) ∧ Fr [t, te] h hh) → AW G m_AL_clear 0 0 0 _ 27 [(0, .ref a), (1, .ref e), (2, .int (nI xs.length)), (3, .int (nI i))] [] (nx, hh) 0 0) (xs.length - 0) (fun m9 ih => ?_) 0 h2 ⟨rfl, Nat.zero_le _, g1, g3, FR⟩
  intro i hh hI
  obtain ⟨e9, hi, g1, g3, FR⟩ := hI
  have hx : xs.length ≤ 100 := by
    rcases g3 with ⟨_, q⟩ | ⟨N, f, k1, k2, k3, k4⟩
    · rw [q]; decide
    · omega
  refine aw_iload_n (i := 3) d_AL_clear_27 rfl rfl ?_
  refine aw_iload_n (i := 2) d_AL_clear_28 rfl rfl ?_
  refine aw_icmpN_ge d_AL_clear_29 (by omega) (by omega) (fun br29_ => ?_) (fun br29_ => ?_)
  · skip
    refine aw_vret d_AL_clear_42 rfl (Nat.le_refl _) (Nat.le_refl _) ?_
    exact ⟨rfl, _, rfl, ⟨m + 1, e, g1, by
      rcases g3 with ⟨q, _⟩ | ⟨N, f, k1, k2, k3, k4⟩
      · exact Or.inl ⟨q, rfl⟩
      · exact Or.inr ⟨N, f, k1, Nat.zero_le _, k3, k4, fun j hj => absurd hj (Nat.not_lt_zero _)⟩⟩, FR⟩
  · skip
    rcases g3 with ⟨_, q⟩ | ⟨N, f, k1, k2, k3, k4⟩
    · exact absurd br29_ (by rw [q]; simp)
    refine aw_aload_n (i := 1) d_AL_clear_32 rfl rfl ?_
    refine aw_iload_n (i := 3) d_AL_clear_33 rfl rfl ?_
    refine aw_null d_AL_clear_34 ?_
    apply aw_aastoreN d_AL_clear_35; exact k1; exact vp_in_nI (by omega) (by omega)
    refine aw_nm k1 ?_
    intro hh k1 f3 o3
    have g1 := f3 _ _ g1 (by simpa using hte)
    have FR := FR.tr (f3.up (by simp))
    refine aw_iincN (lv2 := [(0, _), (1, _), (2, _), (3, _)]) d_AL_clear_36 (by decide) rfl rfl ?_
    refine aw_goto d_AL_clear_39 ?_
    exact ih (xs.length - (i + 1)) (by omega) (i + 1) _ ⟨rfl, by omega, g1, Or.inr ⟨N, _, k1, k2, k3, k4⟩, FR⟩

set_option maxHeartbeats 4000000 in
set_option maxRecDepth 20000 in
theorem c_Pair_init {G : aG} {nx : Nat} {h : Nat → Option aC} {t a y : Nat} {x : Int32} (ha : h a = some (ob t 13 [.null, .int 0])) : AMet G m_Pair_init 1 0 0 [.ref a, .ref y, .int x] (nx, h) (fun r w => r = none ∧ ∃ h2, w = (nx, h2) ∧ h2 a = some (ob t 13 [.ref y, .int x]) ∧ ∀ q, q ≠ a → h2 q = h q) := by
  refine amet_of pf_Pair_init (Nat.le_of_ble_eq_true rfl) ?_
  show AW G m_Pair_init 1 0 0 _ 0 [(0, .ref a), (1, .ref y), (2, .int x)] [] (nx, h) 0 0
  refine aw_aload_n (i := 0) d_Pair_init_0 rfl rfl ?_
  refine aw_objInit d_Pair_init_1 oi_Pair_1 (by decide) (Nat.le_of_ble_eq_true rfl) ?_
  refine aw_aload_n (i := 0) d_Pair_init_4 rfl rfl ?_
  refine aw_aload_n (i := 1) d_Pair_init_5 rfl rfl ?_
  apply aw_putF d_Pair_init_6 pl_Pair_7 rfl; exact ha; exact Nat.le_of_ble_eq_true rfl; rfl; rfl
  refine aw_nm ha ?_
  intro h1 ha1 f1 o1
  refine aw_aload_n (i := 0) d_Pair_init_9 rfl rfl ?_
  refine aw_iload_n (i := 2) d_Pair_init_10 rfl rfl ?_
  apply aw_putF d_Pair_init_11 pl_Pair_13 rfl; exact ha1; exact Nat.le_of_ble_eq_true rfl; rfl; rfl
  refine aw_nm ha1 ?_
  intro h2 ha2 f2 o2
  refine aw_vret d_Pair_init_14 rfl (Nat.le_refl _) (Nat.le_refl _) ?_
  exact ⟨rfl, h2, rfl, ha2, fun q hq => (o2 q hq).trans (o1 q hq)⟩

theorem gdA {l : List Nat} {x j : Nat} (h : j < l.length) : (l ++ [x]).getD j 0 = l.getD j 0 := by simp [List.getD_eq_getElem?_getD, List.getElem?_append_left h]
theorem gdB {l : List Nat} {x : Nat} : (l ++ [x]).getD l.length 0 = x := by simp [List.getD_eq_getElem?_getD]
set_option maxHeartbeats 4000000 in
set_option maxRecDepth 20000 in
theorem c_Pairs_addT {G : aG} {nx : Nat} {h : Nat → Option aC} {b a most p s9 : Nat} {prs : Prs} {pas : List Nat} (hP : PaA b h a most prs pas) (hl : prs.length < most) (hd : Dom nx h) : AMet G m_Pairs_add 7 2 62 [.ref a, .ref (pas.getD p 0), .int (nI s9)] (nx, h) (fun r w => r = some (.int 1) ∧ ∃ n2 h2, w = (n2, h2) ∧ nx ≤ n2 ∧ n2 ≤ nx + 2 ∧ Dom n2 h2 ∧ PaA b h2 a most (prs ++ [(p, s9)]) pas ∧ Fr [b, b + 1, b + 2, b + 3] h h2) := by
  have hd0 := hd
  obtain ⟨l, pl, g1, g2, g3, g4, g5, g6⟩ := hP
  refine amet_of pf_Pairs_add (Nat.le_of_ble_eq_true rfl) ?_
  show AW G m_Pairs_add 7 2 62 _ 0 [(0, .ref a), (1, .ref (pas.getD p 0)), (2, .int (nI s9))] [] (nx, h) 0 0
  refine aw_aload_n (i := 0) d_Pairs_add_0 rfl rfl ?_
  apply aw_get d_Pairs_add_1 fl_Pairs_10; exact g1; rfl
  apply aw_callv_p (l_size g2) d_Pairs_add_4 cl_Pairs_20; exact g2.ob.choose_spec; rfl; rfl; rfl; rfl; decide; exact Nat.le_of_ble_eq_true rfl; exact (by omega); exact (by omega)
  rw [g3]
  refine aw_aload_n (i := 0) d_Pairs_add_7 rfl rfl ?_
  apply aw_get d_Pairs_add_8 fl_Pairs_16; exact g1; rfl
  refine aw_icmp_lt d_Pairs_add_11 (fun br11_ => ?_) (fun br11_ => absurd ((nI_ltI (a := prs.length) (b := most) (by omega) (by omega)).mpr hl) br11_)
  refine aw_aload_n (i := 0) d_Pairs_add_16 rfl rfl ?_
  apply aw_get d_Pairs_add_17 fl_Pairs_10; exact g1; rfl
  refine aw_new (b + 3) (N := 2) d_Pairs_add_20 nl_Pairs_24 rfl (by decide) (by decide) ?_
  refine aw_nn hd ?_
  intro h1 hb f1 o1 hd
  refine aw_dup d_Pairs_add_23 rfl ?_
  refine aw_aload_n (i := 1) d_Pairs_add_24 rfl rfl ?_
  refine aw_iload_n (i := 2) d_Pairs_add_25 rfl rfl ?_
  apply aw_calli d_Pairs_add_26 cl_Pairs_26 (c_Pair_init (y := pas.getD p 0) (x := nI s9) hb); rfl; rfl; decide; exact (by omega); exact (by omega); exact Nat.le_of_ble_eq_true rfl
  rintro _ _ ⟨rfl, h2, rfl, hb2, o2⟩
  have hd := dom_o hd hb o2
  have fr2 : Fr [] h h2 := fun q c hq _ => (o2 q (Nat.ne_of_lt (hd0 q c hq))).trans ((o1 q (Nat.ne_of_lt (hd0 q c hq))).trans hq)
  have g1 := fr2 _ _ g1 List.not_mem_nil
  have g2 := g2.fr fr2 List.not_mem_nil List.not_mem_nil
  have g6 := fun j hj => fr2 _ _ (g6 j hj) List.not_mem_nil
  have hel : ∀ y ∈ pl, ∃ tt fs, h2 y = some (tt, .inr (13, fs)) := fun y hy => by
    obtain ⟨j, hj, e⟩ := List.getElem_of_mem hy
    exact ⟨b + 3, _, by rw [← e, getD_len hj]; exact g6 j (by omega)⟩
  apply aw_callv d_Pairs_add_29 cl_Pairs_29 (c_AL_add1 (b + 2) g2 (by omega) hd (by omega) hb2 rfl (by decide +kernel) hel); exact g2.ob.choose_spec; rfl; rfl; rfl; rfl; decide; exact (by omega); exact (by omega); exact Nat.le_of_ble_eq_true rfl
  rintro _ _ ⟨rfl, n2, h3, rfl, hn2, hd, g2, f3, hn3⟩
  have g1 := f3 _ _ g1 (by simp)
  have g6 := fun j hj => f3 _ _ (g6 j hj) (by simp)
  have hb3 := f3 _ _ hb2 (by simp)
  refine aw_pop d_Pairs_add_32 rfl ?_
  refine aw_iconst (v := 1) d_Pairs_add_33 (by decide) ?_
  refine aw_zret d_Pairs_add_34 rfl rfl (by omega) (by omega) ?_
  refine ⟨rfl, n2, h3, rfl, by omega, by omega, hd, ⟨l, pl ++ [nx], g1, g2, by simp [g3], ?_, g5, ?_⟩, (fr2.up (fun _ z => absurd z List.not_mem_nil)).tr (f3.up (by simp))⟩
  · rw [List.length_append]; exact hl
  · intro j hj
    by_cases ej : j < prs.length
    · rw [gdA (by omega), List.getElem_append_left ej]; exact g6 j ej
    · have e2 : j = prs.length := by simp at hj; omega
      subst e2
      have e8 : (pl ++ [nx]).getD prs.length 0 = nx := by rw [← g3]; exact gdB
      have e9 : (prs ++ [(p, s9)])[prs.length]'hj = (p, s9) := by simp
      rw [e8, e9]; exact hb3

set_option maxHeartbeats 4000000 in
set_option maxRecDepth 20000 in
theorem c_Pairs_empty {G : aG} {nx : Nat} {h : Nat → Option aC} {b a most : Nat} {prs : Prs} {pas : List Nat} (pas2 : List Nat) (hP : PaA b h a most prs pas) : AMet G m_Pairs_empty 1 0 0 [.ref a] (nx, h) (fun r w => r = none ∧ ∃ h2, w = (nx, h2) ∧ PaA b h2 a most [] pas2 ∧ Fr [b, b + 1, b + 2] h h2) := by
  obtain ⟨l, pl, g1, g2, g3, g4, g5, g6⟩ := hP
  refine amet_of pf_Pairs_empty (Nat.le_of_ble_eq_true rfl) ?_
  show AW G m_Pairs_empty 1 0 0 _ 0 [(0, .ref a)] [] (nx, h) 0 0
  refine aw_aload_n (i := 0) d_Pairs_empty_0 rfl rfl ?_
  apply aw_get d_Pairs_empty_1 fl_Pairs_10; exact g1; rfl
  apply aw_callv d_Pairs_empty_4 cl_Pairs_33 (c_AL_clear g2 (by omega)); exact g2.ob.choose_spec; rfl; rfl; rfl; rfl; decide; exact (by omega); exact (by omega); exact Nat.le_of_ble_eq_true rfl
  rintro _ _ ⟨rfl, h1, rfl, g2, f1⟩
  have g1 := f1 _ _ g1 (by simp)
  refine aw_vret d_Pairs_empty_7 rfl (by omega) (by omega) ?_
  exact ⟨rfl, h1, rfl, ⟨l, [], g1, g2, rfl, Nat.zero_le _, g5, fun j hj => absurd hj (Nat.not_lt_zero _)⟩, f1.up (by simp)⟩

set_option maxHeartbeats 4000000 in
set_option maxRecDepth 20000 in
theorem c_House_tearDown {G : aG} {nx : Nat} {h : Nat → Option aC} {hs : HSt} {ad : AD} {sta : Nat} (ho : HoA h hs ad sta) : AMet G m_House_tearDown 2 0 0 [.ref ad.1] (nx, h) (fun r w => r = none ∧ ∃ h2, w = (nx, h2) ∧ HoA h2 hsC (ad.1, ad.2.1, ad.2.2.1, ad.2.2.2.1, [], []) (hsta hsC) ∧ Fr [2, 3, 4, 5, 6, 7, 8, 9] h h2) := by
  obtain ⟨g1, g2, g3, g4, g5, g6⟩ := ho
  refine amet_of pf_House_tearDown (Nat.le_of_ble_eq_true rfl) ?_
  show AW G m_House_tearDown 2 0 0 _ 0 [(0, .ref ad.1)] [] (nx, h) 0 0
  refine aw_aload_n (i := 0) d_House_tearDown_0 rfl rfl ?_
  apply aw_get d_House_tearDown_1 fl_House_12; exact g1; rfl
  apply aw_callv d_House_tearDown_4 cl_House_40 (c_AL_clear g2 (by omega)); exact g2.ob.choose_spec; rfl; rfl; rfl; rfl; decide; exact (by omega); exact (by omega); exact Nat.le_of_ble_eq_true rfl
  rintro _ _ ⟨rfl, h1, rfl, g2, f1⟩
  have g1 := f1 _ _ g1 (by simp)
  have g3 := g3.fr f1 (by simp) (by simp)
  have g4 := g4.fr f1 (fun x hx => by simp; omega)
  have FR : Fr [2, 3, 4, 5, 6, 7, 8, 9] h h1 := f1.up (by simp)
  refine aw_aload_n (i := 0) d_House_tearDown_7 rfl rfl ?_
  apply aw_get d_House_tearDown_8 fl_House_18; exact g1; rfl
  apply aw_callv d_House_tearDown_11 cl_House_40 (c_AL_clear g3 (by omega)); exact g3.ob.choose_spec; rfl; rfl; rfl; rfl; decide; exact (by omega); exact (by omega); exact Nat.le_of_ble_eq_true rfl
  rintro _ _ ⟨rfl, h1, rfl, g3, f1⟩
  have g1 := f1 _ _ g1 (by simp)
  have g2 := g2.fr f1 (by simp) (by simp)
  have g4 := g4.fr f1 (fun x hx => by simp; omega)
  have FR := FR.tr (f1.up (by simp))
  refine aw_aload_n (i := 0) d_House_tearDown_14 rfl rfl ?_
  apply aw_get d_House_tearDown_15 fl_House_26; exact g1; rfl
  apply aw_callv d_House_tearDown_18 cl_House_43 (c_Pairs_empty [] g4); exact g4.ob.choose_spec; rfl; rfl; rfl; rfl; decide; exact (by omega); exact (by omega); exact Nat.le_of_ble_eq_true rfl
  rintro _ _ ⟨rfl, h1, rfl, g4, f1⟩
  have g1 := f1 _ _ g1 (by simp)
  have g2 := g2.fr f1 (by simp) (by simp)
  have g3 := g3.fr f1 (by simp) (by simp)
  have FR := FR.tr (f1.up (by simp))
  refine aw_aload_n (i := 0) d_House_tearDown_21 rfl rfl ?_
  refine aw_iconst (v := nI 2) d_House_tearDown_22 (by decide) ?_
  apply aw_put d_House_tearDown_23 pl_House_30; exact g1; exact Nat.le_of_ble_eq_true rfl; rfl; rfl
  refine aw_nm g1 ?_
  intro h1 g1 f1 o1
  have g2 := g2.fr f1 (by simp) (by simp)
  have g3 := g3.fr f1 (by simp) (by simp)
  have g4 := g4.fr f1 (fun x hx => by simp; omega)
  have FR := FR.tr (f1.up (by simp))
  refine aw_aload_n (i := 0) d_House_tearDown_26 rfl rfl ?_
  refine aw_iconst (v := nI 1) d_House_tearDown_27 (by decide) ?_
  apply aw_put d_House_tearDown_28 pl_House_34; exact g1; exact Nat.le_of_ble_eq_true rfl; rfl; rfl
  refine aw_nm g1 ?_
  intro h1 g1 f1 o1
  have g2 := g2.fr f1 (by simp) (by simp)
  have g3 := g3.fr f1 (by simp) (by simp)
  have g4 := g4.fr f1 (fun x hx => by simp; omega)
  have FR := FR.tr (f1.up (by simp))
  refine aw_aload_n (i := 0) d_House_tearDown_31 rfl rfl ?_
  refine aw_iconst (v := nI 0) d_House_tearDown_32 (by decide) ?_
  apply aw_put d_House_tearDown_33 pl_House_37; exact g1; exact Nat.le_of_ble_eq_true rfl; rfl; rfl
  refine aw_nm g1 ?_
  intro h1 g1 f1 o1
  have g2 := g2.fr f1 (by simp) (by simp)
  have g3 := g3.fr f1 (by simp) (by simp)
  have g4 := g4.fr f1 (fun x hx => by simp; omega)
  have FR := FR.tr (f1.up (by simp))
  refine aw_vret d_House_tearDown_36 rfl (by omega) (by omega) ?_
  exact ⟨rfl, h1, rfl, ⟨g1, g2, g3, g4, ⟨rfl, fun i hi => absurd hi (Nat.not_lt_zero _)⟩, ⟨rfl, fun i hi => absurd hi (Nat.not_lt_zero _)⟩⟩, FR⟩

