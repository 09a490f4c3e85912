/-! the three that may throw -/
set_option maxHeartbeats 4000000 in
set_option maxRecDepth 20000 in
theorem c_LH_part {G : aG} {nx : Nat} {h : Nat → Option aC} {x : Nat} {B : LB} {hs : HSt} {ad : AD} {A : Nat → Nat} {most : Nat} {fl : WFl} {L L2 : List Nat} {ar : Nat → Nat → Int32} {n : Nat} {gs : List GSt} {lg : Lg} {xs : List Int32} {cap : Nat} (hc : CL h x B hs ad A most fl L L2 ar n gs lg xs cap) (hv : VH hs) (v w9 i : Int32) : AMetX G m_LH_part 8 1 6 [.ref x, .int v, .int w9, .int i] (nx, h) (fun r w => ∃ a9, sPart hs v w9 i = some a9 ∧ r = some (.int a9) ∧ w = (nx, h)) (fun w => sPart hs v w9 i = none ∧ ∃ n2, w = (n2, h)) := by
  have hp12 := hv.1.1
  have hs24 := hv.2.1
  have hall2 := hv.2.2.2.2.2.2.2
  have hmst := hc.wk.mst
  refine amet_ofX (by decide) (Nat.le_of_ble_eq_true rfl) ?_
  show AW G m_LH_part 8 1 6 _ 0 [(0, .ref x), (1, .int v), (2, .int w9), (3, .int i)] [] (nx, h) 0 0
  refine aw_aload_n (i := 0) d_LH_part_0 rfl rfl ?_
  apply aw_get d_LH_part_1 fl_LH_10; exact hc.1.1; rfl
  refine aw_iload_n (i := 1) d_LH_part_4 rfl rfl ?_
  apply aw_callv_p (c_House_hasCode hc.2.1 hv v) d_LH_part_5 cl_LH_173; exact hc.2.1.1; rfl; rfl; rfl; rfl; decide; exact Nat.le_of_ble_eq_true rfl; exact (by omega); exact (by omega)
  refine aw_ifB_eq d_LH_part_8 (fun br8_ => ?_) (fun br8_ => ?_)
  · skip
    refine aw_aload_n (i := 0) d_LH_part_45 rfl rfl ?_
    apply aw_get d_LH_part_46 fl_LH_10; exact hc.1.1; rfl
    refine aw_iload_n (i := 1) d_LH_part_49 rfl rfl ?_
    apply aw_callv_p (c_House_hasCode hc.2.1 hv v) d_LH_part_50 cl_LH_173; exact hc.2.1.1; rfl; rfl; rfl; rfl; decide; exact Nat.le_of_ble_eq_true rfl; exact (by omega); exact (by omega)
    refine aw_if_eq d_LH_part_53 (fun br53_ => ?_) (fun br53_ => absurd (by rw [br8_]; rfl) br53_)
    exact aw_throwS d_LH_part_99 d_LH_part_102 d_LH_part_103 d_LH_part_105 d_LH_part_108 rfl mc_LH_part (text := "no such CODE, PROP, STEP or what") (by simp [xstr]) (by decide) (Nat.le_of_ble_eq_true rfl) (by decide) (by decide) (fun n2 _ => ⟨(by unfold sPart; rw [br8_]; rfl), n2, rfl⟩)
  · skip
    obtain ⟨c, hc9, rfl, ec⟩ := isC_ex br8_ hv
    refine aw_iload_n (i := 2) d_LH_part_11 rfl rfl ?_
    refine aw_if_ne d_LH_part_12 (fun br12_ => ?_) (fun br12_ => ?_)
    · skip
      refine aw_aload_n (i := 0) d_LH_part_45 rfl rfl ?_
      apply aw_get d_LH_part_46 fl_LH_10; exact hc.1.1; rfl
      refine aw_iload_n (i := 1) d_LH_part_49 rfl rfl ?_
      apply aw_callv_p (c_House_hasCode hc.2.1 hv (nI c)) d_LH_part_50 cl_LH_173; exact hc.2.1.1; rfl; rfl; rfl; rfl; decide; exact Nat.le_of_ble_eq_true rfl; exact (by omega); exact (by omega)
      refine aw_if_eq d_LH_part_53 (fun br53_ => absurd br53_ (by rw [br8_]; decide)) (fun br53_ => ?_)
      refine aw_iload_n (i := 2) d_LH_part_56 rfl rfl ?_
      refine aw_iconst (v := nI 1) d_LH_part_57 (by decide) ?_
      refine aw_icmp_ne d_LH_part_58 (fun br58_ => ?_) (fun br58_ => ?_)
      · skip
        exact aw_throwS d_LH_part_99 d_LH_part_102 d_LH_part_103 d_LH_part_105 d_LH_part_108 rfl mc_LH_part (text := "no such CODE, PROP, STEP or what") (by simp [xstr]) (by decide) (Nat.le_of_ble_eq_true rfl) (by decide) (by decide) (fun n2 _ => ⟨(by unfold sPart; rw [br8_, decide_eq_false br12_, decide_eq_false (show ¬ w9 = 1 from br58_)]; rfl), n2, rfl⟩)
      · skip
        refine aw_aload_n (i := 0) d_LH_part_61 rfl rfl ?_
        apply aw_get d_LH_part_62 fl_LH_10; exact hc.1.1; rfl
        refine aw_iload_n (i := 3) d_LH_part_65 rfl rfl ?_
        apply aw_callv_p (c_House_hasStep hc.2.1 hv i) d_LH_part_66 cl_LH_94; exact hc.2.1.1; rfl; rfl; rfl; rfl; decide; exact Nat.le_of_ble_eq_true rfl; exact (by omega); exact (by omega)
        refine aw_ifB_eq d_LH_part_69 (fun br69_ => ?_) (fun br69_ => ?_)
        · skip
          have br69_ : isSx hs i = false := br69_
          exact aw_throwS d_LH_part_99 d_LH_part_102 d_LH_part_103 d_LH_part_105 d_LH_part_108 rfl mc_LH_part (text := "no such CODE, PROP, STEP or what") (by simp [xstr]) (by decide) (Nat.le_of_ble_eq_true rfl) (by decide) (by decide) (fun n2 _ => ⟨(by unfold sPart; rw [br8_, decide_eq_false br12_, br69_]; simp), n2, rfl⟩)
        · skip
          obtain ⟨j, hj9, rfl⟩ := dec_ix br69_ (by omega)
          have ej : xN (nI j) = j := xN_nI (by omega)
          have br69_ : isSx hs (nI j) = true := br69_
          obtain ⟨na9, ga9, hs9, _, _⟩ := ho_sc hc.2.1 hj9
          refine aw_aload_n (i := 0) d_LH_part_72 rfl rfl ?_
          apply aw_get d_LH_part_73 fl_LH_10; exact hc.1.1; rfl
          apply aw_get d_LH_part_76 fl_LH_82; exact hc.2.1.1; rfl
          refine aw_iload_n (i := 3) d_LH_part_79 rfl rfl ?_
          apply aw_callv_p (ho_gs hc.2.1 hj9) d_LH_part_80 cl_LH_101; exact hc.2.1.2.2.1.ob.choose_spec; rfl; rfl; rfl; rfl; decide; exact Nat.le_of_ble_eq_true rfl; exact (by omega); exact (by omega)
          apply aw_cast d_LH_part_83; exact hs9; rfl; exact cc_LH_85
          refine aw_iload_n (i := 1) d_LH_part_86 rfl rfl ?_
          apply aw_callv_p (s_done hc.2.1 hv hj9 (c := c) (by omega)) d_LH_part_87 cl_LH_183; exact hs9; rfl; rfl; rfl; rfl; decide; exact Nat.le_of_ble_eq_true rfl; exact (by omega); exact (by omega)
          refine aw_ifB_eq d_LH_part_90 (fun br90_ => ?_) (fun br90_ => ?_)
          · skip
            refine aw_iconst (v := 0) d_LH_part_97 (by decide) ?_
            refine aw_toX ?_
            refine aw_iret d_LH_part_98 rfl (by omega) (by omega) ?_
            exact ⟨_, (by unfold sPart; rw [br8_, br69_, ec, ej, br90_, br58_]; rfl), rfl, rfl⟩
          · skip
            refine aw_iconst (v := 1) d_LH_part_93 (by decide) ?_
            refine aw_goto d_LH_part_94 ?_
            refine aw_toX ?_
            refine aw_iret d_LH_part_98 rfl (by omega) (by omega) ?_
            exact ⟨_, (by unfold sPart; rw [br8_, br69_, ec, ej, br90_, br58_]; rfl), rfl, rfl⟩
    · skip
      refine aw_aload_n (i := 0) d_LH_part_15 rfl rfl ?_
      apply aw_get d_LH_part_16 fl_LH_10; exact hc.1.1; rfl
      refine aw_iload_n (i := 3) d_LH_part_19 rfl rfl ?_
      apply aw_callv_p (c_House_hasProp hc.2.1 hv i) d_LH_part_20 cl_LH_128; exact hc.2.1.1; rfl; rfl; rfl; rfl; decide; exact Nat.le_of_ble_eq_true rfl; exact (by omega); exact (by omega)
      refine aw_ifB_eq d_LH_part_23 (fun br23_ => ?_) (fun br23_ => ?_)
      · skip
        have br23_ : isPx hs i = false := br23_
        refine aw_aload_n (i := 0) d_LH_part_45 rfl rfl ?_
        apply aw_get d_LH_part_46 fl_LH_10; exact hc.1.1; rfl
        refine aw_iload_n (i := 1) d_LH_part_49 rfl rfl ?_
        apply aw_callv_p (c_House_hasCode hc.2.1 hv (nI c)) d_LH_part_50 cl_LH_173; exact hc.2.1.1; rfl; rfl; rfl; rfl; decide; exact Nat.le_of_ble_eq_true rfl; exact (by omega); exact (by omega)
        refine aw_if_eq d_LH_part_53 (fun br53_ => absurd br53_ (by rw [br8_]; decide)) (fun br53_ => ?_)
        refine aw_iload_n (i := 2) d_LH_part_56 rfl rfl ?_
        refine aw_iconst (v := nI 1) d_LH_part_57 (by decide) ?_
        refine aw_icmp_ne d_LH_part_58 (fun br58_ => ?_) (fun br58_ => absurd br58_ (by rw [br12_]; decide))
        exact aw_throwS d_LH_part_99 d_LH_part_102 d_LH_part_103 d_LH_part_105 d_LH_part_108 rfl mc_LH_part (text := "no such CODE, PROP, STEP or what") (by simp [xstr]) (by decide) (Nat.le_of_ble_eq_true rfl) (by decide) (by decide) (fun n2 _ => ⟨(by unfold sPart; rw [br8_, br23_, br12_]; rfl), n2, rfl⟩)
      · skip
        obtain ⟨j, hj9, rfl⟩ := dec_ix br23_ (by omega)
        have ej : xN (nI j) = j := xN_nI (by omega)
        have br23_ : isPx hs (nI j) = true := br23_
        refine aw_aload_n (i := 0) d_LH_part_26 rfl rfl ?_
        apply aw_get d_LH_part_27 fl_LH_10; exact hc.1.1; rfl
        apply aw_get d_LH_part_30 fl_LH_61; exact hc.2.1.1; rfl
        refine aw_iload_n (i := 3) d_LH_part_33 rfl rfl ?_
        apply aw_callv_p (ho_gp hc.2.1 hj9) d_LH_part_34 cl_LH_101; exact hc.2.1.2.1.ob.choose_spec; rfl; rfl; rfl; rfl; decide; exact Nat.le_of_ble_eq_true rfl; exact (by omega); exact (by omega)
        apply aw_cast d_LH_part_37; exact ho_pc hc.2.1 hj9; rfl; exact cc_LH_109
        refine aw_iload_n (i := 1) d_LH_part_40 rfl rfl ?_
        apply aw_callv_p (p_stateIn hc.2.1.2.2.2.2.1 hv.1 hj9 (c := c) (by omega)) d_LH_part_41 cl_LH_179; exact ho_pc hc.2.1 hj9; rfl; rfl; rfl; rfl; decide; exact Nat.le_of_ble_eq_true rfl; exact (by omega); exact (by omega)
        refine aw_toX ?_
        refine aw_iret d_LH_part_44 rfl (by omega) (by omega) ?_
        exact ⟨_, (by unfold sPart; rw [br8_, br12_, br23_, ec, ej]; rfl), rfl, rfl⟩

set_option maxHeartbeats 4000000 in
set_option maxRecDepth 20000 in
theorem c_LH_row {G : aG} {nx : Nat} {h : Nat → Option aC} {x : Nat} {B : LB} {hs : HSt} {ad : AD} {A : Nat → Nat} {most : Nat} {fl : WFl} {L L2 : List Nat} {ar : Nat → Nat → Int32} {n : Nat} {gs : List GSt} {lg : Lg} {xs : List Int32} {cap : Nat} (hc : CL h x B hs ad A most fl L L2 ar n gs lg xs cap) (hv : VH hs) (i : Int32) : AMetX G m_LH_row 8 1 6 [.ref x, .int i] (nx, h) (fun r w => ∃ a9, sRow xs i = some a9 ∧ r = some (.int a9) ∧ w = (nx, h)) (fun w => sRow xs i = none ∧ ∃ n2, w = (n2, h)) := by
  have hp12 := hv.1.1
  have hs24 := hv.2.1
  have hall2 := hv.2.2.2.2.2.2.2
  have hmst := hc.wk.mst
  obtain ⟨na, fr, r1, r2, r3, r4, r5⟩ := hc.1.2.1
  refine amet_ofX (by decide) (Nat.le_of_ble_eq_true rfl) ?_
  show AW G m_LH_row 8 1 6 _ 0 [(0, .ref x), (1, .int i)] [] (nx, h) 0 0
  refine aw_iload_n (i := 1) d_LH_row_0 rfl rfl ?_
  refine aw_if_lt d_LH_row_1 (fun br1_ => ?_) (fun br1_ => ?_)
  · skip
    exact aw_throwSW d_LH_row_27 d_LH_row_30 d_LH_row_31 d_LH_row_34 d_LH_row_37 rfl mc_LH_row (text := "no such number of the ROW") (by simp [xstr]) (by decide) (Nat.le_of_ble_eq_true rfl) (by decide) (by decide) (fun n2 _ => ⟨(by unfold sRow; rw [decide_eq_false (fun q => absurd q.1 (Int32.not_le.mpr br1_))]; rfl), n2, rfl⟩)
  · skip
    refine aw_iload_n (i := 1) d_LH_row_4 rfl rfl ?_
    refine aw_aload_n (i := 0) d_LH_row_5 rfl rfl ?_
    apply aw_get d_LH_row_6 fl_LH_19; exact hc.1.1; rfl
    apply aw_get d_LH_row_9 fl_LH_154; exact r1; rfl
    refine aw_icmp_ge d_LH_row_12 (fun br12_ => ?_) (fun br12_ => ?_)
    · skip
      exact aw_throwSW d_LH_row_27 d_LH_row_30 d_LH_row_31 d_LH_row_34 d_LH_row_37 rfl mc_LH_row (text := "no such number of the ROW") (by simp [xstr]) (by decide) (Nat.le_of_ble_eq_true rfl) (by decide) (by decide) (fun n2 _ => ⟨(by unfold sRow; rw [decide_eq_false (fun q => absurd q.2 (Int32.not_lt.mpr br12_))]; rfl), n2, rfl⟩)
    · skip
      have hd9 : decide (0 ≤ i ∧ i < nI xs.length) = true := decide_eq_true ⟨Int32.not_lt.mp br1_, Int32.not_le.mp br12_⟩
      obtain ⟨j, hj9, rfl⟩ := dec_ix hd9 (by omega)
      have ej : xN (nI j) = j := xN_nI (by omega)
      refine aw_iload_n (i := 1) d_LH_row_15 rfl rfl ?_
      refine aw_aload_n (i := 0) d_LH_row_16 rfl rfl ?_
      apply aw_get d_LH_row_17 fl_LH_19; exact hc.1.1; rfl
      apply aw_get d_LH_row_20 fl_LH_295; exact r1; rfl
      apply aw_alen d_LH_row_23; exact r2; decide
      refine aw_icmp_lt d_LH_row_24 (fun br24_ => ?_) (fun br24_ => absurd ((nI_ltI (by omega) (by omega)).mpr (by omega)) br24_)
      refine aw_aload_n (i := 0) d_LH_row_38 rfl rfl ?_
      apply aw_get d_LH_row_39 fl_LH_19; exact hc.1.1; rfl
      apply aw_get d_LH_row_42 fl_LH_295; exact r1; rfl
      refine aw_iload_n (i := 1) d_LH_row_45 rfl rfl ?_
      apply ci_ld d_LH_row_46; exact r2; omega; omega; exact r5 j hj9
      refine aw_toX ?_
      refine aw_iret d_LH_row_47 rfl (by omega) (by omega) ?_
      exact ⟨_, (by unfold sRow; rw [hd9, ej, List.getElem?_eq_getElem hj9]; rfl), rfl, rfl⟩

theorem rng_out {x : Int32} (h : ∀ j : Nat, j < 6 → ¬ x = nI j) : rng 0 5 x = false := by
  cases q : rng 0 5 x with
  | false => rfl
  | true =>
    obtain ⟨k, _, hk, e⟩ := rng_of q (by decide) (by decide)
    exact absurd e (h k (by omega))
theorem rng_in {j : Nat} (hj : j ≤ 5) : rng 0 5 (nI j) = true := by
  match j, hj with
  | 0, _ => rfl
  | 1, _ => rfl
  | 2, _ => rfl
  | 3, _ => rfl
  | 4, _ => rfl
  | 5, _ => rfl
set_option maxHeartbeats 4000000 in
set_option maxRecDepth 20000 in
theorem c_LH_group {G : aG} {nx : Nat} {h : Nat → Option aC} {x : Nat} {B : LB} {hs : HSt} {ad : AD} {A : Nat → Nat} {most : Nat} {fl : WFl} {L L2 : List Nat} {ar : Nat → Nat → Int32} {n : Nat} {gs : List GSt} {lg : Lg} {xs : List Int32} {cap : Nat} (hc : CL h x B hs ad A most fl L L2 ar n gs lg xs cap) (hv : VH hs) (hg : gs.length = 4) (hvg : VG hs gs) (v w9 : Int32) : AMetX G m_LH_group 8 1 6 [.ref x, .int v, .int w9] (nx, h) (fun r w => ∃ a9, sGrp hs gs v w9 = some a9 ∧ r = some (.int a9) ∧ w = (nx, h)) (fun w => sGrp hs gs v w9 = none ∧ ∃ n2, w = (n2, h)) := by
  have hp12 := hv.1.1
  have hs24 := hv.2.1
  have hall2 := hv.2.2.2.2.2.2.2
  have hmst := hc.wk.mst
  obtain ⟨gal, g1, g2, g3⟩ := hc.1.2.2.2.1
  refine amet_ofX (by decide) (Nat.le_of_ble_eq_true rfl) ?_
  show AW G m_LH_group 8 1 6 _ 0 [(0, .ref x), (1, .int v), (2, .int w9)] [] (nx, h) 0 0
  refine aw_aload_n (i := 0) d_LH_group_0 rfl rfl ?_
  refine aw_iload_n (i := 1) d_LH_group_1 rfl rfl ?_
  apply aw_callv_p (c_LH_plays hc hv hg v) d_LH_group_2 cl_LH_255; exact hc.1.1; rfl; rfl; rfl; rfl; decide; exact Nat.le_of_ble_eq_true rfl; exact (by omega); exact (by omega)
  refine aw_ifB_ne d_LH_group_5 (fun br5_ => ?_) (fun br5_ => ?_)
  · skip
    obtain ⟨g, hg9, rfl, hpl, eq⟩ := isG_ex br5_
    obtain ⟨v1, v2, v3, v4, v5, k1, k2⟩ := g3 (g) hg9
    obtain ⟨q1, q2, q3, q4, q5⟩ := k2 hpl
    have hvc := (hvg.2 g hg9 hpl).1
    refine aw_aload_n (i := 0) d_LH_group_19 rfl rfl ?_
    apply aw_get d_LH_group_20 fl_LH_33; exact hc.1.1; rfl
    refine aw_iload_n (i := 1) d_LH_group_23 rfl rfl ?_
    apply aw_callv_p (l_gd g1 (g) (by rw [g2]; exact hg9)) d_LH_group_24 cl_LH_101; exact g1.ob.choose_spec; rfl; rfl; rfl; rfl; decide; exact Nat.le_of_ble_eq_true rfl; exact (by omega); exact (by omega)
    apply aw_cast d_LH_group_27; exact k1; rfl; exact cc_LH_37
    refine aw_astore_n (i := 3) (lv2 := [(0, _), (1, _), (2, _), (3, _)]) d_LH_group_30 rfl (by decide) rfl ?_
    refine aw_iload_n (i := 2) d_LH_group_31 rfl rfl ?_
    refine aw_tsw d_LH_group_32 (fun j_ t_ ej_ et_ => ?_) (fun hno_ => ?_)
    · rcases j_ with _ | _ | _ | _ | _ | _ | j_
      · have e_ : 72 = t_ := Option.some.inj et_
        subst e_
        clear et_
        subst ej_
        refine aw_aload_n (i := 3) d_LH_group_72 rfl rfl ?_
        apply aw_get d_LH_group_73 fl_LH_257; exact k1; rfl
        refine aw_toX ?_
        refine aw_iret d_LH_group_76 rfl (by omega) (by omega) ?_
        exact ⟨_, (by unfold sGrp; rw [br5_, rng_in (j := 0) (by decide), eq]; show some ((grL hs (gs.getD g gz0)).getD (xN (nI 0)) 0) = _; rw [xN_nI (by decide), q1]; rfl), rfl, rfl⟩
      · have e_ : 77 = t_ := Option.some.inj et_
        subst e_
        clear et_
        subst ej_
        refine aw_aload_n (i := 3) d_LH_group_77 rfl rfl ?_
        apply aw_get d_LH_group_78 fl_LH_260; exact k1; rfl
        refine aw_toX ?_
        refine aw_iret d_LH_group_81 rfl (by omega) (by omega) ?_
        exact ⟨_, (by unfold sGrp; rw [br5_, rng_in (j := 1) (by decide), eq]; show some ((grL hs (gs.getD g gz0)).getD (xN (nI 1)) 0) = _; rw [xN_nI (by decide), q2]; rfl), rfl, rfl⟩
      · have e_ : 82 = t_ := Option.some.inj et_
        subst e_
        clear et_
        subst ej_
        refine aw_aload_n (i := 3) d_LH_group_82 rfl rfl ?_
        apply aw_get d_LH_group_83 fl_LH_279; exact k1; rfl
        refine aw_toX ?_
        refine aw_iret d_LH_group_86 rfl (by omega) (by omega) ?_
        exact ⟨_, (by unfold sGrp; rw [br5_, rng_in (j := 2) (by decide), eq]; show some ((grL hs (gs.getD g gz0)).getD (xN (nI 2)) 0) = _; rw [xN_nI (by decide), q3]; rfl), rfl, rfl⟩
      · have e_ : 87 = t_ := Option.some.inj et_
        subst e_
        clear et_
        subst ej_
        refine aw_aload_n (i := 3) d_LH_group_87 rfl rfl ?_
        apply aw_get d_LH_group_88 fl_LH_280; exact k1; rfl
        refine aw_toX ?_
        refine aw_iret d_LH_group_91 rfl (by omega) (by omega) ?_
        exact ⟨_, (by unfold sGrp; rw [br5_, rng_in (j := 3) (by decide), eq]; show some ((grL hs (gs.getD g gz0)).getD (xN (nI 3)) 0) = _; rw [xN_nI (by decide), q4]; rfl), rfl, rfl⟩
      · have e_ : 92 = t_ := Option.some.inj et_
        subst e_
        clear et_
        subst ej_
        refine aw_aload_n (i := 3) d_LH_group_92 rfl rfl ?_
        apply aw_get d_LH_group_93 fl_LH_281; exact k1; rfl
        refine aw_toX ?_
        refine aw_iret d_LH_group_96 rfl (by omega) (by omega) ?_
        exact ⟨_, (by unfold sGrp; rw [br5_, rng_in (j := 4) (by decide), eq]; show some ((grL hs (gs.getD g gz0)).getD (xN (nI 4)) 0) = _; rw [xN_nI (by decide), q5]; rfl), rfl, rfl⟩
      · have e_ : 97 = t_ := Option.some.inj et_
        subst e_
        clear et_
        subst ej_
        refine aw_aload_n (i := 0) d_LH_group_97 rfl rfl ?_
        apply aw_get d_LH_group_98 fl_LH_10; exact hc.1.1; rfl
        refine aw_aload_n (i := 3) d_LH_group_101 rfl rfl ?_
        apply aw_get d_LH_group_102 fl_LH_257; exact k1; rfl
        rw [q1]
        apply aw_callv_p (c_House_isEnd hc.2.1 hv (c := (gs.getD g gz0).2.1) (by omega)) d_LH_group_105 cl_LH_284; exact hc.2.1.1; rfl; rfl; rfl; rfl; decide; exact Nat.le_of_ble_eq_true rfl; exact (by omega); exact (by omega)
        refine aw_ifB_eq d_LH_group_108 (fun br108_ => ?_) (fun br108_ => ?_)
        · skip
          refine aw_iconst (v := 0) d_LH_group_115 (by decide) ?_
          refine aw_toX ?_
          refine aw_iret d_LH_group_116 rfl (by omega) (by omega) ?_
          exact ⟨_, (by unfold sGrp; rw [br5_, rng_in (j := 5) (by decide), eq]; show some ((grL hs (gs.getD g gz0)).getD (xN (nI 5)) 0) = _; rw [xN_nI (by decide)]; show some (bI (isE hs (gs.getD g gz0).2.1)) = _; rw [br108_]; rfl), rfl, rfl⟩
        · skip
          refine aw_iconst (v := 1) d_LH_group_111 (by decide) ?_
          refine aw_goto d_LH_group_112 ?_
          refine aw_toX ?_
          refine aw_iret d_LH_group_116 rfl (by omega) (by omega) ?_
          exact ⟨_, (by unfold sGrp; rw [br5_, rng_in (j := 5) (by decide), eq]; show some ((grL hs (gs.getD g gz0)).getD (xN (nI 5)) 0) = _; rw [xN_nI (by decide)]; show some (bI (isE hs (gs.getD g gz0).2.1)) = _; rw [br108_]; rfl), rfl, rfl⟩
      · exact absurd et_ (by simp)
    · skip
      exact aw_throwSW d_LH_group_117 d_LH_group_120 d_LH_group_121 d_LH_group_124 d_LH_group_127 rfl mc_LH_group (text := "no such what") (by simp [xstr]) (by decide) (Nat.le_of_ble_eq_true rfl) (by decide) (by decide) (fun n2 _ => ⟨(by unfold sGrp; rw [br5_, rng_out (fun j hj => hno_ j (by simpa using hj))]; rfl), n2, rfl⟩)
  · skip
    exact aw_throwSW d_LH_group_8 d_LH_group_11 d_LH_group_12 d_LH_group_15 d_LH_group_18 rfl mc_LH_group (text := "no such GROUP") (by simp [xstr]) (by decide) (Nat.le_of_ble_eq_true rfl) (by decide) (by decide) (fun n2 _ => ⟨(by unfold sGrp; rw [br5_]; rfl), n2, rfl⟩)

