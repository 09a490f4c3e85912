theorem ite_b (b : Bool) : (if b = true then (1 : Int32) else 0) = bI b := by cases b <;> rfl
theorem pfl_setP {hs : HSt} {i : Nat} {g : PSt → PSt} (hg : ∀ q, (g q).1 = q.1 ∧ (g q).2.1 = q.2.1) (hi : i < hs.1.length) : pfl (setP hs i g).1 i = [.int (nI i), .int (nI (hs.1.getD i pz).1), .int (nI (hs.1.getD i pz).2.1), .int (nI (prd ((pks hs.1).take i))), .int (g (hs.1.getD i pz)).2.2.1, .int (g (hs.1.getD i pz)).2.2.2.1, .int (g (hs.1.getD i pz)).2.2.2.2.1, .int (g (hs.1.getD i pz)).2.2.2.2.2] := by
  have e : pks (setP hs i g).1 = pks hs.1 := pk_setP (fun q => (hg q).1) hi
  unfold pfl
  rw [gd_setP hi, if_pos rfl, e, (hg _).1, (hg _).2]
theorem nr_b (b : Bool) : narrow .boolean (.int (bI b)) = .int (bI b) := by cases b <;> rfl
set_option maxHeartbeats 4000000 in
set_option maxRecDepth 20000 in
theorem c_Pairs_addG {G : aG} {nx : Nat} {h : Nat → Option aC} {b a most : Nat} {prs : Prs} {pas : List Nat} (hP : PaA b h a most prs pas) (hl : ¬ prs.length < most) (y : Nat) (x : Int32) : AMet G m_Pairs_add 7 2 62 [.ref a, .ref y, .int x] (nx, h) (fun r w => r = some (.int 0) ∧ w = (nx, h)) := by
  obtain ⟨l, pl, g1, g2, g3, g4, g5, g6⟩ := hP
  refine amet_of pf_Pairs_add (Nat.le_of_ble_eq_true rfl) ?_
  show AW G m_Pairs_add 7 2 62 _ 0 [(0, .ref a), (1, .ref y), (2, .int x)] [] (nx, h) 0 0
  refine aw_aload_n (i := 0) d_Pairs_add_0 rfl rfl ?_
  apply aw_get d_Pairs_add_1 fl_Pairs_10; exact g1; rfl
  apply aw_callv_p (l_size g2) d_Pairs_add_4 cl_Pairs_20; exact g2.ob.choose_spec; rfl; rfl; rfl; rfl; decide; exact Nat.le_of_ble_eq_true rfl; exact (by omega); exact (by omega)
  rw [g3]
  refine aw_aload_n (i := 0) d_Pairs_add_7 rfl rfl ?_
  apply aw_get d_Pairs_add_8 fl_Pairs_16; exact g1; rfl
  refine aw_icmp_lt d_Pairs_add_11 (fun br11_ => absurd br11_ (by have := nI_ltI (a := prs.length) (b := most) (by omega) (by omega); rw [this]; exact hl)) (fun br11_ => ?_)
  refine aw_iconst (v := 0) d_Pairs_add_14 (by decide) ?_
  refine aw_zret d_Pairs_add_15 rfl rfl (by omega) (by omega) ?_
  exact ⟨rfl, rfl⟩

theorem pa_add {G : aG} {nx : Nat} {h : Nat → Option aC} {b a most p s9 : Nat} {prs : Prs} {pas : List Nat} (hP : PaA b h a most prs pas) : AMet G m_Pairs_add 7 2 62 [.ref a, .ref (pas.getD p 0), .int (nI s9)] (nx, h) (fun r w => r = some (.int (bI (decide (prs.length < most)))) ∧ ∃ n2 h2, w = (n2, h2) ∧ PaA b h2 a most (if prs.length < most then prs ++ [(p, s9)] else prs) pas ∧ Fr [b, b + 1, b + 2, b + 3] h h2) := by
  refine amet_dom (fun hd => ?_)
  by_cases e : prs.length < most
  · refine (c_Pairs_addT hP e hd).mono (fun r w hq => ?_)
    obtain ⟨rfl, n2, h2, rfl, _, _, _, k1, k2⟩ := hq
    exact ⟨by rw [decide_eq_true e]; rfl, n2, h2, rfl, by rw [if_pos e]; exact k1, k2⟩
  · refine (c_Pairs_addG hP e _ _).mono (fun r w hq => ?_)
    obtain ⟨rfl, rfl⟩ := hq
    exact ⟨by rw [decide_eq_false e]; rfl, nx, h, rfl, by rw [if_neg e]; exact hP, Fr.rf⟩
set_option maxHeartbeats 4000000 in
set_option maxRecDepth 20000 in
theorem c_LH_goal {G : aG} {nx : Nat} {h : Nat → Option aC} {x : Nat} {B : LB} {hs : HSt} {ad : AD} {A : Nat → Nat} {most : Nat} {fl : WFl} {L L2 : List Nat} {ar : Nat → Nat → Int32} {n : Nat} {gs : List GSt} {lg : Lg} {xs : List Int32} {cap : Nat} (hc : CL h x B hs ad A most fl L L2 ar n gs lg xs cap) (hv : VH hs) (hg : gs.length = 4) (p s : Int32) : AMet G m_LH_goal 8 2 62 [.ref x, .int p, .int s] (nx, h) (LR h x B (.int (if okG hs gs p s then nI 1 else nI 0)) (if okG hs gs p s then addG hs (xN p) (xN s) else hs) (gs) (lg) (xs) (most) (cap)) := by
  have hp12 := hv.1.1
  have hs24 := hv.2.1
  have hall2 := hv.2.2.2.2.2.2.2
  have hmst := hc.wk.mst
  refine amet_of pf_LH_goal (Nat.le_of_ble_eq_true rfl) ?_
  show AW G m_LH_goal 8 2 62 _ 0 [(0, .ref x), (1, .int p), (2, .int s)] [] (nx, h) 0 0
  refine aw_aload_n (i := 0) d_LH_goal_0 rfl rfl ?_
  apply aw_callv_p (c_LH_playing hc hv hg) d_LH_goal_1 cl_LH_57; exact hc.1.1; rfl; rfl; rfl; rfl; decide; exact Nat.le_of_ble_eq_true rfl; exact (by omega); exact (by omega)
  refine aw_ifN_gt d_LH_goal_4 (by have := cnt_le (fun g : GSt => g.1) gs; omega) (fun br4_ => ?_) (fun br4_ => ?_)
  · skip
    have hp9 : anyP gs = true := by rw [any_cnt]; exact decide_eq_true br4_
    have ok : okG hs gs p s = false := by unfold okG; rw [hp9]; rfl
    refine aw_iconst (v := nI 0) d_LH_goal_19 (by decide) ?_
    refine aw_zret d_LH_goal_20 rfl rfl (by omega) (by omega) ?_
    exact ⟨(by rw [ok]; rfl), _, h, _, _, _, _, _, _, _, rfl, (by rw [ok]; exact hc), Fr.rf⟩
  · skip
    have hp9 : anyP gs = false := by rw [any_cnt]; exact decide_eq_false (by omega)
    refine aw_aload_n (i := 0) d_LH_goal_7 rfl rfl ?_
    apply aw_get d_LH_goal_8 fl_LH_10; exact hc.1.1; rfl
    refine aw_iload_n (i := 1) d_LH_goal_11 rfl rfl ?_
    refine aw_iload_n (i := 2) d_LH_goal_12 rfl rfl ?_
    apply aw_callv_p (h_hasState hc.2.1 hv p s) d_LH_goal_13 cl_LH_97; exact hc.2.1.1; rfl; rfl; rfl; rfl; decide; exact Nat.le_of_ble_eq_true rfl; exact (by omega); exact (by omega)
    refine aw_ifB_ne d_LH_goal_16 (fun br16_ => ?_) (fun br16_ => ?_)
    · skip
      obtain ⟨i, z, hi9, hz9, rfl, rfl⟩ := prOK_ex br16_ hv
      have hkz := hv.1.k hi9
      have ei : xN (nI i) = i := xN_nI (by omega)
      have ez : xN (nI z) = z := xN_nI (by omega)
      refine aw_aload_n (i := 0) d_LH_goal_21 rfl rfl ?_
      apply aw_get d_LH_goal_22 fl_LH_53; exact hc.1.1; rfl
      apply aw_callv d_LH_goal_25 cl_LH_71 (c_Walk_forget hc.wk hv); exact hc.2.2.2.1.1; rfl; rfl; rfl; rfl; decide; exact (by omega); exact (by omega); exact Nat.le_of_ble_eq_true rfl
      rintro _ _ ⟨rfl, h1, rfl, hw9⟩
      have hc := hc.walk hw9 wi_no
      have FR : Fr CTs h h1 := ct_up hw9.2.2.2 (fun y hy => by simp only [WTg, List.mem_cons, List.not_mem_nil, or_false] at hy; omega)
      refine aw_aload_n (i := 0) d_LH_goal_28 rfl rfl ?_
      apply aw_get d_LH_goal_29 fl_LH_10; exact hc.1.1; rfl
      apply aw_get d_LH_goal_32 fl_LH_122; exact hc.2.1.1; rfl
      refine aw_aload_n (i := 0) d_LH_goal_35 rfl rfl ?_
      apply aw_get d_LH_goal_36 fl_LH_10; exact hc.1.1; rfl
      apply aw_get d_LH_goal_39 fl_LH_61; exact hc.2.1.1; rfl
      refine aw_iload_n (i := 1) d_LH_goal_42 rfl rfl ?_
      apply aw_callv_p (ho_gp hc.2.1 hi9) d_LH_goal_43 cl_LH_101; exact (ho_pl hc.2.1).choose_spec; rfl; rfl; rfl; rfl; decide; exact Nat.le_of_ble_eq_true rfl; exact (by omega); exact (by omega)
      apply aw_cast d_LH_goal_46; exact ho_pc hc.2.1 hi9; rfl; exact cc_LH_109
      refine aw_iload_n (i := 2) d_LH_goal_49 rfl rfl ?_
      apply aw_callv d_LH_goal_50 cl_LH_111 (pa_add hc.2.1.2.2.2.1); exact hc.2.1.2.2.2.1.ob.choose_spec; rfl; rfl; rfl; rfl; decide; exact (by omega); exact (by omega); exact Nat.le_of_ble_eq_true rfl
      rintro _ _ ⟨rfl, n2, h2, rfl, hq9, f9⟩
      refine aw_zret d_LH_goal_53 rfl (nr_b _) (by omega) (by omega) ?_
      cases ql : decide (hs.2.2.1.length < 6) with
      | true =>
        have ql2 := of_decide_eq_true ql
        have ok : okG hs gs (nI i) (nI z) = true := by unfold okG; rw [hp9, br16_, ql]; rfl
        rw [if_pos ql2] at hq9
        have ho9 := ho_addG hc.2.1 f9 (fun y hy => by simp only [List.mem_cons, List.not_mem_nil, or_false] at hy; omega) hq9
        have hc := hc.hou (hs9 := addG hs i z) ⟨rfl, rfl, rfl⟩ ho9 rfl f9 (fun y hy => by simp only [List.mem_cons, List.not_mem_nil, or_false] at hy; unfold HT; omega)
        exact ⟨(by rw [ok]; rfl), n2, h2, _, _, _, _, _, _, _, rfl, (by rw [ok]; show CL _ _ _ (addG hs (xN (nI i)) (xN (nI z))) _ _ _ _ _ _ _ _ _ _ _ _; rw [ei, ez]; exact hc), FR.tr (ct_up f9 (fun y hy => by simp only [List.mem_cons, List.not_mem_nil, or_false] at hy; omega))⟩
      | false =>
        have ql2 := of_decide_eq_false ql
        have ok : okG hs gs (nI i) (nI z) = false := by unfold okG; rw [hp9, br16_, ql]; rfl
        rw [if_neg ql2] at hq9
        obtain ⟨c1, c2, c3, c4, c5, c6⟩ := hc.2.1
        have ho9 : HoA h2 hs ad (hsta hs) := ⟨f9 _ _ c1 (by simp), c2.fr f9 (by simp) (by simp), c3.fr f9 (by simp) (by simp), hq9, ⟨c5.1, fun i hi => f9 _ _ (c5.2 i hi) (by simp; omega)⟩, c6.fr f9 (fun x h1 h2 => by simp; omega)⟩
        have hc := hc.hou ⟨rfl, rfl, rfl⟩ ho9 rfl f9 (fun y hy => by simp only [List.mem_cons, List.not_mem_nil, or_false] at hy; unfold HT; omega)
        exact ⟨(by rw [ok]; rfl), n2, h2, _, _, _, _, _, _, _, rfl, (by rw [ok]; exact hc), FR.tr (ct_up f9 (fun y hy => by simp only [List.mem_cons, List.not_mem_nil, or_false] at hy; omega))⟩
    · skip
      have ok : okG hs gs p s = false := by unfold okG; rw [hp9, br16_]; rfl
      refine aw_iconst (v := nI 0) d_LH_goal_19 (by decide) ?_
      refine aw_zret d_LH_goal_20 rfl rfl (by omega) (by omega) ?_
      exact ⟨(by rw [ok]; rfl), _, h, _, _, _, _, _, _, _, rfl, (by rw [ok]; exact hc), Fr.rf⟩

theorem gd_self {ss : List SSt} {j : Nat} (hj : j < ss.length) : ss.set j (ss.getD j sz0) = ss := by
  have e : ss.getD j sz0 = ss[j] := by simp [List.getD_eq_getElem?_getD, List.getElem?_eq_getElem hj]
  rw [e]; exact List.set_getElem_self hj
set_option maxHeartbeats 4000000 in
set_option maxRecDepth 20000 in
theorem c_LH_need {G : aG} {nx : Nat} {h : Nat → Option aC} {x : Nat} {B : LB} {hs : HSt} {ad : AD} {A : Nat → Nat} {most : Nat} {fl : WFl} {L L2 : List Nat} {ar : Nat → Nat → Int32} {n : Nat} {gs : List GSt} {lg : Lg} {xs : List Int32} {cap : Nat} (hc : CL h x B hs ad A most fl L L2 ar n gs lg xs cap) (hv : VH hs) (hg : gs.length = 4) (t p s : Int32) : AMet G m_LH_need 8 2 62 [.ref x, .int t, .int p, .int s] (nx, h) (LR h x B (.int (if okN hs gs t p s then nI 1 else nI 0)) (if okN hs gs t p s then addN hs (xN t) (xN p) (xN s) else hs) (gs) (lg) (xs) (most) (cap)) := by
  have hp12 := hv.1.1
  have hs24 := hv.2.1
  have hall2 := hv.2.2.2.2.2.2.2
  have hmst := hc.wk.mst
  refine amet_of pf_LH_need (Nat.le_of_ble_eq_true rfl) ?_
  show AW G m_LH_need 8 2 62 _ 0 [(0, .ref x), (1, .int t), (2, .int p), (3, .int s)] [] (nx, h) 0 0
  refine aw_aload_n (i := 0) d_LH_need_0 rfl rfl ?_
  apply aw_callv_p (c_LH_playing hc hv hg) d_LH_need_1 cl_LH_57; exact hc.1.1; rfl; rfl; rfl; rfl; decide; exact Nat.le_of_ble_eq_true rfl; exact (by omega); exact (by omega)
  refine aw_ifN_gt d_LH_need_4 (by have := cnt_le (fun g : GSt => g.1) gs; omega) (fun br4_ => ?_) (fun br4_ => ?_)
  · skip
    have hp9 : anyP gs = true := by rw [any_cnt]; exact decide_eq_true br4_
    have ok : okN hs gs t p s = false := by unfold okN; rw [hp9]; rfl
    refine aw_iconst (v := nI 0) d_LH_need_30 (by decide) ?_
    refine aw_zret d_LH_need_31 rfl rfl (by omega) (by omega) ?_
    exact ⟨(by rw [ok]; rfl), _, h, _, _, _, _, _, _, _, rfl, (by rw [ok]; exact hc), Fr.rf⟩
  · skip
    have hp9 : anyP gs = false := by rw [any_cnt]; exact decide_eq_false (by omega)
    refine aw_aload_n (i := 0) d_LH_need_7 rfl rfl ?_
    apply aw_get d_LH_need_8 fl_LH_10; exact hc.1.1; rfl
    refine aw_iload_n (i := 1) d_LH_need_11 rfl rfl ?_
    apply aw_callv_p (c_House_hasStep hc.2.1 hv t) d_LH_need_12 cl_LH_94; exact hc.2.1.1; rfl; rfl; rfl; rfl; decide; exact Nat.le_of_ble_eq_true rfl; exact (by omega); exact (by omega)
    refine aw_ifB_eq d_LH_need_15 (fun br15_ => ?_) (fun br15_ => ?_)
    · skip
      have ok : okN hs gs t p s = false := by unfold okN; rw [hp9, show isSx hs t = false from br15_]; rfl
      refine aw_iconst (v := nI 0) d_LH_need_30 (by decide) ?_
      refine aw_zret d_LH_need_31 rfl rfl (by omega) (by omega) ?_
      exact ⟨(by rw [ok]; rfl), _, h, _, _, _, _, _, _, _, rfl, (by rw [ok]; exact hc), Fr.rf⟩
    · skip
      obtain ⟨j, hj9, rfl⟩ := dec_ix br15_ (by omega)
      have ej : xN (nI j) = j := xN_nI (by omega)
      have br15_ : isSx hs (nI j) = true := br15_
      have hvs := vs_at hv hj9
      refine aw_aload_n (i := 0) d_LH_need_18 rfl rfl ?_
      apply aw_get d_LH_need_19 fl_LH_10; exact hc.1.1; rfl
      refine aw_iload_n (i := 2) d_LH_need_22 rfl rfl ?_
      refine aw_iload_n (i := 3) d_LH_need_23 rfl rfl ?_
      apply aw_callv_p (h_hasState hc.2.1 hv p s) d_LH_need_24 cl_LH_97; exact hc.2.1.1; rfl; rfl; rfl; rfl; decide; exact Nat.le_of_ble_eq_true rfl; exact (by omega); exact (by omega)
      refine aw_ifB_ne d_LH_need_27 (fun br27_ => ?_) (fun br27_ => ?_)
      · skip
        obtain ⟨i, z, hi9, hz9, rfl, rfl⟩ := prOK_ex br27_ hv
        have hkz := hv.1.k hi9
        have ei : xN (nI i) = i := xN_nI (by omega)
        have ez : xN (nI z) = z := xN_nI (by omega)
        refine aw_aload_n (i := 0) d_LH_need_32 rfl rfl ?_
        apply aw_get d_LH_need_33 fl_LH_53; exact hc.1.1; rfl
        apply aw_callv d_LH_need_36 cl_LH_71 (c_Walk_forget hc.wk hv); exact hc.2.2.2.1.1; rfl; rfl; rfl; rfl; decide; exact (by omega); exact (by omega); exact Nat.le_of_ble_eq_true rfl
        rintro _ _ ⟨rfl, h1, rfl, hw9⟩
        have hc := hc.walk hw9 wi_no
        have FR : Fr CTs h h1 := ct_up hw9.2.2.2 (fun y hy => by simp only [WTg, List.mem_cons, List.not_mem_nil, or_false] at hy; omega)
        obtain ⟨na, ga, s1, s2, s3⟩ := ho_sc hc.2.1 hj9
        refine aw_aload_n (i := 0) d_LH_need_39 rfl rfl ?_
        apply aw_get d_LH_need_40 fl_LH_10; exact hc.1.1; rfl
        apply aw_get d_LH_need_43 fl_LH_82; exact hc.2.1.1; rfl
        refine aw_iload_n (i := 1) d_LH_need_46 rfl rfl ?_
        apply aw_callv_p (ho_gs hc.2.1 hj9) d_LH_need_47 cl_LH_101; exact (ho_sl hc.2.1).choose_spec; rfl; rfl; rfl; rfl; decide; exact Nat.le_of_ble_eq_true rfl; exact (by omega); exact (by omega)
        apply aw_cast d_LH_need_50; exact s1; rfl; exact cc_LH_85
        apply aw_get d_LH_need_53 fl_LH_105; exact s1; rfl
        refine aw_aload_n (i := 0) d_LH_need_56 rfl rfl ?_
        apply aw_get d_LH_need_57 fl_LH_10; exact hc.1.1; rfl
        apply aw_get d_LH_need_60 fl_LH_61; exact hc.2.1.1; rfl
        refine aw_iload_n (i := 2) d_LH_need_63 rfl rfl ?_
        apply aw_callv_p (ho_gp hc.2.1 hi9) d_LH_need_64 cl_LH_101; exact (ho_pl hc.2.1).choose_spec; rfl; rfl; rfl; rfl; decide; exact Nat.le_of_ble_eq_true rfl; exact (by omega); exact (by omega)
        apply aw_cast d_LH_need_67; exact ho_pc hc.2.1 hi9; rfl; exact cc_LH_109
        refine aw_iload_n (i := 3) d_LH_need_70 rfl rfl ?_
        apply aw_callv d_LH_need_71 cl_LH_111 (pa_add s2); exact s2.ob.choose_spec; rfl; rfl; rfl; rfl; decide; exact (by omega); exact (by omega); exact Nat.le_of_ble_eq_true rfl
        rintro _ _ ⟨rfl, n2, h2, rfl, hq9, f9⟩
        refine aw_zret d_LH_need_74 rfl (nr_b _) (by omega) (by omega) ?_
        cases ql : decide ((hs.2.1.getD j sz0).2.2.2.2.1.length < 4) with
        | true =>
          have ql2 := of_decide_eq_true ql
          have ok : okN hs gs (nI j) (nI i) (nI z) = true := by unfold okN; rw [ej, hp9, br15_, br27_, ql]; rfl
          rw [if_pos ql2] at hq9
          have ho9 := ho_setS (g := fun q => (q.1, q.2.1, q.2.2.1, q.2.2.2.1, q.2.2.2.2.1 ++ [(i, z)], q.2.2.2.2.2)) hc.2.1 hv hj9 (fun q => ⟨rfl, rfl, rfl, rfl⟩) f9 (fun y hy => by simp only [List.mem_cons, List.not_mem_nil, or_false] at hy; omega) s1 hq9 (s3.fr f9 (fun x hx => by simp only [List.mem_cons, List.not_mem_nil, or_false]; omega))
          have hc := hc.hou (hs9 := addN hs j i z) ⟨rfl, rfl, rfl⟩ ho9 rfl f9 (fun y hy => by simp only [List.mem_cons, List.not_mem_nil, or_false] at hy; unfold HT; omega)
          exact ⟨(by rw [ok]; rfl), n2, h2, _, _, _, _, _, _, _, rfl, (by rw [ok]; show CL _ _ _ (addN hs (xN (nI j)) (xN (nI i)) (xN (nI z))) _ _ _ _ _ _ _ _ _ _ _ _; rw [ej, ei, ez]; exact hc), FR.tr (f9.up (fun y hy => mem_CTs.mpr (by simp only [List.mem_cons, List.not_mem_nil, or_false] at hy; omega)))⟩
        | false =>
          have ql2 := of_decide_eq_false ql
          have ok : okN hs gs (nI j) (nI i) (nI z) = false := by unfold okN; rw [ej, hp9, br15_, br27_, ql]; rfl
          rw [if_neg ql2] at hq9
          have ho9 := ho_setS (g := fun q => q) hc.2.1 hv hj9 (fun q => ⟨rfl, rfl, rfl, rfl⟩) f9 (fun y hy => by simp only [List.mem_cons, List.not_mem_nil, or_false] at hy; omega) s1 hq9 (s3.fr f9 (fun x hx => by simp only [List.mem_cons, List.not_mem_nil, or_false]; omega))
          rw [show setS hs j (fun q => q) = hs by unfold setS; rw [gd_self hj9]] at ho9
          have hc := hc.hou ⟨rfl, rfl, rfl⟩ ho9 rfl f9 (fun y hy => by simp only [List.mem_cons, List.not_mem_nil, or_false] at hy; unfold HT; omega)
          exact ⟨(by rw [ok]; rfl), n2, h2, _, _, _, _, _, _, _, rfl, (by rw [ok]; exact hc), FR.tr (f9.up (fun y hy => mem_CTs.mpr (by simp only [List.mem_cons, List.not_mem_nil, or_false] at hy; omega)))⟩
      · skip
        have ok : okN hs gs (nI j) p s = false := by unfold okN; rw [hp9, br15_, br27_]; rfl
        refine aw_iconst (v := nI 0) d_LH_need_30 (by decide) ?_
        refine aw_zret d_LH_need_31 rfl rfl (by omega) (by omega) ?_
        exact ⟨(by rw [ok]; rfl), _, h, _, _, _, _, _, _, _, rfl, (by rw [ok]; exact hc), Fr.rf⟩

set_option maxHeartbeats 4000000 in
set_option maxRecDepth 20000 in
theorem c_LH_give {G : aG} {nx : Nat} {h : Nat → Option aC} {x : Nat} {B : LB} {hs : HSt} {ad : AD} {A : Nat → Nat} {most : Nat} {fl : WFl} {L L2 : List Nat} {ar : Nat → Nat → Int32} {n : Nat} {gs : List GSt} {lg : Lg} {xs : List Int32} {cap : Nat} (hc : CL h x B hs ad A most fl L L2 ar n gs lg xs cap) (hv : VH hs) (hg : gs.length = 4) (t p s : Int32) : AMet G m_LH_give 8 2 62 [.ref x, .int t, .int p, .int s] (nx, h) (LR h x B (.int (if okV hs gs t p s then nI 1 else nI 0)) (if okV hs gs t p s then addV hs (xN t) (xN p) (xN s) else hs) (gs) (lg) (xs) (most) (cap)) := by
  have hp12 := hv.1.1
  have hs24 := hv.2.1
  have hall2 := hv.2.2.2.2.2.2.2
  have hmst := hc.wk.mst
  refine amet_of pf_LH_give (Nat.le_of_ble_eq_true rfl) ?_
  show AW G m_LH_give 8 2 62 _ 0 [(0, .ref x), (1, .int t), (2, .int p), (3, .int s)] [] (nx, h) 0 0
  refine aw_aload_n (i := 0) d_LH_give_0 rfl rfl ?_
  apply aw_callv_p (c_LH_playing hc hv hg) d_LH_give_1 cl_LH_57; exact hc.1.1; rfl; rfl; rfl; rfl; decide; exact Nat.le_of_ble_eq_true rfl; exact (by omega); exact (by omega)
  refine aw_ifN_gt d_LH_give_4 (by have := cnt_le (fun g : GSt => g.1) gs; omega) (fun br4_ => ?_) (fun br4_ => ?_)
  · skip
    have hp9 : anyP gs = true := by rw [any_cnt]; exact decide_eq_true br4_
    have ok : okV hs gs t p s = false := by unfold okV; rw [hp9]; rfl
    refine aw_iconst (v := nI 0) d_LH_give_30 (by decide) ?_
    refine aw_zret d_LH_give_31 rfl rfl (by omega) (by omega) ?_
    exact ⟨(by rw [ok]; rfl), _, h, _, _, _, _, _, _, _, rfl, (by rw [ok]; exact hc), Fr.rf⟩
  · skip
    have hp9 : anyP gs = false := by rw [any_cnt]; exact decide_eq_false (by omega)
    refine aw_aload_n (i := 0) d_LH_give_7 rfl rfl ?_
    apply aw_get d_LH_give_8 fl_LH_10; exact hc.1.1; rfl
    refine aw_iload_n (i := 1) d_LH_give_11 rfl rfl ?_
    apply aw_callv_p (c_House_hasStep hc.2.1 hv t) d_LH_give_12 cl_LH_94; exact hc.2.1.1; rfl; rfl; rfl; rfl; decide; exact Nat.le_of_ble_eq_true rfl; exact (by omega); exact (by omega)
    refine aw_ifB_eq d_LH_give_15 (fun br15_ => ?_) (fun br15_ => ?_)
    · skip
      have ok : okV hs gs t p s = false := by unfold okV; rw [hp9, show isSx hs t = false from br15_]; rfl
      refine aw_iconst (v := nI 0) d_LH_give_30 (by decide) ?_
      refine aw_zret d_LH_give_31 rfl rfl (by omega) (by omega) ?_
      exact ⟨(by rw [ok]; rfl), _, h, _, _, _, _, _, _, _, rfl, (by rw [ok]; exact hc), Fr.rf⟩
    · skip
      obtain ⟨j, hj9, rfl⟩ := dec_ix br15_ (by omega)
      have ej : xN (nI j) = j := xN_nI (by omega)
      have br15_ : isSx hs (nI j) = true := br15_
      have hvs := vs_at hv hj9
      refine aw_aload_n (i := 0) d_LH_give_18 rfl rfl ?_
      apply aw_get d_LH_give_19 fl_LH_10; exact hc.1.1; rfl
      refine aw_iload_n (i := 2) d_LH_give_22 rfl rfl ?_
      refine aw_iload_n (i := 3) d_LH_give_23 rfl rfl ?_
      apply aw_callv_p (h_hasState hc.2.1 hv p s) d_LH_give_24 cl_LH_97; exact hc.2.1.1; rfl; rfl; rfl; rfl; decide; exact Nat.le_of_ble_eq_true rfl; exact (by omega); exact (by omega)
      refine aw_ifB_ne d_LH_give_27 (fun br27_ => ?_) (fun br27_ => ?_)
      · skip
        obtain ⟨i, z, hi9, hz9, rfl, rfl⟩ := prOK_ex br27_ hv
        have hkz := hv.1.k hi9
        have ei : xN (nI i) = i := xN_nI (by omega)
        have ez : xN (nI z) = z := xN_nI (by omega)
        obtain ⟨na, ga, s1, s2, s3⟩ := ho_sc hc.2.1 hj9
        refine aw_aload_n (i := 0) d_LH_give_32 rfl rfl ?_
        apply aw_get d_LH_give_33 fl_LH_10; exact hc.1.1; rfl
        apply aw_get d_LH_give_36 fl_LH_82; exact hc.2.1.1; rfl
        refine aw_iload_n (i := 1) d_LH_give_39 rfl rfl ?_
        apply aw_callv_p (ho_gs hc.2.1 hj9) d_LH_give_40 cl_LH_101; exact (ho_sl hc.2.1).choose_spec; rfl; rfl; rfl; rfl; decide; exact Nat.le_of_ble_eq_true rfl; exact (by omega); exact (by omega)
        apply aw_cast d_LH_give_43; exact s1; rfl; exact cc_LH_85
        apply aw_get d_LH_give_46 fl_LH_116; exact s1; rfl
        refine aw_astore (lv2 := [(0, _), (1, _), (2, _), (3, _), (4, _)]) d_LH_give_49 (by decide) rfl ?_
        refine aw_aload d_LH_give_51 rfl ?_
        refine aw_iload_n (i := 2) d_LH_give_53 rfl rfl ?_
        apply aw_callv_p (c_Pairs_names hc.2.1.2.2.2.2.1 hv.1 s3 hvs.2.2.2.2.2.2.2.2.2.1 (nI i)) d_LH_give_54 cl_LH_119; exact s3.ob.choose_spec; rfl; rfl; rfl; rfl; decide; exact Nat.le_of_ble_eq_true rfl; exact (by omega); exact (by omega)
        rw [ite_b]
        refine aw_ifB_eq d_LH_give_57 (fun br57_ => ?_) (fun br57_ => ?_)
        · skip
          refine aw_aload_n (i := 0) d_LH_give_62 rfl rfl ?_
          apply aw_get d_LH_give_63 fl_LH_53; exact hc.1.1; rfl
          apply aw_callv d_LH_give_66 cl_LH_71 (c_Walk_forget hc.wk hv); exact hc.2.2.2.1.1; rfl; rfl; rfl; rfl; decide; exact (by omega); exact (by omega); exact Nat.le_of_ble_eq_true rfl
          rintro _ _ ⟨rfl, h1, rfl, hw9⟩
          have hc := hc.walk hw9 wi_no
          have FR : Fr CTs h h1 := ct_up hw9.2.2.2 (fun y hy => by simp only [WTg, List.mem_cons, List.not_mem_nil, or_false] at hy; omega)
          have s1 := hw9.2.2.2 _ _ s1 (by simp only [WTg, List.mem_cons, List.not_mem_nil, or_false]; omega)
          have s2 := s2.fr hw9.2.2.2 (fun x hx => by simp only [WTg, List.mem_cons, List.not_mem_nil, or_false]; omega)
          have s3 := s3.fr hw9.2.2.2 (fun x hx => by simp only [WTg, List.mem_cons, List.not_mem_nil, or_false]; omega)
          refine aw_aload d_LH_give_69 rfl ?_
          refine aw_aload_n (i := 0) d_LH_give_71 rfl rfl ?_
          apply aw_get d_LH_give_72 fl_LH_10; exact hc.1.1; rfl
          apply aw_get d_LH_give_75 fl_LH_61; exact hc.2.1.1; rfl
          refine aw_iload_n (i := 2) d_LH_give_78 rfl rfl ?_
          apply aw_callv_p (ho_gp hc.2.1 hi9) d_LH_give_79 cl_LH_101; exact (ho_pl hc.2.1).choose_spec; rfl; rfl; rfl; rfl; decide; exact Nat.le_of_ble_eq_true rfl; exact (by omega); exact (by omega)
          apply aw_cast d_LH_give_82; exact ho_pc hc.2.1 hi9; rfl; exact cc_LH_109
          refine aw_iload_n (i := 3) d_LH_give_85 rfl rfl ?_
          apply aw_callv d_LH_give_86 cl_LH_111 (pa_add s3); exact s3.ob.choose_spec; rfl; rfl; rfl; rfl; decide; exact (by omega); exact (by omega); exact Nat.le_of_ble_eq_true rfl
          rintro _ _ ⟨rfl, n2, h2, rfl, hq9, f9⟩
          refine aw_zret d_LH_give_89 rfl (nr_b _) (by omega) (by omega) ?_
          cases ql : decide ((hs.2.1.getD j sz0).2.2.2.2.2.length < 4) with
          | true =>
            have ql2 := of_decide_eq_true ql
            have ok : okV hs gs (nI j) (nI i) (nI z) = true := by unfold okV; rw [ej, hp9, br15_, br27_, ql, br57_]; rfl
            rw [if_pos ql2] at hq9
            have ho9 := ho_setS (g := fun q => (q.1, q.2.1, q.2.2.1, q.2.2.2.1, q.2.2.2.2.1, q.2.2.2.2.2 ++ [(i, z)])) hc.2.1 hv hj9 (fun q => ⟨rfl, rfl, rfl, rfl⟩) f9 (fun y hy => by simp only [List.mem_cons, List.not_mem_nil, or_false] at hy; omega) s1 (s2.fr f9 (fun x hx => by simp only [List.mem_cons, List.not_mem_nil, or_false]; omega)) hq9
            have hc := hc.hou (hs9 := addV hs j i z) ⟨rfl, rfl, rfl⟩ ho9 rfl f9 (fun y hy => by simp only [List.mem_cons, List.not_mem_nil, or_false] at hy; unfold HT; omega)
            exact ⟨(by rw [ok]; rfl), n2, h2, _, _, _, _, _, _, _, rfl, (by rw [ok]; show CL _ _ _ (addV hs (xN (nI j)) (xN (nI i)) (xN (nI z))) _ _ _ _ _ _ _ _ _ _ _ _; rw [ej, ei, ez]; exact hc), FR.tr (f9.up (fun y hy => mem_CTs.mpr (by simp only [List.mem_cons, List.not_mem_nil, or_false] at hy; omega)))⟩
          | false =>
            have ql2 := of_decide_eq_false ql
            have ok : okV hs gs (nI j) (nI i) (nI z) = false := by unfold okV; rw [ej, hp9, br15_, br27_, ql, br57_]; rfl
            rw [if_neg ql2] at hq9
            have ho9 := ho_setS (g := fun q => q) hc.2.1 hv hj9 (fun q => ⟨rfl, rfl, rfl, rfl⟩) f9 (fun y hy => by simp only [List.mem_cons, List.not_mem_nil, or_false] at hy; omega) s1 (s2.fr f9 (fun x hx => by simp only [List.mem_cons, List.not_mem_nil, or_false]; omega)) hq9
            rw [show setS hs j (fun q => q) = hs by unfold setS; rw [gd_self hj9]] at ho9
            have hc := hc.hou ⟨rfl, rfl, rfl⟩ ho9 rfl f9 (fun y hy => by simp only [List.mem_cons, List.not_mem_nil, or_false] at hy; unfold HT; omega)
            exact ⟨(by rw [ok]; rfl), n2, h2, _, _, _, _, _, _, _, rfl, (by rw [ok]; exact hc), FR.tr (f9.up (fun y hy => mem_CTs.mpr (by simp only [List.mem_cons, List.not_mem_nil, or_false] at hy; omega)))⟩
        · skip
          have ok : okV hs gs (nI j) (nI i) (nI z) = false := by unfold okV; rw [ej, br57_]; simp
          refine aw_iconst (v := nI 0) d_LH_give_60 (by decide) ?_
          refine aw_zret d_LH_give_61 rfl rfl (by omega) (by omega) ?_
          exact ⟨(by rw [ok]; rfl), _, h, _, _, _, _, _, _, _, rfl, (by rw [ok]; exact hc), Fr.rf⟩
      · skip
        have ok : okV hs gs (nI j) p s = false := by unfold okV; rw [hp9, br15_, br27_]; rfl
        refine aw_iconst (v := nI 0) d_LH_give_30 (by decide) ?_
        refine aw_zret d_LH_give_31 rfl rfl (by omega) (by omega) ?_
        exact ⟨(by rw [ok]; rfl), _, h, _, _, _, _, _, _, _, rfl, (by rw [ok]; exact hc), Fr.rf⟩

set_option maxHeartbeats 4000000 in
set_option maxRecDepth 20000 in
theorem c_LH_exit {G : aG} {nx : Nat} {h : Nat → Option aC} {x : Nat} {B : LB} {hs : HSt} {ad : AD} {A : Nat → Nat} {most : Nat} {fl : WFl} {L L2 : List Nat} {ar : Nat → Nat → Int32} {n : Nat} {gs : List GSt} {lg : Lg} {xs : List Int32} {cap : Nat} (hc : CL h x B hs ad A most fl L L2 ar n gs lg xs cap) (hv : VH hs) (hg : gs.length = 4) (p s : Int32) : AMet G m_LH_exit 4 0 0 [.ref x, .int p, .int s] (nx, h) (LR h x B (.int (if okE hs gs p s then nI 1 else nI 0)) (if okE hs gs p s then setE hs (xN p) s else hs) (gs) (lg) (xs) (most) (cap)) := by
  have hp12 := hv.1.1
  have hs24 := hv.2.1
  have hall2 := hv.2.2.2.2.2.2.2
  have hmst := hc.wk.mst
  refine amet_of pf_LH_exit (Nat.le_of_ble_eq_true rfl) ?_
  show AW G m_LH_exit 4 0 0 _ 0 [(0, .ref x), (1, .int p), (2, .int s)] [] (nx, h) 0 0
  refine aw_aload_n (i := 0) d_LH_exit_0 rfl rfl ?_
  apply aw_callv_p (c_LH_playing hc hv hg) d_LH_exit_1 cl_LH_57; exact hc.1.1; rfl; rfl; rfl; rfl; decide; exact Nat.le_of_ble_eq_true rfl; exact (by omega); exact (by omega)
  refine aw_ifN_gt d_LH_exit_4 (by have := cnt_le (fun g : GSt => g.1) gs; omega) (fun br4_ => ?_) (fun br4_ => ?_)
  · skip
    have hp9 : anyP gs = true := by rw [any_cnt]; exact decide_eq_true br4_
    have ok : okE hs gs p s = false := by unfold okE; rw [hp9]; rfl
    refine aw_iconst (v := nI 0) d_LH_exit_19 (by decide) ?_
    refine aw_zret d_LH_exit_20 rfl rfl (by omega) (by omega) ?_
    exact ⟨(by rw [ok]; rfl), _, h, _, _, _, _, _, _, _, rfl, (by rw [ok]; exact hc), Fr.rf⟩
  · skip
    have hp9 : anyP gs = false := by rw [any_cnt]; exact decide_eq_false (by omega)
    refine aw_aload_n (i := 0) d_LH_exit_7 rfl rfl ?_
    apply aw_get d_LH_exit_8 fl_LH_10; exact hc.1.1; rfl
    refine aw_iload_n (i := 1) d_LH_exit_11 rfl rfl ?_
    refine aw_iload_n (i := 2) d_LH_exit_12 rfl rfl ?_
    apply aw_callv_p (h_hasState hc.2.1 hv p s) d_LH_exit_13 cl_LH_97; exact hc.2.1.1; rfl; rfl; rfl; rfl; decide; exact Nat.le_of_ble_eq_true rfl; exact (by omega); exact (by omega)
    refine aw_ifB_ne d_LH_exit_16 (fun br16_ => ?_) (fun br16_ => ?_)
    · skip
      obtain ⟨i, z, hi9, hz9, rfl, rfl⟩ := prOK_ex br16_ hv
      have hkz := hv.1.k hi9
      have ei : xN (nI i) = i := xN_nI (by omega)
      have ez : xN (nI z) = z := xN_nI (by omega)
      have ok : okE hs gs (nI i) (nI z) = true := by unfold okE; rw [hp9, br16_]; rfl
      refine aw_aload_n (i := 0) d_LH_exit_21 rfl rfl ?_
      apply aw_get d_LH_exit_22 fl_LH_10; exact hc.1.1; rfl
      apply aw_get d_LH_exit_25 fl_LH_61; exact hc.2.1.1; rfl
      refine aw_iload_n (i := 1) d_LH_exit_28 rfl rfl ?_
      apply aw_callv_p (ho_gp hc.2.1 hi9) d_LH_exit_29 cl_LH_101; exact (ho_pl hc.2.1).choose_spec; rfl; rfl; rfl; rfl; decide; exact Nat.le_of_ble_eq_true rfl; exact (by omega); exact (by omega)
      apply aw_cast d_LH_exit_32; exact ho_pc hc.2.1 hi9; rfl; exact cc_LH_109
      refine aw_iload_n (i := 2) d_LH_exit_35 rfl rfl ?_
      apply aw_put d_LH_exit_36 pl_LH_137; exact ho_pc hc.2.1 hi9; exact Nat.le_of_ble_eq_true rfl; rfl; rfl
      refine aw_nm (ho_pc hc.2.1 hi9) ?_
      intro h1 k3 f1 o1
      have hc := cl_setP (g := fun q => (q.1, q.2.1, q.2.2.1, q.2.2.2.1, nI z, q.2.2.2.2.2)) hc hv (fun q => ⟨rfl, rfl⟩) hi9 f1 (by rw [pfl_setP (g := fun q => (q.1, q.2.1, q.2.2.1, q.2.2.2.1, nI z, q.2.2.2.2.2)) (fun q => ⟨rfl, rfl⟩) hi9]; exact k3)
      have FR : Fr CTs h h1 := f1.up (fun y hy => mem_CTs.mpr (by rw [List.mem_singleton.mp hy]; show (1 ≤ 200 + i ∧ 200 + i ≤ 43) ∨ (200 ≤ 200 + i ∧ 200 + i ≤ 211) ∨ (300 ≤ 200 + i ∧ 200 + i ≤ 779); omega))
      refine aw_iconst (v := nI 1) d_LH_exit_39 (by decide) ?_
      refine aw_zret d_LH_exit_40 rfl rfl (by omega) (by omega) ?_
      exact ⟨(by rw [ok]; rfl), _, h1, _, _, _, _, _, _, _, rfl, (by rw [ok]; show CL _ _ _ (setE hs (xN (nI i)) (nI z)) _ _ _ _ _ _ _ _ _ _ _ _; rw [ei]; exact hc), FR⟩
    · skip
      have ok : okE hs gs p s = false := by unfold okE; rw [hp9, br16_]; rfl
      refine aw_iconst (v := nI 0) d_LH_exit_19 (by decide) ?_
      refine aw_zret d_LH_exit_20 rfl rfl (by omega) (by omega) ?_
      exact ⟨(by rw [ok]; rfl), _, h, _, _, _, _, _, _, _, rfl, (by rw [ok]; exact hc), Fr.rf⟩

set_option maxHeartbeats 4000000 in
set_option maxRecDepth 20000 in
theorem c_LH_rule {G : aG} {nx : Nat} {h : Nat → Option aC} {x : Nat} {B : LB} {hs : HSt} {ad : AD} {A : Nat → Nat} {most : Nat} {fl : WFl} {L L2 : List Nat} {ar : Nat → Nat → Int32} {n : Nat} {gs : List GSt} {lg : Lg} {xs : List Int32} {cap : Nat} (hc : CL h x B hs ad A most fl L L2 ar n gs lg xs cap) (hv : VH hs) (hg : gs.length = 4) (p t s : Int32) : AMet G m_LH_rule 4 0 0 [.ref x, .int p, .int t, .int s] (nx, h) (LR h x B (.int (if okR hs gs p t s then nI 1 else nI 0)) (if okR hs gs p t s then setR hs (xN p) t s else hs) (gs) (lg) (xs) (most) (cap)) := by
  have hp12 := hv.1.1
  have hs24 := hv.2.1
  have hall2 := hv.2.2.2.2.2.2.2
  have hmst := hc.wk.mst
  refine amet_of pf_LH_rule (Nat.le_of_ble_eq_true rfl) ?_
  show AW G m_LH_rule 4 0 0 _ 0 [(0, .ref x), (1, .int p), (2, .int t), (3, .int s)] [] (nx, h) 0 0
  refine aw_aload_n (i := 0) d_LH_rule_0 rfl rfl ?_
  apply aw_callv_p (c_LH_playing hc hv hg) d_LH_rule_1 cl_LH_57; exact hc.1.1; rfl; rfl; rfl; rfl; decide; exact Nat.le_of_ble_eq_true rfl; exact (by omega); exact (by omega)
  refine aw_ifN_gt d_LH_rule_4 (by have := cnt_le (fun g : GSt => g.1) gs; omega) (fun br4_ => ?_) (fun br4_ => ?_)
  · skip
    have hp9 : anyP gs = true := by rw [any_cnt]; exact decide_eq_true br4_
    have ok : okR hs gs p t s = false := by unfold okR; rw [hp9]; rfl
    refine aw_iconst (v := nI 0) d_LH_rule_35 (by decide) ?_
    refine aw_zret d_LH_rule_36 rfl rfl (by omega) (by omega) ?_
    exact ⟨(by rw [ok]; rfl), _, h, _, _, _, _, _, _, _, rfl, (by rw [ok]; exact hc), Fr.rf⟩
  · skip
    have hp9 : anyP gs = false := by rw [any_cnt]; exact decide_eq_false (by omega)
    refine aw_aload_n (i := 0) d_LH_rule_7 rfl rfl ?_
    apply aw_get d_LH_rule_8 fl_LH_10; exact hc.1.1; rfl
    refine aw_iload_n (i := 1) d_LH_rule_11 rfl rfl ?_
    apply aw_callv_p (c_House_hasProp hc.2.1 hv p) d_LH_rule_12 cl_LH_128; exact hc.2.1.1; rfl; rfl; rfl; rfl; decide; exact Nat.le_of_ble_eq_true rfl; exact (by omega); exact (by omega)
    refine aw_ifB_eq d_LH_rule_15 (fun br15_ => ?_) (fun br15_ => ?_)
    · skip
      have ok : okR hs gs p t s = false := by unfold okR; rw [hp9, show isPx hs p = false from br15_]; rfl
      refine aw_iconst (v := nI 0) d_LH_rule_35 (by decide) ?_
      refine aw_zret d_LH_rule_36 rfl rfl (by omega) (by omega) ?_
      exact ⟨(by rw [ok]; rfl), _, h, _, _, _, _, _, _, _, rfl, (by rw [ok]; exact hc), Fr.rf⟩
    · skip
      have br15_ : isPx hs p = true := br15_
      refine aw_iload_n (i := 1) d_LH_rule_18 rfl rfl ?_
      refine aw_iload_n (i := 2) d_LH_rule_19 rfl rfl ?_
      refine aw_icmp_eq d_LH_rule_20 (fun br20_ => ?_) (fun br20_ => ?_)
      · skip
        have ok : okR hs gs p t s = false := by unfold okR; rw [hp9, br15_, br20_]; simp
        refine aw_iconst (v := nI 0) d_LH_rule_35 (by decide) ?_
        refine aw_zret d_LH_rule_36 rfl rfl (by omega) (by omega) ?_
        exact ⟨(by rw [ok]; rfl), _, h, _, _, _, _, _, _, _, rfl, (by rw [ok]; exact hc), Fr.rf⟩
      · skip
        have hne : (!(p == t)) = true := by simpa using br20_
        refine aw_aload_n (i := 0) d_LH_rule_23 rfl rfl ?_
        apply aw_get d_LH_rule_24 fl_LH_10; exact hc.1.1; rfl
        refine aw_iload_n (i := 2) d_LH_rule_27 rfl rfl ?_
        refine aw_iload_n (i := 3) d_LH_rule_28 rfl rfl ?_
        apply aw_callv_p (h_hasState hc.2.1 hv t s) d_LH_rule_29 cl_LH_97; exact hc.2.1.1; rfl; rfl; rfl; rfl; decide; exact Nat.le_of_ble_eq_true rfl; exact (by omega); exact (by omega)
        refine aw_ifB_ne d_LH_rule_32 (fun br32_ => ?_) (fun br32_ => ?_)
        · skip
          have ok : okR hs gs p t s = true := by unfold okR; rw [hp9, br15_, hne, br32_]; rfl
          obtain ⟨i, hi9, rfl⟩ := dec_ix (show decide (0 ≤ p ∧ p < nI hs.1.length) = true from br15_) (by omega)
          have ei : xN (nI i) = i := xN_nI (by omega)
          refine aw_aload_n (i := 0) d_LH_rule_37 rfl rfl ?_
          apply aw_get d_LH_rule_38 fl_LH_10; exact hc.1.1; rfl
          apply aw_get d_LH_rule_41 fl_LH_61; exact hc.2.1.1; rfl
          refine aw_iload_n (i := 1) d_LH_rule_44 rfl rfl ?_
          apply aw_callv_p (ho_gp hc.2.1 hi9) d_LH_rule_45 cl_LH_101; exact (ho_pl hc.2.1).choose_spec; rfl; rfl; rfl; rfl; decide; exact Nat.le_of_ble_eq_true rfl; exact (by omega); exact (by omega)
          apply aw_cast d_LH_rule_48; exact ho_pc hc.2.1 hi9; rfl; exact cc_LH_109
          refine aw_astore (lv2 := [(0, _), (1, _), (2, _), (3, _), (4, _)]) d_LH_rule_51 (by decide) rfl ?_
          refine aw_aload d_LH_rule_53 rfl ?_
          refine aw_iload_n (i := 2) d_LH_rule_55 rfl rfl ?_
          apply aw_put d_LH_rule_56 pl_LH_131; exact ho_pc hc.2.1 hi9; exact Nat.le_of_ble_eq_true rfl; rfl; rfl
          refine aw_nm (ho_pc hc.2.1 hi9) ?_
          intro h1 k3 f1 o1
          refine aw_aload d_LH_rule_59 rfl ?_
          refine aw_iload_n (i := 3) d_LH_rule_61 rfl rfl ?_
          apply aw_put d_LH_rule_62 pl_LH_134; exact k3; exact Nat.le_of_ble_eq_true rfl; rfl; rfl
          refine aw_nm k3 ?_
          intro h1 k3 f2 o2
          have f1 := f1.tr f2
          have hc := cl_setP (g := fun q => (q.1, q.2.1, t, s, q.2.2.2.2.1, q.2.2.2.2.2)) hc hv (fun q => ⟨rfl, rfl⟩) hi9 f1 (by rw [pfl_setP (g := fun q => (q.1, q.2.1, t, s, q.2.2.2.2.1, q.2.2.2.2.2)) (fun q => ⟨rfl, rfl⟩) hi9]; exact k3)
          have FR : Fr CTs h h1 := f1.up (fun y hy => mem_CTs.mpr (by rw [List.mem_singleton.mp hy]; show (1 ≤ 200 + i ∧ 200 + i ≤ 43) ∨ (200 ≤ 200 + i ∧ 200 + i ≤ 211) ∨ (300 ≤ 200 + i ∧ 200 + i ≤ 779); omega))
          refine aw_iconst (v := nI 1) d_LH_rule_65 (by decide) ?_
          refine aw_zret d_LH_rule_66 rfl rfl (by omega) (by omega) ?_
          exact ⟨(by rw [ok]; rfl), _, h1, _, _, _, _, _, _, _, rfl, (by rw [ok]; show CL _ _ _ (setR hs (xN (nI i)) t s) _ _ _ _ _ _ _ _ _ _ _ _; rw [ei]; exact hc), FR⟩
        · skip
          have ok : okR hs gs p t s = false := by unfold okR; rw [hp9, br15_, hne, br32_]; rfl
          refine aw_iconst (v := nI 0) d_LH_rule_35 (by decide) ?_
          refine aw_zret d_LH_rule_36 rfl rfl (by omega) (by omega) ?_
          exact ⟨(by rw [ok]; rfl), _, h, _, _, _, _, _, _, _, rfl, (by rw [ok]; exact hc), Fr.rf⟩

set_option maxHeartbeats 4000000 in
set_option maxRecDepth 20000 in
theorem c_LH_reading {G : aG} {nx : Nat} {h : Nat → Option aC} {x : Nat} {B : LB} {hs : HSt} {ad : AD} {A : Nat → Nat} {most : Nat} {fl : WFl} {L L2 : List Nat} {ar : Nat → Nat → Int32} {n : Nat} {gs : List GSt} {lg : Lg} {xs : List Int32} {cap : Nat} (hc : CL h x B hs ad A most fl L L2 ar n gs lg xs cap) (hv : VH hs) (p s : Int32) : AMet G m_LH_reading 4 0 0 [.ref x, .int p, .int s] (nx, h) (LR h x B (.int (if okD hs p s then nI 1 else nI 0)) (if okD hs p s then setD hs (xN p) s else hs) (gs) (lg) (xs) (most) (cap)) := by
  have hp12 := hv.1.1
  have hs24 := hv.2.1
  have hall2 := hv.2.2.2.2.2.2.2
  have hmst := hc.wk.mst
  refine amet_of pf_LH_reading (Nat.le_of_ble_eq_true rfl) ?_
  show AW G m_LH_reading 4 0 0 _ 0 [(0, .ref x), (1, .int p), (2, .int s)] [] (nx, h) 0 0
  refine aw_aload_n (i := 0) d_LH_reading_0 rfl rfl ?_
  apply aw_get d_LH_reading_1 fl_LH_10; exact hc.1.1; rfl
  refine aw_iload_n (i := 1) d_LH_reading_4 rfl rfl ?_
  apply aw_callv_p (c_House_hasProp hc.2.1 hv p) d_LH_reading_5 cl_LH_128; exact hc.2.1.1; rfl; rfl; rfl; rfl; decide; exact Nat.le_of_ble_eq_true rfl; exact (by omega); exact (by omega)
  refine aw_ifB_eq d_LH_reading_8 (fun br8_ => ?_) (fun br8_ => ?_)
  · skip
    have ok : okD hs p s = false := by unfold okD; rw [show isPx hs p = false from br8_]; rfl
    refine aw_iconst (v := nI 0) d_LH_reading_28 (by decide) ?_
    refine aw_zret d_LH_reading_29 rfl rfl (by omega) (by omega) ?_
    exact ⟨(by rw [ok]; rfl), _, h, _, _, _, _, _, _, _, rfl, (by rw [ok]; exact hc), Fr.rf⟩
  · skip
    have br8_ : isPx hs p = true := br8_
    refine aw_iload_n (i := 2) d_LH_reading_11 rfl rfl ?_
    refine aw_iconst (v := -1) d_LH_reading_12 (by decide) ?_
    refine aw_icmp_eq d_LH_reading_13 (fun br13_ => ?_) (fun br13_ => ?_)
    · skip
      have ok : okD hs p s = true := by unfold okD; rw [br8_, br13_]; rfl
      obtain ⟨i, hi9, rfl⟩ := dec_ix (show decide (0 ≤ p ∧ p < nI hs.1.length) = true from br8_) (by omega)
      have ei : xN (nI i) = i := xN_nI (by omega)
      refine aw_aload_n (i := 0) d_LH_reading_30 rfl rfl ?_
      apply aw_get d_LH_reading_31 fl_LH_10; exact hc.1.1; rfl
      apply aw_get d_LH_reading_34 fl_LH_61; exact hc.2.1.1; rfl
      refine aw_iload_n (i := 1) d_LH_reading_37 rfl rfl ?_
      apply aw_callv_p (ho_gp hc.2.1 hi9) d_LH_reading_38 cl_LH_101; exact (ho_pl hc.2.1).choose_spec; rfl; rfl; rfl; rfl; decide; exact Nat.le_of_ble_eq_true rfl; exact (by omega); exact (by omega)
      apply aw_cast d_LH_reading_41; exact ho_pc hc.2.1 hi9; rfl; exact cc_LH_109
      refine aw_iload_n (i := 2) d_LH_reading_44 rfl rfl ?_
      apply aw_put d_LH_reading_45 pl_LH_234; exact ho_pc hc.2.1 hi9; exact Nat.le_of_ble_eq_true rfl; rfl; rfl
      refine aw_nm (ho_pc hc.2.1 hi9) ?_
      intro h1 k3 f1 o1
      have hc := cl_setP (g := fun q => (q.1, q.2.1, q.2.2.1, q.2.2.2.1, q.2.2.2.2.1, s)) hc hv (fun q => ⟨rfl, rfl⟩) hi9 f1 (by rw [pfl_setP (g := fun q => (q.1, q.2.1, q.2.2.1, q.2.2.2.1, q.2.2.2.2.1, s)) (fun q => ⟨rfl, rfl⟩) hi9]; exact k3)
      have FR : Fr CTs h h1 := f1.up (fun y hy => mem_CTs.mpr (by rw [List.mem_singleton.mp hy]; show (1 ≤ 200 + i ∧ 200 + i ≤ 43) ∨ (200 ≤ 200 + i ∧ 200 + i ≤ 211) ∨ (300 ≤ 200 + i ∧ 200 + i ≤ 779); omega))
      refine aw_iconst (v := nI 1) d_LH_reading_48 (by decide) ?_
      refine aw_zret d_LH_reading_49 rfl rfl (by omega) (by omega) ?_
      exact ⟨(by rw [ok]; rfl), _, h1, _, _, _, _, _, _, _, rfl, (by rw [ok]; show CL _ _ _ (setD hs (xN (nI i)) s) _ _ _ _ _ _ _ _ _ _ _ _; rw [ei]; exact hc), FR⟩
    · skip
      have hne : (s == -1) = false := by simpa using br13_
      refine aw_aload_n (i := 0) d_LH_reading_16 rfl rfl ?_
      apply aw_get d_LH_reading_17 fl_LH_10; exact hc.1.1; rfl
      refine aw_iload_n (i := 1) d_LH_reading_20 rfl rfl ?_
      refine aw_iload_n (i := 2) d_LH_reading_21 rfl rfl ?_
      apply aw_callv_p (h_hasState hc.2.1 hv p s) d_LH_reading_22 cl_LH_97; exact hc.2.1.1; rfl; rfl; rfl; rfl; decide; exact Nat.le_of_ble_eq_true rfl; exact (by omega); exact (by omega)
      refine aw_ifB_ne d_LH_reading_25 (fun br25_ => ?_) (fun br25_ => ?_)
      · skip
        have ok : okD hs p s = true := by unfold okD; rw [br8_, hne, br25_]; rfl
        obtain ⟨i, hi9, rfl⟩ := dec_ix (show decide (0 ≤ p ∧ p < nI hs.1.length) = true from br8_) (by omega)
        have ei : xN (nI i) = i := xN_nI (by omega)
        refine aw_aload_n (i := 0) d_LH_reading_30 rfl rfl ?_
        apply aw_get d_LH_reading_31 fl_LH_10; exact hc.1.1; rfl
        apply aw_get d_LH_reading_34 fl_LH_61; exact hc.2.1.1; rfl
        refine aw_iload_n (i := 1) d_LH_reading_37 rfl rfl ?_
        apply aw_callv_p (ho_gp hc.2.1 hi9) d_LH_reading_38 cl_LH_101; exact (ho_pl hc.2.1).choose_spec; rfl; rfl; rfl; rfl; decide; exact Nat.le_of_ble_eq_true rfl; exact (by omega); exact (by omega)
        apply aw_cast d_LH_reading_41; exact ho_pc hc.2.1 hi9; rfl; exact cc_LH_109
        refine aw_iload_n (i := 2) d_LH_reading_44 rfl rfl ?_
        apply aw_put d_LH_reading_45 pl_LH_234; exact ho_pc hc.2.1 hi9; exact Nat.le_of_ble_eq_true rfl; rfl; rfl
        refine aw_nm (ho_pc hc.2.1 hi9) ?_
        intro h1 k3 f1 o1
        have hc := cl_setP (g := fun q => (q.1, q.2.1, q.2.2.1, q.2.2.2.1, q.2.2.2.2.1, s)) hc hv (fun q => ⟨rfl, rfl⟩) hi9 f1 (by rw [pfl_setP (g := fun q => (q.1, q.2.1, q.2.2.1, q.2.2.2.1, q.2.2.2.2.1, s)) (fun q => ⟨rfl, rfl⟩) hi9]; exact k3)
        have FR : Fr CTs h h1 := f1.up (fun y hy => mem_CTs.mpr (by rw [List.mem_singleton.mp hy]; show (1 ≤ 200 + i ∧ 200 + i ≤ 43) ∨ (200 ≤ 200 + i ∧ 200 + i ≤ 211) ∨ (300 ≤ 200 + i ∧ 200 + i ≤ 779); omega))
        refine aw_iconst (v := nI 1) d_LH_reading_48 (by decide) ?_
        refine aw_zret d_LH_reading_49 rfl rfl (by omega) (by omega) ?_
        exact ⟨(by rw [ok]; rfl), _, h1, _, _, _, _, _, _, _, rfl, (by rw [ok]; show CL _ _ _ (setD hs (xN (nI i)) s) _ _ _ _ _ _ _ _ _ _ _ _; rw [ei]; exact hc), FR⟩
      · skip
        have ok : okD hs p s = false := by unfold okD; rw [br8_, hne, br25_]; rfl
        refine aw_iconst (v := nI 0) d_LH_reading_28 (by decide) ?_
        refine aw_zret d_LH_reading_29 rfl rfl (by omega) (by omega) ?_
        exact ⟨(by rw [ok]; rfl), _, h, _, _, _, _, _, _, _, rfl, (by rw [ok]; exact hc), Fr.rf⟩

