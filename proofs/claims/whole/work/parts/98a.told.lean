/-! what is told in the row -/
theorem RoA.ob {h : Nat → Option aC} {a cap : Nat} {xs : List Int32} (hl : RoA h a cap xs) : ∃ fs, h a = some (11, .inr (7, fs)) := by
  obtain ⟨na, f, g1, -⟩ := hl
  exact ⟨_, g1⟩
theorem h_hasState {G : aG} {nx : Nat} {h : Nat → Option aC} {hs : HSt} {ad : AD} {sta : Nat} (ho : HoA h hs ad sta) (hv : VH hs) (p s : Int32) : AMet G m_House_hasState 3 0 0 [.ref ad.1, .int p, .int s] (nx, h) (RV (.int (bI (prOK hs p s))) (nx, h)) := by
  have hp12 := hv.1.1
  by_cases e : 0 ≤ p ∧ p < nI hs.1.length
  · obtain ⟨i, hi, rfl⟩ := dec_ix (decide_eq_true e) (by omega)
    have := c_House_hasState (G := G) (nx := nx) ho hv hi s
    have e2 : prOK hs (nI i) s = decide (0 ≤ s ∧ s < nI (hs.1.getD i pz).1) := by
      unfold prOK
      rw [decide_eq_true e, Bool.true_and, nI_clamp (by omega : i < 2 ^ 31)]
    rw [e2]; exact this
  · have := c_House_hasStateN (G := G) (nx := nx) ho hv p s e
    have e2 : prOK hs p s = false := by
      unfold prOK
      rw [decide_eq_false e, Bool.false_and]
    rw [e2]; exact this
theorem us_idp {hs : HSt} {L : List Nat} {ar : Nat → Nat → Int32} (hv : VH hs) (hC : CHT hs L ar) {s : Nat} (hs2 : s < hs.2.1.length) : (usF hs L).testBit s = !idp hs s := by
  unfold usF idp
  rw [usF_bit hs2 L 0, Nat.zero_testBit, Bool.false_or]
  rw [Bool.eq_iff_iff, List.any_eq_true, Bool.not_eq_true', List.all_eq_false]
  constructor
  · rintro ⟨c, h1, h2⟩
    refine ⟨c, List.mem_range.mpr (((hC.2.1 c).mp h1).lt hv), ?_⟩
    have e : rch hs c = true := rcs_iff.mpr ((hC.2.1 c).mp h1)
    rw [e, h2]; decide
  · rintro ⟨c, h1, h2⟩
    have e1 : rch hs c = true := by
      cases q : rch hs c with
      | true => rfl
      | false => rw [q] at h2; simp at h2
    have e2 : opn hs c s = true := by
      cases q : opn hs c s with
      | true => rfl
      | false => rw [q] at h2; simp at h2
    exact ⟨c, (hC.2.1 c).mpr (rcs_iff.mp e1), e2⟩
set_option maxHeartbeats 4000000 in
set_option maxRecDepth 20000 in
theorem c_LH_behind {G : aG} {nx : Nat} {h : Nat → Option aC} {x : Nat} {B : LB} {hs : HSt} {ad : AD} {A : Nat → Nat} {most : Nat} {fl : WFl} {L L2 : List Nat} {ar : Nat → Nat → Int32} {n : Nat} {gs : List GSt} {lg : Lg} {xs : List Int32} {cap : Nat} (hc : CL h x B hs ad A most fl L L2 ar n gs lg xs cap) (hv : VH hs) (v s : Int32) : AMet G m_LH_behind 8 0 0 [.ref x, .int v, .int s] (nx, h) (LR h x B (.int (if isC hs v && isSx hs s then bh hs (xN v) (xN s) else -1)) (hs) (gs) (lg) (xs) (most) (cap)) := by
  have hp12 := hv.1.1
  have hs24 := hv.2.1
  have hall2 := hv.2.2.2.2.2.2.2
  have hmst := hc.wk.mst
  refine amet_of pf_LH_behind (Nat.le_of_ble_eq_true rfl) ?_
  show AW G m_LH_behind 8 0 0 _ 0 [(0, .ref x), (1, .int v), (2, .int s)] [] (nx, h) 0 0
  refine aw_aload_n (i := 0) d_LH_behind_0 rfl rfl ?_
  apply aw_get d_LH_behind_1 fl_LH_10; exact hc.1.1; rfl
  refine aw_iload_n (i := 1) d_LH_behind_4 rfl rfl ?_
  apply aw_callv_p (c_House_hasCode hc.2.1 hv v) d_LH_behind_5 cl_LH_173; exact hc.2.1.1; rfl; rfl; rfl; rfl; decide; exact Nat.le_of_ble_eq_true rfl; exact (by omega); exact (by omega)
  refine aw_ifB_eq d_LH_behind_8 (fun br8_ => ?_) (fun br8_ => ?_)
  · skip
    refine aw_iconst (v := -1) d_LH_behind_41 (by decide) ?_
    refine aw_iret d_LH_behind_42 rfl (by omega) (by omega) ?_
    exact ⟨(by simp [br8_]), _, h, _, _, _, _, _, _, _, rfl, hc, Fr.rf⟩
  · skip
    obtain ⟨c, hc9, rfl, ec⟩ := isC_ex br8_ hv
    refine aw_aload_n (i := 0) d_LH_behind_11 rfl rfl ?_
    apply aw_get d_LH_behind_12 fl_LH_10; exact hc.1.1; rfl
    refine aw_iload_n (i := 2) d_LH_behind_15 rfl rfl ?_
    apply aw_callv_p (c_House_hasStep hc.2.1 hv s) d_LH_behind_16 cl_LH_94; exact hc.2.1.1; rfl; rfl; rfl; rfl; decide; exact Nat.le_of_ble_eq_true rfl; exact (by omega); exact (by omega)
    refine aw_ifB_eq d_LH_behind_19 (fun br19_ => ?_) (fun br19_ => ?_)
    · skip
      refine aw_iconst (v := -1) d_LH_behind_41 (by decide) ?_
      refine aw_iret d_LH_behind_42 rfl (by omega) (by omega) ?_
      exact ⟨(by rw [show isSx hs s = false from br19_]; simp), _, h, _, _, _, _, _, _, _, rfl, hc, Fr.rf⟩
    · skip
      obtain ⟨j, hj9, rfl⟩ := dec_ix br19_ (by omega)
      have ej : xN (nI j) = j := xN_nI (by omega)
      refine aw_aload_n (i := 0) d_LH_behind_22 rfl rfl ?_
      apply aw_get d_LH_behind_23 fl_LH_10; exact hc.1.1; rfl
      refine aw_iload_n (i := 1) d_LH_behind_26 rfl rfl ?_
      refine aw_iload_n (i := 2) d_LH_behind_27 rfl rfl ?_
      refine aw_aload_n (i := 0) d_LH_behind_28 rfl rfl ?_
      apply aw_get d_LH_behind_29 fl_LH_10; exact hc.1.1; rfl
      apply aw_get d_LH_behind_32 fl_LH_125; exact hc.2.1.1; rfl
      apply aw_callv_p (c_House_canMove (b := hs.2.2.2) hc.2.1 hv hc9 hj9 hv.2.2.2.2.2.2.1) d_LH_behind_35 cl_LH_196; exact hc.2.1.1; rfl; rfl; rfl; rfl; decide; exact Nat.le_of_ble_eq_true rfl; exact (by omega); exact (by omega)
      refine aw_ifB_ne d_LH_behind_38 (fun br38_ => ?_) (fun br38_ => ?_)
      · skip
        refine aw_aload_n (i := 0) d_LH_behind_43 rfl rfl ?_
        apply aw_get d_LH_behind_44 fl_LH_10; exact hc.1.1; rfl
        refine aw_iload_n (i := 1) d_LH_behind_47 rfl rfl ?_
        refine aw_iload_n (i := 2) d_LH_behind_48 rfl rfl ?_
        apply aw_callv_p (c_House_codeAfter hc.2.1 hv hc9 hj9) d_LH_behind_49 cl_LH_200; exact hc.2.1.1; rfl; rfl; rfl; rfl; decide; exact Nat.le_of_ble_eq_true rfl; exact (by omega); exact (by omega)
        refine aw_iret d_LH_behind_52 rfl (by omega) (by omega) ?_
        exact ⟨(by rw [br8_, show isSx hs (nI j) = true from br19_, ec, ej, bh_t br38_]; rfl), _, h, _, _, _, _, _, _, _, rfl, hc, Fr.rf⟩
      · skip
        refine aw_iconst (v := -1) d_LH_behind_41 (by decide) ?_
        refine aw_iret d_LH_behind_42 rfl (by omega) (by omega) ?_
        exact ⟨(by rw [br8_, show isSx hs (nI j) = true from br19_, ec, ej, bh_f br38_]; rfl), _, h, _, _, _, _, _, _, _, rfl, hc, Fr.rf⟩

set_option maxHeartbeats 4000000 in
set_option maxRecDepth 20000 in
theorem c_LH_must {G : aG} {nx : Nat} {h : Nat → Option aC} {x : Nat} {B : LB} {hs : HSt} {ad : AD} {A : Nat → Nat} {most : Nat} {fl : WFl} {L L2 : List Nat} {ar : Nat → Nat → Int32} {n : Nat} {gs : List GSt} {lg : Lg} {xs : List Int32} {cap : Nat} (hc : CL h x B hs ad A most fl L L2 ar n gs lg xs cap) (hv : VH hs) (p s b t : Int32) : AMet G m_LH_must 8 (wc (prOK hs p s && prOK hs b t) most hs) (ws (prOK hs p s && prOK hs b t) most hs) [.ref x, .int p, .int s, .int b, .int t] (nx, h) (LR h x B (.int (muA hs p s b t)) (hs) (gs) (lg) (xs) (wm (prOK hs p s && prOK hs b t) most hs) (cap)) := by
  have hp12 := hv.1.1
  have hs24 := hv.2.1
  have hall2 := hv.2.2.2.2.2.2.2
  have hmst := hc.wk.mst
  refine amet_of pf_LH_must (Nat.le_of_ble_eq_true rfl) ?_
  show AW G m_LH_must 8 (wc (prOK hs p s && prOK hs b t) most hs) (ws (prOK hs p s && prOK hs b t) most hs) _ 0 [(0, .ref x), (1, .int p), (2, .int s), (3, .int b), (4, .int t)] [] (nx, h) 0 0
  refine aw_aload_n (i := 0) d_LH_must_0 rfl rfl ?_
  apply aw_get d_LH_must_1 fl_LH_10; exact hc.1.1; rfl
  refine aw_iload_n (i := 1) d_LH_must_4 rfl rfl ?_
  refine aw_iload_n (i := 2) d_LH_must_5 rfl rfl ?_
  apply aw_callv_p (h_hasState hc.2.1 hv p s) d_LH_must_6 cl_LH_97; exact hc.2.1.1; rfl; rfl; rfl; rfl; decide; exact Nat.le_of_ble_eq_true rfl; exact (by omega); exact (by omega)
  refine aw_ifB_eq d_LH_must_9 (fun br9_ => ?_) (fun br9_ => ?_)
  · skip
    refine aw_iconst (v := -1) d_LH_must_25 (by decide) ?_
    refine aw_iret d_LH_must_26 rfl (by omega) (by omega) ?_
    exact ⟨(by unfold muA; rw [br9_]; rfl), _, h, _, _, _, _, _, _, _, rfl, (by rw [show wm (prOK hs p s && prOK hs b t) most hs = most by rw [br9_]; rfl]; exact hc), Fr.rf⟩
  · skip
    refine aw_aload_n (i := 0) d_LH_must_12 rfl rfl ?_
    apply aw_get d_LH_must_13 fl_LH_10; exact hc.1.1; rfl
    refine aw_iload_n (i := 3) d_LH_must_16 rfl rfl ?_
    refine aw_iload d_LH_must_17 rfl ?_
    apply aw_callv_p (h_hasState hc.2.1 hv b t) d_LH_must_19 cl_LH_97; exact hc.2.1.1; rfl; rfl; rfl; rfl; decide; exact Nat.le_of_ble_eq_true rfl; exact (by omega); exact (by omega)
    refine aw_ifB_ne d_LH_must_22 (fun br22_ => ?_) (fun br22_ => ?_)
    · skip
      have eb : (prOK hs p s && prOK hs b t) = true := by rw [br9_, br22_]; rfl
      have hk1 : wc (prOK hs p s && prOK hs b t) most hs = wdc most hs := by rw [eb]; rfl
      have hk2 : ws (prOK hs p s && prOK hs b t) most hs = wds most hs := by rw [eb]; rfl
      have hk3 : wm (prOK hs p s && prOK hs b t) most hs = wdm most hs := by rw [eb]; rfl
      obtain ⟨p, s, hp9, hs9, rfl, rfl⟩ := prOK_ex br9_ hv
      obtain ⟨b, t, hb9, ht9, rfl, rfl⟩ := prOK_ex br22_ hv
      have hq1 := hv.1.k hp9
      have hq2 := hv.1.k hb9
      refine aw_aload_n (i := 0) d_LH_must_27 rfl rfl ?_
      apply aw_callv d_LH_must_28 cl_LH_162 (c_LH_walked hc hv); exact hc.1.1; rfl; rfl; rfl; rfl; decide; exact (by omega); exact (by omega); exact Nat.le_of_ble_eq_true rfl
      rintro _ _ ⟨A9, rfl, h1, fl9, L9, L29, ar9, n9, rfl, hc, hf9, FR⟩
      obtain ⟨hal9, hC⟩ := hc.2.2.2.2.1 hf9
      refine aw_iload_n (i := 1) d_LH_must_31 rfl rfl ?_
      refine aw_iload_n (i := 2) d_LH_must_32 rfl rfl ?_
      refine aw_iload_n (i := 3) d_LH_must_33 rfl rfl ?_
      refine aw_iload d_LH_must_34 rfl ?_
      apply aw_callv d_LH_must_36 cl_LH_227 (c_Walk_comesPast hc.wk hv hp9 hs9 hb9 ht9 hal9 hC); exact hc.2.2.2.1.1; rfl; rfl; rfl; rfl; decide; exact (by omega); exact (by omega); exact Nat.le_of_ble_eq_true rfl
      rintro _ _ ⟨rfl, h1, L8, rfl, hw9⟩
      have hc := hc.walk hw9 hc.2.2.2.2
      have FR := FR.tr (ct_up hw9.2.2.2 (fun y hy => by simp only [WTg, List.mem_cons, List.not_mem_nil, or_false] at hy; omega))
      refine aw_ifB_eq d_LH_must_39 (fun br39_ => ?_) (fun br39_ => ?_)
      · skip
        refine aw_iconst (v := 1) d_LH_must_46 (by decide) ?_
        refine aw_iret d_LH_must_47 rfl (by omega) (by omega) ?_
        exact ⟨(by unfold muA; rw [eb, xN_nI (by omega), xN_nI (by omega), xN_nI (by omega), xN_nI (by omega), br39_]; rfl), _, h1, _, _, _, _, _, _, _, rfl, (by rw [hk3]; exact hc), FR⟩
      · skip
        refine aw_iconst (v := 0) d_LH_must_42 (by decide) ?_
        refine aw_goto d_LH_must_43 ?_
        refine aw_iret d_LH_must_47 rfl (by omega) (by omega) ?_
        exact ⟨(by unfold muA; rw [eb, xN_nI (by omega), xN_nI (by omega), xN_nI (by omega), xN_nI (by omega), br39_]; rfl), _, h1, _, _, _, _, _, _, _, rfl, (by rw [hk3]; exact hc), FR⟩
    · skip
      refine aw_iconst (v := -1) d_LH_must_25 (by decide) ?_
      refine aw_iret d_LH_must_26 rfl (by omega) (by omega) ?_
      exact ⟨(by unfold muA; rw [br9_, br22_]; rfl), _, h, _, _, _, _, _, _, _, rfl, (by rw [show wm (prOK hs p s && prOK hs b t) most hs = most by rw [br9_, br22_]; rfl]; exact hc), Fr.rf⟩

set_option maxHeartbeats 4000000 in
set_option maxRecDepth 20000 in
theorem c_LH_idle {G : aG} {nx : Nat} {h : Nat → Option aC} {x : Nat} {B : LB} {hs : HSt} {ad : AD} {A : Nat → Nat} {most : Nat} {fl : WFl} {L L2 : List Nat} {ar : Nat → Nat → Int32} {n : Nat} {gs : List GSt} {lg : Lg} {xs : List Int32} {cap : Nat} (hc : CL h x B hs ad A most fl L L2 ar n gs lg xs cap) (hv : VH hs) (hcap : 256 ≤ cap) : AMet G m_LH_idle 8 (wdc most hs) (wds most hs) [.ref x] (nx, h) (LR h x B (.int (nI (idL hs hs.2.1.length).length)) (hs) (gs) (lg) ((idL hs hs.2.1.length).map nI) (wdm most hs) (cap)) := by
  have hp12 := hv.1.1
  have hs24 := hv.2.1
  have hall2 := hv.2.2.2.2.2.2.2
  have hmst := hc.wk.mst
  refine amet_of pf_LH_idle (Nat.le_of_ble_eq_true rfl) ?_
  show AW G m_LH_idle 8 (wdc most hs) (wds most hs) _ 0 [(0, .ref x)] [] (nx, h) 0 0
  refine aw_aload_n (i := 0) d_LH_idle_0 rfl rfl ?_
  apply aw_callv d_LH_idle_1 cl_LH_162 (c_LH_walked hc hv); exact hc.1.1; rfl; rfl; rfl; rfl; decide; exact (by omega); exact (by omega); exact Nat.le_of_ble_eq_true rfl
  rintro _ _ ⟨A9, rfl, h1, fl9, L9, L29, ar9, n9, rfl, hc, hf9, FR⟩
  obtain ⟨hal9, hC⟩ := hc.2.2.2.2.1 hf9
  apply aw_callv_p (c_Walk_usedSteps hc.wk hv hC hal9) d_LH_idle_4 cl_LH_231; exact hc.2.2.2.1.1; rfl; rfl; rfl; rfl; decide; exact Nat.le_of_ble_eq_true rfl; exact (by omega); exact (by omega)
  have hus : usF hs L9 < 2 ^ 24 := usF_lt hv L9 0 (by decide)
  refine aw_istore_n (i := 1) (lv2 := [(0, _), (1, _)]) d_LH_idle_7 rfl (by decide) rfl ?_
  refine aw_aload_n (i := 0) d_LH_idle_8 rfl rfl ?_
  apply aw_get d_LH_idle_9 fl_LH_19; exact hc.1.1; rfl
  refine aw_bipush (v := nI 24) d_LH_idle_12 (by decide) ?_
  apply aw_callv d_LH_idle_14 cl_LH_143 (c_Row_beginA hc.1.2.1 (m := 24) (by omega)); exact hc.1.2.1.ob.choose_spec; rfl; rfl; rfl; rfl; decide; exact (by omega); exact (by omega); exact Nat.le_of_ble_eq_true rfl
  rintro _ _ ⟨rfl, h1, rfl, hr9, f9⟩
  have hc := hc.told hv hr9 f9
  have FR := FR.tr (ct_up f9 (fun y hy => by simp at hy; omega))
  refine aw_iconst (v := nI 0) d_LH_idle_17 (by decide) ?_
  refine aw_istore_n (i := 2) (lv2 := [(0, _), (1, _), (2, _)]) d_LH_idle_18 rfl (by decide) rfl ?_
  refine Nat.strongRecOn (motive := fun m9 => ∀ (i : Nat) (hh : Nat → Option aC), (m9 = hs.2.1.length - i ∧ i ≤ hs.2.1.length ∧ CL hh x B hs ad A9 (wdm most hs) fl9 L9 L29 ar9 n9 gs lg ((idL hs i).map nI) cap ∧ Fr CTs h hh) → AW G m_LH_idle 8 (wdc most hs) (wds most hs) _ 19 [(0, .ref x), (1, .int (nI (usF hs L9))), (2, .int (nI i))] [] (nx + wdc most hs, hh) (0 + wdc most hs) (0 + wds most hs)) (hs.2.1.length - 0) (fun m9 ih => ?_) 0 h1 ⟨rfl, Nat.zero_le _, hc, FR⟩
  intro i hh hI
  obtain ⟨e9, hi, hc, FR⟩ := hI
  have hil := idL_len hs i
  refine aw_iload_n (i := 2) d_LH_idle_19 rfl rfl ?_
  refine aw_aload_n (i := 0) d_LH_idle_20 rfl rfl ?_
  apply aw_get d_LH_idle_21 fl_LH_10; exact hc.1.1; rfl
  apply aw_get d_LH_idle_24 fl_LH_82; exact hc.2.1.1; rfl
  apply aw_callv_p (ho_ns hc.2.1) d_LH_idle_27 cl_LH_64; exact (ho_sl hc.2.1).choose_spec; rfl; rfl; rfl; rfl; decide; exact Nat.le_of_ble_eq_true rfl; exact (by omega); exact (by omega)
  refine aw_icmpN_ge d_LH_idle_30 (by omega) (by omega) (fun br30_ => ?_) (fun br30_ => ?_)
  · skip
    have ei : i = hs.2.1.length := by omega
    subst ei
    refine aw_aload_n (i := 0) d_LH_idle_55 rfl rfl ?_
    apply aw_get d_LH_idle_56 fl_LH_19; exact hc.1.1; rfl
    obtain ⟨na_, fr_, ho_, -⟩ := hc.1.2.1
    apply aw_get d_LH_idle_59 fl_LH_154; exact ho_; rfl
    refine aw_iret d_LH_idle_62 rfl (by omega) (by omega) ?_
    exact ⟨(by rw [List.length_map]), _, hh, _, _, _, _, _, _, _, rfl, hc, FR⟩
  · skip
    refine aw_iload_n (i := 1) d_LH_idle_33 rfl rfl ?_
    refine aw_iload_n (i := 2) d_LH_idle_34 rfl rfl ?_
    refine aw_ishr d_LH_idle_35 ?_
    rw [shr_n (by omega) (by omega)]
    refine aw_iconst (v := nI 1) d_LH_idle_36 (by decide) ?_
    refine aw_iand d_LH_idle_37 ?_
    rw [and_1 (Nat.lt_of_le_of_lt (Nat.div_le_self _ _) (by omega))]
    refine aw_ifN_ne d_LH_idle_38 (by omega) (fun br38_ => ?_) (fun br38_ => ?_)
    · skip
      have hb9 : idp hs i = false := by
        have := us_idp hv hC br30_
        rw [tb_1.mp (by omega)] at this
        simpa using this.symm
      refine aw_iincN (lv2 := [(0, _), (1, _), (2, _)]) d_LH_idle_49 (by decide) rfl rfl ?_
      refine aw_goto d_LH_idle_52 ?_
      exact ih (hs.2.1.length - (i + 1)) (by omega) (i + 1) _ ⟨rfl, by omega, (by rw [idL_s, hb9]; simpa using hc), FR⟩
    · skip
      have hb9 : idp hs i = true := by
        have := us_idp hv hC br30_
        rw [tb_0.mp (by omega)] at this
        simpa using this.symm
      refine aw_aload_n (i := 0) d_LH_idle_41 rfl rfl ?_
      apply aw_get d_LH_idle_42 fl_LH_19; exact hc.1.1; rfl
      refine aw_iload_n (i := 2) d_LH_idle_45 rfl rfl ?_
      apply aw_callv d_LH_idle_46 cl_LH_212 (c_Row_put hc.1.2.1 (nI i) (by rw [List.length_map]; omega)); exact hc.1.2.1.ob.choose_spec; rfl; rfl; rfl; rfl; decide; exact (by omega); exact (by omega); exact Nat.le_of_ble_eq_true rfl
      rintro _ _ ⟨rfl, h1, rfl, hr9, f9⟩
      have hc := hc.told hv hr9 f9
      have FR := FR.tr (ct_up f9 (fun y hy => by simp at hy; omega))
      refine aw_iincN (lv2 := [(0, _), (1, _), (2, _)]) d_LH_idle_49 (by decide) rfl rfl ?_
      refine aw_goto d_LH_idle_52 ?_
      exact ih (hs.2.1.length - (i + 1)) (by omega) (i + 1) _ ⟨rfl, by omega, (by rw [idL_s, hb9, if_pos rfl, List.map_append]; exact hc), FR⟩

