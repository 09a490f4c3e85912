/-! the way -/
def rbc (cap : Nat) (hs : HSt) : Nat := if cap < hall hs then 1 else 0
def rbs (cap : Nat) (hs : HSt) : Nat := if cap < hall hs then 20000 else 0
def rbm (cap : Nat) (hs : HSt) : Nat := if cap < hall hs then 20000 else cap
theorem rbm_le {cap : Nat} {hs : HSt} (hv : VH hs) : hall hs ≤ rbm cap hs := by
  unfold rbm; have := hv.2.2.2.2.2.2.2
  by_cases e : cap < hall hs
  · rw [if_pos e]; exact this
  · rw [if_neg e]; omega
theorem r_begin {G : aG} {nx : Nat} {h : Nat → Option aC} {a cap : Nat} {xs : List Int32} {hs : HSt} (hv : VH hs) (hl : RoA h a cap xs) : AMet G m_Row_begin 0 (rbc cap hs) (rbs cap hs) [.ref a, .int (nI (hall hs))] (nx, h) (fun r w => r = none ∧ ∃ n2 h2, w = (n2, h2) ∧ RoA h2 a (rbm cap hs) [] ∧ Fr [11, 12] h h2) := by
  refine amet_dom (fun hd => ?_)
  by_cases e : cap < hall hs
  · simp only [rbc, rbs, rbm, if_pos e]
    refine (c_Row_beginB hl hd e hv.2.2.2.2.2.2.2).mono (fun r w hq => ?_)
    obtain ⟨rfl, h2, rfl, k1, k2⟩ := hq
    exact ⟨rfl, _, h2, rfl, k1, k2⟩
  · simp only [rbc, rbs, rbm, if_neg e]
    refine (c_Row_beginA hl (by omega)).mono (fun r w hq => ?_)
    obtain ⟨rfl, h2, rfl, k1, k2⟩ := hq
    exact ⟨rfl, _, h2, rfl, k1, k2⟩
theorem hnt_n {hs : HSt} {c : Nat} (hv : VH hs) (h : fsI (hnp hs c) hs.2.1.length = -1) : hnt hs c = none := by
  have hs24 := hv.2.1
  cases e : hnt hs c with
  | none => rfl
  | some s =>
    have h1 := hnt_some e
    have h2 : fsI (hnp hs c) hs.2.1.length = nI s := by unfold fsI; unfold hnt at e; rw [e]
    rw [h2] at h
    exact absurd (show (0 : Int32) ≤ nI s from nI_pos' (by omega)) (by rw [h]; decide)
theorem hnt_s {hs : HSt} {c : Nat} (h : ¬ fsI (hnp hs c) hs.2.1.length = -1) : ∃ s, hnt hs c = some s ∧ fsI (hnp hs c) hs.2.1.length = nI s := by
  cases e : hnt hs c with
  | none => exact absurd (by unfold fsI; unfold hnt at e; rw [e]) h
  | some s => exact ⟨s, rfl, by unfold fsI; unfold hnt at e; rw [e]⟩
noncomputable def wyb (hs : HSt) (v : Int32) : Bool := isC hs v && isO hs (xN v)
noncomputable def wyc (most cap : Nat) (hs : HSt) (v : Int32) : Nat := wc (isC hs v) most hs + (if wyb hs v then rbc cap hs else 0)
noncomputable def wys (most cap : Nat) (hs : HSt) (v : Int32) : Nat := ws (isC hs v) most hs + (if wyb hs v then rbs cap hs else 0)
noncomputable def wym (cap : Nat) (hs : HSt) (v : Int32) : Nat := if wyb hs v then rbm cap hs else cap
set_option maxHeartbeats 4000000 in
set_option maxRecDepth 20000 in
theorem c_LH_way {G : aG} {nx : Nat} {h : Nat → Option aC} {x : Nat} {B : LB} {hs : HSt} {ad : AD} {A : Nat → Nat} {most : Nat} {fl : WFl} {L L2 : List Nat} {ar : Nat → Nat → Int32} {n : Nat} {gs : List GSt} {lg : Lg} {xs : List Int32} {cap : Nat} (hc : CL h x B hs ad A most fl L L2 ar n gs lg xs cap) (hv : VH hs) (hcap : 256 ≤ cap) (v : Int32) : AMet G m_LH_way 9 (wyc most cap hs v) (wys most cap hs v) [.ref x, .int v] (nx, h) (LR h x B (.int (wyA hs v)) (hs) (gs) (lg) (wyX hs xs v) (wm (isC hs v) most hs) (wym cap hs v)) := by
  have hp12 := hv.1.1
  have hs24 := hv.2.1
  have hall2 := hv.2.2.2.2.2.2.2
  have hmst := hc.wk.mst
  refine amet_of pf_LH_way (Nat.le_of_ble_eq_true rfl) ?_
  show AW G m_LH_way 9 (wyc most cap hs v) (wys most cap hs v) _ 0 [(0, .ref x), (1, .int v)] [] (nx, h) 0 0
  refine aw_aload_n (i := 0) d_LH_way_0 rfl rfl ?_
  apply aw_get d_LH_way_1 fl_LH_10; exact hc.1.1; rfl
  refine aw_iload_n (i := 1) d_LH_way_4 rfl rfl ?_
  apply aw_callv_p (c_House_hasCode hc.2.1 hv v) d_LH_way_5 cl_LH_173; exact hc.2.1.1; rfl; rfl; rfl; rfl; decide; exact Nat.le_of_ble_eq_true rfl; exact (by omega); exact (by omega)
  refine aw_ifB_ne d_LH_way_8 (fun br8_ => ?_) (fun br8_ => ?_)
  · skip
    have hk1 : wc (isC hs v) most hs = wdc most hs := by rw [br8_]; rfl
    have hk2 : ws (isC hs v) most hs = wds most hs := by rw [br8_]; rfl
    have hk3 : wm (isC hs v) most hs = wdm most hs := by rw [br8_]; rfl
    obtain ⟨c, hc9, rfl, ec⟩ := isC_ex br8_ hv
    refine aw_aload_n (i := 0) d_LH_way_13 rfl rfl ?_
    have hy1 : wc (isC hs (nI c)) most hs ≤ wyc most cap hs (nI c) := Nat.le_add_right _ _
    have hy2 : ws (isC hs (nI c)) most hs ≤ wys most cap hs (nI c) := Nat.le_add_right _ _
    apply aw_callv d_LH_way_14 cl_LH_203 (c_LH_measured hc hv); exact hc.1.1; rfl; rfl; rfl; rfl; decide; exact (by omega); exact (by omega); exact Nat.le_of_ble_eq_true rfl
    rintro _ _ ⟨A9, rfl, h1, fl9, L9, L29, ar9, n9, rfl, hc, hf9, hf8, FR⟩
    obtain ⟨hal9, hC⟩ := hc.2.2.2.2.1 hf9
    have hS := (hc.2.2.2.2.2.1 hf8).2
    refine aw_astore_n (i := 2) (lv2 := [(0, _), (1, _), (2, _)]) d_LH_way_17 rfl (by decide) rfl ?_
    refine aw_aload_n (i := 2) d_LH_way_18 rfl rfl ?_
    refine aw_iload_n (i := 1) d_LH_way_19 rfl rfl ?_
    apply aw_callv_p (c_Walk_leastSum (c := c) hc.wk hv (by omega)) d_LH_way_20 cl_LH_206; exact hc.2.2.2.1.1; rfl; rfl; rfl; rfl; decide; exact Nat.le_of_ble_eq_true rfl; exact (by omega); exact (by omega)
    rw [hS.2 c hc9]
    refine aw_bipush (v := -2) d_LH_way_23 (by decide) ?_
    refine aw_icmp_ne d_LH_way_25 (fun br25_ => ?_) (fun br25_ => ?_)
    · skip
      have hO := lsI_n2 br25_
      have eb : wyb hs (nI c) = true := by unfold wyb; rw [br8_, ec, hO]; rfl
      have hz1 : wyc most cap hs (nI c) = wdc most hs + rbc cap hs := by unfold wyc; rw [hk1, eb]; rfl
      have hz2 : wys most cap hs (nI c) = wds most hs + rbs cap hs := by unfold wys; rw [hk2, eb]; rfl
      have hrb := rbm_le (cap := cap) hv
      refine aw_aload_n (i := 0) d_LH_way_31 rfl rfl ?_
      apply aw_get d_LH_way_32 fl_LH_19; exact hc.1.1; rfl
      refine aw_aload_n (i := 0) d_LH_way_35 rfl rfl ?_
      apply aw_get d_LH_way_36 fl_LH_10; exact hc.1.1; rfl
      apply aw_get d_LH_way_39 fl_LH_67; exact hc.2.1.1; rfl
      apply aw_callv d_LH_way_42 cl_LH_143 (r_begin hv hc.1.2.1); exact hc.1.2.1.ob.choose_spec; rfl; rfl; rfl; rfl; decide; exact (by omega); exact (by omega); exact Nat.le_of_ble_eq_true rfl
      rintro _ _ ⟨rfl, n2, h1, rfl, hr9, f9⟩
      have hc := hc.told hv hr9 f9
      have FR := FR.tr (ct_up f9 (fun y hy => by simp at hy; omega))
      refine aw_iload_n (i := 1) d_LH_way_45 rfl rfl ?_
      refine aw_istore_n (i := 3) (lv2 := [(0, _), (1, _), (2, _), (3, _)]) d_LH_way_46 rfl (by decide) rfl ?_
      refine aw_iconst (v := nI 0) d_LH_way_47 (by decide) ?_
      refine aw_istore (lv2 := [(0, _), (1, _), (2, _), (3, _), (4, _)]) d_LH_way_48 (by decide) rfl ?_
      refine Nat.strongRecOn (motive := fun m9 => ∀ (i e : Nat) (hh : Nat → Option aC), (m9 = hall hs - i ∧ i ≤ hall hs ∧ e < hall hs ∧ (∃ P : List Nat, P.length = i ∧ wayL hs (hall hs) c = P ++ wayL hs (hall hs - i) e ∧ CL hh x B hs ad A9 (wdm most hs) fl9 L9 L29 ar9 n9 gs lg (P.map nI) (rbm cap hs)) ∧ Fr CTs h hh) → AW G m_LH_way 9 (wyc most cap hs (nI c)) (wys most cap hs (nI c)) _ 50 [(0, .ref x), (1, .int (nI c)), (2, .ref (A9 0)), (3, .int (nI e)), (4, .int (nI i))] [] (n2, hh) (0 + wdc most hs + rbc cap hs) (0 + wds most hs + rbs cap hs)) (hall hs - 0) (fun m9 ih => ?_) 0 c h1 ⟨rfl, Nat.zero_le _, hc9, ⟨[], rfl, rfl, hc⟩, FR⟩
      intro i e hh hI
      obtain ⟨e9, hi, he9, ⟨P, hPl, hP, hc⟩, FR⟩ := hI
      refine aw_iload d_LH_way_50 rfl ?_
      refine aw_aload_n (i := 0) d_LH_way_52 rfl rfl ?_
      apply aw_get d_LH_way_53 fl_LH_10; exact hc.1.1; rfl
      apply aw_get d_LH_way_56 fl_LH_67; exact hc.2.1.1; rfl
      refine aw_icmpN_ge d_LH_way_59 (by omega) (by omega) (fun br59_ => ?_) (fun br59_ => ?_)
      · skip
        have ei : hall hs - i = 0 := by omega
        rw [ei] at hP
        have hP : wayL hs (hall hs) c = P := hP.trans (List.append_nil P)
        refine aw_aload_n (i := 0) d_LH_way_104 rfl rfl ?_
        apply aw_get d_LH_way_105 fl_LH_19; exact hc.1.1; rfl
        obtain ⟨na_, fr_, ho_, -⟩ := hc.1.2.1
        apply aw_get d_LH_way_108 fl_LH_154; exact ho_; rfl
        refine aw_iret d_LH_way_111 rfl (by omega) (by omega) ?_
        exact ⟨(by unfold wyA; rw [br8_, ec, hO]; show some (Value.int (nI (P.map nI).length)) = some (.int (nI (wayL hs (hall hs) c).length)); rw [hP, List.length_map]), _, hh, _, _, _, _, _, _, _, rfl, (by unfold wyX wym; rw [eb, br8_, ec, hO]; show CL _ _ _ _ _ _ _ _ _ _ _ _ _ _ ((wayL hs (hall hs) c).map nI) (rbm cap hs); rw [hP]; exact hc), FR⟩
      · skip
        refine aw_aload_n (i := 2) d_LH_way_62 rfl rfl ?_
        refine aw_iload_n (i := 3) d_LH_way_63 rfl rfl ?_
        apply aw_callv_p (c_Walk_firstStep (c := e) hc.wk hv he9 hal9 hS) d_LH_way_64 cl_LH_209; exact hc.2.2.2.1.1; rfl; rfl; rfl; rfl; decide; exact Nat.le_of_ble_eq_true rfl; exact (by omega); exact (by omega)
        refine aw_istore (lv2 := [(0, _), (1, _), (2, _), (3, _), (4, _), (5, _)]) d_LH_way_67 (by decide) rfl ?_
        refine aw_iload d_LH_way_69 rfl ?_
        refine aw_iconst (v := -1) d_LH_way_71 (by decide) ?_
        refine aw_icmp_ne d_LH_way_72 (fun br72_ => ?_) (fun br72_ => ?_)
        · skip
          obtain ⟨s, es, ef⟩ := hnt_s br72_
          have hlt := hnt_lt hv he9 es
          rw [ef]
          obtain ⟨z, hz⟩ : ∃ z, hall hs - i = z + 1 := ⟨hall hs - i - 1, by omega⟩
          have hP : wayL hs (hall hs) c = (P ++ [s]) ++ wayL hs (hall hs - (i + 1)) (aft hs e s) := by rw [hP, hz, show hall hs - (i + 1) = z by omega, List.append_assoc]; show P ++ (match hnt hs e with | none => [] | some s => s :: wayL hs z (aft hs e s)) = _; rw [es]; rfl
          refine aw_aload_n (i := 0) d_LH_way_78 rfl rfl ?_
          apply aw_get d_LH_way_79 fl_LH_19; exact hc.1.1; rfl
          refine aw_iload d_LH_way_82 rfl ?_
          apply aw_callv d_LH_way_84 cl_LH_212 (c_Row_put hc.1.2.1 (nI s) (by rw [List.length_map]; omega)); exact hc.1.2.1.ob.choose_spec; rfl; rfl; rfl; rfl; decide; exact (by omega); exact (by omega); exact Nat.le_of_ble_eq_true rfl
          rintro _ _ ⟨rfl, h1, rfl, hr9, f9⟩
          have hc := hc.told hv hr9 f9
          have FR := FR.tr (ct_up f9 (fun y hy => by simp at hy; omega))
          refine aw_aload_n (i := 0) d_LH_way_87 rfl rfl ?_
          apply aw_get d_LH_way_88 fl_LH_10; exact hc.1.1; rfl
          refine aw_iload_n (i := 3) d_LH_way_91 rfl rfl ?_
          refine aw_iload d_LH_way_92 rfl ?_
          apply aw_callv_p (c_House_codeAfter hc.2.1 hv he9 hlt.1) d_LH_way_94 cl_LH_200; exact hc.2.1.1; rfl; rfl; rfl; rfl; decide; exact Nat.le_of_ble_eq_true rfl; exact (by omega); exact (by omega)
          refine aw_istore_n (i := 3) (lv2 := [(0, _), (1, _), (2, _), (3, _), (4, _), (5, _)]) d_LH_way_97 rfl (by decide) rfl ?_
          refine aw_iincN (lv2 := [(0, _), (1, _), (2, _), (3, _), (4, _), (5, _)]) d_LH_way_98 (by decide) rfl rfl ?_
          refine aw_goto d_LH_way_101 ?_
          refine aw_drop [0, 1, 2, 3, 4] rfl ?_
          exact ih (hall hs - (i + 1)) (by omega) (i + 1) (aft hs e s) _ ⟨rfl, by omega, hlt.2.1, ⟨P ++ [s], (by rw [List.length_append, hPl]; rfl), hP, (by rw [List.map_append]; exact hc)⟩, FR⟩
        · skip
          have en := hnt_n hv br72_
          obtain ⟨z, hz⟩ : ∃ z, hall hs - i = z + 1 := ⟨hall hs - i - 1, by omega⟩
          have hP : wayL hs (hall hs) c = P := by rw [hP, hz]; show P ++ (match hnt hs e with | none => [] | some s => s :: wayL hs z (aft hs e s)) = P; rw [en]; exact List.append_nil P
          refine aw_goto d_LH_way_75 ?_
          refine aw_aload_n (i := 0) d_LH_way_104 rfl rfl ?_
          apply aw_get d_LH_way_105 fl_LH_19; exact hc.1.1; rfl
          obtain ⟨na_, fr_, ho_, -⟩ := hc.1.2.1
          apply aw_get d_LH_way_108 fl_LH_154; exact ho_; rfl
          refine aw_iret d_LH_way_111 rfl (by omega) (by omega) ?_
          exact ⟨(by unfold wyA; rw [br8_, ec, hO]; show some (Value.int (nI (P.map nI).length)) = some (.int (nI (wayL hs (hall hs) c).length)); rw [hP, List.length_map]), _, hh, _, _, _, _, _, _, _, rfl, (by unfold wyX wym; rw [eb, br8_, ec, hO]; show CL _ _ _ _ _ _ _ _ _ _ _ _ _ _ ((wayL hs (hall hs) c).map nI) (rbm cap hs); rw [hP]; exact hc), FR⟩
    · skip
      have hO := lsI_2 br25_
      have eb : wyb hs (nI c) = false := by unfold wyb; rw [br8_, ec, hO]; rfl
      refine aw_bipush (v := -2) d_LH_way_28 (by decide) ?_
      refine aw_iret d_LH_way_30 rfl (by omega) (by omega) ?_
      exact ⟨(by unfold wyA; rw [br8_, ec, hO]; rfl), _, h1, _, _, _, _, _, _, _, rfl, (by unfold wyX wym; rw [eb, br8_, ec, hO]; exact hc), FR⟩
  · skip
    refine aw_iconst (v := -1) d_LH_way_11 (by decide) ?_
    refine aw_iret d_LH_way_12 rfl (by omega) (by omega) ?_
    have eb : wyb hs v = false := by unfold wyb; rw [br8_]; rfl
    exact ⟨(by unfold wyA; rw [br8_]; rfl), _, h, _, _, _, _, _, _, _, rfl, (by unfold wyX wym; rw [eb, br8_]; exact hc), Fr.rf⟩

