/-! what can be asked of the class -/
def LR (h : Nat → Option aC) (x : Nat) (B : LB) (ans : Value) (hs : HSt) (gs : List GSt) (lg : Lg) (xs : List Int32) (most cap : Nat) : Option Value → aH → Prop := fun r w => r = some ans ∧ ∃ n2 h2 ad A fl L L2 ar n, w = (n2, h2) ∧ CL h2 x B hs ad A most fl L L2 ar n gs lg xs cap ∧ Fr CTs h h2
def wc (b : Bool) (most : Nat) (hs : HSt) : Nat := if b then wdc most hs else 0
def ws (b : Bool) (most : Nat) (hs : HSt) : Nat := if b then wds most hs else 0
def wm (b : Bool) (most : Nat) (hs : HSt) : Nat := if b then wdm most hs else most
theorem cht_len {hs : HSt} {L : List Nat} {ar : Nat → Nat → Int32} (hv : VH hs) (hC : CHT hs L ar) : L.length = ctn (rch hs) (hall hs) := by
  refine len_eq hC.1 (fun c => ?_)
  rw [hC.2.1 c]
  exact ⟨fun h1 => ⟨h1.lt hv, rcs_iff.mpr h1⟩, fun h1 => rcs_iff.mp h1.2⟩
theorem hnp_isO {hs : HSt} (hv : VH hs) {c : Nat} (hc : c < hall hs) : fsI (hnp hs c) hs.2.1.length = if isO hs c then fsI (hnp hs c) hs.2.1.length else -1 := by
  cases e : isO hs c with
  | true => rfl
  | false =>
    refine fsI_f (fun k hk => ?_)
    cases e2 : hnp hs c k with
    | false => rfl
    | true =>
      unfold hnp at e2
      simp only [Bool.and_eq_true] at e2
      exact absurd ((isO_step hv hc hk e2.1.1 e2.1.2).symm.trans e) (by decide)
theorem w_longest {G : aG} {nx : Nat} {h0 h : Nat → Option aC} {hs : HSt} {ad : AD} {A : Nat → Nat} {most : Nat} {fl : WFl} {L L2 : List Nat} {ar : Nat → Nat → Int32} {n : Nat} (hm : WkF h0 h hs ad A most fl L L2 ar n) (hv : VH hs) (hi : WIv hs most fl L ar) (hf : fl.1 = true) : AMet G m_Walk_longestSum 8 0 0 [.ref (A 0)] (nx, h) (fun r w => r = some (.int (lng hs)) ∧ ∃ h2 fl9 L9 ar9, w = (nx, h2) ∧ WkF h0 h2 hs ad A most fl9 L L9 ar9 n ∧ WIv hs most fl9 L ar9) := by
  obtain ⟨hal2, hC⟩ := hi.1 hf
  cases e : fl.2.2.1 with
  | true =>
    refine (c_Walk_longestSumA hm hv e).mono (fun r w hq => ?_)
    obtain ⟨rfl, rfl⟩ := hq
    exact ⟨by rw [(hi.2.2 e).2], h, fl, L2, ar, rfl, hm, hi⟩
  | false =>
    refine (c_Walk_longestSumB hm hv e hC hal2).mono (fun r w hq => ?_)
    obtain ⟨rfl, h2, L9, ar9, rfl, hm, har⟩ := hq
    have e0 : ar9 0 = ar 0 := har 0 (by decide) (by decide)
    have e3 : ar9 3 = ar 3 := har 3 (by decide) (by decide)
    refine ⟨rfl, h2, _, L9, ar9, rfl, hm, ⟨fun _ => ⟨hal2, hC.1, hC.2.1, by rw [e0]; exact hC.2.2⟩, fun q => ⟨hf, ?_⟩, fun _ => ⟨hf, rfl⟩⟩⟩
    have := (hi.2.1 q).2
    unfold MSR at this ⊢
    rw [e0, e3]; exact this
set_option maxHeartbeats 4000000 in
set_option maxRecDepth 20000 in
theorem c_LH_reached {G : aG} {nx : Nat} {h : Nat → Option aC} {x : Nat} {B : LB} {hs : HSt} {ad : AD} {A : Nat → Nat} {most : Nat} {fl : WFl} {L L2 : List Nat} {ar : Nat → Nat → Int32} {n : Nat} {gs : List GSt} {lg : Lg} {xs : List Int32} {cap : Nat} (hc : CL h x B hs ad A most fl L L2 ar n gs lg xs cap) (hv : VH hs)  : AMet G m_LH_reached 8 (wdc most hs) (wds most hs) [.ref x] (nx, h) (LR h x B (.int (nI (ctn (rch hs) (hall hs)))) (hs) (gs) (lg) (xs) (wdm most hs) (cap)) := by
  have hp12 := hv.1.1
  have hs24 := hv.2.1
  have hall2 := hv.2.2.2.2.2.2.2
  have hmst := hc.wk.mst
  refine amet_of pf_LH_reached (Nat.le_of_ble_eq_true rfl) ?_
  show AW G m_LH_reached 8 (wdc most hs) (wds most hs) _ 0 [(0, .ref x)] [] (nx, h) 0 0
  refine aw_aload_n (i := 0) d_LH_reached_0 rfl rfl ?_
  apply aw_callv d_LH_reached_1 cl_LH_162 (c_LH_walked hc hv); exact hc.1.1; rfl; rfl; rfl; rfl; decide; exact (by omega); exact (by omega); exact Nat.le_of_ble_eq_true rfl
  rintro _ _ ⟨A9, rfl, h1, fl9, L9, L29, ar9, n9, rfl, hc, hf9, FR⟩
  obtain ⟨hal9, hC⟩ := hc.2.2.2.2.1 hf9
  apply aw_get d_LH_reached_4 fl_LH_166; exact hc.2.2.2.1.1; rfl
  obtain ⟨ca, ma, f, g, hl1, hl2⟩ := hc.wk.Lr
  apply aw_get d_LH_reached_7 fl_LH_170; exact hl1; rfl
  refine aw_iret d_LH_reached_10 rfl (by omega) (by omega) ?_
  exact ⟨by rw [cht_len hv hC], _, h1, _, _, _, _, _, _, _, rfl, hc, FR⟩

set_option maxHeartbeats 4000000 in
set_option maxRecDepth 20000 in
theorem c_LH_longest {G : aG} {nx : Nat} {h : Nat → Option aC} {x : Nat} {B : LB} {hs : HSt} {ad : AD} {A : Nat → Nat} {most : Nat} {fl : WFl} {L L2 : List Nat} {ar : Nat → Nat → Int32} {n : Nat} {gs : List GSt} {lg : Lg} {xs : List Int32} {cap : Nat} (hc : CL h x B hs ad A most fl L L2 ar n gs lg xs cap) (hv : VH hs)  : AMet G m_LH_longest 9 (wdc most hs) (wds most hs) [.ref x] (nx, h) (LR h x B (.int (lng hs)) (hs) (gs) (lg) (xs) (wdm most hs) (cap)) := by
  have hp12 := hv.1.1
  have hs24 := hv.2.1
  have hall2 := hv.2.2.2.2.2.2.2
  have hmst := hc.wk.mst
  refine amet_of pf_LH_longest (Nat.le_of_ble_eq_true rfl) ?_
  show AW G m_LH_longest 9 (wdc most hs) (wds most hs) _ 0 [(0, .ref x)] [] (nx, h) 0 0
  refine aw_aload_n (i := 0) d_LH_longest_0 rfl rfl ?_
  apply aw_callv d_LH_longest_1 cl_LH_162 (c_LH_walked hc hv); exact hc.1.1; rfl; rfl; rfl; rfl; decide; exact (by omega); exact (by omega); exact Nat.le_of_ble_eq_true rfl
  rintro _ _ ⟨A9, rfl, h1, fl9, L9, L29, ar9, n9, rfl, hc, hf9, FR⟩
  obtain ⟨hal9, hC⟩ := hc.2.2.2.2.1 hf9
  apply aw_callv d_LH_longest_4 cl_LH_215 (w_longest hc.wk hv hc.2.2.2.2 hf9); exact hc.2.2.2.1.1; rfl; rfl; rfl; rfl; decide; exact (by omega); exact (by omega); exact Nat.le_of_ble_eq_true rfl
  rintro _ _ ⟨rfl, h1, fl9, L9, ar9, rfl, hw9, hi9⟩
  have hc := hc.walk hw9 hi9
  have FR := FR.tr (ct_up hw9.2.2.2 (fun y hy => by simp only [WTg, List.mem_cons, List.not_mem_nil, or_false] at hy; omega))
  refine aw_iret d_LH_longest_7 rfl (by omega) (by omega) ?_
  exact ⟨rfl, _, h1, _, _, _, _, _, _, _, rfl, hc, FR⟩

set_option maxHeartbeats 4000000 in
set_option maxRecDepth 20000 in
theorem c_LH_lost {G : aG} {nx : Nat} {h : Nat → Option aC} {x : Nat} {B : LB} {hs : HSt} {ad : AD} {A : Nat → Nat} {most : Nat} {fl : WFl} {L L2 : List Nat} {ar : Nat → Nat → Int32} {n : Nat} {gs : List GSt} {lg : Lg} {xs : List Int32} {cap : Nat} (hc : CL h x B hs ad A most fl L L2 ar n gs lg xs cap) (hv : VH hs)  : AMet G m_LH_lost 8 (wdc most hs) (wds most hs) [.ref x] (nx, h) (LR h x B (.int (nI (ctn (lostp hs) (hall hs)))) (hs) (gs) (lg) (xs) (wdm most hs) (cap)) := by
  have hp12 := hv.1.1
  have hs24 := hv.2.1
  have hall2 := hv.2.2.2.2.2.2.2
  have hmst := hc.wk.mst
  refine amet_of pf_LH_lost (Nat.le_of_ble_eq_true rfl) ?_
  show AW G m_LH_lost 8 (wdc most hs) (wds most hs) _ 0 [(0, .ref x)] [] (nx, h) 0 0
  refine aw_aload_n (i := 0) d_LH_lost_0 rfl rfl ?_
  apply aw_callv d_LH_lost_1 cl_LH_203 (c_LH_measured hc hv); exact hc.1.1; rfl; rfl; rfl; rfl; decide; exact (by omega); exact (by omega); exact Nat.le_of_ble_eq_true rfl
  rintro _ _ ⟨A9, rfl, h1, fl9, L9, L29, ar9, n9, rfl, hc, hf9, hf8, FR⟩
  obtain ⟨hal9, hC⟩ := hc.2.2.2.2.1 hf9
  have hS := (hc.2.2.2.2.2.1 hf8).2
  apply aw_callv_p (c_Walk_countLost hc.wk hv hC hal9 hS) d_LH_lost_4 cl_LH_218; exact hc.2.2.2.1.1; rfl; rfl; rfl; rfl; decide; exact Nat.le_of_ble_eq_true rfl; exact (by omega); exact (by omega)
  refine aw_iret d_LH_lost_7 rfl (by omega) (by omega) ?_
  exact ⟨rfl, _, h1, _, _, _, _, _, _, _, rfl, hc, FR⟩

set_option maxHeartbeats 4000000 in
set_option maxRecDepth 20000 in
theorem c_LH_comes {G : aG} {nx : Nat} {h : Nat → Option aC} {x : Nat} {B : LB} {hs : HSt} {ad : AD} {A : Nat → Nat} {most : Nat} {fl : WFl} {L L2 : List Nat} {ar : Nat → Nat → Int32} {n : Nat} {gs : List GSt} {lg : Lg} {xs : List Int32} {cap : Nat} (hc : CL h x B hs ad A most fl L L2 ar n gs lg xs cap) (hv : VH hs) (v : Int32) : AMet G m_LH_comes 8 (wc (isC hs v) most hs) (ws (isC hs v) most hs) [.ref x, .int v] (nx, h) (LR h x B (.int (if isC hs v then bI (rch hs (xN v)) else -1)) (hs) (gs) (lg) (xs) (wm (isC hs v) most hs) (cap)) := by
  have hp12 := hv.1.1
  have hs24 := hv.2.1
  have hall2 := hv.2.2.2.2.2.2.2
  have hmst := hc.wk.mst
  refine amet_of pf_LH_comes (Nat.le_of_ble_eq_true rfl) ?_
  show AW G m_LH_comes 8 (wc (isC hs v) most hs) (ws (isC hs v) most hs) _ 0 [(0, .ref x), (1, .int v)] [] (nx, h) 0 0
  refine aw_aload_n (i := 0) d_LH_comes_0 rfl rfl ?_
  apply aw_get d_LH_comes_1 fl_LH_10; exact hc.1.1; rfl
  refine aw_iload_n (i := 1) d_LH_comes_4 rfl rfl ?_
  apply aw_callv_p (c_House_hasCode hc.2.1 hv v) d_LH_comes_5 cl_LH_173; exact hc.2.1.1; rfl; rfl; rfl; rfl; decide; exact Nat.le_of_ble_eq_true rfl; exact (by omega); exact (by omega)
  refine aw_ifB_ne d_LH_comes_8 (fun br8_ => ?_) (fun br8_ => ?_)
  · skip
    have hk1 : wc (isC hs v) most hs = wdc most hs := by rw [br8_]; rfl
    have hk2 : ws (isC hs v) most hs = wds most hs := by rw [br8_]; rfl
    have hk3 : wm (isC hs v) most hs = wdm most hs := by rw [br8_]; rfl
    obtain ⟨c, hc9, rfl, ec⟩ := isC_ex br8_ hv
    refine aw_aload_n (i := 0) d_LH_comes_13 rfl rfl ?_
    apply aw_callv d_LH_comes_14 cl_LH_162 (c_LH_walked hc hv); exact hc.1.1; rfl; rfl; rfl; rfl; decide; exact (by omega); exact (by omega); exact Nat.le_of_ble_eq_true rfl
    rintro _ _ ⟨A9, rfl, h1, fl9, L9, L29, ar9, n9, rfl, hc, hf9, FR⟩
    obtain ⟨hal9, hC⟩ := hc.2.2.2.2.1 hf9
    apply aw_get d_LH_comes_17 fl_LH_166; exact hc.2.2.2.1.1; rfl
    refine aw_iload_n (i := 1) d_LH_comes_20 rfl rfl ?_
    apply aw_callv_p (c_Line_has (c := c) hc.wk.Lr (by omega)) d_LH_comes_21 cl_LH_176; exact hc.wk.Lr.ob.choose_spec; rfl; rfl; rfl; rfl; decide; exact Nat.le_of_ble_eq_true rfl; exact (by omega); exact (by omega)
    rw [rch_mem hC]
    refine aw_ifB_eq d_LH_comes_24 (fun br24_ => ?_) (fun br24_ => ?_)
    · skip
      refine aw_iconst (v := 0) d_LH_comes_31 (by decide) ?_
      refine aw_iret d_LH_comes_32 rfl (by omega) (by omega) ?_
      exact ⟨(by rw [if_pos br8_, ec, br24_]; rfl), _, h1, _, _, _, _, _, _, _, rfl, by rw [hk3]; exact hc, FR⟩
    · skip
      refine aw_iconst (v := 1) d_LH_comes_27 (by decide) ?_
      refine aw_goto d_LH_comes_28 ?_
      refine aw_iret d_LH_comes_32 rfl (by omega) (by omega) ?_
      exact ⟨(by rw [if_pos br8_, ec, br24_]; rfl), _, h1, _, _, _, _, _, _, _, rfl, by rw [hk3]; exact hc, FR⟩
  · skip
    refine aw_iconst (v := -1) d_LH_comes_11 (by decide) ?_
    refine aw_iret d_LH_comes_12 rfl (by omega) (by omega) ?_
    exact ⟨by rw [if_neg (by rw [br8_]; decide)], _, h, _, _, _, _, _, _, _, rfl, by rw [show wm (isC hs v) most hs = most by rw [br8_]; rfl]; exact hc, Fr.rf⟩

set_option maxHeartbeats 4000000 in
set_option maxRecDepth 20000 in
theorem c_LH_least {G : aG} {nx : Nat} {h : Nat → Option aC} {x : Nat} {B : LB} {hs : HSt} {ad : AD} {A : Nat → Nat} {most : Nat} {fl : WFl} {L L2 : List Nat} {ar : Nat → Nat → Int32} {n : Nat} {gs : List GSt} {lg : Lg} {xs : List Int32} {cap : Nat} (hc : CL h x B hs ad A most fl L L2 ar n gs lg xs cap) (hv : VH hs) (v : Int32) : AMet G m_LH_least 8 (wc (isC hs v) most hs) (ws (isC hs v) most hs) [.ref x, .int v] (nx, h) (LR h x B (.int (if isC hs v then lsI hs (xN v) else -1)) (hs) (gs) (lg) (xs) (wm (isC hs v) most hs) (cap)) := by
  have hp12 := hv.1.1
  have hs24 := hv.2.1
  have hall2 := hv.2.2.2.2.2.2.2
  have hmst := hc.wk.mst
  refine amet_of pf_LH_least (Nat.le_of_ble_eq_true rfl) ?_
  show AW G m_LH_least 8 (wc (isC hs v) most hs) (ws (isC hs v) most hs) _ 0 [(0, .ref x), (1, .int v)] [] (nx, h) 0 0
  refine aw_aload_n (i := 0) d_LH_least_0 rfl rfl ?_
  apply aw_get d_LH_least_1 fl_LH_10; exact hc.1.1; rfl
  refine aw_iload_n (i := 1) d_LH_least_4 rfl rfl ?_
  apply aw_callv_p (c_House_hasCode hc.2.1 hv v) d_LH_least_5 cl_LH_173; exact hc.2.1.1; rfl; rfl; rfl; rfl; decide; exact Nat.le_of_ble_eq_true rfl; exact (by omega); exact (by omega)
  refine aw_ifB_eq d_LH_least_8 (fun br8_ => ?_) (fun br8_ => ?_)
  · skip
    refine aw_iconst (v := -1) d_LH_least_22 (by decide) ?_
    refine aw_iret d_LH_least_23 rfl (by omega) (by omega) ?_
    exact ⟨by rw [if_neg (by rw [br8_]; decide)], _, h, _, _, _, _, _, _, _, rfl, by rw [show wm (isC hs v) most hs = most by rw [br8_]; rfl]; exact hc, Fr.rf⟩
  · skip
    have hk1 : wc (isC hs v) most hs = wdc most hs := by rw [br8_]; rfl
    have hk2 : ws (isC hs v) most hs = wds most hs := by rw [br8_]; rfl
    have hk3 : wm (isC hs v) most hs = wdm most hs := by rw [br8_]; rfl
    obtain ⟨c, hc9, rfl, ec⟩ := isC_ex br8_ hv
    refine aw_aload_n (i := 0) d_LH_least_11 rfl rfl ?_
    apply aw_callv d_LH_least_12 cl_LH_203 (c_LH_measured hc hv); exact hc.1.1; rfl; rfl; rfl; rfl; decide; exact (by omega); exact (by omega); exact Nat.le_of_ble_eq_true rfl
    rintro _ _ ⟨A9, rfl, h1, fl9, L9, L29, ar9, n9, rfl, hc, hf9, hf8, FR⟩
    obtain ⟨hal9, hC⟩ := hc.2.2.2.2.1 hf9
    have hS := (hc.2.2.2.2.2.1 hf8).2
    refine aw_iload_n (i := 1) d_LH_least_15 rfl rfl ?_
    apply aw_callv_p (c_Walk_leastSum (c := c) hc.wk hv (by omega)) d_LH_least_16 cl_LH_206; exact hc.2.2.2.1.1; rfl; rfl; rfl; rfl; decide; exact Nat.le_of_ble_eq_true rfl; exact (by omega); exact (by omega)
    rw [hS.2 c hc9]
    refine aw_goto d_LH_least_19 ?_
    refine aw_iret d_LH_least_23 rfl (by omega) (by omega) ?_
    exact ⟨(by rw [if_pos br8_, ec]), _, h1, _, _, _, _, _, _, _, rfl, by rw [hk3]; exact hc, FR⟩

set_option maxHeartbeats 4000000 in
set_option maxRecDepth 20000 in
theorem c_LH_hint {G : aG} {nx : Nat} {h : Nat → Option aC} {x : Nat} {B : LB} {hs : HSt} {ad : AD} {A : Nat → Nat} {most : Nat} {fl : WFl} {L L2 : List Nat} {ar : Nat → Nat → Int32} {n : Nat} {gs : List GSt} {lg : Lg} {xs : List Int32} {cap : Nat} (hc : CL h x B hs ad A most fl L L2 ar n gs lg xs cap) (hv : VH hs) (v : Int32) : AMet G m_LH_hint 8 (wc (isC hs v) most hs) (ws (isC hs v) most hs) [.ref x, .int v] (nx, h) (LR h x B (.int (if isC hs v && isO hs (xN v) then fsI (hnp hs (xN v)) hs.2.1.length else -1)) (hs) (gs) (lg) (xs) (wm (isC hs v) most hs) (cap)) := by
  have hp12 := hv.1.1
  have hs24 := hv.2.1
  have hall2 := hv.2.2.2.2.2.2.2
  have hmst := hc.wk.mst
  refine amet_of pf_LH_hint (Nat.le_of_ble_eq_true rfl) ?_
  show AW G m_LH_hint 8 (wc (isC hs v) most hs) (ws (isC hs v) most hs) _ 0 [(0, .ref x), (1, .int v)] [] (nx, h) 0 0
  refine aw_aload_n (i := 0) d_LH_hint_0 rfl rfl ?_
  apply aw_get d_LH_hint_1 fl_LH_10; exact hc.1.1; rfl
  refine aw_iload_n (i := 1) d_LH_hint_4 rfl rfl ?_
  apply aw_callv_p (c_House_hasCode hc.2.1 hv v) d_LH_hint_5 cl_LH_173; exact hc.2.1.1; rfl; rfl; rfl; rfl; decide; exact Nat.le_of_ble_eq_true rfl; exact (by omega); exact (by omega)
  refine aw_ifB_eq d_LH_hint_8 (fun br8_ => ?_) (fun br8_ => ?_)
  · skip
    refine aw_iconst (v := -1) d_LH_hint_22 (by decide) ?_
    refine aw_iret d_LH_hint_23 rfl (by omega) (by omega) ?_
    exact ⟨by rw [if_neg (by simp [br8_])], _, h, _, _, _, _, _, _, _, rfl, by rw [show wm (isC hs v) most hs = most by rw [br8_]; rfl]; exact hc, Fr.rf⟩
  · skip
    have hk1 : wc (isC hs v) most hs = wdc most hs := by rw [br8_]; rfl
    have hk2 : ws (isC hs v) most hs = wds most hs := by rw [br8_]; rfl
    have hk3 : wm (isC hs v) most hs = wdm most hs := by rw [br8_]; rfl
    obtain ⟨c, hc9, rfl, ec⟩ := isC_ex br8_ hv
    refine aw_aload_n (i := 0) d_LH_hint_11 rfl rfl ?_
    apply aw_callv d_LH_hint_12 cl_LH_203 (c_LH_measured hc hv); exact hc.1.1; rfl; rfl; rfl; rfl; decide; exact (by omega); exact (by omega); exact Nat.le_of_ble_eq_true rfl
    rintro _ _ ⟨A9, rfl, h1, fl9, L9, L29, ar9, n9, rfl, hc, hf9, hf8, FR⟩
    obtain ⟨hal9, hC⟩ := hc.2.2.2.2.1 hf9
    have hS := (hc.2.2.2.2.2.1 hf8).2
    refine aw_iload_n (i := 1) d_LH_hint_15 rfl rfl ?_
    apply aw_callv_p (c_Walk_firstStep (c := c) hc.wk hv hc9 hal9 hS) d_LH_hint_16 cl_LH_209; exact hc.2.2.2.1.1; rfl; rfl; rfl; rfl; decide; exact Nat.le_of_ble_eq_true rfl; exact (by omega); exact (by omega)
    rw [hnp_isO hv hc9]
    refine aw_goto d_LH_hint_19 ?_
    refine aw_iret d_LH_hint_23 rfl (by omega) (by omega) ?_
    exact ⟨by rw [br8_, ec, Bool.true_and], _, h1, _, _, _, _, _, _, _, rfl, by rw [hk3]; exact hc, FR⟩

set_option maxHeartbeats 4000000 in
set_option maxRecDepth 20000 in
theorem c_LH_open {G : aG} {nx : Nat} {h : Nat → Option aC} {x : Nat} {B : LB} {hs : HSt} {ad : AD} {A : Nat → Nat} {most : Nat} {fl : WFl} {L L2 : List Nat} {ar : Nat → Nat → Int32} {n : Nat} {gs : List GSt} {lg : Lg} {xs : List Int32} {cap : Nat} (hc : CL h x B hs ad A most fl L L2 ar n gs lg xs cap) (hv : VH hs) (v : Int32) : AMet G m_LH_open 8 0 0 [.ref x, .int v] (nx, h) (LR h x B (.int (if isC hs v then nI (orb (opn hs (xN v)) hs.2.1.length) else -1)) (hs) (gs) (lg) (xs) (most) (cap)) := by
  have hp12 := hv.1.1
  have hs24 := hv.2.1
  have hall2 := hv.2.2.2.2.2.2.2
  have hmst := hc.wk.mst
  refine amet_of pf_LH_open (Nat.le_of_ble_eq_true rfl) ?_
  show AW G m_LH_open 8 0 0 _ 0 [(0, .ref x), (1, .int v)] [] (nx, h) 0 0
  refine aw_aload_n (i := 0) d_LH_open_0 rfl rfl ?_
  apply aw_get d_LH_open_1 fl_LH_10; exact hc.1.1; rfl
  refine aw_iload_n (i := 1) d_LH_open_4 rfl rfl ?_
  apply aw_callv_p (c_House_hasCode hc.2.1 hv v) d_LH_open_5 cl_LH_173; exact hc.2.1.1; rfl; rfl; rfl; rfl; decide; exact Nat.le_of_ble_eq_true rfl; exact (by omega); exact (by omega)
  refine aw_ifB_eq d_LH_open_8 (fun br8_ => ?_) (fun br8_ => ?_)
  · skip
    refine aw_iconst (v := -1) d_LH_open_22 (by decide) ?_
    refine aw_iret d_LH_open_23 rfl (by omega) (by omega) ?_
    exact ⟨by rw [if_neg (by rw [br8_]; decide)], _, h, _, _, _, _, _, _, _, rfl, hc, Fr.rf⟩
  · skip
    obtain ⟨c, hc9, rfl, ec⟩ := isC_ex br8_ hv
    refine aw_aload_n (i := 0) d_LH_open_11 rfl rfl ?_
    apply aw_get d_LH_open_12 fl_LH_10; exact hc.1.1; rfl
    refine aw_iload_n (i := 1) d_LH_open_15 rfl rfl ?_
    apply aw_callv_p (c_House_openSteps hc.2.1 hv hc9) d_LH_open_16 cl_LH_193; exact hc.2.1.1; rfl; rfl; rfl; rfl; decide; exact Nat.le_of_ble_eq_true rfl; exact (by omega); exact (by omega)
    rw [ops_eq]
    refine aw_goto d_LH_open_19 ?_
    refine aw_iret d_LH_open_23 rfl (by omega) (by omega) ?_
    exact ⟨by rw [if_pos br8_, ec]; rfl, _, h, _, _, _, _, _, _, _, rfl, hc, Fr.rf⟩

