theorem fa_or (a b : Nat) : nI a ||| nI b = nI (a ||| b) := by
  apply Int32.toBitVec_inj.1
  show BitVec.ofNat 32 a ||| BitVec.ofNat 32 b = BitVec.ofNat 32 (a ||| b)
  apply BitVec.eq_of_getLsbD_eq
  intro i hi
  simp [hi]
theorem s_l : ∀ n, n < 32 → ((nI n &&& 31).toBitVec.smod 32).toNat = n := by decide +kernel
theorem sh_1 {j : Nat} (hj : j < 31) : (1 : Int32) <<< (nI j &&& 31) = nI (2 ^ j) := by
  have h2 : (2 : Nat) ^ j < 2 ^ 31 := Nat.pow_lt_pow_right (by decide) hj
  have := pk_shlN (n := 1) (nI j &&& 31) j (s_l j (by omega)) (by omega)
  rw [Nat.one_mul] at this
  exact this
/-- bits by a test -/
def orb (p : Nat → Bool) : Nat → Nat
  | 0 => 0
  | j + 1 => if p j then orb p j ||| 2 ^ j else orb p j
theorem valid_j {j n : Nat} (hj : j < n) (hn : n < 2 ^ 31) : decide (0 ≤ nI j ∧ nI j < nI n) = true := decide_eq_true ⟨nI_pos' (by omega), nI_lt hj hn⟩
theorem VH.hc {hs : HSt} (hv : VH hs) {c : Nat} (hc : c < hall hs) : c < 2 ^ 31 := by have := hv.2.2.2.2.2.2.2; omega
set_option maxHeartbeats 4000000 in
set_option maxRecDepth 20000 in
theorem c_Step_codeAfter {G : aG} {nx : Nat} {h : Nat → Option aC} {hs : HSt} {ad : AD} {start : Nat} (hH : HoA h hs ad start) (hv : VH hs) {c j : Nat} (hc : c < hall hs) (hj : j < hs.2.1.length) : AMet G m_Step_codeAfter 4 0 0 [.ref (ad.2.2.2.2.2.getD j 0), .int (nI c)] (nx, h) (RV (.int (nI (aft hs c j))) (nx, h)) := by
  have hH0 := hH
  obtain ⟨z1, z2, z3, z4, z5, z6, z7⟩ := hH
  have hlp : ad.2.2.2.2.1.length = hs.1.length := z5.1
  have hp12 := hv.1.1
  have hs24 := hv.2.1
  have hall2 := hv.2.2.2.2.2.2.2
  obtain ⟨na, ga, k1, k2, k3⟩ := z7 j hj
  have hvs := hv.s hj
  have hwt := swt_le hv j
  refine amet_of pf_Step_codeAfter (Nat.le_of_ble_eq_true rfl) ?_
  show AW G m_Step_codeAfter 4 0 0 _ 0 [(0, .ref (ad.2.2.2.2.2.getD j 0)), (1, .int (nI c))] [] (nx, h) 0 0
  refine aw_aload_n (i := 0) d_Step_codeAfter_0 rfl rfl ?_
  apply aw_get d_Step_codeAfter_1 fl_Step_20; exact k1; rfl
  refine aw_iload_n (i := 1) d_Step_codeAfter_4 rfl rfl ?_
  apply aw_callv_p (c_Pairs_codeWith z5 hv.1 k3 hvs.2.2.2.2.2.2.2.2.2.1 hv.vt hc) d_Step_codeAfter_5 cl_Step_39; exact k3.ob.choose_spec; rfl; rfl; rfl; rfl; decide; exact Nat.le_of_ble_eq_true rfl; exact (Nat.le_refl _); exact (Nat.le_refl _)
  refine aw_istore_n (i := 2) (lv2 := [(0, _), (1, _), (2, _)]) d_Step_codeAfter_8 rfl (by decide) rfl ?_
  refine aw_aload_n (i := 0) d_Step_codeAfter_9 rfl rfl ?_
  refine aw_iload_n (i := 1) d_Step_codeAfter_10 rfl rfl ?_
  apply aw_callv_p (s_done hH0 hv hj (hv.hc hc)) d_Step_codeAfter_11 cl_Step_43; exact k1; rfl; rfl; rfl; rfl; decide; exact Nat.le_of_ble_eq_true rfl; exact (Nat.le_refl _); exact (Nat.le_refl _)
  refine aw_if_eq d_Step_codeAfter_14 (fun br14_ => ?_) (fun br14_ => ?_)
  · skip
    have hr_ : aft hs c j = sds (pks hs.1) c (hs.2.1.getD j sz0).2.2.2.2.2 + swt hs.1 hs.2.1 j := by unfold aft; rw [bI_0.mp br14_]; rfl
    refine aw_iload_n (i := 2) d_Step_codeAfter_21 rfl rfl ?_
    refine aw_aload_n (i := 0) d_Step_codeAfter_22 rfl rfl ?_
    apply aw_get d_Step_codeAfter_23 fl_Step_36; exact k1; rfl
    refine aw_iadd d_Step_codeAfter_26 ?_
    rw [nI_add]
    refine aw_iret d_Step_codeAfter_27 rfl (Nat.le_refl _) (Nat.le_refl _) ?_
    exact ⟨by rw [hr_], rfl⟩
  · skip
    have hr_ : aft hs c j = sds (pks hs.1) c (hs.2.1.getD j sz0).2.2.2.2.2 := by unfold aft; rw [bI_1.mp br14_]; rfl
    refine aw_iload_n (i := 2) d_Step_codeAfter_17 rfl rfl ?_
    refine aw_goto d_Step_codeAfter_18 ?_
    refine aw_iret d_Step_codeAfter_27 rfl (Nat.le_refl _) (Nat.le_refl _) ?_
    exact ⟨by rw [hr_], rfl⟩

set_option maxHeartbeats 4000000 in
set_option maxRecDepth 20000 in
theorem c_Step_leadsTo {G : aG} {nx : Nat} {h : Nat → Option aC} {hs : HSt} {ad : AD} {start : Nat} (hH : HoA h hs ad start) (hv : VH hs) {c j : Nat} (hc : c < hall hs) (hj : j < hs.2.1.length) : AMet G m_Step_leadsTo 4 0 0 [.ref (ad.2.2.2.2.2.getD j 0), .int (nI c)] (nx, h) (RV (.int (bI ((hs.2.1.getD j sz0).2.2.2.2.2.all (fun p => dg (pks hs.1) c p.1 == p.2) && (decide (swt hs.1 hs.2.1 j = 0) || wdj hs c j)))) (nx, h)) := by
  have hH0 := hH
  obtain ⟨z1, z2, z3, z4, z5, z6, z7⟩ := hH
  have hlp : ad.2.2.2.2.1.length = hs.1.length := z5.1
  have hp12 := hv.1.1
  have hs24 := hv.2.1
  have hall2 := hv.2.2.2.2.2.2.2
  obtain ⟨na, ga, k1, k2, k3⟩ := z7 j hj
  have hvs := hv.s hj
  have hwt := swt_le hv j
  refine amet_of pf_Step_leadsTo (Nat.le_of_ble_eq_true rfl) ?_
  show AW G m_Step_leadsTo 4 0 0 _ 0 [(0, .ref (ad.2.2.2.2.2.getD j 0)), (1, .int (nI c))] [] (nx, h) 0 0
  refine aw_aload_n (i := 0) d_Step_leadsTo_0 rfl rfl ?_
  apply aw_get d_Step_leadsTo_1 fl_Step_20; exact k1; rfl
  refine aw_iload_n (i := 1) d_Step_leadsTo_4 rfl rfl ?_
  apply aw_callv_p (c_Pairs_areAll z5 hv.1 k3 hvs.2.2.2.2.2.2.2.2.2.1 (hv.hc hc)) d_Step_leadsTo_5 cl_Step_47; exact k3.ob.choose_spec; rfl; rfl; rfl; rfl; decide; exact Nat.le_of_ble_eq_true rfl; exact (Nat.le_refl _); exact (Nat.le_refl _)
  refine aw_if_eq d_Step_leadsTo_8 (fun br8_ => ?_) (fun br8_ => ?_)
  · skip
    have hr_ : bI ((hs.2.1.getD j sz0).2.2.2.2.2.all (fun p => dg (pks hs.1) c p.1 == p.2) && (decide (swt hs.1 hs.2.1 j = 0) || wdj hs c j)) = 0 := by rw [bI_0.mp br8_]; rfl
    refine aw_iconst (v := 0) d_Step_leadsTo_30 (by decide) ?_
    refine aw_zret d_Step_leadsTo_31 rfl rfl (Nat.le_refl _) (Nat.le_refl _) ?_
    exact ⟨by rw [hr_], rfl⟩
  · skip
    refine aw_aload_n (i := 0) d_Step_leadsTo_11 rfl rfl ?_
    apply aw_get d_Step_leadsTo_12 fl_Step_36; exact k1; rfl
    refine aw_if_eq d_Step_leadsTo_15 (fun br15_ => ?_) (fun br15_ => ?_)
    · skip
      have hr_ : bI ((hs.2.1.getD j sz0).2.2.2.2.2.all (fun p => dg (pks hs.1) c p.1 == p.2) && (decide (swt hs.1 hs.2.1 j = 0) || wdj hs c j)) = 1 := by rw [bI_1.mp br8_, decide_eq_true ((nI_eq (b := 0) (by omega) (by decide)).mp br15_)]; rfl
      refine aw_iconst (v := 1) d_Step_leadsTo_26 (by decide) ?_
      refine aw_goto d_Step_leadsTo_27 ?_
      refine aw_zret d_Step_leadsTo_31 rfl rfl (Nat.le_refl _) (Nat.le_refl _) ?_
      exact ⟨by rw [hr_], rfl⟩
    · skip
      refine aw_aload_n (i := 0) d_Step_leadsTo_18 rfl rfl ?_
      refine aw_iload_n (i := 1) d_Step_leadsTo_19 rfl rfl ?_
      apply aw_callv_p (s_done hH0 hv hj (hv.hc hc)) d_Step_leadsTo_20 cl_Step_43; exact k1; rfl; rfl; rfl; rfl; decide; exact Nat.le_of_ble_eq_true rfl; exact (Nat.le_refl _); exact (Nat.le_refl _)
      refine aw_if_eq d_Step_leadsTo_23 (fun br23_ => ?_) (fun br23_ => ?_)
      · skip
        have hr_ : bI ((hs.2.1.getD j sz0).2.2.2.2.2.all (fun p => dg (pks hs.1) c p.1 == p.2) && (decide (swt hs.1 hs.2.1 j = 0) || wdj hs c j)) = 0 := by rw [bI_1.mp br8_, decide_eq_false (fun e9 => br15_ (by rw [e9]; rfl)), bI_0.mp br23_]; rfl
        refine aw_iconst (v := 0) d_Step_leadsTo_30 (by decide) ?_
        refine aw_zret d_Step_leadsTo_31 rfl rfl (Nat.le_refl _) (Nat.le_refl _) ?_
        exact ⟨by rw [hr_], rfl⟩
      · skip
        have hr_ : bI ((hs.2.1.getD j sz0).2.2.2.2.2.all (fun p => dg (pks hs.1) c p.1 == p.2) && (decide (swt hs.1 hs.2.1 j = 0) || wdj hs c j)) = 1 := by rw [bI_1.mp br8_, bI_1.mp br23_, Bool.or_true]; rfl
        refine aw_iconst (v := 1) d_Step_leadsTo_26 (by decide) ?_
        refine aw_goto d_Step_leadsTo_27 ?_
        refine aw_zret d_Step_leadsTo_31 rfl rfl (Nat.le_refl _) (Nat.le_refl _) ?_
        exact ⟨by rw [hr_], rfl⟩

set_option maxHeartbeats 4000000 in
set_option maxRecDepth 20000 in
theorem c_Step_codeAhead {G : aG} {nx : Nat} {h : Nat → Option aC} {hs : HSt} {ad : AD} {start : Nat} (hH : HoA h hs ad start) (hv : VH hs) {c j v : Nat} (hc : c < hall hs) (hj : j < hs.2.1.length) (hv2 : v < 2 ^ 31) : AMet G m_Step_codeAhead 4 0 0 [.ref (ad.2.2.2.2.2.getD j 0), .int (nI c), .int (nI v)] (nx, h) (RV (.int (nI (vst hs.1 c v (hs.2.1.getD j sz0).2.2.2.2.2).1 - nI (swt hs.1 hs.2.1 j))) (nx, h)) := by
  have hH0 := hH
  obtain ⟨z1, z2, z3, z4, z5, z6, z7⟩ := hH
  have hlp : ad.2.2.2.2.1.length = hs.1.length := z5.1
  have hp12 := hv.1.1
  have hs24 := hv.2.1
  have hall2 := hv.2.2.2.2.2.2.2
  obtain ⟨na, ga, k1, k2, k3⟩ := z7 j hj
  have hvs := hv.s hj
  have hwt := swt_le hv j
  refine amet_of pf_Step_codeAhead (Nat.le_of_ble_eq_true rfl) ?_
  show AW G m_Step_codeAhead 4 0 0 _ 0 [(0, .ref (ad.2.2.2.2.2.getD j 0)), (1, .int (nI c)), (2, .int (nI v))] [] (nx, h) 0 0
  refine aw_aload_n (i := 0) d_Step_codeAhead_0 rfl rfl ?_
  apply aw_get d_Step_codeAhead_1 fl_Step_20; exact k1; rfl
  refine aw_iload_n (i := 1) d_Step_codeAhead_4 rfl rfl ?_
  refine aw_iload_n (i := 2) d_Step_codeAhead_5 rfl rfl ?_
  apply aw_callv_p (c_Pairs_codeOfVariant z5 hv.1 k3 hvs.2.2.2.2.2.2.2.2.2.1 hv.vt hc hv2) d_Step_codeAhead_6 cl_Step_50; exact k3.ob.choose_spec; rfl; rfl; rfl; rfl; decide; exact Nat.le_of_ble_eq_true rfl; exact (Nat.le_refl _); exact (Nat.le_refl _)
  refine aw_aload_n (i := 0) d_Step_codeAhead_9 rfl rfl ?_
  apply aw_get d_Step_codeAhead_10 fl_Step_36; exact k1; rfl
  refine aw_isub d_Step_codeAhead_13 ?_
  refine aw_iret d_Step_codeAhead_14 rfl (Nat.le_refl _) (Nat.le_refl _) ?_
  exact ⟨rfl, rfl⟩

set_option maxHeartbeats 4000000 in
set_option maxRecDepth 20000 in
theorem c_House_canMove {G : aG} {nx : Nat} {h : Nat → Option aC} {hs : HSt} {ad : AD} {start : Nat} (hH : HoA h hs ad start) (hv : VH hs) {c j b : Nat} (hc : c < hall hs) (hj : j < hs.2.1.length) (hb : b ≤ 9) : AMet G m_House_canMove 5 0 0 [.ref ad.1, .int (nI c), .int (nI j), .int (nI b)] (nx, h) (RV (.int (bI (!isE hs c && cdo hs c j b))) (nx, h)) := by
  have hH0 := hH
  obtain ⟨z1, z2, z3, z4, z5, z6, z7⟩ := hH
  have hlp : ad.2.2.2.2.1.length = hs.1.length := z5.1
  have hp12 := hv.1.1
  have hs24 := hv.2.1
  have hall2 := hv.2.2.2.2.2.2.2
  obtain ⟨na, ga, k1, k2, k3⟩ := z7 j hj
  have hvs := hv.s hj
  have hwt := swt_le hv j
  refine amet_of pf_House_canMove (Nat.le_of_ble_eq_true rfl) ?_
  show AW G m_House_canMove 5 0 0 _ 0 [(0, .ref ad.1), (1, .int (nI c)), (2, .int (nI j)), (3, .int (nI b))] [] (nx, h) 0 0
  refine aw_aload_n (i := 0) d_House_canMove_0 rfl rfl ?_
  refine aw_iload_n (i := 2) d_House_canMove_1 rfl rfl ?_
  apply aw_callv_p (c_House_hasStep hH0 hv (nI j)) d_House_canMove_2 cl_House_88; exact z1; rfl; rfl; rfl; rfl; decide; exact Nat.le_of_ble_eq_true rfl; exact (Nat.le_refl _); exact (Nat.le_refl _)
  rw [valid_j hj (by omega)]
  refine aw_if_eq d_House_canMove_5 (fun br5_ => absurd br5_ (by decide)) (fun br5_ => ?_)
  refine aw_aload_n (i := 0) d_House_canMove_8 rfl rfl ?_
  refine aw_iload_n (i := 1) d_House_canMove_9 rfl rfl ?_
  apply aw_callv_p (c_House_isEnd hH0 hv (hv.hc hc)) d_House_canMove_10 cl_House_91; exact z1; rfl; rfl; rfl; rfl; decide; exact Nat.le_of_ble_eq_true rfl; exact (Nat.le_refl _); exact (Nat.le_refl _)
  refine aw_if_ne d_House_canMove_13 (fun br13_ => ?_) (fun br13_ => ?_)
  · skip
    have hr_ : bI (!isE hs c && cdo hs c j b) = 0 := by rw [bI_1.mp br13_]; rfl
    refine aw_iconst (v := 0) d_House_canMove_40 (by decide) ?_
    refine aw_zret d_House_canMove_41 rfl rfl (Nat.le_refl _) (Nat.le_refl _) ?_
    exact ⟨by rw [hr_], rfl⟩
  · skip
    refine aw_aload_n (i := 0) d_House_canMove_16 rfl rfl ?_
    refine aw_iload_n (i := 1) d_House_canMove_17 rfl rfl ?_
    refine aw_aload_n (i := 0) d_House_canMove_18 rfl rfl ?_
    apply aw_get d_House_canMove_19 fl_House_18; assumption; rfl
    refine aw_iload_n (i := 2) d_House_canMove_22 rfl rfl ?_
    apply aw_callv_p (l_get z3 j (by omega)) d_House_canMove_23 cl_House_50; exact z3.ob.choose_spec; rfl; rfl; rfl; rfl; decide; exact Nat.le_of_ble_eq_true rfl; exact (Nat.le_refl _); exact (Nat.le_refl _)
    rw [getD_len (by omega)]
    apply aw_cast d_House_canMove_26; exact k1; rfl; exact cc_House_62
    refine aw_iload_n (i := 3) d_House_canMove_29 rfl rfl ?_
    apply aw_callv_p (c_House_canDo hH0 hv (hv.hc hc) hj hb) d_House_canMove_30 cl_House_94; exact z1; rfl; rfl; rfl; rfl; decide; exact Nat.le_of_ble_eq_true rfl; exact (Nat.le_refl _); exact (Nat.le_refl _)
    refine aw_if_eq d_House_canMove_33 (fun br33_ => ?_) (fun br33_ => ?_)
    · skip
      have hr_ : bI (!isE hs c && cdo hs c j b) = 0 := by rw [bI_0.mp br13_, bI_0.mp br33_]; rfl
      refine aw_iconst (v := 0) d_House_canMove_40 (by decide) ?_
      refine aw_zret d_House_canMove_41 rfl rfl (Nat.le_refl _) (Nat.le_refl _) ?_
      exact ⟨by rw [hr_], rfl⟩
    · skip
      have hr_ : bI (!isE hs c && cdo hs c j b) = 1 := by rw [bI_0.mp br13_, bI_1.mp br33_]; rfl
      refine aw_iconst (v := 1) d_House_canMove_36 (by decide) ?_
      refine aw_goto d_House_canMove_37 ?_
      refine aw_zret d_House_canMove_41 rfl rfl (Nat.le_refl _) (Nat.le_refl _) ?_
      exact ⟨by rw [hr_], rfl⟩

set_option maxHeartbeats 4000000 in
set_option maxRecDepth 20000 in
theorem c_House_codeAfter {G : aG} {nx : Nat} {h : Nat → Option aC} {hs : HSt} {ad : AD} {start : Nat} (hH : HoA h hs ad start) (hv : VH hs) {c j : Nat} (hc : c < hall hs) (hj : j < hs.2.1.length) : AMet G m_House_codeAfter 5 0 0 [.ref ad.1, .int (nI c), .int (nI j)] (nx, h) (RV (.int (nI (aft hs c j))) (nx, h)) := by
  have hH0 := hH
  obtain ⟨z1, z2, z3, z4, z5, z6, z7⟩ := hH
  have hlp : ad.2.2.2.2.1.length = hs.1.length := z5.1
  have hp12 := hv.1.1
  have hs24 := hv.2.1
  have hall2 := hv.2.2.2.2.2.2.2
  obtain ⟨na, ga, k1, k2, k3⟩ := z7 j hj
  have hvs := hv.s hj
  have hwt := swt_le hv j
  refine amet_of pf_House_codeAfter (Nat.le_of_ble_eq_true rfl) ?_
  show AW G m_House_codeAfter 5 0 0 _ 0 [(0, .ref ad.1), (1, .int (nI c)), (2, .int (nI j))] [] (nx, h) 0 0
  refine aw_aload_n (i := 0) d_House_codeAfter_0 rfl rfl ?_
  refine aw_iload_n (i := 2) d_House_codeAfter_1 rfl rfl ?_
  apply aw_callv_p (c_House_hasStep hH0 hv (nI j)) d_House_codeAfter_2 cl_House_88; exact z1; rfl; rfl; rfl; rfl; decide; exact Nat.le_of_ble_eq_true rfl; exact (Nat.le_refl _); exact (Nat.le_refl _)
  rw [valid_j hj (by omega)]
  refine aw_if_eq d_House_codeAfter_5 (fun br5_ => absurd br5_ (by decide)) (fun br5_ => ?_)
  refine aw_aload_n (i := 0) d_House_codeAfter_8 rfl rfl ?_
  apply aw_get d_House_codeAfter_9 fl_House_18; assumption; rfl
  refine aw_iload_n (i := 2) d_House_codeAfter_12 rfl rfl ?_
  apply aw_callv_p (l_get z3 j (by omega)) d_House_codeAfter_13 cl_House_50; exact z3.ob.choose_spec; rfl; rfl; rfl; rfl; decide; exact Nat.le_of_ble_eq_true rfl; exact (Nat.le_refl _); exact (Nat.le_refl _)
  rw [getD_len (by omega)]
  apply aw_cast d_House_codeAfter_16; exact k1; rfl; exact cc_House_62
  refine aw_iload_n (i := 1) d_House_codeAfter_19 rfl rfl ?_
  apply aw_callv_p (c_Step_codeAfter hH0 hv hc hj) d_House_codeAfter_20 cl_House_98; exact k1; rfl; rfl; rfl; rfl; decide; exact Nat.le_of_ble_eq_true rfl; exact (Nat.le_refl _); exact (Nat.le_refl _)
  refine aw_goto d_House_codeAfter_23 ?_
  refine aw_iret d_House_codeAfter_27 rfl (Nat.le_refl _) (Nat.le_refl _) ?_
  exact ⟨rfl, rfl⟩

set_option maxHeartbeats 4000000 in
set_option maxRecDepth 20000 in
theorem c_House_openSteps {G : aG} {nx : Nat} {h : Nat → Option aC} {hs : HSt} {ad : AD} {start : Nat} (hH : HoA h hs ad start) (hv : VH hs) {c : Nat} (hc : c < hall hs) : AMet G m_House_openSteps 5 0 0 [.ref ad.1, .int (nI c)] (nx, h) (RV (.int (if isE hs c then 0 else nI (orb (fun j => cdo hs c j hs.2.2.2) hs.2.1.length))) (nx, h)) := by
  have hH0 := hH
  obtain ⟨z1, z2, z3, z4, z5, z6, z7⟩ := hH
  have hlp : ad.2.2.2.2.1.length = hs.1.length := z5.1
  have hp12 := hv.1.1
  have hs24 := hv.2.1
  have hall2 := hv.2.2.2.2.2.2.2
  refine amet_of pf_House_openSteps (Nat.le_of_ble_eq_true rfl) ?_
  show AW G m_House_openSteps 5 0 0 _ 0 [(0, .ref ad.1), (1, .int (nI c))] [] (nx, h) 0 0
  refine aw_iconst (v := 0) d_House_openSteps_0 (by decide) ?_
  refine aw_istore_n (i := 2) (lv2 := [(0, _), (1, _), (2, _)]) d_House_openSteps_1 rfl (by decide) rfl ?_
  refine aw_aload_n (i := 0) d_House_openSteps_2 rfl rfl ?_
  refine aw_iload_n (i := 1) d_House_openSteps_3 rfl rfl ?_
  apply aw_callv_p (c_House_isEnd hH0 hv (hv.hc hc)) d_House_openSteps_4 cl_House_91; exact z1; rfl; rfl; rfl; rfl; decide; exact Nat.le_of_ble_eq_true rfl; exact (Nat.le_refl _); exact (Nat.le_refl _)
  refine aw_if_eq d_House_openSteps_7 (fun br7_ => ?_) (fun br7_ => ?_)
  · skip
    have hr_ : (if isE hs c then 0 else nI (orb (fun j => cdo hs c j hs.2.2.2) hs.2.1.length)) = nI (orb (fun j => cdo hs c j hs.2.2.2) hs.2.1.length) := if_neg (by rw [bI_0.mp br7_]; decide)
    rw [hr_]
    refine aw_iconst (v := 0) d_House_openSteps_12 (by decide) ?_
    refine aw_istore_n (i := 3) (lv2 := [(0, _), (1, _), (2, _), (3, _)]) d_House_openSteps_13 rfl (by decide) rfl ?_
    have hT0 : AW G m_House_openSteps 5 0 0 (FQ G 0 0 (RV (.int (nI (orb (fun j => cdo hs c j hs.2.2.2) hs.2.1.length))) (nx, h))) 14 [(0, .ref ad.1), (1, .int (nI c)), (2, .int (nI (orb (fun j => cdo hs c j hs.2.2.2) 0))), (3, .int (nI 0))] [] (nx, h) 0 0 := ?_
    · exact hT0
    refine upto (σ := Nat) (fun i => AW G m_House_openSteps 5 0 0 _ 14 [(0, .ref ad.1), (1, .int (nI c)), (2, .int (nI (orb (fun j => cdo hs c j hs.2.2.2) i))), (3, .int (nI i))] [] (nx, h) 0 0) (fun i s => s = i) hs.2.1.length ?_ 0 0 (Nat.zero_le _) rfl
    intro i s0 hi hI ih
    subst hI
    refine aw_iload_n (i := 3) d_House_openSteps_14 rfl rfl ?_
    refine aw_aload_n (i := 0) d_House_openSteps_15 rfl rfl ?_
    apply aw_get d_House_openSteps_16 fl_House_18; assumption; rfl
    apply aw_callv_p (l_size z3) d_House_openSteps_19 cl_House_46; exact z3.ob.choose_spec; rfl; rfl; rfl; rfl; decide; exact Nat.le_of_ble_eq_true rfl; exact (Nat.le_refl _); exact (Nat.le_refl _)
    rw [z6]
    refine aw_icmp_ge d_House_openSteps_22 (fun br22_ => ?_) (fun br22_ => ?_)
    · skip
      have hei : s0 = hs.2.1.length := by
        have := (nI_leI (by omega) (by omega)).mp br22_
        omega
      subst hei
      refine aw_iload_n (i := 2) d_House_openSteps_60 rfl rfl ?_
      refine aw_iret d_House_openSteps_61 rfl (Nat.le_refl _) (Nat.le_refl _) ?_
      exact ⟨rfl, rfl⟩
    · skip
      have hlt := paB (by omega) (by omega) br22_
      obtain ⟨na, ga, k1, k2, k3⟩ := z7 s0 hlt
      refine aw_aload_n (i := 0) d_House_openSteps_25 rfl rfl ?_
      refine aw_iload_n (i := 1) d_House_openSteps_26 rfl rfl ?_
      refine aw_aload_n (i := 0) d_House_openSteps_27 rfl rfl ?_
      apply aw_get d_House_openSteps_28 fl_House_18; assumption; rfl
      refine aw_iload_n (i := 3) d_House_openSteps_31 rfl rfl ?_
      apply aw_callv_p (l_get z3 s0 (by omega)) d_House_openSteps_32 cl_House_50; exact z3.ob.choose_spec; rfl; rfl; rfl; rfl; decide; exact Nat.le_of_ble_eq_true rfl; exact (Nat.le_refl _); exact (Nat.le_refl _)
      rw [getD_len (by omega)]
      apply aw_cast d_House_openSteps_35; exact k1; rfl; exact cc_House_62
      refine aw_aload_n (i := 0) d_House_openSteps_38 rfl rfl ?_
      apply aw_get d_House_openSteps_39 fl_House_30; exact z1; rfl
      apply aw_callv_p (c_House_canDo hH0 hv (hv.hc hc) hlt hv.2.2.2.2.2.2.1) d_House_openSteps_42 cl_House_94; exact z1; rfl; rfl; rfl; rfl; decide; exact Nat.le_of_ble_eq_true rfl; exact (Nat.le_refl _); exact (Nat.le_refl _)
      refine aw_if_eq d_House_openSteps_45 (fun br45_ => ?_) (fun br45_ => ?_)
      · skip
        have hob : orb (fun j => cdo hs c j hs.2.2.2) (s0 + 1) = orb (fun j => cdo hs c j hs.2.2.2) s0 := if_neg (Bool.eq_false_iff.mp (bI_0.mp br45_))
        refine aw_iinc (v := _ + 1) (lv2 := [(0, _), (1, _), (2, _), (3, _)]) d_House_openSteps_54 (by decide) rfl rfl rfl ?_
        refine aw_goto d_House_openSteps_57 ?_
        rw [nI_1]
        have k9 := ih hlt (s0 + 1) rfl
        rw [hob] at k9
        exact k9
      · skip
        have hob : orb (fun j => cdo hs c j hs.2.2.2) (s0 + 1) = orb (fun j => cdo hs c j hs.2.2.2) s0 ||| 2 ^ s0 := if_pos (bI_1.mp br45_)
        refine aw_iload_n (i := 2) d_House_openSteps_48 rfl rfl ?_
        refine aw_iconst (v := 1) d_House_openSteps_49 (by decide) ?_
        refine aw_iload_n (i := 3) d_House_openSteps_50 rfl rfl ?_
        refine aw_ishl d_House_openSteps_51 ?_
        rw [sh_1 (by omega)]
        refine aw_ior d_House_openSteps_52 ?_
        rw [fa_or]
        refine aw_istore_n (i := 2) (lv2 := [(0, _), (1, _), (2, _), (3, _)]) d_House_openSteps_53 rfl (by decide) rfl ?_
        refine aw_iinc (v := _ + 1) (lv2 := [(0, _), (1, _), (2, _), (3, _)]) d_House_openSteps_54 (by decide) rfl rfl rfl ?_
        refine aw_goto d_House_openSteps_57 ?_
        rw [nI_1]
        have k9 := ih hlt (s0 + 1) rfl
        rw [hob] at k9
        exact k9
  · skip
    have hr_ : (if isE hs c then 0 else nI (orb (fun j => cdo hs c j hs.2.2.2) hs.2.1.length)) = 0 := if_pos (bI_1.mp br7_)
    refine aw_iload_n (i := 2) d_House_openSteps_10 rfl rfl ?_
    refine aw_iret d_House_openSteps_11 rfl (Nat.le_refl _) (Nat.le_refl _) ?_
    exact ⟨by rw [hr_], rfl⟩

set_option maxHeartbeats 4000000 in
set_option maxRecDepth 20000 in
theorem c_House_isSo {G : aG} {nx : Nat} {h : Nat → Option aC} {hs : HSt} {ad : AD} {start : Nat} (hH : HoA h hs ad start) (hv : VH hs) {c i : Nat} (hc : c < 2 ^ 31) (hi : i < hs.1.length) (y : Int32) : AMet G m_House_isSo 3 0 0 [.ref ad.1, .int (nI c), .int (nI i), .int y] (nx, h) (RV (.int (bI (decide (nI (dg (pks hs.1) c i) = y)))) (nx, h)) := by
  have hH0 := hH
  obtain ⟨z1, z2, z3, z4, z5, z6, z7⟩ := hH
  have hlp : ad.2.2.2.2.1.length = hs.1.length := z5.1
  have hp12 := hv.1.1
  have hs24 := hv.2.1
  have hall2 := hv.2.2.2.2.2.2.2
  refine amet_of pf_House_isSo (Nat.le_of_ble_eq_true rfl) ?_
  show AW G m_House_isSo 3 0 0 _ 0 [(0, .ref ad.1), (1, .int (nI c)), (2, .int (nI i)), (3, .int y)] [] (nx, h) 0 0
  refine aw_iload_n (i := 2) d_House_isSo_0 rfl rfl ?_
  refine aw_if_lt d_House_isSo_1 (fun br1_ => absurd br1_ (nI_pos (by omega))) (fun br1_ => ?_)
  refine aw_iload_n (i := 2) d_House_isSo_4 rfl rfl ?_
  refine aw_aload_n (i := 0) d_House_isSo_5 rfl rfl ?_
  apply aw_get d_House_isSo_6 fl_House_12; assumption; rfl
  apply aw_callv_p (l_size z2) d_House_isSo_9 cl_House_46; exact z2.ob.choose_spec; rfl; rfl; rfl; rfl; decide; exact Nat.le_of_ble_eq_true rfl; exact (Nat.le_refl _); exact (Nat.le_refl _)
  rw [hlp]
  refine aw_icmp_ge d_House_isSo_12 (fun br12_ => absurd br12_ (nI_ge hi (by omega))) (fun br12_ => ?_)
  refine aw_aload_n (i := 0) d_House_isSo_15 rfl rfl ?_
  apply aw_get d_House_isSo_16 fl_House_12; assumption; rfl
  refine aw_iload_n (i := 2) d_House_isSo_19 rfl rfl ?_
  apply aw_callv_p (l_get z2 i (by omega)) d_House_isSo_20 cl_House_50; exact z2.ob.choose_spec; rfl; rfl; rfl; rfl; decide; exact Nat.le_of_ble_eq_true rfl; exact (Nat.le_refl _); exact (Nat.le_refl _)
  rw [getD_len (by omega)]
  apply aw_cast d_House_isSo_23; exact z5.2 i hi; rfl; exact cc_House_54
  refine aw_iload_n (i := 1) d_House_isSo_26 rfl rfl ?_
  apply aw_callv_p (p_stateIn z5 hv.1 hi hc) d_House_isSo_27 cl_House_81; exact z5.2 i hi; rfl; rfl; rfl; rfl; decide; exact Nat.le_of_ble_eq_true rfl; exact (Nat.le_refl _); exact (Nat.le_refl _)
  refine aw_iload_n (i := 3) d_House_isSo_30 rfl rfl ?_
  refine aw_icmp_ne d_House_isSo_31 (fun br31_ => ?_) (fun br31_ => ?_)
  · skip
    have hr_ : bI (decide (nI (dg (pks hs.1) c i) = y)) = 0 := by rw [decide_eq_false br31_]; rfl
    refine aw_iconst (v := 0) d_House_isSo_38 (by decide) ?_
    refine aw_zret d_House_isSo_39 rfl rfl (Nat.le_refl _) (Nat.le_refl _) ?_
    exact ⟨by rw [hr_], rfl⟩
  · skip
    have hr_ : bI (decide (nI (dg (pks hs.1) c i) = y)) = 1 := by rw [decide_eq_true br31_]; rfl
    refine aw_iconst (v := 1) d_House_isSo_34 (by decide) ?_
    refine aw_goto d_House_isSo_35 ?_
    refine aw_zret d_House_isSo_39 rfl rfl (Nat.le_refl _) (Nat.le_refl _) ?_
    exact ⟨by rw [hr_], rfl⟩

set_option maxHeartbeats 4000000 in
set_option maxRecDepth 20000 in
theorem c_House_isSoN {G : aG} {nx : Nat} {h : Nat → Option aC} {hs : HSt} {ad : AD} {start : Nat} (hH : HoA h hs ad start) (hv : VH hs) (c x y : Int32) (hx : x < 0) : AMet G m_House_isSo 3 0 0 [.ref ad.1, .int c, .int x, .int y] (nx, h) (RV (.int 0) (nx, h)) := by
  have hH0 := hH
  obtain ⟨z1, z2, z3, z4, z5, z6, z7⟩ := hH
  have hlp : ad.2.2.2.2.1.length = hs.1.length := z5.1
  have hp12 := hv.1.1
  have hs24 := hv.2.1
  have hall2 := hv.2.2.2.2.2.2.2
  refine amet_of pf_House_isSo (Nat.le_of_ble_eq_true rfl) ?_
  show AW G m_House_isSo 3 0 0 _ 0 [(0, .ref ad.1), (1, .int c), (2, .int x), (3, .int y)] [] (nx, h) 0 0
  refine aw_iload_n (i := 2) d_House_isSo_0 rfl rfl ?_
  refine aw_if_lt d_House_isSo_1 (fun br1_ => ?_) (fun br1_ => absurd hx br1_)
  refine aw_iconst (v := 0) d_House_isSo_38 (by decide) ?_
  refine aw_zret d_House_isSo_39 rfl rfl (Nat.le_refl _) (Nat.le_refl _) ?_
  exact ⟨rfl, rfl⟩

set_option maxHeartbeats 4000000 in
set_option maxRecDepth 20000 in
theorem c_House_hasState {G : aG} {nx : Nat} {h : Nat → Option aC} {hs : HSt} {ad : AD} {start : Nat} (hH : HoA h hs ad start) (hv : VH hs) {i : Nat} (hi : i < hs.1.length) (y : Int32) : AMet G m_House_hasState 3 0 0 [.ref ad.1, .int (nI i), .int y] (nx, h) (RV (.int (bI (decide (0 ≤ y ∧ y < nI (hs.1.getD i pz).1)))) (nx, h)) := by
  have hH0 := hH
  obtain ⟨z1, z2, z3, z4, z5, z6, z7⟩ := hH
  have hlp : ad.2.2.2.2.1.length = hs.1.length := z5.1
  have hp12 := hv.1.1
  have hs24 := hv.2.1
  have hall2 := hv.2.2.2.2.2.2.2
  refine amet_of pf_House_hasState (Nat.le_of_ble_eq_true rfl) ?_
  show AW G m_House_hasState 3 0 0 _ 0 [(0, .ref ad.1), (1, .int (nI i)), (2, .int y)] [] (nx, h) 0 0
  refine aw_aload_n (i := 0) d_House_hasState_0 rfl rfl ?_
  refine aw_iload_n (i := 1) d_House_hasState_1 rfl rfl ?_
  apply aw_callv_p (c_House_hasProp hH0 hv (nI i)) d_House_hasState_2 cl_House_77; exact z1; rfl; rfl; rfl; rfl; decide; exact Nat.le_of_ble_eq_true rfl; exact (Nat.le_refl _); exact (Nat.le_refl _)
  rw [valid_j hi (by omega)]
  refine aw_if_eq d_House_hasState_5 (fun br5_ => absurd br5_ (by decide)) (fun br5_ => ?_)
  refine aw_iload_n (i := 2) d_House_hasState_8 rfl rfl ?_
  refine aw_if_lt d_House_hasState_9 (fun br9_ => ?_) (fun br9_ => ?_)
  · skip
    have hr_ : bI (decide (0 ≤ y ∧ y < nI (hs.1.getD i pz).1)) = 0 := bI_0.mpr (decide_eq_false (fun q => absurd br9_ (Int32.not_lt.mpr q.1)))
    refine aw_iconst (v := 0) d_House_hasState_34 (by decide) ?_
    refine aw_zret d_House_hasState_35 rfl rfl (Nat.le_refl _) (Nat.le_refl _) ?_
    exact ⟨by rw [hr_], rfl⟩
  · skip
    refine aw_iload_n (i := 2) d_House_hasState_12 rfl rfl ?_
    refine aw_aload_n (i := 0) d_House_hasState_13 rfl rfl ?_
    apply aw_get d_House_hasState_14 fl_House_12; assumption; rfl
    refine aw_iload_n (i := 1) d_House_hasState_17 rfl rfl ?_
    apply aw_callv_p (l_get z2 i (by omega)) d_House_hasState_18 cl_House_50; exact z2.ob.choose_spec; rfl; rfl; rfl; rfl; decide; exact Nat.le_of_ble_eq_true rfl; exact (Nat.le_refl _); exact (Nat.le_refl _)
    rw [getD_len (by omega)]
    apply aw_cast d_House_hasState_21; exact z5.2 i hi; rfl; exact cc_House_54
    apply aw_get d_House_hasState_24 fl_House_56; exact z5.2 i hi; rfl
    refine aw_icmp_ge d_House_hasState_27 (fun br27_ => ?_) (fun br27_ => ?_)
    · skip
      have hr_ : bI (decide (0 ≤ y ∧ y < nI (hs.1.getD i pz).1)) = 0 := bI_0.mpr (decide_eq_false (fun q => absurd br27_ (Int32.not_le.mpr q.2)))
      refine aw_iconst (v := 0) d_House_hasState_34 (by decide) ?_
      refine aw_zret d_House_hasState_35 rfl rfl (Nat.le_refl _) (Nat.le_refl _) ?_
      exact ⟨by rw [hr_], rfl⟩
    · skip
      have hr_ : bI (decide (0 ≤ y ∧ y < nI (hs.1.getD i pz).1)) = 1 := by
        rw [decide_eq_true ⟨Int32.not_lt.mp br9_, Int32.not_le.mp br27_⟩]; rfl
      refine aw_iconst (v := 1) d_House_hasState_30 (by decide) ?_
      refine aw_goto d_House_hasState_31 ?_
      refine aw_zret d_House_hasState_35 rfl rfl (Nat.le_refl _) (Nat.le_refl _) ?_
      exact ⟨by rw [hr_], rfl⟩

set_option maxHeartbeats 4000000 in
set_option maxRecDepth 20000 in
theorem c_House_hasStateN {G : aG} {nx : Nat} {h : Nat → Option aC} {hs : HSt} {ad : AD} {start : Nat} (hH : HoA h hs ad start) (hv : VH hs) (x y : Int32) (hx : ¬ (0 ≤ x ∧ x < nI hs.1.length)) : AMet G m_House_hasState 3 0 0 [.ref ad.1, .int x, .int y] (nx, h) (RV (.int 0) (nx, h)) := by
  have hH0 := hH
  obtain ⟨z1, z2, z3, z4, z5, z6, z7⟩ := hH
  have hlp : ad.2.2.2.2.1.length = hs.1.length := z5.1
  have hp12 := hv.1.1
  have hs24 := hv.2.1
  have hall2 := hv.2.2.2.2.2.2.2
  refine amet_of pf_House_hasState (Nat.le_of_ble_eq_true rfl) ?_
  show AW G m_House_hasState 3 0 0 _ 0 [(0, .ref ad.1), (1, .int x), (2, .int y)] [] (nx, h) 0 0
  refine aw_aload_n (i := 0) d_House_hasState_0 rfl rfl ?_
  refine aw_iload_n (i := 1) d_House_hasState_1 rfl rfl ?_
  apply aw_callv_p (c_House_hasProp hH0 hv x) d_House_hasState_2 cl_House_77; exact z1; rfl; rfl; rfl; rfl; decide; exact Nat.le_of_ble_eq_true rfl; exact (Nat.le_refl _); exact (Nat.le_refl _)
  rw [decide_eq_false hx]
  refine aw_if_eq d_House_hasState_5 (fun br5_ => ?_) (fun br5_ => absurd (show bI false = 0 from rfl) br5_)
  refine aw_iconst (v := 0) d_House_hasState_34 (by decide) ?_
  refine aw_zret d_House_hasState_35 rfl rfl (Nat.le_refl _) (Nat.le_refl _) ?_
  exact ⟨rfl, rfl⟩

