/-! House: what is only read -/
section PRX
variable {G : aG} {nx : Nat} {h : Nat → Option aC} {hs : HSt} {ad : AD} {sta : Nat}
theorem ho_pc (ho : HoA h hs ad sta) {i : Nat} (hi : i < hs.1.length) : h (ad.2.2.2.2.1.getD i 0) = some (ob (200 + i) 6 (pfl hs.1 i)) := ho.2.2.2.2.1.2 i hi
theorem p_isMoved (ho : HoA h hs ad sta) (hv : VH hs) {i : Nat} (hi : i < hs.1.length) {c : Nat} (hc : c < 2 ^ 31) : AMet G m_Prop_isMoved 1 0 0 [.ref (ad.2.2.2.2.1.getD i 0), .int (nI c)] (nx, h) (RV (.int (bI (awy hs c i))) (nx, h)) := by
  have hk := hv.1.k hi
  have hw := hv.1.w i
  have := c_Prop_isMoved (G := G) (nx := nx) (ho_pc ho hi) (nI c) (nI_ne0 hw.2 (by omega)) (nI_ne0 (by omega) (by omega))
  rw [st_math hv.1 hi hc] at this
  have hdl := dg_lt c i (by rw [pk_len]; exact hi) hv.1.pos
  rw [pk_at hi] at hdl
  have e : (if nI (dg (pks hs.1) c i) = nI (hs.1.getD i pz).2.1 then (0 : Int32) else 1) = bI (awy hs c i) := by
    unfold awy frs
    by_cases q : dg (pks hs.1) c i = (hs.1.getD i pz).2.1
    · rw [if_pos (congrArg nI q), decide_eq_true q]; rfl
    · rw [if_neg (fun z => q ((nI_eq (by omega) (by omega)).mp z)), decide_eq_false q]; rfl
  rw [e] at this; exact this
theorem p_isLie (ho : HoA h hs ad sta) (hv : VH hs) {i : Nat} (hi : i < hs.1.length) {c : Nat} (hc : c < 2 ^ 31) : AMet G m_Prop_isLie 1 0 0 [.ref (ad.2.2.2.2.1.getD i 0), .int (nI c)] (nx, h) (RV (.int (bI (lie hs c i))) (nx, h)) := by
  have hk := hv.1.k hi
  have hw := hv.1.w i
  have := c_Prop_isLie (G := G) (nx := nx) (ho_pc ho hi) (nI c) (nI_ne0 hw.2 (by omega)) (nI_ne0 (by omega) (by omega))
  rw [st_math hv.1 hi hc] at this
  have e : (if (hs.1.getD i pz).2.2.2.2.2 = -1 ∨ (hs.1.getD i pz).2.2.2.2.2 = nI (dg (pks hs.1) c i) then (0 : Int32) else 1) = bI (lie hs c i) := by
    unfold lie hasR rdg
    by_cases q1 : (hs.1.getD i pz).2.2.2.2.2 = -1
    · rw [if_pos (Or.inl q1), decide_eq_true q1]; rfl
    · by_cases q2 : (hs.1.getD i pz).2.2.2.2.2 = nI (dg (pks hs.1) c i)
      · rw [if_pos (Or.inr q2), decide_eq_true q2]; simp [bI]
      · rw [if_neg (fun z => z.elim q1 q2), decide_eq_false q1, decide_eq_false q2]; rfl
  rw [e] at this; exact this
end PRX
def liM (hs : HSt) (c : Nat) : Nat := orb (lie hs c) hs.1.length
def rlc (hs : HSt) (z i : Nat) : Bool := decide ((hs.1.getD i pz).2.2.1 = -1) || decide (nI (dg (pks hs.1) z (xN (hs.1.getD i pz).2.2.1)) = (hs.1.getD i pz).2.2.2.1)
def lnp (hs : HSt) (z p q : Nat) : Bool := decide ((hs.1.getD q pz).2.2.1 = nI p) && awy hs z q && rlc hs z q
def lnd (hs : HSt) (z p : Nat) : Bool := (List.range hs.1.length).any (lnp hs z p)
def gcz (hs : HSt) (z p : Nat) : Bool := awy hs z p && rlc hs z p && !lnd hs z p
set_option maxHeartbeats 4000000 in
set_option maxRecDepth 20000 in
theorem c_House_hasCode {G : aG} {nx : Nat} {h : Nat → Option aC} {hs : HSt} {ad : AD} {sta : Nat} (ho : HoA h hs ad sta) (hv : VH hs) (x : Int32) : AMet G m_House_hasCode 0 0 0 [.ref ad.1, .int x] (nx, h) (RV (.int (bI (isC hs x))) (nx, h)) := by
  have hp12 := hv.1.1
  have hs24 := hv.2.1
  have hall2 := hv.2.2.2.2.2.2.2
  refine amet_of pf_House_hasCode (Nat.le_of_ble_eq_true rfl) ?_
  show AW G m_House_hasCode 0 0 0 _ 0 [(0, .ref ad.1), (1, .int x)] [] (nx, h) 0 0
  refine aw_iload_n (i := 1) d_House_hasCode_0 rfl rfl ?_
  refine aw_if_lt d_House_hasCode_1 (fun br1_ => ?_) (fun br1_ => ?_)
  · skip
    have hr_ : isC hs x = false := decide_eq_false (fun q => absurd br1_ (Int32.not_lt.mpr q.1))
    refine aw_iconst (v := nI 0) d_House_hasCode_16 (by decide) ?_
    refine aw_zret d_House_hasCode_17 rfl rfl (Nat.le_refl _) (Nat.le_refl _) ?_
    exact ⟨by rw [hr_]; rfl, rfl⟩
  · skip
    refine aw_iload_n (i := 1) d_House_hasCode_4 rfl rfl ?_
    refine aw_aload_n (i := 0) d_House_hasCode_5 rfl rfl ?_
    apply aw_get d_House_hasCode_6 fl_House_34; exact ho.1; rfl
    refine aw_icmp_ge d_House_hasCode_9 (fun br9_ => ?_) (fun br9_ => ?_)
    · skip
      have hr_ : isC hs x = false := decide_eq_false (fun q => absurd br9_ (Int32.not_le.mpr q.2))
      refine aw_iconst (v := nI 0) d_House_hasCode_16 (by decide) ?_
      refine aw_zret d_House_hasCode_17 rfl rfl (Nat.le_refl _) (Nat.le_refl _) ?_
      exact ⟨by rw [hr_]; rfl, rfl⟩
    · skip
      have hr_ : isC hs x = true := decide_eq_true ⟨Int32.not_lt.mp br1_, Int32.not_le.mp br9_⟩
      refine aw_iconst (v := nI 1) d_House_hasCode_12 (by decide) ?_
      refine aw_goto d_House_hasCode_13 ?_
      refine aw_zret d_House_hasCode_17 rfl rfl (Nat.le_refl _) (Nat.le_refl _) ?_
      exact ⟨by rw [hr_]; rfl, rfl⟩

set_option maxHeartbeats 4000000 in
set_option maxRecDepth 20000 in
theorem c_House_lies {G : aG} {nx : Nat} {h : Nat → Option aC} {hs : HSt} {ad : AD} {sta : Nat} (ho : HoA h hs ad sta) (hv : VH hs) {c : Nat} (hc : c < hall hs) : AMet G m_House_lies 3 0 0 [.ref ad.1, .int (nI c)] (nx, h) (RV (.int (nI (liM hs c))) (nx, h)) := by
  have hp12 := hv.1.1
  have hs24 := hv.2.1
  have hall2 := hv.2.2.2.2.2.2.2
  refine amet_of pf_House_lies (Nat.le_of_ble_eq_true rfl) ?_
  show AW G m_House_lies 3 0 0 _ 0 [(0, .ref ad.1), (1, .int (nI c))] [] (nx, h) 0 0
  refine aw_iconst (v := nI 0) d_House_lies_0 (by decide) ?_
  refine aw_istore_n (i := 2) (lv2 := [(0, _), (1, _), (2, _)]) d_House_lies_1 rfl (by decide) rfl ?_
  refine aw_iconst (v := nI 0) d_House_lies_2 (by decide) ?_
  refine aw_istore_n (i := 3) (lv2 := [(0, _), (1, _), (2, _), (3, _)]) d_House_lies_3 rfl (by decide) rfl ?_
  show AW G m_House_lies 3 0 0 _ 4 [(0, .ref ad.1), (1, .int (nI c)), (2, .int (nI (orb (lie hs c) 0))), (3, .int (nI 0))] [] (nx, h) 0 0
  refine upto (σ := Nat) (fun i => AW G m_House_lies 3 0 0 _ 4 [(0, .ref ad.1), (1, .int (nI c)), (2, .int (nI (orb (lie hs c) i))), (3, .int (nI i))] [] (nx, h) 0 0) (fun i s => i = s ∧ True) (hs.1.length) ?_ 0 0 (Nat.zero_le _) ⟨rfl, trivial⟩
  intro i s9 hi_i hI_i ih_i
  obtain ⟨rfl, hI_i⟩ := hI_i
  refine aw_iload_n (i := 3) d_House_lies_4 rfl rfl ?_
  refine aw_aload_n (i := 0) d_House_lies_5 rfl rfl ?_
  apply aw_get d_House_lies_6 fl_House_12; exact ho.1; rfl
  apply aw_callv_p (ho_np ho) d_House_lies_9 cl_House_46; exact (ho_pl ho).choose_spec; rfl; rfl; rfl; rfl; decide; exact Nat.le_of_ble_eq_true rfl; exact (Nat.le_refl _); exact (Nat.le_refl _)
  refine aw_icmpN_ge d_House_lies_12 (by omega) (by omega) (fun br12_ => ?_) (fun br12_ => ?_)
  · skip
    have ei : i = hs.1.length := by omega
    subst ei
    refine aw_iload_n (i := 2) d_House_lies_45 rfl rfl ?_
    refine aw_iret d_House_lies_46 rfl (Nat.le_refl _) (Nat.le_refl _) ?_
    exact ⟨rfl, rfl⟩
  · skip
    refine aw_aload_n (i := 0) d_House_lies_15 rfl rfl ?_
    apply aw_get d_House_lies_16 fl_House_12; exact ho.1; rfl
    refine aw_iload_n (i := 3) d_House_lies_19 rfl rfl ?_
    apply aw_callv_p (ho_gp ho (j := i) br12_) d_House_lies_20 cl_House_50; exact (ho_pl ho).choose_spec; rfl; rfl; rfl; rfl; decide; exact Nat.le_of_ble_eq_true rfl; exact (Nat.le_refl _); exact (Nat.le_refl _)
    apply aw_cast d_House_lies_23; exact ho_pc ho br12_; rfl; exact cc_House_54
    refine aw_iload_n (i := 1) d_House_lies_26 rfl rfl ?_
    apply aw_callv_p (p_isLie ho hv br12_ (c := c) (by omega)) d_House_lies_27 cl_House_108; exact ho_pc ho br12_; rfl; rfl; rfl; rfl; decide; exact Nat.le_of_ble_eq_true rfl; exact (Nat.le_refl _); exact (Nat.le_refl _)
    refine aw_ifB_eq d_House_lies_30 (fun br30_ => ?_) (fun br30_ => ?_)
    · skip
      have hst : orb (lie hs c) (i + 1) = orb (lie hs c) i := by show (if _ then _ else _) = _; rw [br30_]; rfl
      refine aw_iincN (lv2 := [(0, _), (1, _), (2, _), (3, _)]) d_House_lies_39 (by decide) rfl rfl ?_
      refine aw_goto d_House_lies_42 ?_
      have k9 := ih_i br12_ (i + 1) ⟨rfl, trivial⟩
      rw [hst] at k9
      exact k9
    · skip
      have hst : orb (lie hs c) (i + 1) = orb (lie hs c) i ||| 2 ^ i := by show (if _ then _ else _) = _; rw [br30_]; rfl
      refine aw_iload_n (i := 2) d_House_lies_33 rfl rfl ?_
      refine aw_iconst (v := 1) d_House_lies_34 (by decide) ?_
      refine aw_iload_n (i := 3) d_House_lies_35 rfl rfl ?_
      refine aw_ishl d_House_lies_36 ?_
      rw [sh_1 (by omega)]
      refine aw_ior d_House_lies_37 ?_
      rw [fa_or]
      refine aw_istore_n (i := 2) (lv2 := [(0, _), (1, _), (2, _), (3, _)]) d_House_lies_38 rfl (by decide) rfl ?_
      refine aw_iincN (lv2 := [(0, _), (1, _), (2, _), (3, _)]) d_House_lies_39 (by decide) rfl rfl ?_
      refine aw_goto d_House_lies_42 ?_
      have k9 := ih_i br12_ (i + 1) ⟨rfl, trivial⟩
      rw [hst] at k9
      exact k9

set_option maxHeartbeats 4000000 in
set_option maxRecDepth 20000 in
theorem c_House_withExits {G : aG} {nx : Nat} {h : Nat → Option aC} {hs : HSt} {ad : AD} {sta : Nat} (ho : HoA h hs ad sta) (hv : VH hs) (hx : VX hs) {c : Nat} (hc : c < hall hs) : AMet G m_House_withExits 3 0 0 [.ref ad.1, .int (nI c)] (nx, h) (RV (.int (nI (exs hs c hs.1.length))) (nx, h)) := by
  have hp12 := hv.1.1
  have hs24 := hv.2.1
  have hall2 := hv.2.2.2.2.2.2.2
  refine amet_of pf_House_withExits (Nat.le_of_ble_eq_true rfl) ?_
  show AW G m_House_withExits 3 0 0 _ 0 [(0, .ref ad.1), (1, .int (nI c))] [] (nx, h) 0 0
  refine aw_iload_n (i := 1) d_House_withExits_0 rfl rfl ?_
  refine aw_istore_n (i := 2) (lv2 := [(0, _), (1, _), (2, _)]) d_House_withExits_1 rfl (by decide) rfl ?_
  refine aw_iconst (v := nI 0) d_House_withExits_2 (by decide) ?_
  refine aw_istore_n (i := 3) (lv2 := [(0, _), (1, _), (2, _), (3, _)]) d_House_withExits_3 rfl (by decide) rfl ?_
  show AW G m_House_withExits 3 0 0 _ 4 [(0, .ref ad.1), (1, .int (nI c)), (2, .int (nI (exs hs c 0))), (3, .int (nI 0))] [] (nx, h) 0 0
  refine upto (σ := Nat) (fun i => AW G m_House_withExits 3 0 0 _ 4 [(0, .ref ad.1), (1, .int (nI c)), (2, .int (nI (exs hs c i))), (3, .int (nI i))] [] (nx, h) 0 0) (fun i s => i = s ∧ True) (hs.1.length) ?_ 0 0 (Nat.zero_le _) ⟨rfl, trivial⟩
  intro i s9 hi_i hI_i ih_i
  obtain ⟨rfl, hI_i⟩ := hI_i
  refine aw_iload_n (i := 3) d_House_withExits_4 rfl rfl ?_
  refine aw_aload_n (i := 0) d_House_withExits_5 rfl rfl ?_
  apply aw_get d_House_withExits_6 fl_House_12; exact ho.1; rfl
  apply aw_callv_p (ho_np ho) d_House_withExits_9 cl_House_46; exact (ho_pl ho).choose_spec; rfl; rfl; rfl; rfl; decide; exact Nat.le_of_ble_eq_true rfl; exact (Nat.le_refl _); exact (Nat.le_refl _)
  refine aw_icmpN_ge d_House_withExits_12 (by omega) (by omega) (fun br12_ => ?_) (fun br12_ => ?_)
  · skip
    have ei : i = hs.1.length := by omega
    subst ei
    refine aw_iload_n (i := 2) d_House_withExits_55 rfl rfl ?_
    refine aw_iret d_House_withExits_56 rfl (Nat.le_refl _) (Nat.le_refl _) ?_
    exact ⟨rfl, rfl⟩
  · skip
    have hel := exs_lt hv hx hc i hi_i
    have hki := hv.1.k br12_
    refine aw_aload_n (i := 0) d_House_withExits_15 rfl rfl ?_
    apply aw_get d_House_withExits_16 fl_House_12; exact ho.1; rfl
    refine aw_iload_n (i := 3) d_House_withExits_19 rfl rfl ?_
    apply aw_callv_p (ho_gp ho (j := i) br12_) d_House_withExits_20 cl_House_50; exact (ho_pl ho).choose_spec; rfl; rfl; rfl; rfl; decide; exact Nat.le_of_ble_eq_true rfl; exact (Nat.le_refl _); exact (Nat.le_refl _)
    apply aw_cast d_House_withExits_23; exact ho_pc ho br12_; rfl; exact cc_House_54
    refine aw_astore (lv2 := [(0, _), (1, _), (2, _), (3, _), (4, _)]) d_House_withExits_26 (by decide) rfl ?_
    refine aw_aload d_House_withExits_28 rfl ?_
    apply aw_get d_House_withExits_30 fl_House_101; exact ho_pc ho br12_; rfl
    refine aw_iconst (v := -1) d_House_withExits_33 (by decide) ?_
    refine aw_icmp_eq d_House_withExits_34 (fun br34_ => ?_) (fun br34_ => ?_)
    · skip
      have hst : exs hs c (i + 1) = exs hs c i := by show (if _ then _ else _) = _; rw [if_pos br34_]
      refine aw_iincN (lv2 := [(0, _), (1, _), (2, _), (3, _), (4, _)]) d_House_withExits_49 (by decide) rfl rfl ?_
      refine aw_goto d_House_withExits_52 ?_
      refine aw_drop (lv2 := [(0, _), (1, _), (2, _), (3, _)]) [0, 1, 2, 3] rfl ?_
      have k9 := ih_i br12_ (i + 1) ⟨rfl, trivial⟩
      rw [hst] at k9
      exact k9
    · skip
      obtain ⟨e, e1, e2⟩ := (hx i br12_).2.1.resolve_left br34_
      have hst : exs hs c (i + 1) = sd (pks hs.1) (exs hs c i) i e := by show (if _ then _ else _) = _; rw [if_neg br34_, e2, xN_nI (by omega)]
      refine aw_aload d_House_withExits_37 rfl ?_
      refine aw_iload_n (i := 2) d_House_withExits_39 rfl rfl ?_
      refine aw_aload d_House_withExits_40 rfl ?_
      apply aw_get d_House_withExits_42 fl_House_101; exact ho_pc ho br12_; rfl
      show AW G m_House_withExits 3 0 0 _ 45 _ (.int (hs.1.getD i pz).2.2.2.2.1 :: _) (nx, h) 0 0
      rw [e2]
      apply aw_callv_p (p_codeWith ho.2.2.2.2.1 hv.1 br12_ (c := exs hs c i) (by omega) e) d_House_withExits_45 cl_House_104; exact ho_pc ho br12_; rfl; rfl; rfl; rfl; decide; exact Nat.le_of_ble_eq_true rfl; exact (Nat.le_refl _); exact (Nat.le_refl _)
      refine aw_istore_n (i := 2) (lv2 := [(0, _), (1, _), (2, _), (3, _), (4, _)]) d_House_withExits_48 rfl (by decide) rfl ?_
      refine aw_iincN (lv2 := [(0, _), (1, _), (2, _), (3, _), (4, _)]) d_House_withExits_49 (by decide) rfl rfl ?_
      refine aw_goto d_House_withExits_52 ?_
      refine aw_drop (lv2 := [(0, _), (1, _), (2, _), (3, _)]) [0, 1, 2, 3] rfl ?_
      have k9 := ih_i br12_ (i + 1) ⟨rfl, trivial⟩
      rw [hst] at k9
      exact k9

set_option maxHeartbeats 4000000 in
set_option maxRecDepth 20000 in
theorem c_House_isRuleSo {G : aG} {nx : Nat} {h : Nat → Option aC} {hs : HSt} {ad : AD} {sta : Nat} (ho : HoA h hs ad sta) (hv : VH hs) (hx : VX hs) {z i : Nat} (hz : z < hall hs) (hi : i < hs.1.length) : AMet G m_House_isRuleSo 4 0 0 [.ref ad.1, .int (nI z), .ref (ad.2.2.2.2.1.getD i 0)] (nx, h) (RV (.int (bI (rlc hs z i))) (nx, h)) := by
  have hp12 := hv.1.1
  have hs24 := hv.2.1
  have hall2 := hv.2.2.2.2.2.2.2
  refine amet_of pf_House_isRuleSo (Nat.le_of_ble_eq_true rfl) ?_
  show AW G m_House_isRuleSo 4 0 0 _ 0 [(0, .ref ad.1), (1, .int (nI z)), (2, .ref (ad.2.2.2.2.1.getD i 0))] [] (nx, h) 0 0
  refine aw_aload_n (i := 2) d_House_isRuleSo_0 rfl rfl ?_
  apply aw_get d_House_isRuleSo_1 fl_House_128; exact ho_pc ho hi; rfl
  refine aw_iconst (v := -1) d_House_isRuleSo_4 (by decide) ?_
  refine aw_icmp_eq d_House_isRuleSo_5 (fun br5_ => ?_) (fun br5_ => ?_)
  · skip
    have hr_ : rlc hs z i = true := by unfold rlc; rw [decide_eq_true (show (hs.1.getD i pz).2.2.1 = -1 from br5_)]; rfl
    refine aw_iconst (v := nI 1) d_House_isRuleSo_24 (by decide) ?_
    refine aw_goto d_House_isRuleSo_25 ?_
    refine aw_zret d_House_isRuleSo_29 rfl rfl (Nat.le_refl _) (Nat.le_refl _) ?_
    exact ⟨by rw [hr_]; rfl, rfl⟩
  · skip
    obtain ⟨y, s, hy, hyi, hsy, e4, e5⟩ := (hx i hi).1.resolve_left br5_
    have hr0 : rlc hs z i = decide (nI (dg (pks hs.1) z y) = nI s) := by unfold rlc; rw [decide_eq_false (show ¬ (hs.1.getD i pz).2.2.1 = -1 from br5_), e4, e5, xN_nI (by omega)]; rfl
    refine aw_aload_n (i := 0) d_House_isRuleSo_8 rfl rfl ?_
    refine aw_iload_n (i := 1) d_House_isRuleSo_9 rfl rfl ?_
    refine aw_aload_n (i := 2) d_House_isRuleSo_10 rfl rfl ?_
    apply aw_get d_House_isRuleSo_11 fl_House_128; exact ho_pc ho hi; rfl
    refine aw_aload_n (i := 2) d_House_isRuleSo_14 rfl rfl ?_
    apply aw_get d_House_isRuleSo_15 fl_House_131; exact ho_pc ho hi; rfl
    show AW G m_House_isRuleSo 4 0 0 _ 18 _ (.int (hs.1.getD i pz).2.2.2.1 :: .int (hs.1.getD i pz).2.2.1 :: _) (nx, h) 0 0
    rw [e4, e5]
    apply aw_callv_p (c_House_isSo ho hv (c := z) (i := y) (by omega) hy (nI s)) d_House_isRuleSo_18 cl_House_134; exact ho.1; rfl; rfl; rfl; rfl; decide; exact Nat.le_of_ble_eq_true rfl; exact (Nat.le_refl _); exact (Nat.le_refl _)
    refine aw_ifB_eq d_House_isRuleSo_21 (fun br21_ => ?_) (fun br21_ => ?_)
    · skip
      have hr_ : rlc hs z i = false := hr0.trans br21_
      refine aw_iconst (v := nI 0) d_House_isRuleSo_28 (by decide) ?_
      refine aw_zret d_House_isRuleSo_29 rfl rfl (Nat.le_refl _) (Nat.le_refl _) ?_
      exact ⟨by rw [hr_]; rfl, rfl⟩
    · skip
      have hr_ : rlc hs z i = true := hr0.trans br21_
      refine aw_iconst (v := nI 1) d_House_isRuleSo_24 (by decide) ?_
      refine aw_goto d_House_isRuleSo_25 ?_
      refine aw_zret d_House_isRuleSo_29 rfl rfl (Nat.le_refl _) (Nat.le_refl _) ?_
      exact ⟨by rw [hr_]; rfl, rfl⟩

set_option maxHeartbeats 4000000 in
set_option maxRecDepth 20000 in
theorem c_House_isLeanedOn {G : aG} {nx : Nat} {h : Nat → Option aC} {hs : HSt} {ad : AD} {sta : Nat} (ho : HoA h hs ad sta) (hv : VH hs) (hx : VX hs) {z p : Nat} (hz : z < hall hs) : AMet G m_House_isLeanedOn 5 0 0 [.ref ad.1, .int (nI z), .int (nI p)] (nx, h) (RV (.int (bI (lnd hs z p))) (nx, h)) := by
  have hp12 := hv.1.1
  have hs24 := hv.2.1
  have hall2 := hv.2.2.2.2.2.2.2
  refine amet_of pf_House_isLeanedOn (Nat.le_of_ble_eq_true rfl) ?_
  show AW G m_House_isLeanedOn 5 0 0 _ 0 [(0, .ref ad.1), (1, .int (nI z)), (2, .int (nI p))] [] (nx, h) 0 0
  refine aw_iconst (v := nI 0) d_House_isLeanedOn_0 (by decide) ?_
  refine aw_istore_n (i := 3) (lv2 := [(0, _), (1, _), (2, _), (3, _)]) d_House_isLeanedOn_1 rfl (by decide) rfl ?_
  show AW G m_House_isLeanedOn 5 0 0 _ 2 [(0, .ref ad.1), (1, .int (nI z)), (2, .int (nI p)), (3, .int (nI 0))] [] (nx, h) 0 0
  refine upto (σ := Nat) (fun i => AW G m_House_isLeanedOn 5 0 0 _ 2 [(0, .ref ad.1), (1, .int (nI z)), (2, .int (nI p)), (3, .int (nI i))] [] (nx, h) 0 0) (fun i s => i = s ∧ ∀ k, k < i → lnp hs z p k = false) (hs.1.length) ?_ 0 0 (Nat.zero_le _) ⟨rfl, fun k hk => absurd hk (Nat.not_lt_zero _)⟩
  intro i s9 hi_i hI_i ih_i
  obtain ⟨rfl, hI_i⟩ := hI_i
  refine aw_iload_n (i := 3) d_House_isLeanedOn_2 rfl rfl ?_
  refine aw_aload_n (i := 0) d_House_isLeanedOn_3 rfl rfl ?_
  apply aw_get d_House_isLeanedOn_4 fl_House_12; exact ho.1; rfl
  apply aw_callv_p (ho_np ho) d_House_isLeanedOn_7 cl_House_46; exact (ho_pl ho).choose_spec; rfl; rfl; rfl; rfl; decide; exact Nat.le_of_ble_eq_true rfl; exact (Nat.le_refl _); exact (Nat.le_refl _)
  refine aw_icmpN_ge d_House_isLeanedOn_10 (by omega) (by omega) (fun br10_ => ?_) (fun br10_ => ?_)
  · skip
    have ei : i = hs.1.length := by omega
    subst ei
    have hr_ : lnd hs z p = false := by
      cases e : lnd hs z p
      · rfl
      · obtain ⟨q, h1, h2⟩ := List.any_eq_true.mp e
        rw [hI_i q (List.mem_range.mp h1)] at h2; cases h2
    refine aw_iconst (v := nI 0) d_House_isLeanedOn_62 (by decide) ?_
    refine aw_zret d_House_isLeanedOn_63 rfl rfl (Nat.le_refl _) (Nat.le_refl _) ?_
    exact ⟨by rw [hr_]; rfl, rfl⟩
  · skip
    refine aw_aload_n (i := 0) d_House_isLeanedOn_13 rfl rfl ?_
    apply aw_get d_House_isLeanedOn_14 fl_House_12; exact ho.1; rfl
    refine aw_iload_n (i := 3) d_House_isLeanedOn_17 rfl rfl ?_
    apply aw_callv_p (ho_gp ho (j := i) br10_) d_House_isLeanedOn_18 cl_House_50; exact (ho_pl ho).choose_spec; rfl; rfl; rfl; rfl; decide; exact Nat.le_of_ble_eq_true rfl; exact (Nat.le_refl _); exact (Nat.le_refl _)
    apply aw_cast d_House_isLeanedOn_21; exact ho_pc ho br10_; rfl; exact cc_House_54
    refine aw_astore (lv2 := [(0, _), (1, _), (2, _), (3, _), (4, _)]) d_House_isLeanedOn_24 (by decide) rfl ?_
    refine aw_aload d_House_isLeanedOn_26 rfl ?_
    apply aw_get d_House_isLeanedOn_28 fl_House_128; exact ho_pc ho br10_; rfl
    refine aw_iload_n (i := 2) d_House_isLeanedOn_31 rfl rfl ?_
    refine aw_icmp_ne d_House_isLeanedOn_32 (fun br32_ => ?_) (fun br32_ => ?_)
    · skip
      have hno : lnp hs z p i = false := by unfold lnp; rw [decide_eq_false (show ¬ (hs.1.getD i pz).2.2.1 = nI p from br32_)]; rfl
      refine aw_iincN (lv2 := [(0, _), (1, _), (2, _), (3, _), (4, _)]) d_House_isLeanedOn_56 (by decide) rfl rfl ?_
      refine aw_goto d_House_isLeanedOn_59 ?_
      have hall9 : ∀ k, k < i + 1 → lnp hs z p k = false := by
        intro k hk
        by_cases e : k = i
        · subst e; exact hno
        · exact hI_i k (by omega)
      first
        | exact ih_i br10_ (i + 1) ⟨rfl, hall9⟩
        | (refine aw_drop (lv2 := [(0, _), (1, _), (2, _), (3, _)]) [0, 1, 2, 3] rfl ?_
           exact ih_i br10_ (i + 1) ⟨rfl, hall9⟩)
    · skip
      refine aw_aload d_House_isLeanedOn_35 rfl ?_
      refine aw_iload_n (i := 1) d_House_isLeanedOn_37 rfl rfl ?_
      apply aw_callv_p (p_isMoved ho hv br10_ (c := z) (by omega)) d_House_isLeanedOn_38 cl_House_117; exact ho_pc ho br10_; rfl; rfl; rfl; rfl; decide; exact Nat.le_of_ble_eq_true rfl; exact (Nat.le_refl _); exact (Nat.le_refl _)
      refine aw_ifB_eq d_House_isLeanedOn_41 (fun br41_ => ?_) (fun br41_ => ?_)
      · skip
        have hno : lnp hs z p i = false := by unfold lnp; rw [br41_]; simp
        refine aw_iincN (lv2 := [(0, _), (1, _), (2, _), (3, _), (4, _)]) d_House_isLeanedOn_56 (by decide) rfl rfl ?_
        refine aw_goto d_House_isLeanedOn_59 ?_
        have hall9 : ∀ k, k < i + 1 → lnp hs z p k = false := by
          intro k hk
          by_cases e : k = i
          · subst e; exact hno
          · exact hI_i k (by omega)
        first
          | exact ih_i br10_ (i + 1) ⟨rfl, hall9⟩
          | (refine aw_drop (lv2 := [(0, _), (1, _), (2, _), (3, _)]) [0, 1, 2, 3] rfl ?_
             exact ih_i br10_ (i + 1) ⟨rfl, hall9⟩)
      · skip
        refine aw_aload_n (i := 0) d_House_isLeanedOn_44 rfl rfl ?_
        refine aw_iload_n (i := 1) d_House_isLeanedOn_45 rfl rfl ?_
        refine aw_aload d_House_isLeanedOn_46 rfl ?_
        apply aw_callv_p (c_House_isRuleSo ho hv hx hz br10_) d_House_isLeanedOn_48 cl_House_120; exact ho.1; rfl; rfl; rfl; rfl; decide; exact Nat.le_of_ble_eq_true rfl; exact (Nat.le_refl _); exact (Nat.le_refl _)
        refine aw_ifB_eq d_House_isLeanedOn_51 (fun br51_ => ?_) (fun br51_ => ?_)
        · skip
          have hno : lnp hs z p i = false := by unfold lnp; rw [br51_]; simp
          refine aw_iincN (lv2 := [(0, _), (1, _), (2, _), (3, _), (4, _)]) d_House_isLeanedOn_56 (by decide) rfl rfl ?_
          refine aw_goto d_House_isLeanedOn_59 ?_
          have hall9 : ∀ k, k < i + 1 → lnp hs z p k = false := by
            intro k hk
            by_cases e : k = i
            · subst e; exact hno
            · exact hI_i k (by omega)
          first
            | exact ih_i br10_ (i + 1) ⟨rfl, hall9⟩
            | (refine aw_drop (lv2 := [(0, _), (1, _), (2, _), (3, _)]) [0, 1, 2, 3] rfl ?_
               exact ih_i br10_ (i + 1) ⟨rfl, hall9⟩)
        · skip
          have hr_ : lnd hs z p = true := List.any_eq_true.mpr ⟨i, List.mem_range.mpr br10_, by unfold lnp; rw [decide_eq_true (show (hs.1.getD i pz).2.2.1 = nI p from br32_), br41_, br51_]; rfl⟩
          refine aw_iconst (v := nI 1) d_House_isLeanedOn_54 (by decide) ?_
          refine aw_zret d_House_isLeanedOn_55 rfl rfl (Nat.le_refl _) (Nat.le_refl _) ?_
          exact ⟨by rw [hr_]; rfl, rfl⟩

set_option maxHeartbeats 4000000 in
set_option maxRecDepth 20000 in
theorem c_House_nextBack {G : aG} {nx : Nat} {h : Nat → Option aC} {hs : HSt} {ad : AD} {sta : Nat} (ho : HoA h hs ad sta) (hv : VH hs) (hx : VX hs) {z : Nat} (hz : z < hall hs) : AMet G m_House_nextBack 6 0 0 [.ref ad.1, .int (nI z)] (nx, h) (RV (.int (fsI (gcz hs z) hs.1.length)) (nx, h)) := by
  have hp12 := hv.1.1
  have hs24 := hv.2.1
  have hall2 := hv.2.2.2.2.2.2.2
  refine amet_of pf_House_nextBack (Nat.le_of_ble_eq_true rfl) ?_
  show AW G m_House_nextBack 6 0 0 _ 0 [(0, .ref ad.1), (1, .int (nI z))] [] (nx, h) 0 0
  refine aw_iconst (v := nI 0) d_House_nextBack_0 (by decide) ?_
  refine aw_istore_n (i := 2) (lv2 := [(0, _), (1, _), (2, _)]) d_House_nextBack_1 rfl (by decide) rfl ?_
  show AW G m_House_nextBack 6 0 0 _ 2 [(0, .ref ad.1), (1, .int (nI z)), (2, .int (nI 0))] [] (nx, h) 0 0
  refine upto (σ := Nat) (fun i => AW G m_House_nextBack 6 0 0 _ 2 [(0, .ref ad.1), (1, .int (nI z)), (2, .int (nI i))] [] (nx, h) 0 0) (fun i s => i = s ∧ ∀ k, k < i → gcz hs z k = false) (hs.1.length) ?_ 0 0 (Nat.zero_le _) ⟨rfl, fun k hk => absurd hk (Nat.not_lt_zero _)⟩
  intro i s9 hi_i hI_i ih_i
  obtain ⟨rfl, hI_i⟩ := hI_i
  refine aw_iload_n (i := 2) d_House_nextBack_2 rfl rfl ?_
  refine aw_aload_n (i := 0) d_House_nextBack_3 rfl rfl ?_
  apply aw_get d_House_nextBack_4 fl_House_12; exact ho.1; rfl
  apply aw_callv_p (ho_np ho) d_House_nextBack_7 cl_House_46; exact (ho_pl ho).choose_spec; rfl; rfl; rfl; rfl; decide; exact Nat.le_of_ble_eq_true rfl; exact (Nat.le_refl _); exact (Nat.le_refl _)
  refine aw_icmpN_ge d_House_nextBack_10 (by omega) (by omega) (fun br10_ => ?_) (fun br10_ => ?_)
  · skip
    have ei : i = hs.1.length := by omega
    subst ei
    refine aw_iconst (v := -1) d_House_nextBack_67 (by decide) ?_
    refine aw_iret d_House_nextBack_68 rfl (Nat.le_refl _) (Nat.le_refl _) ?_
    exact ⟨by rw [fsI_f hI_i], rfl⟩
  · skip
    refine aw_aload_n (i := 0) d_House_nextBack_13 rfl rfl ?_
    apply aw_get d_House_nextBack_14 fl_House_12; exact ho.1; rfl
    refine aw_iload_n (i := 2) d_House_nextBack_17 rfl rfl ?_
    apply aw_callv_p (ho_gp ho (j := i) br10_) d_House_nextBack_18 cl_House_50; exact (ho_pl ho).choose_spec; rfl; rfl; rfl; rfl; decide; exact Nat.le_of_ble_eq_true rfl; exact (Nat.le_refl _); exact (Nat.le_refl _)
    apply aw_cast d_House_nextBack_21; exact ho_pc ho br10_; rfl; exact cc_House_54
    refine aw_iload_n (i := 1) d_House_nextBack_24 rfl rfl ?_
    apply aw_callv_p (p_isMoved ho hv br10_ (c := z) (by omega)) d_House_nextBack_25 cl_House_117; exact ho_pc ho br10_; rfl; rfl; rfl; rfl; decide; exact Nat.le_of_ble_eq_true rfl; exact (Nat.le_refl _); exact (Nat.le_refl _)
    refine aw_ifB_eq d_House_nextBack_28 (fun br28_ => ?_) (fun br28_ => ?_)
    · skip
      have hno : gcz hs z i = false := by unfold gcz; rw [br28_]; rfl
      refine aw_iincN (lv2 := [(0, _), (1, _), (2, _)]) d_House_nextBack_61 (by decide) rfl rfl ?_
      refine aw_goto d_House_nextBack_64 ?_
      have hall9 : ∀ k, k < i + 1 → gcz hs z k = false := by
        intro k hk
        by_cases e : k = i
        · subst e; exact hno
        · exact hI_i k (by omega)
      first
        | exact ih_i br10_ (i + 1) ⟨rfl, hall9⟩
        | (refine aw_drop (lv2 := [(0, _), (1, _), (2, _)]) [0, 1, 2] rfl ?_
           exact ih_i br10_ (i + 1) ⟨rfl, hall9⟩)
    · skip
      refine aw_aload_n (i := 0) d_House_nextBack_31 rfl rfl ?_
      refine aw_iload_n (i := 1) d_House_nextBack_32 rfl rfl ?_
      refine aw_aload_n (i := 0) d_House_nextBack_33 rfl rfl ?_
      apply aw_get d_House_nextBack_34 fl_House_12; exact ho.1; rfl
      refine aw_iload_n (i := 2) d_House_nextBack_37 rfl rfl ?_
      apply aw_callv_p (ho_gp ho (j := i) br10_) d_House_nextBack_38 cl_House_50; exact (ho_pl ho).choose_spec; rfl; rfl; rfl; rfl; decide; exact Nat.le_of_ble_eq_true rfl; exact (Nat.le_refl _); exact (Nat.le_refl _)
      apply aw_cast d_House_nextBack_41; exact ho_pc ho br10_; rfl; exact cc_House_54
      apply aw_callv_p (c_House_isRuleSo ho hv hx hz br10_) d_House_nextBack_44 cl_House_120; exact ho.1; rfl; rfl; rfl; rfl; decide; exact Nat.le_of_ble_eq_true rfl; exact (Nat.le_refl _); exact (Nat.le_refl _)
      refine aw_ifB_eq d_House_nextBack_47 (fun br47_ => ?_) (fun br47_ => ?_)
      · skip
        have hno : gcz hs z i = false := by unfold gcz; rw [br47_]; simp
        refine aw_iincN (lv2 := [(0, _), (1, _), (2, _)]) d_House_nextBack_61 (by decide) rfl rfl ?_
        refine aw_goto d_House_nextBack_64 ?_
        have hall9 : ∀ k, k < i + 1 → gcz hs z k = false := by
          intro k hk
          by_cases e : k = i
          · subst e; exact hno
          · exact hI_i k (by omega)
        first
          | exact ih_i br10_ (i + 1) ⟨rfl, hall9⟩
          | (refine aw_drop (lv2 := [(0, _), (1, _), (2, _)]) [0, 1, 2] rfl ?_
             exact ih_i br10_ (i + 1) ⟨rfl, hall9⟩)
      · skip
        refine aw_aload_n (i := 0) d_House_nextBack_50 rfl rfl ?_
        refine aw_iload_n (i := 1) d_House_nextBack_51 rfl rfl ?_
        refine aw_iload_n (i := 2) d_House_nextBack_52 rfl rfl ?_
        apply aw_callv_p (c_House_isLeanedOn ho hv hx (p := i) hz) d_House_nextBack_53 cl_House_124; exact ho.1; rfl; rfl; rfl; rfl; decide; exact Nat.le_of_ble_eq_true rfl; exact (Nat.le_refl _); exact (Nat.le_refl _)
        refine aw_ifB_ne d_House_nextBack_56 (fun br56_ => ?_) (fun br56_ => ?_)
        · skip
          have hno : gcz hs z i = false := by unfold gcz; rw [br56_]; simp
          refine aw_iincN (lv2 := [(0, _), (1, _), (2, _)]) d_House_nextBack_61 (by decide) rfl rfl ?_
          refine aw_goto d_House_nextBack_64 ?_
          have hall9 : ∀ k, k < i + 1 → gcz hs z k = false := by
            intro k hk
            by_cases e : k = i
            · subst e; exact hno
            · exact hI_i k (by omega)
          first
            | exact ih_i br10_ (i + 1) ⟨rfl, hall9⟩
            | (refine aw_drop (lv2 := [(0, _), (1, _), (2, _)]) [0, 1, 2] rfl ?_
               exact ih_i br10_ (i + 1) ⟨rfl, hall9⟩)
        · skip
          have hyes : gcz hs z i = true := by unfold gcz; rw [br28_, br47_, br56_]; rfl
          refine aw_iload_n (i := 2) d_House_nextBack_59 rfl rfl ?_
          refine aw_iret d_House_nextBack_60 rfl (Nat.le_refl _) (Nat.le_refl _) ?_
          exact ⟨by rw [fsI_t br10_ hI_i hyes], rfl⟩

