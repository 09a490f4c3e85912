theorem ft_ex {p : Nat → Bool} : ∀ {n : Nat}, ¬ (∀ c, c < n → p c = false) → ∃ c, c < n ∧ p c = true ∧ ∀ k, k < c → p k = false
  | 0, h => absurd (fun c hc => absurd hc (Nat.not_lt_zero _)) h
  | n + 1, h => by
    by_cases q : ∀ c, c < n → p c = false
    · refine ⟨n, Nat.lt_succ_self _, ?_, q⟩
      cases e : p n with
      | true => rfl
      | false =>
        refine absurd (fun c hc => ?_) h
        rcases Nat.lt_succ_iff_lt_or_eq.mp hc with h1 | h1
        · exact q c h1
        · rw [h1]; exact e
    · obtain ⟨c, h1, h2, h3⟩ := ft_ex q
      exact ⟨c, by omega, h2, h3⟩
theorem liB_lt {hs : HSt} (hv : VH hs) {b : Nat} (h : LiB hs b) : b < 4096 := by
  obtain ⟨⟨c, _, rfl⟩, _⟩ := h
  exact liM_lt hv c
theorem ctn_ne {p : Nat → Bool} {c : Nat} (hp : p c = true) : ∀ {n : Nat}, c < n → ctn p n ≠ 0
  | 0, h => absurd h (Nat.not_lt_zero _)
  | n + 1, h => by
    show ctn p n + (if p n then 1 else 0) ≠ 0
    rcases Nat.lt_succ_iff_lt_or_eq.mp h with h1 | h1
    · have := ctn_ne hp h1; omega
    · rw [← h1, hp]; simp
theorem st_lost {hs : HSt} (hv : VH hs) (h : isO hs (hsta hs) = false) : ctn (lostp hs) (hall hs) ≠ 0 := by
  refine ctn_ne (c := hsta hs) ?_ (hsta_lt hv)
  unfold lostp
  rw [h, show rch hs (hsta hs) = true from rcs_iff.mpr (Rch.start rfl)]; rfl
set_option maxHeartbeats 4000000 in
set_option maxRecDepth 20000 in
theorem c_LH_trap {G : aG} {nx : Nat} {h : Nat → Option aC} {x : Nat} {B : LB} {hs : HSt} {ad : AD} {A : Nat → Nat} {most : Nat} {fl : WFl} {L L2 : List Nat} {ar : Nat → Nat → Int32} {n : Nat} {gs : List GSt} {lg : Lg} {xs : List Int32} {cap : Nat} (hc : CL h x B hs ad A most fl L L2 ar n gs lg xs cap) (hv : VH hs) (hcap : 256 ≤ cap) : AMet G m_LH_trap 8 (wdc most hs) (wds most hs) [.ref x] (nx, h) (LR h x B (.int (trA hs)) (hs) (gs) (lg) (trX hs xs) (wdm most hs) (cap)) := by
  have hp12 := hv.1.1
  have hs24 := hv.2.1
  have hall2 := hv.2.2.2.2.2.2.2
  have hmst := hc.wk.mst
  refine amet_of pf_LH_trap (Nat.le_of_ble_eq_true rfl) ?_
  show AW G m_LH_trap 8 (wdc most hs) (wds most hs) _ 0 [(0, .ref x)] [] (nx, h) 0 0
  refine aw_aload_n (i := 0) d_LH_trap_0 rfl rfl ?_
  apply aw_callv d_LH_trap_1 cl_LH_203 (c_LH_measured hc hv); exact hc.1.1; rfl; rfl; rfl; rfl; decide; exact (by omega); exact (by omega); exact Nat.le_of_ble_eq_true rfl
  rintro _ _ ⟨A9, rfl, h1, fl9, L9, L29, ar9, n9, rfl, hc, hf9, hf8, FR⟩
  obtain ⟨hal9, hC⟩ := hc.2.2.2.2.1 hf9
  have hS := (hc.2.2.2.2.2.1 hf8).2
  refine aw_astore_n (i := 1) (lv2 := [(0, _), (1, _)]) d_LH_trap_4 rfl (by decide) rfl ?_
  refine aw_aload_n (i := 1) d_LH_trap_5 rfl rfl ?_
  refine aw_aload_n (i := 0) d_LH_trap_6 rfl rfl ?_
  apply aw_get d_LH_trap_7 fl_LH_10; exact hc.1.1; rfl
  apply aw_get d_LH_trap_10 fl_LH_159; exact hc.2.1.1; rfl
  apply aw_callv_p (c_Walk_leastSum (c := hsta hs) hc.wk hv (by have := hsta_lt hv; omega)) d_LH_trap_13 cl_LH_206; exact hc.2.2.2.1.1; rfl; rfl; rfl; rfl; decide; exact Nat.le_of_ble_eq_true rfl; exact (by omega); exact (by omega)
  rw [hS.2 _ (hsta_lt hv)]
  refine aw_bipush (v := -2) d_LH_trap_16 (by decide) ?_
  refine aw_icmp_ne d_LH_trap_18 (fun br18_ => ?_) (fun br18_ => ?_)
  · skip
    have hO := lsI_n2 br18_
    refine aw_aload_n (i := 1) d_LH_trap_23 rfl rfl ?_
    apply aw_callv_p (c_Walk_countLost hc.wk hv hC hal9 hS) d_LH_trap_24 cl_LH_218; exact hc.2.2.2.1.1; rfl; rfl; rfl; rfl; decide; exact Nat.le_of_ble_eq_true rfl; exact (by omega); exact (by omega)
    refine aw_ifN_ne d_LH_trap_27 (by have := ctn_le (lostp hs) (hall hs); omega) (fun br27_ => ?_) (fun br27_ => ?_)
    · skip
      obtain ⟨c, hc9, hp9, hlt⟩ := ft_ex (fun q => trap_ex hv br27_ hO q)
      have e1 : fsI (tpc hs) (hall hs) = nI c := fsI_t hc9 hlt hp9
      have hp8 := hp9
      unfold tpc at hp8
      simp only [Bool.and_eq_true] at hp8
      obtain ⟨s, hs9, hp7, hlt2⟩ := ft_ex (p := tps hs c) (n := hs.2.1.length) (fun q => by
        obtain ⟨s, q1, q2⟩ := List.any_eq_true.mp hp8.2
        rw [q s (List.mem_range.mp q1)] at q2
        cases q2)
      have e2 : fsI (tps hs c) hs.2.1.length = nI s := fsI_t hs9 hlt2 hp7
      have e3 := trw_t hc9 hs9 hlt hp8.1.1 hp8.1.2 hlt2 hp7
      refine aw_aload_n (i := 1) d_LH_trap_32 rfl rfl ?_
      apply aw_callv_p (c_Walk_leastTrap hc.wk hv hC hal9 hS) d_LH_trap_33 cl_LH_221; exact hc.2.2.2.1.1; rfl; rfl; rfl; rfl; decide; exact Nat.le_of_ble_eq_true rfl; exact (by omega); exact (by omega)
      rw [e1]
      refine aw_istore_n (i := 2) (lv2 := [(0, _), (1, _), (2, _)]) d_LH_trap_36 rfl (by decide) rfl ?_
      refine aw_aload_n (i := 1) d_LH_trap_37 rfl rfl ?_
      refine aw_iload_n (i := 2) d_LH_trap_38 rfl rfl ?_
      apply aw_callv_p (c_Walk_stepToLost (c := c) hc.wk hv hc9 hal9 hS) d_LH_trap_39 cl_LH_224; exact hc.2.2.2.1.1; rfl; rfl; rfl; rfl; decide; exact Nat.le_of_ble_eq_true rfl; exact (by omega); exact (by omega)
      rw [e2]
      refine aw_istore_n (i := 3) (lv2 := [(0, _), (1, _), (2, _), (3, _)]) d_LH_trap_42 rfl (by decide) rfl ?_
      refine aw_aload_n (i := 0) d_LH_trap_43 rfl rfl ?_
      apply aw_get d_LH_trap_44 fl_LH_19; exact hc.1.1; rfl
      refine aw_iconst (v := nI 3) d_LH_trap_47 (by decide) ?_
      apply aw_callv d_LH_trap_48 cl_LH_143 (c_Row_beginA hc.1.2.1 (m := 3) (by omega)); exact hc.1.2.1.ob.choose_spec; rfl; rfl; rfl; rfl; decide; exact (by omega); exact (by omega); exact Nat.le_of_ble_eq_true rfl
      rintro _ _ ⟨rfl, h1, rfl, hr9, f9⟩
      have hc := hc.told hv hr9 f9
      have FR := FR.tr (ct_up f9 (fun y hy => by simp at hy; omega))
      refine aw_aload_n (i := 0) d_LH_trap_51 rfl rfl ?_
      apply aw_get d_LH_trap_52 fl_LH_19; exact hc.1.1; rfl
      refine aw_iload_n (i := 2) d_LH_trap_55 rfl rfl ?_
      apply aw_callv d_LH_trap_56 cl_LH_212 (c_Row_put hc.1.2.1 (nI c) (by simp; omega)); exact hc.1.2.1.ob.choose_spec; rfl; rfl; rfl; rfl; decide; exact (by omega); exact (by omega); exact Nat.le_of_ble_eq_true rfl
      rintro _ _ ⟨rfl, h1, rfl, hr9, f9⟩
      have hc := hc.told hv hr9 f9
      have FR := FR.tr (ct_up f9 (fun y hy => by simp at hy; omega))
      refine aw_aload_n (i := 0) d_LH_trap_59 rfl rfl ?_
      apply aw_get d_LH_trap_60 fl_LH_19; exact hc.1.1; rfl
      refine aw_iload_n (i := 3) d_LH_trap_63 rfl rfl ?_
      apply aw_callv d_LH_trap_64 cl_LH_212 (c_Row_put hc.1.2.1 (nI s) (by simp; omega)); exact hc.1.2.1.ob.choose_spec; rfl; rfl; rfl; rfl; decide; exact (by omega); exact (by omega); exact Nat.le_of_ble_eq_true rfl
      rintro _ _ ⟨rfl, h1, rfl, hr9, f9⟩
      have hc := hc.told hv hr9 f9
      have FR := FR.tr (ct_up f9 (fun y hy => by simp at hy; omega))
      refine aw_aload_n (i := 0) d_LH_trap_67 rfl rfl ?_
      apply aw_get d_LH_trap_68 fl_LH_19; exact hc.1.1; rfl
      refine aw_aload_n (i := 0) d_LH_trap_71 rfl rfl ?_
      apply aw_get d_LH_trap_72 fl_LH_10; exact hc.1.1; rfl
      refine aw_iload_n (i := 2) d_LH_trap_75 rfl rfl ?_
      refine aw_iload_n (i := 3) d_LH_trap_76 rfl rfl ?_
      apply aw_callv_p (c_House_codeAfter hc.2.1 hv hc9 hs9) d_LH_trap_77 cl_LH_200; exact hc.2.1.1; rfl; rfl; rfl; rfl; decide; exact Nat.le_of_ble_eq_true rfl; exact (by omega); exact (by omega)
      apply aw_callv d_LH_trap_80 cl_LH_212 (c_Row_put hc.1.2.1 (nI (aft hs c s)) (by simp; omega)); exact hc.1.2.1.ob.choose_spec; rfl; rfl; rfl; rfl; decide; exact (by omega); exact (by omega); exact Nat.le_of_ble_eq_true rfl
      rintro _ _ ⟨rfl, h1, rfl, hr9, f9⟩
      have hc := hc.told hv hr9 f9
      have FR := FR.tr (ct_up f9 (fun y hy => by simp at hy; omega))
      refine aw_iconst (v := 1) d_LH_trap_83 (by decide) ?_
      refine aw_iret d_LH_trap_84 rfl (by omega) (by omega) ?_
      exact ⟨(by unfold trA; rw [if_neg br27_, if_pos hO]), _, h1, _, _, _, _, _, _, _, rfl, (by unfold trX; rw [if_neg br27_, if_pos hO, e3]; exact hc), FR⟩
    · skip
      refine aw_iconst (v := 0) d_LH_trap_30 (by decide) ?_
      refine aw_iret d_LH_trap_31 rfl (by omega) (by omega) ?_
      exact ⟨(by unfold trA; rw [if_pos br27_]), _, h1, _, _, _, _, _, _, _, rfl, (by unfold trX; rw [if_pos br27_]; exact hc), FR⟩
  · skip
    have hO := lsI_2 br18_
    have hne : ctn (lostp hs) (hall hs) ≠ 0 := st_lost hv hO
    refine aw_iconst (v := 2) d_LH_trap_21 (by decide) ?_
    refine aw_iret d_LH_trap_22 rfl (by omega) (by omega) ?_
    exact ⟨(by unfold trA; rw [if_neg hne, if_neg (by rw [hO]; decide)]), _, h1, _, _, _, _, _, _, _, rfl, (by unfold trX; rw [if_neg hne, if_neg (by rw [hO]; decide)]; exact hc), FR⟩

set_option maxHeartbeats 4000000 in
set_option maxRecDepth 20000 in
theorem c_LH_liars {G : aG} {nx : Nat} {h : Nat → Option aC} {x : Nat} {B : LB} {hs : HSt} {ad : AD} {A : Nat → Nat} {most : Nat} {fl : WFl} {L L2 : List Nat} {ar : Nat → Nat → Int32} {n : Nat} {gs : List GSt} {lg : Lg} {xs : List Int32} {cap : Nat} (hc : CL h x B hs ad A most fl L L2 ar n gs lg xs cap) (hv : VH hs) (hcap : 256 ≤ cap) : AMet G m_LH_liars 8 (wdc most hs) (wds most hs) [.ref x] (nx, h) (LR h x B (.int (lrA hs)) (hs) (gs) (lg) (lrX hs xs) (wdm most hs) (cap)) := by
  have hp12 := hv.1.1
  have hs24 := hv.2.1
  have hall2 := hv.2.2.2.2.2.2.2
  have hmst := hc.wk.mst
  refine amet_of pf_LH_liars (Nat.le_of_ble_eq_true rfl) ?_
  show AW G m_LH_liars 8 (wdc most hs) (wds most hs) _ 0 [(0, .ref x)] [] (nx, h) 0 0
  refine aw_aload_n (i := 0) d_LH_liars_0 rfl rfl ?_
  apply aw_callv d_LH_liars_1 cl_LH_162 (c_LH_walked hc hv); exact hc.1.1; rfl; rfl; rfl; rfl; decide; exact (by omega); exact (by omega); exact Nat.le_of_ble_eq_true rfl
  rintro _ _ ⟨A9, rfl, h1, fl9, L9, L29, ar9, n9, rfl, hc, hf9, FR⟩
  obtain ⟨hal9, hC⟩ := hc.2.2.2.2.1 hf9
  refine aw_astore_n (i := 1) (lv2 := [(0, _), (1, _)]) d_LH_liars_4 rfl (by decide) rfl ?_
  refine aw_aload_n (i := 1) d_LH_liars_5 rfl rfl ?_
  apply aw_callv d_LH_liars_6 cl_LH_237 (c_Walk_firstLiars hc.wk hv hC); exact hc.2.2.2.1.1; rfl; rfl; rfl; rfl; decide; exact (by omega); exact (by omega); exact Nat.le_of_ble_eq_true rfl
  rintro _ _ ⟨v, rfl, b, rfl, hLB, e_⟩
  obtain rfl := e_
  have hb := liB_lt hv hLB
  have hLR := liB_lr hv hLB
  refine aw_istore_n (i := 2) (lv2 := [(0, _), (1, _), (2, _)]) d_LH_liars_9 rfl (by decide) rfl ?_
  refine aw_iload_n (i := 2) d_LH_liars_10 rfl rfl ?_
  apply aw_calls_p (c_Int_bitCount (nI b)) d_LH_liars_11 cl_LH_240; rfl; rfl; decide; exact Nat.le_of_ble_eq_true rfl; exact (by omega); exact (by omega)
  rw [bcn_pcb b hb]
  have hpl := pcb_le b
  refine aw_istore_n (i := 3) (lv2 := [(0, _), (1, _), (2, _), (3, _)]) d_LH_liars_14 rfl (by decide) rfl ?_
  refine aw_iload_n (i := 3) d_LH_liars_15 rfl rfl ?_
  refine aw_iconst (v := nI 3) d_LH_liars_16 (by decide) ?_
  refine aw_icmpN_le d_LH_liars_17 (by omega) (by omega) (fun br17_ => ?_) (fun br17_ => ?_)
  · skip
    obtain ⟨k1, k2⟩ := hLR.1 br17_
    refine aw_aload_n (i := 0) d_LH_liars_23 rfl rfl ?_
    apply aw_get d_LH_liars_24 fl_LH_19; exact hc.1.1; rfl
    refine aw_iconst (v := nI 4) d_LH_liars_27 (by decide) ?_
    apply aw_callv d_LH_liars_28 cl_LH_143 (c_Row_beginA hc.1.2.1 (m := 4) (by omega)); exact hc.1.2.1.ob.choose_spec; rfl; rfl; rfl; rfl; decide; exact (by omega); exact (by omega); exact Nat.le_of_ble_eq_true rfl
    rintro _ _ ⟨rfl, h1, rfl, hr9, f9⟩
    have hc := hc.told hv hr9 f9
    have FR := FR.tr (ct_up f9 (fun y hy => by simp at hy; omega))
    refine aw_iconst (v := nI 0) d_LH_liars_31 (by decide) ?_
    refine aw_istore (lv2 := [(0, _), (1, _), (2, _), (3, _), (4, _)]) d_LH_liars_32 (by decide) rfl ?_
    refine Nat.strongRecOn (motive := fun m9 => ∀ (i : Nat) (hh : Nat → Option aC), (m9 = hs.1.length - i ∧ i ≤ hs.1.length ∧ CL hh x B hs ad A9 (wdm most hs) fl9 L9 L29 ar9 n9 gs lg ((bts b i).map nI) cap ∧ Fr CTs h hh) → AW G m_LH_liars 8 (wdc most hs) (wds most hs) _ 34 [(0, .ref x), (1, .ref (A9 0)), (2, .int (nI b)), (3, .int (nI (pcb b))), (4, .int (nI i))] [] (nx + wdc most hs, hh) (0 + wdc most hs) (0 + wds most hs)) (hs.1.length - 0) (fun m9 ih => ?_) 0 h1 ⟨rfl, Nat.zero_le _, hc, FR⟩
    intro i hh hI
    obtain ⟨e9, hi, hc, FR⟩ := hI
    have hil := bts_len b i
    refine aw_iload d_LH_liars_34 rfl ?_
    refine aw_aload_n (i := 0) d_LH_liars_36 rfl rfl ?_
    apply aw_get d_LH_liars_37 fl_LH_10; exact hc.1.1; rfl
    apply aw_get d_LH_liars_40 fl_LH_61; exact hc.2.1.1; rfl
    apply aw_callv_p (ho_np hc.2.1) d_LH_liars_43 cl_LH_64; exact (ho_pl hc.2.1).choose_spec; rfl; rfl; rfl; rfl; decide; exact Nat.le_of_ble_eq_true rfl; exact (by omega); exact (by omega)
    refine aw_icmpN_ge d_LH_liars_46 (by omega) (by omega) (fun br46_ => ?_) (fun br46_ => ?_)
    · skip
      have ei : i = hs.1.length := by omega
      subst ei
      refine aw_aload_n (i := 0) d_LH_liars_74 rfl rfl ?_
      apply aw_get d_LH_liars_75 fl_LH_19; exact hc.1.1; rfl
      refine aw_aload_n (i := 1) d_LH_liars_78 rfl rfl ?_
      refine aw_iload_n (i := 2) d_LH_liars_79 rfl rfl ?_
      apply aw_callv_p (c_Walk_countTold hc.wk hv hC hb) d_LH_liars_80 cl_LH_245; exact hc.2.2.2.1.1; rfl; rfl; rfl; rfl; decide; exact Nat.le_of_ble_eq_true rfl; exact (by omega); exact (by omega)
      apply aw_callv d_LH_liars_83 cl_LH_212 (c_Row_put hc.1.2.1 (nI (asT hs b)) (by rw [List.length_map]; omega)); exact hc.1.2.1.ob.choose_spec; rfl; rfl; rfl; rfl; decide; exact (by omega); exact (by omega); exact Nat.le_of_ble_eq_true rfl
      rintro _ _ ⟨rfl, h1, rfl, hr9, f9⟩
      have hc := hc.told hv hr9 f9
      have FR := FR.tr (ct_up f9 (fun y hy => by simp at hy; omega))
      refine aw_iload_n (i := 3) d_LH_liars_86 rfl rfl ?_
      refine aw_iret d_LH_liars_87 rfl (by omega) (by omega) ?_
      exact ⟨(by unfold lrA; rw [k1]), _, h1, _, _, _, _, _, _, _, rfl, (by unfold lrX; rw [k1]; show CL _ _ _ _ _ _ _ _ _ _ _ _ _ _ ((bts (lyG hs (pcb b) hs.1.length 0) hs.1.length).map nI ++ [nI (asT hs (lyG hs (pcb b) hs.1.length 0))]) _; rw [k2, bts_bit12 hp12, asT_bit12 hv]; exact hc), FR⟩
    · skip
      refine aw_iload_n (i := 2) d_LH_liars_49 rfl rfl ?_
      refine aw_iload d_LH_liars_50 rfl ?_
      refine aw_ishr d_LH_liars_52 ?_
      rw [shr_n (by omega) (by omega)]
      refine aw_iconst (v := nI 1) d_LH_liars_53 (by decide) ?_
      refine aw_iand d_LH_liars_54 ?_
      rw [and_1 (Nat.lt_of_le_of_lt (Nat.div_le_self _ _) (by omega))]
      refine aw_iconst (v := nI 1) d_LH_liars_55 (by decide) ?_
      refine aw_icmpN_ne d_LH_liars_56 (by omega) (by omega) (fun br56_ => ?_) (fun br56_ => ?_)
      · skip
        have hb9 : b.testBit i = false := tb_0.mp br56_
        refine aw_iincN (lv2 := [(0, _), (1, _), (2, _), (3, _), (4, _)]) d_LH_liars_68 (by decide) rfl rfl ?_
        refine aw_goto d_LH_liars_71 ?_
        exact ih (hs.1.length - (i + 1)) (by omega) (i + 1) _ ⟨rfl, by omega, (by rw [bts_s, hb9]; simpa using hc), FR⟩
      · skip
        have hb9 : b.testBit i = true := tb_1.mp br56_
        refine aw_aload_n (i := 0) d_LH_liars_59 rfl rfl ?_
        apply aw_get d_LH_liars_60 fl_LH_19; exact hc.1.1; rfl
        refine aw_iload d_LH_liars_63 rfl ?_
        apply aw_callv d_LH_liars_65 cl_LH_212 (c_Row_put hc.1.2.1 (nI i) (by rw [List.length_map]; omega)); exact hc.1.2.1.ob.choose_spec; rfl; rfl; rfl; rfl; decide; exact (by omega); exact (by omega); exact Nat.le_of_ble_eq_true rfl
        rintro _ _ ⟨rfl, h1, rfl, hr9, f9⟩
        have hc := hc.told hv hr9 f9
        have FR := FR.tr (ct_up f9 (fun y hy => by simp at hy; omega))
        refine aw_iincN (lv2 := [(0, _), (1, _), (2, _), (3, _), (4, _)]) d_LH_liars_68 (by decide) rfl rfl ?_
        refine aw_goto d_LH_liars_71 ?_
        exact ih (hs.1.length - (i + 1)) (by omega) (i + 1) _ ⟨rfl, by omega, (by rw [bts_s, hb9, if_pos rfl, List.map_append]; exact hc), FR⟩
  · skip
    have k1 := hLR.2 (by omega)
    refine aw_bipush (v := -2) d_LH_liars_20 (by decide) ?_
    refine aw_iret d_LH_liars_22 rfl (by omega) (by omega) ?_
    exact ⟨(by unfold lrA; rw [k1]), _, h1, _, _, _, _, _, _, _, rfl, (by unfold lrX; rw [k1]; exact hc), FR⟩

set_option maxHeartbeats 4000000 in
set_option maxRecDepth 20000 in
theorem c_LH_back {G : aG} {nx : Nat} {h : Nat → Option aC} {x : Nat} {B : LB} {hs : HSt} {ad : AD} {A : Nat → Nat} {most : Nat} {fl : WFl} {L L2 : List Nat} {ar : Nat → Nat → Int32} {n : Nat} {gs : List GSt} {lg : Lg} {xs : List Int32} {cap : Nat} (hc : CL h x B hs ad A most fl L L2 ar n gs lg xs cap) (hv : VH hs) (hcap : 256 ≤ cap) (hx : VX hs) (v : Int32) : AMet G m_LH_back 8 0 0 [.ref x, .int v] (nx, h) (LR h x B (.int (bkA hs v)) (hs) (gs) (lg) (bkX hs xs v) (most) (cap)) := by
  have hp12 := hv.1.1
  have hs24 := hv.2.1
  have hall2 := hv.2.2.2.2.2.2.2
  have hmst := hc.wk.mst
  refine amet_of pf_LH_back (Nat.le_of_ble_eq_true rfl) ?_
  show AW G m_LH_back 8 0 0 _ 0 [(0, .ref x), (1, .int v)] [] (nx, h) 0 0
  refine aw_aload_n (i := 0) d_LH_back_0 rfl rfl ?_
  apply aw_get d_LH_back_1 fl_LH_10; exact hc.1.1; rfl
  refine aw_iload_n (i := 1) d_LH_back_4 rfl rfl ?_
  apply aw_callv_p (c_House_hasCode hc.2.1 hv v) d_LH_back_5 cl_LH_173; exact hc.2.1.1; rfl; rfl; rfl; rfl; decide; exact Nat.le_of_ble_eq_true rfl; exact (by omega); exact (by omega)
  refine aw_ifB_ne d_LH_back_8 (fun br8_ => ?_) (fun br8_ => ?_)
  · skip
    obtain ⟨c, hc9, rfl, ec⟩ := isC_ex br8_ hv
    obtain ⟨fo, hor⟩ := hc.1.2.2.2.2
    refine aw_aload_n (i := 0) d_LH_back_13 rfl rfl ?_
    apply aw_get d_LH_back_14 fl_LH_10; exact hc.1.1; rfl
    refine aw_iload_n (i := 1) d_LH_back_17 rfl rfl ?_
    refine aw_aload_n (i := 0) d_LH_back_18 rfl rfl ?_
    apply aw_get d_LH_back_19 fl_LH_44; exact hc.1.1; rfl
    apply aw_callv d_LH_back_22 cl_LH_248 (c_House_orderBack hc.2.1 hv hx hc9 hor); exact hc.2.1.1; rfl; rfl; rfl; rfl; decide; exact (by omega); exact (by omega); exact Nat.le_of_ble_eq_true rfl
    rintro _ _ ⟨rfl, h1, f2, rfl, ho9, hor, f9, hval⟩
    have hc := hc.ord hv hor f9
    have FR : Fr CTs h h1 := ct_up f9 (fun y hy => by simp at hy; omega)
    refine aw_istore_n (i := 2) (lv2 := [(0, _), (1, _), (2, _)]) d_LH_back_25 rfl (by decide) rfl ?_
    refine aw_iload_n (i := 2) d_LH_back_26 rfl rfl ?_
    refine aw_bipush (v := -2) d_LH_back_27 (by decide) ?_
    refine aw_icmp_ne d_LH_back_29 (fun br29_ => ?_) (fun br29_ => ?_)
    · skip
      have hw : wkb hs c 0 = true := by
        cases q : wkb hs c 0 with
        | true => rfl
        | false => exact absurd (by rw [q]; rfl) br29_
      obtain ⟨hval, hlen⟩ := hval hw
      rw [if_pos hw]
      refine aw_aload_n (i := 0) d_LH_back_35 rfl rfl ?_
      apply aw_get d_LH_back_36 fl_LH_19; exact hc.1.1; rfl
      refine aw_bipush (v := nI 12) d_LH_back_39 (by decide) ?_
      apply aw_callv d_LH_back_41 cl_LH_143 (c_Row_beginA hc.1.2.1 (m := 12) (by omega)); exact hc.1.2.1.ob.choose_spec; rfl; rfl; rfl; rfl; decide; exact (by omega); exact (by omega); exact Nat.le_of_ble_eq_true rfl
      rintro _ _ ⟨rfl, h1, rfl, hr9, f9⟩
      have hc := hc.told hv hr9 f9
      have FR := FR.tr (ct_up f9 (fun y hy => by simp at hy; omega))
      have hor := f9 _ _ hor (by simp)
      refine aw_iconst (v := nI 0) d_LH_back_44 (by decide) ?_
      refine aw_istore_n (i := 3) (lv2 := [(0, _), (1, _), (2, _), (3, _)]) d_LH_back_45 rfl (by decide) rfl ?_
      refine Nat.strongRecOn (motive := fun m9 => ∀ (i : Nat) (hh : Nat → Option aC), (m9 = (bkF hs c 4096 0).length - i ∧ i ≤ (bkF hs c 4096 0).length ∧ CL hh x B hs ad A most fl L L2 ar n gs lg (((bkF hs c 4096 0).take i).map nI) cap ∧ hh B.2.2.2 = some (cI 24 12 f2) ∧ Fr CTs h hh) → AW G m_LH_back 8 0 0 _ 46 [(0, .ref x), (1, .int (nI c)), (2, .int (nI (bkF hs c 4096 0).length)), (3, .int (nI i))] [] (nx, hh) 0 0) ((bkF hs c 4096 0).length - 0) (fun m9 ih => ?_) 0 h1 ⟨rfl, Nat.zero_le _, hc, hor, FR⟩
      intro i hh hI
      obtain ⟨e9, hi, hc, hor, FR⟩ := hI
      refine aw_iload_n (i := 3) d_LH_back_46 rfl rfl ?_
      refine aw_iload_n (i := 2) d_LH_back_47 rfl rfl ?_
      refine aw_icmpN_ge d_LH_back_48 (by omega) (by omega) (fun br48_ => ?_) (fun br48_ => ?_)
      · skip
        have ei : i = (bkF hs c 4096 0).length := by omega
        subst ei
        rw [List.take_length] at hc
        refine aw_iload_n (i := 2) d_LH_back_79 rfl rfl ?_
        refine aw_iret d_LH_back_80 rfl (by omega) (by omega) ?_
        exact ⟨(by unfold bkA; rw [br8_, ec, hw]; rfl), _, _, _, _, _, _, _, _, _, rfl, (by unfold bkX; rw [br8_, ec, hw]; exact hc), FR⟩
      · skip
        refine aw_iload_n (i := 3) d_LH_back_51 rfl rfl ?_
        refine aw_aload_n (i := 0) d_LH_back_52 rfl rfl ?_
        apply aw_get d_LH_back_53 fl_LH_44; exact hc.1.1; rfl
        apply aw_alen d_LH_back_56; exact hor; decide
        refine aw_icmp_ge d_LH_back_57 (fun br57_ => absurd ((nI_leI (by omega) (by omega)).mp br57_) (by omega)) (fun br57_ => ?_)
        refine aw_aload_n (i := 0) d_LH_back_60 rfl rfl ?_
        apply aw_get d_LH_back_61 fl_LH_19; exact hc.1.1; rfl
        refine aw_aload_n (i := 0) d_LH_back_64 rfl rfl ?_
        apply aw_get d_LH_back_65 fl_LH_44; exact hc.1.1; rfl
        refine aw_iload_n (i := 3) d_LH_back_68 rfl rfl ?_
        apply ci_ld d_LH_back_69; exact hor; omega; omega; exact hval i br48_
        apply aw_callv d_LH_back_70 cl_LH_212 (c_Row_put hc.1.2.1 (nI (bkF hs c 4096 0)[i]) (by rw [List.length_map, List.length_take]; omega)); exact hc.1.2.1.ob.choose_spec; rfl; rfl; rfl; rfl; decide; exact (by omega); exact (by omega); exact Nat.le_of_ble_eq_true rfl
        rintro _ _ ⟨rfl, h1, rfl, hr9, f9⟩
        have hc := hc.told hv hr9 f9
        have FR := FR.tr (ct_up f9 (fun y hy => by simp at hy; omega))
        have hor := f9 _ _ hor (by simp)
        refine aw_iincN (lv2 := [(0, _), (1, _), (2, _), (3, _)]) d_LH_back_73 (by decide) rfl rfl ?_
        refine aw_goto d_LH_back_76 ?_
        exact ih ((bkF hs c 4096 0).length - (i + 1)) (by omega) (i + 1) _ ⟨rfl, by omega, (by rw [List.take_succ_eq_append_getElem br48_, List.map_append]; exact hc), hor, FR⟩
    · skip
      have hw : wkb hs c 0 = false := by
        cases q : wkb hs c 0 with
        | false => rfl
        | true =>
          rw [q] at br29_
          have := (hval q).2
          exact absurd br29_ (by have := nI_ne2 (n := (bkF hs c 4096 0).length) (by omega); exact this)
      refine aw_bipush (v := -2) d_LH_back_32 (by decide) ?_
      refine aw_iret d_LH_back_34 rfl (by omega) (by omega) ?_
      exact ⟨(by unfold bkA; rw [br8_, ec, hw]; rfl), _, h1, _, _, _, _, _, _, _, rfl, (by unfold bkX; rw [br8_, ec, hw]; exact hc), FR⟩
  · skip
    refine aw_iconst (v := -1) d_LH_back_11 (by decide) ?_
    refine aw_iret d_LH_back_12 rfl (by omega) (by omega) ?_
    exact ⟨(by unfold bkA; rw [br8_]; rfl), _, h, _, _, _, _, _, _, _, rfl, (by unfold bkX; rw [br8_]; exact hc), Fr.rf⟩

