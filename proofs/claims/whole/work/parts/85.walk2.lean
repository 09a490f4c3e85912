theorem CHT.of {hs : HSt} {L : List Nat} {ar : Nat → Nat → Int32} {i : Nat} (hB : Bfs hs (fun _ => false) L i 0) (hi : L.length ≤ i) (hk : ∀ k, k < i → k < L.length → ar 0 (L.getD k 0) = nI (opb hs (L.getD k 0))) : CHT hs L ar := by
  refine ⟨hB.1, fun c => hB.done hi c, fun c hc => ?_⟩
  obtain ⟨k, hkl, rfl⟩ := List.getElem_of_mem hc
  have := hk k (by omega) hkl
  rw [gDx hkl] at this; exact this
theorem hall_pos {hs : HSt} (hv : VH hs) : 0 < hall hs := Nat.lt_of_le_of_lt (Nat.zero_le _) (hsta_lt hv)
set_option maxHeartbeats 4000000 in
set_option maxRecDepth 20000 in
theorem c_Walk_chartB {G : aG} {nx : Nat} {h h0 : Nat → Option aC} {hs : HSt} {ad : AD} {A : Nat → Nat} {most : Nat} {fl : WFl} {L L2 : List Nat} {ar : Nat → Nat → Int32} {n : Nat} (hm : WkF h0 h hs ad A most fl L L2 ar n) (hv : VH hs) (hal2 : hall hs ≤ most) (hfl : fl.1 = false) : AMet G m_Walk_chart 6 0 0 [.ref (A 0)] (nx, h) (fun r w => r = none ∧ ∃ h2 L9 ar9, w = (nx, h2) ∧ WkF h0 h2 hs ad A most (true, fl.2) L9 L2 ar9 n ∧ CHT hs L9 ar9 ∧ ∀ k, k ≠ 0 → ar9 k = ar k) := by
  have hp12 := hv.1.1
  have hs24 := hv.2.1
  have hall2 := hv.2.2.2.2.2.2.2
  have hmo := hm.mst
  have hap := hall_pos hv
  have hst := hsta_lt hv
  refine amet_of pf_Walk_chart (Nat.le_of_ble_eq_true rfl) ?_
  show AW G m_Walk_chart 6 0 0 _ 0 [(0, .ref (A 0))] [] (nx, h) 0 0
  refine aw_aload_n (i := 0) d_Walk_chart_0 rfl rfl ?_
  apply aw_get d_Walk_chart_1 fl_Walk_54; exact hm.2.2.1.1; rfl
  refine aw_if_eq d_Walk_chart_4 (fun br4_ => ?_) (fun br4_ => absurd (show bI fl.1 = 0 by rw [hfl]; rfl) br4_)
  refine aw_aload_n (i := 0) d_Walk_chart_8 rfl rfl ?_
  apply aw_get d_Walk_chart_9 fl_Walk_30; exact hm.2.2.1.1; rfl
  apply aw_callv d_Walk_chart_12 cl_Walk_64 (c_Line_begin hm.Lr); exact hm.Lr.ob.choose_spec; rfl; rfl; rfl; rfl; decide; exact (Nat.le_refl _); exact (Nat.le_refl _); exact Nat.le_of_ble_eq_true rfl
  rintro _ _ ⟨rfl, h2, rfl, hl2, fr2⟩
  have hm := hm.reach hv hl2 fr2
  refine aw_aload_n (i := 0) d_Walk_chart_15 rfl rfl ?_
  apply aw_get d_Walk_chart_16 fl_Walk_30; exact hm.2.2.1.1; rfl
  refine aw_aload_n (i := 0) d_Walk_chart_19 rfl rfl ?_
  apply aw_get d_Walk_chart_20 fl_Walk_9; exact hm.2.2.1.1; rfl
  rw [hm.2.1]
  apply aw_get d_Walk_chart_23 fl_Walk_67; exact hm.1.1; rfl
  apply aw_callv d_Walk_chart_26 cl_Walk_72 (c_Line_join hm.Lr (c := hsta hs) (by omega)); exact hm.Lr.ob.choose_spec; rfl; rfl; rfl; rfl; decide; exact (Nat.le_refl _); exact (Nat.le_refl _); exact Nat.le_of_ble_eq_true rfl
  rintro _ _ ⟨rfl, h2, rfl, hl2, fr2⟩
  have hm := hm.reach hv hl2 fr2
  rw [if_neg (fun q => q.elim (fun z => by cases z) (fun z => by simp at z; omega)), List.nil_append] at hm
  refine aw_iconst (v := nI 0) d_Walk_chart_29 (by decide) ?_
  refine aw_istore_n (i := 1) (lv2 := [(0, _), (1, _)]) d_Walk_chart_30 rfl (by decide) rfl ?_
  refine Nat.strongRecOn (motive := fun m => ∀ (h1 : Nat → Option aC) (L9 : List Nat) (ar9 : Nat → Nat → Int32) (i : Nat), (WkF h0 h1 hs ad A most fl L9 L2 ar9 n ∧ Bfs hs (fun _ => false) L9 i 0 ∧ i ≤ L9.length ∧ (∀ k, k < i → k < L9.length → ar9 0 (L9.getD k 0) = nI (opb hs (L9.getD k 0))) ∧ (∀ k, k ≠ 0 → ar9 k = ar k) ∧ m = hall hs - i) → AW G m_Walk_chart 6 0 0 _ 31 [(0, .ref (A 0)), (1, .int (nI i))] [] (nx, h1) 0 0) (hall hs - 0) (fun m ih => ?_) _ [hsta hs] ar 0 ⟨hm, Bfs.init rfl, Nat.zero_le _, fun k hk => absurd hk (Nat.not_lt_zero _), fun _ _ => rfl, rfl⟩
  intro h1 L9 ar9 i hI
  obtain ⟨hm, hB, hil, hop, har, hme⟩ := hI
  have hLl := hB.len hv
  refine aw_iload_n (i := 1) d_Walk_chart_31 rfl rfl ?_
  refine aw_aload_n (i := 0) d_Walk_chart_32 rfl rfl ?_
  apply aw_get d_Walk_chart_33 fl_Walk_30; exact hm.2.2.1.1; rfl
  refine li_size hm.Lr d_Walk_chart_36 fl_Walk_75 ?_
  refine aw_icmpN_ge d_Walk_chart_39 (by omega) (by omega) (fun br39_ => ?_) (fun br39_ => ?_)
  · skip
    refine aw_aload_n (i := 0) d_Walk_chart_98 rfl rfl ?_
    refine aw_iconst (v := nI 1) d_Walk_chart_99 (by decide) ?_
    apply aw_put d_Walk_chart_100 pl_Walk_54; exact hm.2.2.1.1; exact Nat.le_of_ble_eq_true rfl; rfl; rfl
    refine aw_nm hm.2.2.1.1 ?_
    intro h1 e1_ f1_ o1_
    have hm := hm.flg (fl2 := (true, fl.2)) hv e1_ f1_
    refine aw_vret d_Walk_chart_103 rfl (Nat.le_refl _) (Nat.le_refl _) ?_
    exact ⟨rfl, _, _, _, rfl, hm, CHT.of hB br39_ hop, har⟩
  · skip
    have hcl := hB.at hv br39_
    refine aw_iload_n (i := 1) d_Walk_chart_42 rfl rfl ?_
    refine aw_aload_n (i := 0) d_Walk_chart_43 rfl rfl ?_
    apply aw_get d_Walk_chart_44 fl_Walk_21; exact hm.2.2.1.1; rfl
    refine aw_icmp_ge d_Walk_chart_47 (fun br47_ => absurd br47_ (nI_ge (show i < most by omega) (by omega))) (fun br47_ => ?_)
    refine aw_aload_n (i := 0) d_Walk_chart_50 rfl rfl ?_
    apply aw_get d_Walk_chart_51 fl_Walk_30; exact hm.2.2.1.1; rfl
    refine aw_iload_n (i := 1) d_Walk_chart_54 rfl rfl ?_
    apply aw_callv_p (c_Line_codeAt hm.Lr (i := i) br39_) d_Walk_chart_55 cl_Walk_78; exact hm.Lr.ob.choose_spec; rfl; rfl; rfl; rfl; decide; exact Nat.le_of_ble_eq_true rfl; exact (Nat.le_refl _); exact (Nat.le_refl _)
    rw [← gDx (d := 0) br39_]
    refine aw_istore_n (i := 2) (lv2 := [(0, _), (1, _), (2, _)]) d_Walk_chart_58 rfl (by decide) rfl ?_
    refine aw_aload_n (i := 0) d_Walk_chart_59 rfl rfl ?_
    refine aw_iload_n (i := 2) d_Walk_chart_60 rfl rfl ?_
    apply aw_callv_p (w_fits hm hv (c := L9.getD i 0) (by omega)) d_Walk_chart_61 cl_Walk_82; exact hm.2.2.1.1; rfl; rfl; rfl; rfl; decide; exact Nat.le_of_ble_eq_true rfl; exact (Nat.le_refl _); exact (Nat.le_refl _)
    refine aw_if_eq d_Walk_chart_64 (fun br64_ => absurd br64_ (by decide)) (fun br64_ => ?_)
    refine aw_aload_n (i := 0) d_Walk_chart_67 rfl rfl ?_
    apply aw_get d_Walk_chart_68 fl_Walk_34; exact hm.2.2.1.1; rfl
    refine aw_iload_n (i := 2) d_Walk_chart_71 rfl rfl ?_
    refine aw_aload_n (i := 0) d_Walk_chart_72 rfl rfl ?_
    apply aw_get d_Walk_chart_73 fl_Walk_9; exact hm.2.2.1.1; rfl
    rw [hm.2.1]
    refine aw_iload_n (i := 2) d_Walk_chart_76 rfl rfl ?_
    apply aw_callv_p (c_House_openSteps hm.1 hv hcl) d_Walk_chart_77 cl_Walk_86; exact hm.1.1; rfl; rfl; rfl; rfl; decide; exact Nat.le_of_ble_eq_true rfl; exact (Nat.le_refl _); exact (Nat.le_refl _)
    rw [ops_eq]
    apply wk_st0 hm hv d_Walk_chart_80; omega; intro h hm
    refine aw_aload_n (i := 0) d_Walk_chart_81 rfl rfl ?_
    refine aw_iload_n (i := 2) d_Walk_chart_82 rfl rfl ?_
    refine aw_aload_n (i := 0) d_Walk_chart_83 rfl rfl ?_
    apply aw_get d_Walk_chart_84 fl_Walk_30; exact hm.2.2.1.1; rfl
    refine aw_iconst (v := -1) d_Walk_chart_87 (by decide) ?_
    refine aw_iconst (v := -1) d_Walk_chart_88 (by decide) ?_
    apply aw_callv d_Walk_chart_89 cl_Walk_89 (c_Walk_joinBehindR hm hv (c := L9.getD i 0) (i := i) hcl hal2 (by show upd (ar9 0) _ _ _ = _; rw [pk_us]) hB br39_ rfl); exact hm.2.2.1.1; rfl; rfl; rfl; rfl; decide; exact (Nat.le_refl _); exact (Nat.le_refl _); exact Nat.le_of_ble_eq_true rfl
    rintro _ _ ⟨rfl, h2, L3, rfl, hm3, hB3, ex, rfl⟩
    refine aw_iincN (lv2 := [(0, _), (1, _), (2, _)]) d_Walk_chart_92 (by decide) rfl rfl ?_
    refine aw_goto d_Walk_chart_95 ?_
    refine aw_drop (lv2 := [(0, _), (1, _)]) [0, 1] rfl ?_
    refine ih (hall hs - (i + 1)) (by omega) _ (L9 ++ ex) _ (i + 1) ⟨hm3, hB3.next (Nat.le_refl _), by simp; omega, fun k hk hkl => ?_, fun k hk => (ups_n hk).trans (har k hk), rfl⟩
    show upd (ar9 0) _ _ _ = _
    by_cases e : k < i
    · rw [gd_app (by omega)]
      by_cases e2 : L9.getD k 0 = L9.getD i 0
      · rw [e2, pk_us]
      · rw [pk_un e2]; exact hop k e (by omega)
    · have ek : k = i := by omega
      subst ek; rw [gd_app br39_, pk_us]

set_option maxHeartbeats 4000000 in
set_option maxRecDepth 20000 in
theorem c_Walk_chartA {G : aG} {nx : Nat} {h h0 : Nat → Option aC} {hs : HSt} {ad : AD} {A : Nat → Nat} {most : Nat} {fl : WFl} {L L2 : List Nat} {ar : Nat → Nat → Int32} {n : Nat} (hm : WkF h0 h hs ad A most fl L L2 ar n) (hv : VH hs) (hfl : fl.1 = true) : AMet G m_Walk_chart 6 0 0 [.ref (A 0)] (nx, h) (R0 (nx, h)) := by
  have hp12 := hv.1.1
  have hs24 := hv.2.1
  have hall2 := hv.2.2.2.2.2.2.2
  have hmo := hm.mst
  refine amet_of pf_Walk_chart (Nat.le_of_ble_eq_true rfl) ?_
  show AW G m_Walk_chart 6 0 0 _ 0 [(0, .ref (A 0))] [] (nx, h) 0 0
  refine aw_aload_n (i := 0) d_Walk_chart_0 rfl rfl ?_
  apply aw_get d_Walk_chart_1 fl_Walk_54; exact hm.2.2.1.1; rfl
  refine aw_if_eq d_Walk_chart_4 (fun br4_ => absurd br4_ (show ¬ bI fl.1 = 0 by rw [hfl]; decide)) (fun br4_ => ?_)
  refine aw_vret d_Walk_chart_7 rfl (Nat.le_refl _) (Nat.le_refl _) ?_
  exact ⟨rfl, rfl⟩

set_option maxHeartbeats 4000000 in
set_option maxRecDepth 20000 in
theorem c_Walk_comesPast {G : aG} {nx : Nat} {h h0 : Nat → Option aC} {hs : HSt} {ad : AD} {A : Nat → Nat} {most : Nat} {fl : WFl} {L L2 : List Nat} {ar : Nat → Nat → Int32} {n : Nat} (hm : WkF h0 h hs ad A most fl L L2 ar n) (hv : VH hs) {p s b t : Nat} (hp : p < hs.1.length) (hsl : s < (hs.1.getD p pz).1) (hb : b < hs.1.length) (htl : t < (hs.1.getD b pz).1) (hal2 : hall hs ≤ most) (hC : CHT hs L ar) : AMet G m_Walk_comesPast 6 0 0 [.ref (A 0), .int (nI p), .int (nI s), .int (nI b), .int (nI t)] (nx, h) (fun r w => r = some (.int (bI (mst hs p s b t))) ∧ ∃ h2 L9, w = (nx, h2) ∧ WkF h0 h2 hs ad A most fl L L9 ar n) := by
  have hp12 := hv.1.1
  have hs24 := hv.2.1
  have hall2 := hv.2.2.2.2.2.2.2
  have hmo := hm.mst
  have hap := hall_pos hv
  have hst := hsta_lt hv
  refine amet_of pf_Walk_comesPast (Nat.le_of_ble_eq_true rfl) ?_
  show AW G m_Walk_comesPast 6 0 0 _ 0 [(0, .ref (A 0)), (1, .int (nI p)), (2, .int (nI s)), (3, .int (nI b)), (4, .int (nI t))] [] (nx, h) 0 0
  refine aw_aload_n (i := 0) d_Walk_comesPast_0 rfl rfl ?_
  apply aw_get d_Walk_comesPast_1 fl_Walk_38; exact hm.2.2.1.1; rfl
  apply aw_callv d_Walk_comesPast_4 cl_Walk_64 (c_Line_begin hm.Ll); exact hm.Ll.ob.choose_spec; rfl; rfl; rfl; rfl; decide; exact (Nat.le_refl _); exact (Nat.le_refl _); exact Nat.le_of_ble_eq_true rfl
  rintro _ _ ⟨rfl, h2, rfl, hl2, fr2⟩
  have hm := hm.line hv hl2 fr2
  refine aw_aload_n (i := 0) d_Walk_comesPast_7 rfl rfl ?_
  apply aw_get d_Walk_comesPast_8 fl_Walk_9; exact hm.2.2.1.1; rfl
  rw [hm.2.1]
  refine aw_aload_n (i := 0) d_Walk_comesPast_11 rfl rfl ?_
  apply aw_get d_Walk_comesPast_12 fl_Walk_9; exact hm.2.2.1.1; rfl
  rw [hm.2.1]
  apply aw_get d_Walk_comesPast_15 fl_Walk_67; exact hm.1.1; rfl
  refine aw_iload_n (i := 3) d_Walk_comesPast_18 rfl rfl ?_
  refine aw_iload d_Walk_comesPast_19 rfl ?_
  apply aw_callv_p (c_House_isSo hm.1 hv (c := hsta hs) (i := b) (by omega) hb (nI t)) d_Walk_comesPast_21 cl_Walk_115; exact hm.1.1; rfl; rfl; rfl; rfl; decide; exact Nat.le_of_ble_eq_true rfl; exact (Nat.le_refl _); exact (Nat.le_refl _)
  rw [so_eq hv hb htl]
  refine aw_ifB_ne d_Walk_comesPast_24 (fun br24_ => ?_) (fun br24_ => ?_)
  · skip
    refine aw_iconst (v := nI 0) d_Walk_comesPast_41 (by decide) ?_
    refine aw_istore (lv2 := [(0, _), (1, _), (2, _), (3, _), (4, _), (5, _)]) d_Walk_comesPast_42 (by decide) rfl ?_
    refine Nat.strongRecOn (motive := fun m => ∀ (h1 : Nat → Option aC) (L9 : List Nat) (i : Nat), (WkF h0 h1 hs ad A most fl L L9 ar n ∧ Bfs hs (shn hs b t) L9 i 0 ∧ i ≤ L9.length ∧ (∀ k, k < i → dg (pks hs.1) (L9.getD k 0) p ≠ s) ∧ m = hall hs - i) → AW G m_Walk_comesPast 6 0 0 _ 44 [(0, .ref (A 0)), (1, .int (nI p)), (2, .int (nI s)), (3, .int (nI b)), (4, .int (nI t)), (5, .int (nI i))] [] (nx, h1) 0 0) (hall hs - 0) (fun m ih => ?_) _ [] 0 ⟨hm, Bfs.init0 br24_, Nat.zero_le _, fun k hk => absurd hk (Nat.not_lt_zero _), rfl⟩
    intro h1 L9 i hI
    obtain ⟨hm, hB, hil, hnj, hme⟩ := hI
    have hLl := hB.len hv
    refine aw_iload d_Walk_comesPast_44 rfl ?_
    refine aw_aload_n (i := 0) d_Walk_comesPast_46 rfl rfl ?_
    apply aw_get d_Walk_comesPast_47 fl_Walk_38; exact hm.2.2.1.1; rfl
    refine li_size hm.Ll d_Walk_comesPast_50 fl_Walk_75 ?_
    refine aw_icmpN_ge d_Walk_comesPast_53 (by omega) (by omega) (fun br53_ => ?_) (fun br53_ => ?_)
    · skip
      have hmf : mst hs p s b t = false := mst_f (fun c hc => by
        obtain ⟨k, hk, e⟩ := List.getElem_of_mem ((hB.done br53_ c).mpr hc)
        have := hnj k (by omega)
        rw [gDx hk, e] at this
        exact this)
      refine aw_iconst (v := nI 0) d_Walk_comesPast_114 (by decide) ?_
      refine aw_zret d_Walk_comesPast_115 rfl rfl (Nat.le_refl _) (Nat.le_refl _) ?_
      exact ⟨by rw [hmf]; rfl, _, L9, rfl, hm⟩
    · skip
      have hcl := hB.at hv br53_
      have hrc := hB.rch br53_
      have hdl1 := dg_lt (L9.getD i 0) p (by rw [pk_len]; exact hp) hv.1.pos
      rw [pk_at hp] at hdl1
      have hk1 := hv.1.k hp
      refine aw_iload d_Walk_comesPast_56 rfl ?_
      refine aw_aload_n (i := 0) d_Walk_comesPast_58 rfl rfl ?_
      apply aw_get d_Walk_comesPast_59 fl_Walk_21; exact hm.2.2.1.1; rfl
      refine aw_icmp_ge d_Walk_comesPast_62 (fun br62_ => absurd br62_ (nI_ge (show i < most by omega) (by omega))) (fun br62_ => ?_)
      refine aw_aload_n (i := 0) d_Walk_comesPast_65 rfl rfl ?_
      apply aw_get d_Walk_comesPast_66 fl_Walk_9; exact hm.2.2.1.1; rfl
      rw [hm.2.1]
      refine aw_aload_n (i := 0) d_Walk_comesPast_69 rfl rfl ?_
      apply aw_get d_Walk_comesPast_70 fl_Walk_38; exact hm.2.2.1.1; rfl
      refine aw_iload d_Walk_comesPast_73 rfl ?_
      apply aw_callv_p (c_Line_codeAt hm.Ll (i := i) br53_) d_Walk_comesPast_75 cl_Walk_78; exact hm.Ll.ob.choose_spec; rfl; rfl; rfl; rfl; decide; exact Nat.le_of_ble_eq_true rfl; exact (Nat.le_refl _); exact (Nat.le_refl _)
      rw [← gDx (d := 0) br53_]
      refine aw_iload_n (i := 1) d_Walk_comesPast_78 rfl rfl ?_
      refine aw_iload_n (i := 2) d_Walk_comesPast_79 rfl rfl ?_
      apply aw_callv_p (c_House_isSo hm.1 hv (c := L9.getD i 0) (i := p) (by omega) hp (nI s)) d_Walk_comesPast_80 cl_Walk_115; exact hm.1.1; rfl; rfl; rfl; rfl; decide; exact Nat.le_of_ble_eq_true rfl; exact (Nat.le_refl _); exact (Nat.le_refl _)
      refine aw_ifB_eq d_Walk_comesPast_83 (fun br83_ => ?_) (fun br83_ => ?_)
      · skip
        have hns : dg (pks hs.1) (L9.getD i 0) p ≠ s := fun q => of_decide_eq_false br83_ (congrArg nI q)
        refine aw_aload_n (i := 0) d_Walk_comesPast_88 rfl rfl ?_
        refine aw_aload_n (i := 0) d_Walk_comesPast_89 rfl rfl ?_
        apply aw_get d_Walk_comesPast_90 fl_Walk_38; exact hm.2.2.1.1; rfl
        refine aw_iload d_Walk_comesPast_93 rfl ?_
        apply aw_callv_p (c_Line_codeAt hm.Ll (i := i) br53_) d_Walk_comesPast_95 cl_Walk_78; exact hm.Ll.ob.choose_spec; rfl; rfl; rfl; rfl; decide; exact Nat.le_of_ble_eq_true rfl; exact (Nat.le_refl _); exact (Nat.le_refl _)
        rw [← gDx (d := 0) br53_]
        refine aw_aload_n (i := 0) d_Walk_comesPast_98 rfl rfl ?_
        apply aw_get d_Walk_comesPast_99 fl_Walk_38; exact hm.2.2.1.1; rfl
        refine aw_iload_n (i := 3) d_Walk_comesPast_102 rfl rfl ?_
        refine aw_iload d_Walk_comesPast_103 rfl ?_
        apply aw_callv d_Walk_comesPast_105 cl_Walk_89 (c_Walk_joinBehindL hm hv (b := b) (t := t) hb htl (c := L9.getD i 0) (i := i) hcl hal2 (hC.2.2 _ ((hC.2.1 _).mpr hrc.free)) hB br53_ rfl); exact hm.2.2.1.1; rfl; rfl; rfl; rfl; decide; exact (Nat.le_refl _); exact (Nat.le_refl _); exact Nat.le_of_ble_eq_true rfl
        rintro _ _ ⟨rfl, h2, L3, rfl, hm3, hB3, ex, rfl⟩
        refine aw_iincN (lv2 := [(0, _), (1, _), (2, _), (3, _), (4, _), (5, _)]) d_Walk_comesPast_108 (by decide) rfl rfl ?_
        refine aw_goto d_Walk_comesPast_111 ?_
        refine ih (hall hs - (i + 1)) (by omega) _ (L9 ++ ex) (i + 1) ⟨hm3, hB3.next (Nat.le_refl _), by simp; omega, fun k hk => ?_, rfl⟩
        by_cases e : k < i
        · rw [gd_app (by omega)]; exact hnj k e
        · have ek : k = i := by omega
          subst ek; rw [gd_app br53_]; exact hns
      · skip
        have hmt := mst_t hrc ((nI_eq (by omega) (by omega)).mp (of_decide_eq_true br83_))
        refine aw_iconst (v := nI 1) d_Walk_comesPast_86 (by decide) ?_
        refine aw_zret d_Walk_comesPast_87 rfl rfl (Nat.le_refl _) (Nat.le_refl _) ?_
        exact ⟨by rw [hmt]; rfl, _, L9, rfl, hm⟩
  · skip
    refine aw_aload_n (i := 0) d_Walk_comesPast_27 rfl rfl ?_
    apply aw_get d_Walk_comesPast_28 fl_Walk_38; exact hm.2.2.1.1; rfl
    refine aw_aload_n (i := 0) d_Walk_comesPast_31 rfl rfl ?_
    apply aw_get d_Walk_comesPast_32 fl_Walk_9; exact hm.2.2.1.1; rfl
    rw [hm.2.1]
    apply aw_get d_Walk_comesPast_35 fl_Walk_67; exact hm.1.1; rfl
    apply aw_callv d_Walk_comesPast_38 cl_Walk_72 (c_Line_join hm.Ll (c := hsta hs) (by omega)); exact hm.Ll.ob.choose_spec; rfl; rfl; rfl; rfl; decide; exact (Nat.le_refl _); exact (Nat.le_refl _); exact Nat.le_of_ble_eq_true rfl
    rintro _ _ ⟨rfl, h2, rfl, hl2, fr2⟩
    have hm := hm.line hv hl2 fr2
    rw [if_neg (fun q => q.elim (fun z => by cases z) (fun z => by simp at z; omega)), List.nil_append] at hm
    refine aw_iconst (v := nI 0) d_Walk_comesPast_41 (by decide) ?_
    refine aw_istore (lv2 := [(0, _), (1, _), (2, _), (3, _), (4, _), (5, _)]) d_Walk_comesPast_42 (by decide) rfl ?_
    refine Nat.strongRecOn (motive := fun m => ∀ (h1 : Nat → Option aC) (L9 : List Nat) (i : Nat), (WkF h0 h1 hs ad A most fl L L9 ar n ∧ Bfs hs (shn hs b t) L9 i 0 ∧ i ≤ L9.length ∧ (∀ k, k < i → dg (pks hs.1) (L9.getD k 0) p ≠ s) ∧ m = hall hs - i) → AW G m_Walk_comesPast 6 0 0 _ 44 [(0, .ref (A 0)), (1, .int (nI p)), (2, .int (nI s)), (3, .int (nI b)), (4, .int (nI t)), (5, .int (nI i))] [] (nx, h1) 0 0) (hall hs - 0) (fun m ih => ?_) _ [hsta hs] 0 ⟨hm, Bfs.init br24_, Nat.zero_le _, fun k hk => absurd hk (Nat.not_lt_zero _), rfl⟩
    intro h1 L9 i hI
    obtain ⟨hm, hB, hil, hnj, hme⟩ := hI
    have hLl := hB.len hv
    refine aw_iload d_Walk_comesPast_44 rfl ?_
    refine aw_aload_n (i := 0) d_Walk_comesPast_46 rfl rfl ?_
    apply aw_get d_Walk_comesPast_47 fl_Walk_38; exact hm.2.2.1.1; rfl
    refine li_size hm.Ll d_Walk_comesPast_50 fl_Walk_75 ?_
    refine aw_icmpN_ge d_Walk_comesPast_53 (by omega) (by omega) (fun br53_ => ?_) (fun br53_ => ?_)
    · skip
      have hmf : mst hs p s b t = false := mst_f (fun c hc => by
        obtain ⟨k, hk, e⟩ := List.getElem_of_mem ((hB.done br53_ c).mpr hc)
        have := hnj k (by omega)
        rw [gDx hk, e] at this
        exact this)
      refine aw_iconst (v := nI 0) d_Walk_comesPast_114 (by decide) ?_
      refine aw_zret d_Walk_comesPast_115 rfl rfl (Nat.le_refl _) (Nat.le_refl _) ?_
      exact ⟨by rw [hmf]; rfl, _, L9, rfl, hm⟩
    · skip
      have hcl := hB.at hv br53_
      have hrc := hB.rch br53_
      have hdl1 := dg_lt (L9.getD i 0) p (by rw [pk_len]; exact hp) hv.1.pos
      rw [pk_at hp] at hdl1
      have hk1 := hv.1.k hp
      refine aw_iload d_Walk_comesPast_56 rfl ?_
      refine aw_aload_n (i := 0) d_Walk_comesPast_58 rfl rfl ?_
      apply aw_get d_Walk_comesPast_59 fl_Walk_21; exact hm.2.2.1.1; rfl
      refine aw_icmp_ge d_Walk_comesPast_62 (fun br62_ => absurd br62_ (nI_ge (show i < most by omega) (by omega))) (fun br62_ => ?_)
      refine aw_aload_n (i := 0) d_Walk_comesPast_65 rfl rfl ?_
      apply aw_get d_Walk_comesPast_66 fl_Walk_9; exact hm.2.2.1.1; rfl
      rw [hm.2.1]
      refine aw_aload_n (i := 0) d_Walk_comesPast_69 rfl rfl ?_
      apply aw_get d_Walk_comesPast_70 fl_Walk_38; exact hm.2.2.1.1; rfl
      refine aw_iload d_Walk_comesPast_73 rfl ?_
      apply aw_callv_p (c_Line_codeAt hm.Ll (i := i) br53_) d_Walk_comesPast_75 cl_Walk_78; exact hm.Ll.ob.choose_spec; rfl; rfl; rfl; rfl; decide; exact Nat.le_of_ble_eq_true rfl; exact (Nat.le_refl _); exact (Nat.le_refl _)
      rw [← gDx (d := 0) br53_]
      refine aw_iload_n (i := 1) d_Walk_comesPast_78 rfl rfl ?_
      refine aw_iload_n (i := 2) d_Walk_comesPast_79 rfl rfl ?_
      apply aw_callv_p (c_House_isSo hm.1 hv (c := L9.getD i 0) (i := p) (by omega) hp (nI s)) d_Walk_comesPast_80 cl_Walk_115; exact hm.1.1; rfl; rfl; rfl; rfl; decide; exact Nat.le_of_ble_eq_true rfl; exact (Nat.le_refl _); exact (Nat.le_refl _)
      refine aw_ifB_eq d_Walk_comesPast_83 (fun br83_ => ?_) (fun br83_ => ?_)
      · skip
        have hns : dg (pks hs.1) (L9.getD i 0) p ≠ s := fun q => of_decide_eq_false br83_ (congrArg nI q)
        refine aw_aload_n (i := 0) d_Walk_comesPast_88 rfl rfl ?_
        refine aw_aload_n (i := 0) d_Walk_comesPast_89 rfl rfl ?_
        apply aw_get d_Walk_comesPast_90 fl_Walk_38; exact hm.2.2.1.1; rfl
        refine aw_iload d_Walk_comesPast_93 rfl ?_
        apply aw_callv_p (c_Line_codeAt hm.Ll (i := i) br53_) d_Walk_comesPast_95 cl_Walk_78; exact hm.Ll.ob.choose_spec; rfl; rfl; rfl; rfl; decide; exact Nat.le_of_ble_eq_true rfl; exact (Nat.le_refl _); exact (Nat.le_refl _)
        rw [← gDx (d := 0) br53_]
        refine aw_aload_n (i := 0) d_Walk_comesPast_98 rfl rfl ?_
        apply aw_get d_Walk_comesPast_99 fl_Walk_38; exact hm.2.2.1.1; rfl
        refine aw_iload_n (i := 3) d_Walk_comesPast_102 rfl rfl ?_
        refine aw_iload d_Walk_comesPast_103 rfl ?_
        apply aw_callv d_Walk_comesPast_105 cl_Walk_89 (c_Walk_joinBehindL hm hv (b := b) (t := t) hb htl (c := L9.getD i 0) (i := i) hcl hal2 (hC.2.2 _ ((hC.2.1 _).mpr hrc.free)) hB br53_ rfl); exact hm.2.2.1.1; rfl; rfl; rfl; rfl; decide; exact (Nat.le_refl _); exact (Nat.le_refl _); exact Nat.le_of_ble_eq_true rfl
        rintro _ _ ⟨rfl, h2, L3, rfl, hm3, hB3, ex, rfl⟩
        refine aw_iincN (lv2 := [(0, _), (1, _), (2, _), (3, _), (4, _), (5, _)]) d_Walk_comesPast_108 (by decide) rfl rfl ?_
        refine aw_goto d_Walk_comesPast_111 ?_
        refine ih (hall hs - (i + 1)) (by omega) _ (L9 ++ ex) (i + 1) ⟨hm3, hB3.next (Nat.le_refl _), by simp; omega, fun k hk => ?_, rfl⟩
        by_cases e : k < i
        · rw [gd_app (by omega)]; exact hnj k e
        · have ek : k = i := by omega
          subst ek; rw [gd_app br53_]; exact hns
      · skip
        have hmt := mst_t hrc ((nI_eq (by omega) (by omega)).mp (of_decide_eq_true br83_))
        refine aw_iconst (v := nI 1) d_Walk_comesPast_86 (by decide) ?_
        refine aw_zret d_Walk_comesPast_87 rfl rfl (Nat.le_refl _) (Nat.le_refl _) ?_
        exact ⟨by rw [hmt]; rfl, _, L9, rfl, hm⟩

set_option maxHeartbeats 4000000 in
set_option maxRecDepth 20000 in
theorem c_Walk_leastSum {G : aG} {nx : Nat} {h h0 : Nat → Option aC} {hs : HSt} {ad : AD} {A : Nat → Nat} {most : Nat} {fl : WFl} {L L2 : List Nat} {ar : Nat → Nat → Int32} {n : Nat} (hm : WkF h0 h hs ad A most fl L L2 ar n) (hv : VH hs) {c : Nat} (hc : c < most) : AMet G m_Walk_leastSum 1 0 0 [.ref (A 0), .int (nI c)] (nx, h) (RV (.int (ar 3 c)) (nx, h)) := by
  have hp12 := hv.1.1
  have hs24 := hv.2.1
  have hall2 := hv.2.2.2.2.2.2.2
  have hmo := hm.mst
  refine amet_of pf_Walk_leastSum (Nat.le_of_ble_eq_true rfl) ?_
  show AW G m_Walk_leastSum 1 0 0 _ 0 [(0, .ref (A 0)), (1, .int (nI c))] [] (nx, h) 0 0
  refine aw_aload_n (i := 0) d_Walk_leastSum_0 rfl rfl ?_
  apply aw_get d_Walk_leastSum_1 fl_Walk_50; exact hm.2.2.1.1; rfl
  refine aw_iload_n (i := 1) d_Walk_leastSum_4 rfl rfl ?_
  apply aw_callv_p (c_Heap_sumOf hm.He hmo (x := c) hc) d_Walk_leastSum_5 cl_Walk_146; exact hm.He.1; rfl; rfl; rfl; rfl; decide; exact Nat.le_of_ble_eq_true rfl; exact (Nat.le_refl _); exact (Nat.le_refl _)
  refine aw_iret d_Walk_leastSum_8 rfl (Nat.le_refl _) (Nat.le_refl _) ?_
  exact ⟨rfl, rfl⟩

theorem vpd_le {ps : List PSt} (hv : VP ps) : ∀ (prs : Prs), VPr ps prs → prs.length ≤ 4 → vpd ps prs ≤ 4 ^ prs.length
  | [], _, _ => Nat.le_refl _
  | p :: t, hr, hl => by
    have h1 := hr p List.mem_cons_self
    have hk := hv.k h1.1
    have ih := vpd_le hv t (fun x hx => hr x (List.mem_cons_of_mem _ hx)) (by simp at hl; omega)
    show (ps.getD p.1 pz).1 * vpd ps t ≤ _
    rw [List.length_cons, Nat.pow_succ, Nat.mul_comm (4 ^ t.length)]
    exact Nat.mul_le_mul hk.2.1 ih
set_option maxHeartbeats 4000000 in
set_option maxRecDepth 20000 in
theorem c_Walk_offerAhead {G : aG} {nx : Nat} {h h0 : Nat → Option aC} {hs : HSt} {ad : AD} {A : Nat → Nat} {most : Nat} {fl : WFl} {L L2 : List Nat} {ar : Nat → Nat → Int32} {n : Nat} (hm : WkF h0 h hs ad A most fl L L2 ar n) (hv : VH hs) {x j : Nat} {hp pl key : Nat → Nat} {Q : Nat → Prop} {SL : List Nat} {dn : Nat → Nat → Prop} (hj : j < hs.2.1.length) (hal2 : hall hs ≤ most) (hop : ∀ c, c < hall hs → ar 0 c = nI (opb hs c)) (hD : Dij hs key Q SL x dn) (hHp : Hp n hp pl key Q) (hM : HeM (hall hs) (ar 3) (ar 4) (ar 5) n hp key n) (hn : n ≤ hall hs) (hxm : x ∈ SL) (hxs : ∀ s ∈ SL, key s ≤ key x) (hxk : key x ≤ 100 * (SL.length - 1)) : AMet G m_Walk_offerAhead 5 0 0 [.ref (A 0), .int (nI x), .int (nI j)] (nx, h) (fun r w => r = none ∧ ∃ h2 ar9 n9 hp2 pl2 key2 Q2, w = (nx, h2) ∧ WkF h0 h2 hs ad A most fl L L2 ar9 n9 ∧ Dij hs key2 Q2 SL x (fun b s => dn b s ∨ (s = j ∧ opn hs b s = true ∧ aft hs b s = x)) ∧ Hp n9 hp2 pl2 key2 Q2 ∧ HeM (hall hs) (ar9 3) (ar9 4) (ar9 5) n9 hp2 key2 n9 ∧ n9 ≤ hall hs ∧ x ∈ SL ∧ (∀ s ∈ SL, key2 s ≤ key2 x) ∧ key2 x ≤ 100 * (SL.length - 1) ∧ (∀ k, k < 3 → ar9 k = ar k)) := by
  have hp12 := hv.1.1
  have hs24 := hv.2.1
  have hall2 := hv.2.2.2.2.2.2.2
  have hmo := hm.mst
  have hx := hD.2.2.1.2 x hxm
  obtain ⟨na, ga, k1, k2, k3⟩ := ho_sc hm.1 hj
  have hsl0 := hD.sl
  have htk : tks hs j ≤ 100 := (hv.s hj).2.2.2.2.1
  have hkxl : key x < 268435456 := by omega
  have hkx := hM.2 x hx
  rw [if_pos hkxl] at hkx
  obtain ⟨key0_, hk0_⟩ : ∃ z, z = key x := ⟨_, rfl⟩
  rw [← hk0_] at hkx hkxl
  have hvb := vpd_le hv.1 (gvs hs j) (hv.s hj).2.2.2.2.2.2.2.2.2.1 (hv.s hj).2.2.2.2.2.2.2.2.1
  have hvb2 : (4 : Nat) ^ (gvs hs j).length ≤ 4 ^ 4 := Nat.pow_le_pow_right (by decide) (hv.s hj).2.2.2.2.2.2.2.2.1
  have hvb3 : (4 : Nat) ^ 4 = 256 := by decide
  refine amet_of pf_Walk_offerAhead (Nat.le_of_ble_eq_true rfl) ?_
  show AW G m_Walk_offerAhead 5 0 0 _ 0 [(0, .ref (A 0)), (1, .int (nI x)), (2, .int (nI j))] [] (nx, h) 0 0
  refine aw_aload_n (i := 0) d_Walk_offerAhead_0 rfl rfl ?_
  apply aw_get d_Walk_offerAhead_1 fl_Walk_9; exact hm.2.2.1.1; rfl
  rw [hm.2.1]
  apply aw_get d_Walk_offerAhead_4 fl_Walk_93; exact hm.1.1; rfl
  refine aw_iload_n (i := 2) d_Walk_offerAhead_7 rfl rfl ?_
  apply aw_callv_p (ho_gs hm.1 (j := j) hj) d_Walk_offerAhead_8 cl_Walk_106; exact (ho_sl hm.1).choose_spec; rfl; rfl; rfl; rfl; decide; exact Nat.le_of_ble_eq_true rfl; exact (Nat.le_refl _); exact (Nat.le_refl _)
  apply aw_cast d_Walk_offerAhead_11; exact k1; rfl; exact cc_Walk_110
  refine aw_astore_n (i := 3) (lv2 := [(0, _), (1, _), (2, _), (3, _)]) d_Walk_offerAhead_14 rfl (by decide) rfl ?_
  refine aw_aload_n (i := 3) d_Walk_offerAhead_15 rfl rfl ?_
  refine aw_iload_n (i := 1) d_Walk_offerAhead_16 rfl rfl ?_
  apply aw_callv_p (c_Step_leadsTo hm.1 hv hx hj) d_Walk_offerAhead_17 cl_Walk_143; exact k1; rfl; rfl; rfl; rfl; decide; exact Nat.le_of_ble_eq_true rfl; exact (Nat.le_refl _); exact (Nat.le_refl _)
  rw [show ((hs.2.1.getD j sz0).2.2.2.2.2.all (fun p => dg (pks hs.1) x p.1 == p.2) && (decide (swt hs.1 hs.2.1 j = 0) || wdj hs x j)) = led hs x j from rfl]
  refine aw_ifB_ne d_Walk_offerAhead_20 (fun br20_ => ?_) (fun br20_ => ?_)
  · skip
    refine aw_aload_n (i := 0) d_Walk_offerAhead_24 rfl rfl ?_
    apply aw_get d_Walk_offerAhead_25 fl_Walk_50; exact hm.2.2.1.1; rfl
    refine aw_iload_n (i := 1) d_Walk_offerAhead_28 rfl rfl ?_
    apply aw_callv_p (c_Heap_sumOf hm.He hmo (x := x) (by omega)) d_Walk_offerAhead_29 cl_Walk_146; exact hm.He.1; rfl; rfl; rfl; rfl; decide; exact Nat.le_of_ble_eq_true rfl; exact (Nat.le_refl _); exact (Nat.le_refl _)
    rw [hkx]
    refine aw_aload_n (i := 3) d_Walk_offerAhead_32 rfl rfl ?_
    apply aw_get d_Walk_offerAhead_33 fl_Walk_149; exact k1; rfl
    refine aw_iaddN d_Walk_offerAhead_36 ?_
    refine aw_istore (lv2 := [(0, _), (1, _), (2, _), (3, _), (4, _)]) d_Walk_offerAhead_37 (by decide) rfl ?_
    refine aw_aload_n (i := 3) d_Walk_offerAhead_39 rfl rfl ?_
    apply aw_get d_Walk_offerAhead_40 fl_Walk_152; exact k1; rfl
    apply aw_callv_p (c_Pairs_variants hm.1.2.2.2.2.1 hv.1 k3 (hv.s hj).2.2.2.2.2.2.2.2.2.1) d_Walk_offerAhead_43 cl_Walk_156; exact (PaA.ob k3).choose_spec; rfl; rfl; rfl; rfl; decide; exact Nat.le_of_ble_eq_true rfl; exact (Nat.le_refl _); exact (Nat.le_refl _)
    refine aw_istore (lv2 := [(0, _), (1, _), (2, _), (3, _), (4, _), (5, _)]) d_Walk_offerAhead_46 (by decide) rfl ?_
    refine aw_iconst (v := nI 0) d_Walk_offerAhead_48 (by decide) ?_
    refine aw_istore (lv2 := [(0, _), (1, _), (2, _), (3, _), (4, _), (5, _), (6, _)]) d_Walk_offerAhead_49 (by decide) rfl ?_
    refine Nat.strongRecOn (motive := fun m => ∀ (h1 : Nat → Option aC) (ar9 : Nat → Nat → Int32) (n9 : Nat) (hp pl key : Nat → Nat) (Q : Nat → Prop) (v : Nat), (WkF h0 h1 hs ad A most fl L L2 ar9 n9 ∧ Dij hs key Q SL x (fun b s => dn b s ∨ (s = j ∧ ∃ v2, v2 < v ∧ ahd hs x j v2 = b)) ∧ Hp n9 hp pl key Q ∧ HeM (hall hs) (ar9 3) (ar9 4) (ar9 5) n9 hp key n9 ∧ n9 ≤ hall hs ∧ x ∈ SL ∧ (∀ s ∈ SL, key s ≤ key x) ∧ key x ≤ 100 * (SL.length - 1) ∧ (∀ k, k < 3 → ar9 k = ar k) ∧ key x = key0_ ∧ m = vpd hs.1 (gvs hs j) - v ∧ v ≤ vpd hs.1 (gvs hs j)) → AW G m_Walk_offerAhead 5 0 0 _ 51 [(0, .ref (A 0)), (1, .int (nI x)), (2, .int (nI j)), (3, .ref (ad.2.2.2.2.2.getD j 0)), (4, .int (nI (key0_ + tks hs j))), (5, .int (nI (vpd hs.1 (gvs hs j)))), (6, .int (nI v))] [] (nx, h1) 0 0) (vpd hs.1 (gvs hs j) - 0) (fun m ih => ?_) _ ar n hp pl key Q 0 ⟨hm, hD.mono (fun b s _ _ q => q.elim id (fun z => by obtain ⟨_, v2, h2, _⟩ := z; omega)), hHp, hM, hn, hxm, hxs, hxk, fun _ _ => rfl, hk0_.symm, rfl, Nat.zero_le _⟩
    intro h1 ar9 n9 hp pl key Q v hI
    obtain ⟨hm, hD, hHp, hM, hn, hxm, hxs, hxk, har, hke, hme, hvl⟩ := hI
    refine aw_iload d_Walk_offerAhead_51 rfl ?_
    refine aw_iload d_Walk_offerAhead_53 rfl ?_
    refine aw_icmpN_ge d_Walk_offerAhead_55 (by omega) (by omega) (fun br55_ => ?_) (fun br55_ => ?_)
    · skip
      have ev : v = vpd hs.1 (gvs hs j) := by omega
      subst ev
      refine aw_vret d_Walk_offerAhead_94 rfl (Nat.le_refl _) (Nat.le_refl _) ?_
      refine ⟨rfl, h1, ar9, n9, hp, pl, key, Q, rfl, hm, hD.mono (fun b s hb2 hs2 q => ?_), hHp, hM, hn, hxm, hxs, hxk, har⟩
      rcases q with q | ⟨q, z⟩
      · exact Or.inl q
      · subst q; exact Or.inr ⟨rfl, (aft_ahd hv hb2 hs2 z.1 z.2).2⟩
    · skip
      have hbl := ahd_lt hv (v := v) hx hj
      have hge := led_ge hv (v := v) hj br20_
      obtain ⟨na, ga, k1, k2, k3⟩ := ho_sc hm.1 hj
      refine aw_aload_n (i := 3) d_Walk_offerAhead_58 rfl rfl ?_
      refine aw_iload_n (i := 1) d_Walk_offerAhead_59 rfl rfl ?_
      refine aw_iload d_Walk_offerAhead_60 rfl ?_
      apply aw_callv_p (c_Step_codeAhead hm.1 hv hx hj (v := v) (by omega)) d_Walk_offerAhead_62 cl_Walk_161; exact k1; rfl; rfl; rfl; rfl; decide; exact Nat.le_of_ble_eq_true rfl; exact (Nat.le_refl _); exact (Nat.le_refl _)
      rw [show nI (vst hs.1 x v (hs.2.1.getD j sz0).2.2.2.2.2).1 - nI (swt hs.1 hs.2.1 j) = nI (ahd hs x j v) from pk_sub hge]
      refine aw_istore (lv2 := [(0, _), (1, _), (2, _), (3, _), (4, _), (5, _), (6, _), (7, _)]) d_Walk_offerAhead_65 (by decide) rfl ?_
      refine aw_aload_n (i := 0) d_Walk_offerAhead_67 rfl rfl ?_
      refine aw_iload d_Walk_offerAhead_68 rfl ?_
      refine aw_iload_n (i := 2) d_Walk_offerAhead_70 rfl rfl ?_
      apply aw_callv_p (c_Walk_isOpen hm hv (c := ahd hs x j v) (j := j) (by omega) hj (by rw [har 0 (by decide)]; exact hop _ hbl)) d_Walk_offerAhead_71 cl_Walk_102; exact hm.2.2.1.1; rfl; rfl; rfl; rfl; decide; exact Nat.le_of_ble_eq_true rfl; exact (Nat.le_refl _); exact (Nat.le_refl _)
      refine aw_ifB_eq d_Walk_offerAhead_74 (fun br74_ => ?_) (fun br74_ => ?_)
      · skip
        have hD2 : Dij hs key Q SL x (fun b s => dn b s ∨ (s = j ∧ ∃ v2, v2 < v + 1 ∧ ahd hs x j v2 = b)) := ⟨hD.1, hD.2.1, hD.2.2.1, hD.2.2.2.1, fun y hy b s hb2 hs2 ho2 ha2 hyx => hD.2.2.2.2 y hy b s hb2 hs2 ho2 ha2 (fun e => by
          rcases hyx e with q | ⟨q, v2, h1, h2⟩
          · exact Or.inl q
          · refine Or.inr ⟨q, v2, ?_, h2⟩
            by_cases e2 : v2 = v
            · exfalso; subst e2; rw [h2, ← q] at br74_; rw [ho2] at br74_; cases br74_
            · omega)⟩
        refine aw_iincN (lv2 := [(0, _), (1, _), (2, _), (3, _), (4, _), (5, _), (6, _), (7, _)]) d_Walk_offerAhead_88 (by decide) rfl rfl ?_
        refine aw_goto d_Walk_offerAhead_91 ?_
        refine aw_drop (lv2 := [(0, _), (1, _), (2, _), (3, _), (4, _), (5, _), (6, _)]) [0, 1, 2, 3, 4, 5, 6] rfl ?_
        exact ih _ (by omega) _ ar9 n9 hp pl key Q (v + 1) ⟨hm, hD2, hHp, hM, hn, hxm, hxs, hxk, har, hke, rfl, br55_⟩
      · skip
        have haf := ahd_aft hv hj br20_ br74_
        have hkb := (hD.1 _ hbl)
        have hxl := hD.2.2.1.2 x hxm
        have hkF := hkb.2.2.2.1
        have hsl := hD.sl
        have hvF : key0_ + tks hs j < FAR := by show _ < 268435456; omega
        refine aw_aload_n (i := 0) d_Walk_offerAhead_77 rfl rfl ?_
        apply aw_get d_Walk_offerAhead_78 fl_Walk_50; exact hm.2.2.1.1; rfl
        refine aw_iload d_Walk_offerAhead_81 rfl ?_
        refine aw_iload d_Walk_offerAhead_83 rfl ?_
        apply aw_callv d_Walk_offerAhead_85 cl_Walk_129 (c_Heap_offer hm.He hmo (x := ahd hs x j v) (v := key0_ + tks hs j) hal2 hn hHp hM (fun c hc => ((hD.1 c (hD.2.1 c hc).1).2.2.1).mpr (Or.inr hc)) hkF hbl hvF (fun q1 q2 => ((hkb.2.2.1).mp q2).resolve_left (fun z => by have := hxs _ z; omega))); exact hm.He.1; rfl; rfl; rfl; rfl; decide; exact (Nat.le_refl _); exact (Nat.le_refl _); exact Nat.le_of_ble_eq_true rfl
        rintro _ _ ⟨rfl, h2, fs2, fc2, fp2, n2, hp2, pl2, rfl, hS2, fr2, hn2, hHp2, hM2⟩
        have hm3 := hm.heap hv hS2 fr2
        refine aw_iincN (lv2 := [(0, _), (1, _), (2, _), (3, _), (4, _), (5, _), (6, _), (7, _)]) d_Walk_offerAhead_88 (by decide) rfl rfl ?_
        refine aw_goto d_Walk_offerAhead_91 ?_
        refine aw_drop (lv2 := [(0, _), (1, _), (2, _), (3, _), (4, _), (5, _), (6, _)]) [0, 1, 2, 3, 4, 5, 6] rfl ?_
        have hmono : ∀ {key : Nat → Nat} {Q : Nat → Prop}, Dij hs key Q SL x (fun b s => (dn b s ∨ (s = j ∧ ∃ v2, v2 < v ∧ ahd hs x j v2 = b)) ∨ (b = ahd hs x j v ∧ s = j)) → Dij hs key Q SL x (fun b s => dn b s ∨ (s = j ∧ ∃ v2, v2 < v + 1 ∧ ahd hs x j v2 = b)) := fun d => d.mono (fun b s _ _ q => by
          rcases q with q | ⟨q, v2, h1, h2⟩
          · exact Or.inl (Or.inl q)
          · by_cases e2 : v2 = v
            · exact Or.inr ⟨by rw [← h2, e2], q⟩
            · exact Or.inl (Or.inr ⟨q, v2, by omega, h2⟩))
        by_cases hlt : key0_ + tks hs j < key (ahd hs x j v)
        · rw [if_pos hlt] at hHp2 hM2
          rw [if_pos hlt] at hHp2
          obtain ⟨hbs, -, hDl⟩ := hD.less hv hxm hxs hxk hbl hj br74_ haf (by rw [hke]; exact hlt)
          rw [hke] at hDl
          have hxb : x ≠ ahd hs x j v := fun e => hbs (by rw [← e]; exact hxm)
          exact ih _ (by omega) _ _ n2 hp2 pl2 _ _ (v + 1) ⟨hm3, hmono hDl, hHp2, hM2, hn2, hxm, fun s hs2 => by rw [un_n hxb, un_n (fun e => hbs (by rw [← e]; exact hs2))]; exact hxs s hs2, by rw [un_n hxb]; exact hxk, fun k hk => by show (if k = 3 then _ else _) = _; rw [if_neg (by omega), if_neg (by omega), if_neg (by omega)]; exact har k hk, by rw [un_n hxb]; exact hke, rfl, br55_⟩
        · rw [if_neg hlt] at hHp2 hM2
          rw [if_neg hlt] at hHp2
          exact ih _ (by omega) _ _ n2 hp2 pl2 _ _ (v + 1) ⟨hm3, hmono (hD.keep (by rw [hke]; omega)), hHp2, hM2, hn2, hxm, hxs, hxk, fun k hk => by show (if k = 3 then _ else _) = _; rw [if_neg (by omega), if_neg (by omega), if_neg (by omega)]; exact har k hk, hke, rfl, br55_⟩
  · skip
    refine aw_vret d_Walk_offerAhead_23 rfl (Nat.le_refl _) (Nat.le_refl _) ?_
    refine ⟨rfl, h, ar, n, hp, pl, key, Q, rfl, hm, hD.mono (fun b s hb2 hs2 q => ?_), hHp, hM, hn, hxm, hxs, hxk, fun _ _ => rfl⟩
    rcases q with q | ⟨q, z⟩
    · exact q
    · exfalso; subst q; rw [(aft_ahd hv hb2 hs2 z.1 z.2).1] at br20_; cases br20_

