set_option maxHeartbeats 4000000 in
set_option maxRecDepth 20000 in
theorem c_Walk_countArrivals {G : aG} {nx : Nat} {h h0 : Nat → Option aC} {hs : HSt} {ad : AD} {A : Nat → Nat} {most : Nat} {fl : WFl} {L L2 : List Nat} {ar : Nat → Nat → Int32} {n : Nat} (hm : WkF h0 h hs ad A most fl L L2 ar n) (hv : VH hs) (hC : CHT hs L ar) (hal2 : hall hs ≤ most) : AMet G m_Walk_countArrivals 6 0 0 [.ref (A 0)] (nx, h) (fun r w => r = none ∧ ∃ h2 ar9, w = (nx, h2) ∧ WkF h0 h2 hs ad A most fl L L2 ar9 n ∧ (∀ k, k ≠ 1 → ar9 k = ar k) ∧ (∀ t, t < hall hs → ar9 1 t = nI (colc hs (rch hs) t (hall hs)))) := by
  have hp12 := hv.1.1
  have hs24 := hv.2.1
  have hall2 := hv.2.2.2.2.2.2.2
  have hmo := hm.mst
  have hLl := hC.len hv
  refine amet_of pf_Walk_countArrivals (Nat.le_of_ble_eq_true rfl) ?_
  show AW G m_Walk_countArrivals 6 0 0 _ 0 [(0, .ref (A 0))] [] (nx, h) 0 0
  refine aw_aload_n (i := 0) d_Walk_countArrivals_0 rfl rfl ?_
  apply aw_get d_Walk_countArrivals_1 fl_Walk_41; exact hm.2.2.1.1; rfl
  refine aw_iconst (v := nI 0) d_Walk_countArrivals_4 (by decide) ?_
  apply aw_calls_q (c_Arr_fill2 hm.a1 (by omega) (nI 0)) d_Walk_countArrivals_5 cl_Walk_181; rfl; rfl; decide; exact Nat.le_of_ble_eq_true rfl; exact (Nat.le_refl _); exact (Nat.le_refl _)
  refine aw_nm hm.a1 ?_
  intro h1 e1_ f1_ o1_
  have hm := hm.s1 hv e1_ f1_
  refine aw_iconst (v := nI 0) d_Walk_countArrivals_8 (by decide) ?_
  refine aw_istore_n (i := 1) (lv2 := [(0, _), (1, _)]) d_Walk_countArrivals_9 rfl (by decide) rfl ?_
  refine Nat.strongRecOn (motive := fun m => ∀ (h1 : Nat → Option aC) (ar9 : Nat → Nat → Int32) (i : Nat), (WkF h0 h1 hs ad A most fl L L2 ar9 n ∧ (∀ k, k ≠ 1 → ar9 k = ar k) ∧ (∀ t, t < hall hs → ar9 1 t = nI (pcn hs t (L.take i))) ∧ i ≤ L.length ∧ m = L.length - i) → AW G m_Walk_countArrivals 6 0 0 _ 10 [(0, .ref (A 0)), (1, .int (nI i))] [] (nx, h1) 0 0) (L.length - 0) (fun m ih => ?_) _ _ 0 ⟨hm, fun k hk => ups_n hk, fun t ht => (fl0_in (show t < most by omega)), Nat.zero_le _, rfl⟩
  intro h1 ar9 i hI
  obtain ⟨hm, har, htl, hil, hme⟩ := hI
  refine aw_iload_n (i := 1) d_Walk_countArrivals_10 rfl rfl ?_
  refine aw_aload_n (i := 0) d_Walk_countArrivals_11 rfl rfl ?_
  apply aw_get d_Walk_countArrivals_12 fl_Walk_30; exact hm.2.2.1.1; rfl
  refine li_size hm.Lr d_Walk_countArrivals_15 fl_Walk_75 ?_
  refine aw_icmpN_ge d_Walk_countArrivals_18 (by omega) (by omega) (fun br18_ => ?_) (fun br18_ => ?_)
  · skip
    have ei : i = L.length := by omega
    subst ei
    rw [List.take_length] at htl
    refine aw_vret d_Walk_countArrivals_111 rfl (Nat.le_refl _) (Nat.le_refl _) ?_
    exact ⟨rfl, _, ar9, rfl, hm, har, fun t ht => by rw [htl t ht, pcn_eq (n := hall hs) (p := rch hs) hC.1 (fun c => by rw [hC.2.1 c]; exact ⟨fun q => ⟨q.lt hv, rcs_iff.mpr q⟩, fun q => rcs_iff.mp q.2⟩)]⟩
  · skip
    have hcl := hC.at hv br18_
    have hop : ar9 0 L[i] = nI (opb hs L[i]) := by rw [har 0 (by decide)]; exact hC.2.2 _ (List.getElem_mem br18_)
    refine aw_aload_n (i := 0) d_Walk_countArrivals_21 rfl rfl ?_
    apply aw_get d_Walk_countArrivals_22 fl_Walk_30; exact hm.2.2.1.1; rfl
    refine aw_iload_n (i := 1) d_Walk_countArrivals_25 rfl rfl ?_
    apply aw_callv_p (c_Line_codeAt hm.Lr (i := i) br18_) d_Walk_countArrivals_26 cl_Walk_78; exact hm.Lr.ob.choose_spec; rfl; rfl; rfl; rfl; decide; exact Nat.le_of_ble_eq_true rfl; exact (Nat.le_refl _); exact (Nat.le_refl _)
    refine aw_istore_n (i := 2) (lv2 := [(0, _), (1, _), (2, _)]) d_Walk_countArrivals_29 rfl (by decide) rfl ?_
    refine aw_iconst (v := nI 0) d_Walk_countArrivals_30 (by decide) ?_
    refine aw_istore_n (i := 3) (lv2 := [(0, _), (1, _), (2, _), (3, _)]) d_Walk_countArrivals_31 rfl (by decide) rfl ?_
    refine Nat.strongRecOn (motive := fun m2 => ∀ (h1 : Nat → Option aC) (ar9 : Nat → Nat → Int32) (j : Nat), (WkF h0 h1 hs ad A most fl L L2 ar9 n ∧ (∀ k, k ≠ 1 → ar9 k = ar k) ∧ (∀ t, t < hall hs → ar9 1 t = nI (pcn hs t (L.take i) + rowc hs t L[i] j)) ∧ j ≤ hs.2.1.length ∧ m2 = hs.2.1.length - j) → AW G m_Walk_countArrivals 6 0 0 _ 32 [(0, .ref (A 0)), (1, .int (nI i)), (2, .int (nI L[i])), (3, .int (nI j))] [] (nx, h1) 0 0) (hs.2.1.length - 0) (fun m2 ih2 => ?_) _ ar9 0 ⟨hm, har, htl, Nat.zero_le _, rfl⟩
    intro h1 ar9 j hJ
    obtain ⟨hm, har, htl, hjl, hm2⟩ := hJ
    have hop : ar9 0 L[i] = nI (opb hs L[i]) := by rw [har 0 (by decide)]; exact hC.2.2 _ (List.getElem_mem br18_)
    refine aw_iload_n (i := 3) d_Walk_countArrivals_32 rfl rfl ?_
    refine aw_aload_n (i := 0) d_Walk_countArrivals_33 rfl rfl ?_
    apply aw_get d_Walk_countArrivals_34 fl_Walk_9; exact hm.2.2.1.1; rfl
    rw [hm.2.1]
    apply aw_get d_Walk_countArrivals_37 fl_Walk_93; exact hm.1.1; rfl
    apply aw_callv_p (ho_ns hm.1) d_Walk_countArrivals_40 cl_Walk_97; exact (ho_sl hm.1).choose_spec; rfl; rfl; rfl; rfl; decide; exact Nat.le_of_ble_eq_true rfl; exact (Nat.le_refl _); exact (Nat.le_refl _)
    refine aw_icmpN_ge d_Walk_countArrivals_43 (by omega) (by omega) (fun br43_ => ?_) (fun br43_ => ?_)
    · skip
      have ej : j = hs.2.1.length := by omega
      subst ej
      refine aw_iincN (lv2 := [(0, _), (1, _), (2, _), (3, _)]) d_Walk_countArrivals_105 (by decide) rfl rfl ?_
      refine aw_goto d_Walk_countArrivals_108 ?_
      refine aw_drop (lv2 := [(0, _), (1, _)]) [0, 1] rfl ?_
      refine ih (L.length - (i + 1)) (by omega) _ ar9 (i + 1) ⟨hm, har, fun t ht => ?_, br18_, rfl⟩
      rw [htl t ht, List.take_succ_eq_append_getElem br18_, pcn_app]; simp [pcn]
    · skip
      refine aw_aload_n (i := 0) d_Walk_countArrivals_46 rfl rfl ?_
      refine aw_iload_n (i := 2) d_Walk_countArrivals_47 rfl rfl ?_
      refine aw_iload_n (i := 3) d_Walk_countArrivals_48 rfl rfl ?_
      apply aw_callv_p (c_Walk_isOpen hm hv (c := L[i]) (j := j) (by omega) br43_ hop) d_Walk_countArrivals_49 cl_Walk_102; exact hm.2.2.1.1; rfl; rfl; rfl; rfl; decide; exact Nat.le_of_ble_eq_true rfl; exact (Nat.le_refl _); exact (Nat.le_refl _)
      refine aw_ifB_eq d_Walk_countArrivals_52 (fun br52_ => ?_) (fun br52_ => ?_)
      · skip
        have hrw : ∀ t, rowc hs t L[i] (j + 1) = rowc hs t L[i] j + 0 := fun t => by show _ + ind hs t L[i] j = _; unfold ind; rw [br52_]; rfl
        refine aw_iconst (v := -1) d_Walk_countArrivals_76 (by decide) ?_
        refine aw_istore (lv2 := [(0, _), (1, _), (2, _), (3, _), (4, _)]) d_Walk_countArrivals_77 (by decide) rfl ?_
        refine aw_aload_n (i := 0) d_Walk_countArrivals_79 rfl rfl ?_
        refine aw_iload d_Walk_countArrivals_80 rfl ?_
        apply aw_callv_p (c_Walk_fits hm hv (-1)) d_Walk_countArrivals_82 cl_Walk_82; exact hm.2.2.1.1; rfl; rfl; rfl; rfl; decide; exact Nat.le_of_ble_eq_true rfl; exact (Nat.le_refl _); exact (Nat.le_refl _)
        rw [show decide ((0 : Int32) ≤ -1 ∧ (-1 : Int32) < nI most) = false from decide_eq_false (fun q => absurd q.1 (by decide))]
        refine aw_if_eq d_Walk_countArrivals_85 (fun br85_ => ?_) (fun br85_ => absurd rfl br85_)
        refine aw_iincN (lv2 := [(0, _), (1, _), (2, _), (3, _), (4, _)]) d_Walk_countArrivals_99 (by decide) rfl rfl ?_
        refine aw_goto d_Walk_countArrivals_102 ?_
        refine aw_drop (lv2 := [(0, _), (1, _), (2, _), (3, _)]) [0, 1, 2, 3] rfl ?_
        exact ih2 _ (by omega) _ ar9 (j + 1) ⟨hm, har, fun t ht => by rw [hrw t]; exact htl t ht, br43_, rfl⟩
      · skip
        have hal := aft_lt hv hcl br43_
        obtain ⟨na, ga, k1, k2, k3⟩ := ho_sc hm.1 br43_
        have hrw : ∀ t, rowc hs t L[i] (j + 1) = rowc hs t L[i] j + (if t = aft hs L[i] j then 1 else 0) := fun t => by
          show _ + ind hs t L[i] j = _
          unfold ind; rw [br52_]
          by_cases e : t = aft hs L[i] j
          · rw [if_pos e]; simp [e]
          · rw [if_neg e, show (aft hs L[i] j == t) = false from beq_eq_false_iff_ne.mpr (fun q => e q.symm)]; rfl
        refine aw_aload_n (i := 0) d_Walk_countArrivals_55 rfl rfl ?_
        apply aw_get d_Walk_countArrivals_56 fl_Walk_9; exact hm.2.2.1.1; rfl
        rw [hm.2.1]
        apply aw_get d_Walk_countArrivals_59 fl_Walk_93; exact hm.1.1; rfl
        refine aw_iload_n (i := 3) d_Walk_countArrivals_62 rfl rfl ?_
        apply aw_callv_p (ho_gs hm.1 (j := j) br43_) d_Walk_countArrivals_63 cl_Walk_106; exact (ho_sl hm.1).choose_spec; rfl; rfl; rfl; rfl; decide; exact Nat.le_of_ble_eq_true rfl; exact (Nat.le_refl _); exact (Nat.le_refl _)
        apply aw_cast d_Walk_countArrivals_66; exact k1; rfl; exact cc_Walk_110
        refine aw_iload_n (i := 2) d_Walk_countArrivals_69 rfl rfl ?_
        apply aw_callv_p (c_Step_codeAfter hm.1 hv hcl br43_) d_Walk_countArrivals_70 cl_Walk_112; exact k1; rfl; rfl; rfl; rfl; decide; exact Nat.le_of_ble_eq_true rfl; exact (Nat.le_refl _); exact (Nat.le_refl _)
        refine aw_goto d_Walk_countArrivals_73 ?_
        refine aw_istore (lv2 := [(0, _), (1, _), (2, _), (3, _), (4, _)]) d_Walk_countArrivals_77 (by decide) rfl ?_
        refine aw_aload_n (i := 0) d_Walk_countArrivals_79 rfl rfl ?_
        refine aw_iload d_Walk_countArrivals_80 rfl ?_
        apply aw_callv_p (w_fits hm hv (c := aft hs L[i] j) (by omega)) d_Walk_countArrivals_82 cl_Walk_82; exact hm.2.2.1.1; rfl; rfl; rfl; rfl; decide; exact Nat.le_of_ble_eq_true rfl; exact (Nat.le_refl _); exact (Nat.le_refl _)
        refine aw_if_eq d_Walk_countArrivals_85 (fun br85_ => absurd br85_ (by decide)) (fun br85_ => ?_)
        refine aw_aload_n (i := 0) d_Walk_countArrivals_88 rfl rfl ?_
        apply aw_get d_Walk_countArrivals_89 fl_Walk_41; exact hm.2.2.1.1; rfl
        refine aw_iload d_Walk_countArrivals_92 rfl ?_
        refine aw_dup2 d_Walk_countArrivals_94 rfl rfl ?_
        apply ci_ld d_Walk_countArrivals_95; exact hm.a1; (have := hm.mst; omega); omega; exact htl _ hal
        refine aw_iconst (v := nI 1) d_Walk_countArrivals_96 (by decide) ?_
        refine aw_iaddN d_Walk_countArrivals_97 ?_
        apply wk_st1 hm hv d_Walk_countArrivals_98; omega; intro h hm
        refine aw_iincN (lv2 := [(0, _), (1, _), (2, _), (3, _), (4, _)]) d_Walk_countArrivals_99 (by decide) rfl rfl ?_
        refine aw_goto d_Walk_countArrivals_102 ?_
        refine aw_drop (lv2 := [(0, _), (1, _), (2, _), (3, _)]) [0, 1, 2, 3] rfl ?_
        refine ih2 _ (by omega) _ _ (j + 1) ⟨hm, fun k hk => (ups_n hk).trans (har k hk), fun t ht => ?_, br43_, rfl⟩
        show upd (ar9 1) _ _ t = _
        rw [hrw t]
        by_cases e : t = aft hs L[i] j
        · rw [e, pk_us, if_pos rfl]; rfl
        · rw [pk_un e, if_neg e]; exact htl t ht

def KRc (hs : HSt) (ar : Nat → Nat → Int32) (L2 : List Nat) (st : KSt) : Prop := L2 = st.1 ∧ ∀ t, t < hall hs → ar 1 t = nI (st.2.1 t) ∧ ar 2 t = nI (st.2.2 t)
set_option maxHeartbeats 4000000 in
set_option maxRecDepth 20000 in
theorem c_Walk_arriveFrom {G : aG} {nx : Nat} {h h0 : Nat → Option aC} {hs : HSt} {ad : AD} {A : Nat → Nat} {most : Nat} {fl : WFl} {L L2 : List Nat} {ar : Nat → Nat → Int32} {n : Nat} (hm : WkF h0 h hs ad A most fl L L2 ar n) (hv : VH hs) {c sum k9 : Nat} {st : KSt} (hc : c < hall hs) (hal2 : hall hs ≤ most) (hop : ar 0 c = nI (opb hs c)) (hKI : KI hs k9 0 st) (hk : k9 < st.1.length) (hck : st.1.getD k9 0 = c) (hR : KRc hs ar L2 st) (hbd : ∀ t, st.2.2 t ≤ 100 * k9) (hsum : sum ≤ 100 * k9) (hk9 : k9 ≤ 20000) : AMet G m_Walk_arriveFrom 6 0 0 [.ref (A 0), .int (nI c), .int (nI sum)] (nx, h) (fun r w => r = none ∧ ∃ h2 L9 ar9, w = (nx, h2) ∧ WkF h0 h2 hs ad A most fl L L9 ar9 n ∧ (∀ k, k ≠ 1 → k ≠ 2 → ar9 k = ar k) ∧ KRc hs ar9 L9 (krow hs c sum hs.2.1.length st)) := by
  have hp12 := hv.1.1
  have hs24 := hv.2.1
  have hall2 := hv.2.2.2.2.2.2.2
  have hmo := hm.mst
  refine amet_of pf_Walk_arriveFrom (Nat.le_of_ble_eq_true rfl) ?_
  show AW G m_Walk_arriveFrom 6 0 0 _ 0 [(0, .ref (A 0)), (1, .int (nI c)), (2, .int (nI sum))] [] (nx, h) 0 0
  refine aw_iconst (v := nI 0) d_Walk_arriveFrom_0 (by decide) ?_
  refine aw_istore_n (i := 3) (lv2 := [(0, _), (1, _), (2, _), (3, _)]) d_Walk_arriveFrom_1 rfl (by decide) rfl ?_
  refine Nat.strongRecOn (motive := fun m => ∀ (h1 : Nat → Option aC) (L9 : List Nat) (ar9 : Nat → Nat → Int32) (j : Nat), (WkF h0 h1 hs ad A most fl L L9 ar9 n ∧ (∀ k, k ≠ 1 → k ≠ 2 → ar9 k = ar k) ∧ KRc hs ar9 L9 (krow hs c sum j st) ∧ j ≤ hs.2.1.length ∧ m = hs.2.1.length - j) → AW G m_Walk_arriveFrom 6 0 0 _ 2 [(0, .ref (A 0)), (1, .int (nI c)), (2, .int (nI sum)), (3, .int (nI j))] [] (nx, h1) 0 0) (hs.2.1.length - 0) (fun m ih => ?_) _ L2 ar 0 ⟨hm, fun _ _ _ => rfl, hR, Nat.zero_le _, rfl⟩
  intro h1 L9 ar9 j hI
  obtain ⟨hm, har, hR, hjl, hme⟩ := hI
  have hop9 : ar9 0 c = nI (opb hs c) := by rw [har 0 (by decide) (by decide)]; exact hop
  have hKJ := hKI.row hv (sum := sum) hk j hjl
  rw [hck] at hKJ
  have hbj := krow_bd hv (c := c) (sum := sum) (b := 100 * (k9 + 1)) (st := st) (fun t => Nat.le_trans (hbd t) (by omega)) (by omega) j hjl
  obtain ⟨e9, he9⟩ := krow_pre (hs := hs) (c := c) (sum := sum) (st := st) j
  have hg9 : (krow hs c sum j st).1.getD k9 0 = c := by rw [he9, gd_app hk]; exact hck
  have hl9 : k9 < (krow hs c sum j st).1.length := by rw [he9, List.length_append]; omega
  have hlj := hKJ.len
  refine aw_iload_n (i := 3) d_Walk_arriveFrom_2 rfl rfl ?_
  refine aw_aload_n (i := 0) d_Walk_arriveFrom_3 rfl rfl ?_
  apply aw_get d_Walk_arriveFrom_4 fl_Walk_9; exact hm.2.2.1.1; rfl
  rw [hm.2.1]
  apply aw_get d_Walk_arriveFrom_7 fl_Walk_93; exact hm.1.1; rfl
  apply aw_callv_p (ho_ns hm.1) d_Walk_arriveFrom_10 cl_Walk_97; exact (ho_sl hm.1).choose_spec; rfl; rfl; rfl; rfl; decide; exact Nat.le_of_ble_eq_true rfl; exact (Nat.le_refl _); exact (Nat.le_refl _)
  refine aw_icmpN_ge d_Walk_arriveFrom_13 (by omega) (by omega) (fun br13_ => ?_) (fun br13_ => ?_)
  · skip
    have ej : j = hs.2.1.length := by omega
    subst ej
    refine aw_vret d_Walk_arriveFrom_130 rfl (Nat.le_refl _) (Nat.le_refl _) ?_
    exact ⟨rfl, _, L9, ar9, rfl, hm, har, hR⟩
  · skip
    refine aw_aload_n (i := 0) d_Walk_arriveFrom_16 rfl rfl ?_
    refine aw_iload_n (i := 1) d_Walk_arriveFrom_17 rfl rfl ?_
    refine aw_iload_n (i := 3) d_Walk_arriveFrom_18 rfl rfl ?_
    apply aw_callv_p (c_Walk_isOpen hm hv (c := c) (j := j) (by omega) br13_ hop9) d_Walk_arriveFrom_19 cl_Walk_102; exact hm.2.2.1.1; rfl; rfl; rfl; rfl; decide; exact Nat.le_of_ble_eq_true rfl; exact (Nat.le_refl _); exact (Nat.le_refl _)
    refine aw_ifB_eq d_Walk_arriveFrom_22 (fun br22_ => ?_) (fun br22_ => ?_)
    · skip
      have hkn : krow hs c sum (j + 1) st = krow hs c sum j st := by show kst hs _ _ j _ = _; unfold kst; rw [br22_]; rfl
      refine aw_iconst (v := -1) d_Walk_arriveFrom_46 (by decide) ?_
      refine aw_istore (lv2 := [(0, _), (1, _), (2, _), (3, _), (4, _)]) d_Walk_arriveFrom_47 (by decide) rfl ?_
      refine aw_aload_n (i := 0) d_Walk_arriveFrom_49 rfl rfl ?_
      refine aw_iload d_Walk_arriveFrom_50 rfl ?_
      apply aw_callv_p (c_Walk_fits hm hv (-1)) d_Walk_arriveFrom_52 cl_Walk_82; exact hm.2.2.1.1; rfl; rfl; rfl; rfl; decide; exact Nat.le_of_ble_eq_true rfl; exact (Nat.le_refl _); exact (Nat.le_refl _)
      rw [show decide ((0 : Int32) ≤ -1 ∧ (-1 : Int32) < nI most) = false from decide_eq_false (fun q => absurd q.1 (by decide))]
      refine aw_if_eq d_Walk_arriveFrom_55 (fun br55_ => ?_) (fun br55_ => absurd rfl br55_)
      refine aw_iincN (lv2 := [(0, _), (1, _), (2, _), (3, _), (4, _)]) d_Walk_arriveFrom_124 (by decide) rfl rfl ?_
      refine aw_goto d_Walk_arriveFrom_127 ?_
      refine aw_drop (lv2 := [(0, _), (1, _), (2, _), (3, _)]) [0, 1, 2, 3] rfl ?_
      exact ih _ (by omega) _ L9 ar9 (j + 1) ⟨hm, har, by rw [hkn]; exact hR, br13_, rfl⟩
    · skip
      have hal := aft_lt hv hc br13_
      obtain ⟨na, ga, k1, k2, k3⟩ := ho_sc hm.1 br13_
      have hmo9 := hKJ.more hl9 br13_ (by rw [hg9]; exact br22_) (by rw [hg9]; exact hal)
      rw [hg9] at hmo9
      have hba := hbj (aft hs c j)
      have htk : tks hs j ≤ 100 := (hv.s br13_).2.2.2.2.1
      have hco := hKJ.2.2.1 _ hal
      have hcb := colc_bd (hs := hs) (rch hs) (aft hs c j) (hall hs)
      have hcb2 : hall hs * hs.2.1.length ≤ 20000 * 24 := Nat.mul_le_mul hall2 hs24
      refine aw_aload_n (i := 0) d_Walk_arriveFrom_25 rfl rfl ?_
      apply aw_get d_Walk_arriveFrom_26 fl_Walk_9; exact hm.2.2.1.1; rfl
      rw [hm.2.1]
      apply aw_get d_Walk_arriveFrom_29 fl_Walk_93; exact hm.1.1; rfl
      refine aw_iload_n (i := 3) d_Walk_arriveFrom_32 rfl rfl ?_
      apply aw_callv_p (ho_gs hm.1 (j := j) br13_) d_Walk_arriveFrom_33 cl_Walk_106; exact (ho_sl hm.1).choose_spec; rfl; rfl; rfl; rfl; decide; exact Nat.le_of_ble_eq_true rfl; exact (Nat.le_refl _); exact (Nat.le_refl _)
      apply aw_cast d_Walk_arriveFrom_36; exact k1; rfl; exact cc_Walk_110
      refine aw_iload_n (i := 1) d_Walk_arriveFrom_39 rfl rfl ?_
      apply aw_callv_p (c_Step_codeAfter hm.1 hv hc br13_) d_Walk_arriveFrom_40 cl_Walk_112; exact k1; rfl; rfl; rfl; rfl; decide; exact Nat.le_of_ble_eq_true rfl; exact (Nat.le_refl _); exact (Nat.le_refl _)
      refine aw_goto d_Walk_arriveFrom_43 ?_
      refine aw_istore (lv2 := [(0, _), (1, _), (2, _), (3, _), (4, _)]) d_Walk_arriveFrom_47 (by decide) rfl ?_
      refine aw_aload_n (i := 0) d_Walk_arriveFrom_49 rfl rfl ?_
      refine aw_iload d_Walk_arriveFrom_50 rfl ?_
      apply aw_callv_p (w_fits hm hv (c := aft hs c j) (by omega)) d_Walk_arriveFrom_52 cl_Walk_82; exact hm.2.2.1.1; rfl; rfl; rfl; rfl; decide; exact Nat.le_of_ble_eq_true rfl; exact (Nat.le_refl _); exact (Nat.le_refl _)
      refine aw_if_eq d_Walk_arriveFrom_55 (fun br55_ => absurd br55_ (by decide)) (fun br55_ => ?_)
      refine aw_aload_n (i := 0) d_Walk_arriveFrom_58 rfl rfl ?_
      apply aw_get d_Walk_arriveFrom_59 fl_Walk_44; exact hm.2.2.1.1; rfl
      refine aw_iload d_Walk_arriveFrom_62 rfl ?_
      refine aw_aload_n (i := 0) d_Walk_arriveFrom_64 rfl rfl ?_
      apply aw_get d_Walk_arriveFrom_65 fl_Walk_44; exact hm.2.2.1.1; rfl
      refine aw_iload d_Walk_arriveFrom_68 rfl ?_
      apply ci_ld d_Walk_arriveFrom_70; exact hm.a2; (have := hm.mst; omega); omega; exact (hR.2 _ hal).2
      refine aw_iload_n (i := 2) d_Walk_arriveFrom_71 rfl rfl ?_
      refine aw_aload_n (i := 0) d_Walk_arriveFrom_72 rfl rfl ?_
      apply aw_get d_Walk_arriveFrom_73 fl_Walk_9; exact hm.2.2.1.1; rfl
      rw [hm.2.1]
      apply aw_get d_Walk_arriveFrom_76 fl_Walk_93; exact hm.1.1; rfl
      refine aw_iload_n (i := 3) d_Walk_arriveFrom_79 rfl rfl ?_
      apply aw_callv_p (ho_gs hm.1 (j := j) br13_) d_Walk_arriveFrom_80 cl_Walk_106; exact (ho_sl hm.1).choose_spec; rfl; rfl; rfl; rfl; decide; exact Nat.le_of_ble_eq_true rfl; exact (Nat.le_refl _); exact (Nat.le_refl _)
      apply aw_cast d_Walk_arriveFrom_83; exact k1; rfl; exact cc_Walk_110
      apply aw_get d_Walk_arriveFrom_86 fl_Walk_149; exact k1; rfl
      refine aw_iaddN d_Walk_arriveFrom_89 ?_
      apply aw_calls_p (c_Math_max_nI ((krow hs c sum j st).2.2 (aft hs c j)) (sum + tks hs j) (by omega) (by omega)) d_Walk_arriveFrom_90 cl_Walk_15; rfl; rfl; decide; exact Nat.le_of_ble_eq_true rfl; exact (Nat.le_refl _); exact (Nat.le_refl _)
      apply wk_st2 hm hv d_Walk_arriveFrom_93; omega; intro h hm
      refine aw_aload_n (i := 0) d_Walk_arriveFrom_94 rfl rfl ?_
      apply aw_get d_Walk_arriveFrom_95 fl_Walk_41; exact hm.2.2.1.1; rfl
      refine aw_iload d_Walk_arriveFrom_98 rfl ?_
      refine aw_dup2 d_Walk_arriveFrom_100 rfl rfl ?_
      apply ci_ld d_Walk_arriveFrom_101; exact hm.a1; (have := hm.mst; omega); omega; exact (hR.2 _ hal).1
      refine aw_iconst (v := nI 1) d_Walk_arriveFrom_102 (by decide) ?_
      refine aw_isubN d_Walk_arriveFrom_103 hmo9.1 ?_
      apply wk_st1 hm hv d_Walk_arriveFrom_104; omega; intro h hm
      refine aw_aload_n (i := 0) d_Walk_arriveFrom_105 rfl rfl ?_
      apply aw_get d_Walk_arriveFrom_106 fl_Walk_41; exact hm.2.2.1.1; rfl
      refine aw_iload d_Walk_arriveFrom_109 rfl ?_
      apply ci_ld d_Walk_arriveFrom_111; exact hm.a1; (have := hm.mst; omega); omega; exact (show upd _ _ _ _ = _ from pk_us)
      refine aw_ifN_ne d_Walk_arriveFrom_112 (by omega) (fun br112_ => ?_) (fun br112_ => ?_)
      · skip
        have hkn : (krow hs c sum (j + 1) st).1 = (krow hs c sum j st).1 := by show (kst hs _ _ j _).1 = _; unfold kst; rw [if_pos br22_]; exact if_neg br112_
        refine aw_iincN (lv2 := [(0, _), (1, _), (2, _), (3, _), (4, _)]) d_Walk_arriveFrom_124 (by decide) rfl rfl ?_
        refine aw_goto d_Walk_arriveFrom_127 ?_
        refine aw_drop (lv2 := [(0, _), (1, _), (2, _), (3, _)]) [0, 1, 2, 3] rfl ?_
        refine ih _ (by omega) _ L9 _ (j + 1) ⟨hm, fun k h1 h2 => (ups_n h1).trans ((ups_n h2).trans (har k h1 h2)), ⟨by rw [hkn]; exact hR.1, fun t ht => ?_⟩, br13_, rfl⟩
        show upd (ar9 1) _ _ t = nI ((kst hs _ _ j _).2.1 t) ∧ upd (ar9 2) _ _ t = nI ((kst hs _ _ j _).2.2 t)
        unfold kst
        rw [if_pos br22_]
        show _ = nI (updn _ _ _ t) ∧ _ = nI (updn _ _ _ t)
        by_cases e : t = aft hs c j
        · rw [e, pk_us, pk_us, un_s, un_s]; exact ⟨rfl, rfl⟩
        · rw [pk_un e, pk_un e, un_n e, un_n e]; exact hR.2 t ht
      · skip
        have hkn : (krow hs c sum (j + 1) st).1 = (krow hs c sum j st).1 ++ [aft hs c j] := by show (kst hs _ _ j _).1 = _; unfold kst; rw [if_pos br22_]; exact if_pos br112_
        have hKJ1 := hKI.row hv (sum := sum) hk (j + 1) (by omega)
        rw [hck] at hKJ1
        have hlj1 := hKJ1.len.2
        rw [hkn] at hlj1
        simp only [List.length_append, List.length_singleton] at hlj1
        refine aw_aload_n (i := 0) d_Walk_arriveFrom_115 rfl rfl ?_
        apply aw_get d_Walk_arriveFrom_116 fl_Walk_38; exact hm.2.2.1.1; rfl
        refine aw_iload d_Walk_arriveFrom_119 rfl ?_
        apply aw_callv d_Walk_arriveFrom_121 cl_Walk_72 (c_Line_join hm.Ll (c := aft hs c j) (by omega)); exact hm.Ll.ob.choose_spec; rfl; rfl; rfl; rfl; decide; exact (Nat.le_refl _); exact (Nat.le_refl _); exact Nat.le_of_ble_eq_true rfl
        rintro _ _ ⟨rfl, h2, rfl, hl2, fr2⟩
        have hm := hm.line hv hl2 fr2
        rw [hR.1, if_neg (fun q => q.elim (fun z => hmo9.2 z) (fun z => by omega))] at hm
        refine aw_iincN (lv2 := [(0, _), (1, _), (2, _), (3, _), (4, _)]) d_Walk_arriveFrom_124 (by decide) rfl rfl ?_
        refine aw_goto d_Walk_arriveFrom_127 ?_
        refine aw_drop (lv2 := [(0, _), (1, _), (2, _), (3, _)]) [0, 1, 2, 3] rfl ?_
        refine ih _ (by omega) _ _ _ (j + 1) ⟨hm, fun k h1 h2 => (ups_n h1).trans ((ups_n h2).trans (har k h1 h2)), ⟨by rw [hkn], fun t ht => ?_⟩, br13_, rfl⟩
        show upd (ar9 1) _ _ t = nI ((kst hs _ _ j _).2.1 t) ∧ upd (ar9 2) _ _ t = nI ((kst hs _ _ j _).2.2 t)
        unfold kst
        rw [if_pos br22_]
        show _ = nI (updn _ _ _ t) ∧ _ = nI (updn _ _ _ t)
        by_cases e : t = aft hs c j
        · rw [e, pk_us, pk_us, un_s, un_s]; exact ⟨rfl, rfl⟩
        · rw [pk_un e, pk_un e, un_n e, un_n e]; exact hR.2 t ht

set_option maxHeartbeats 4000000 in
set_option maxRecDepth 20000 in
theorem c_Walk_findLongest {G : aG} {nx : Nat} {h h0 : Nat → Option aC} {hs : HSt} {ad : AD} {A : Nat → Nat} {most : Nat} {fl : WFl} {L L2 : List Nat} {ar : Nat → Nat → Int32} {n : Nat} (hm : WkF h0 h hs ad A most fl L L2 ar n) (hv : VH hs) (hC : CHT hs L ar) (hal2 : hall hs ≤ most) : AMet G m_Walk_findLongest 7 0 0 [.ref (A 0)] (nx, h) (fun r w => r = some (.int (lng hs)) ∧ ∃ h2 L9 ar9, w = (nx, h2) ∧ WkF h0 h2 hs ad A most fl L L9 ar9 n ∧ ∀ k, k ≠ 1 → k ≠ 2 → ar9 k = ar k) := by
  have hp12 := hv.1.1
  have hs24 := hv.2.1
  have hall2 := hv.2.2.2.2.2.2.2
  have hmo := hm.mst
  have hLl := hC.len hv
  have hst := hsta_lt hv
  have hap := hall_pos hv
  have hLc : L.length = ctn (rch hs) (hall hs) := len_eq hC.1 (fun c => by rw [hC.2.1 c]; exact ⟨fun q => ⟨q.lt hv, rcs_iff.mpr q⟩, fun q => rcs_iff.mp q.2⟩)
  refine amet_of pf_Walk_findLongest (Nat.le_of_ble_eq_true rfl) ?_
  show AW G m_Walk_findLongest 7 0 0 _ 0 [(0, .ref (A 0))] [] (nx, h) 0 0
  refine aw_aload_n (i := 0) d_Walk_findLongest_0 rfl rfl ?_
  apply aw_callv d_Walk_findLongest_1 cl_Walk_178 (c_Walk_countArrivals hm hv hC hal2); exact hm.2.2.1.1; rfl; rfl; rfl; rfl; decide; exact (Nat.le_refl _); exact (Nat.le_refl _); exact Nat.le_of_ble_eq_true rfl
  rintro _ _ ⟨rfl, h2, ar1, rfl, hm, har1, htl⟩
  refine aw_aload_n (i := 0) d_Walk_findLongest_4 rfl rfl ?_
  apply aw_get d_Walk_findLongest_5 fl_Walk_44; exact hm.2.2.1.1; rfl
  refine aw_iconst (v := nI 0) d_Walk_findLongest_8 (by decide) ?_
  apply aw_calls_q (c_Arr_fill2 hm.a2 (by omega) (nI 0)) d_Walk_findLongest_9 cl_Walk_181; rfl; rfl; decide; exact Nat.le_of_ble_eq_true rfl; exact (Nat.le_refl _); exact (Nat.le_refl _)
  refine aw_nm hm.a2 ?_
  intro h1 e1_ f1_ o1_
  have hm := hm.s2 hv e1_ f1_
  have har2 : ∀ k, k ≠ 1 → k ≠ 2 → ups ar1 2 (fl0 (nI 0) (ar1 2) most) k = ar k := fun k h1 h2 => (ups_n h2).trans (har1 k h1)
  have hz9 : ∀ t, t < hall hs → ups ar1 2 (fl0 (nI 0) (ar1 2) most) 1 t = nI ((kz hs).2.1 t) ∧ ups ar1 2 (fl0 (nI 0) (ar1 2) most) 2 t = nI ((kz hs).2.2 t) := fun t ht => ⟨htl t ht, fl0_in (show t < most by omega)⟩
  refine aw_aload_n (i := 0) d_Walk_findLongest_12 rfl rfl ?_
  apply aw_get d_Walk_findLongest_13 fl_Walk_38; exact hm.2.2.1.1; rfl
  apply aw_callv d_Walk_findLongest_16 cl_Walk_64 (c_Line_begin hm.Ll); exact hm.Ll.ob.choose_spec; rfl; rfl; rfl; rfl; decide; exact (Nat.le_refl _); exact (Nat.le_refl _); exact Nat.le_of_ble_eq_true rfl
  rintro _ _ ⟨rfl, h2, rfl, hl2, fr2⟩
  have hm := hm.line hv hl2 fr2
  refine aw_aload_n (i := 0) d_Walk_findLongest_19 rfl rfl ?_
  refine aw_aload_n (i := 0) d_Walk_findLongest_20 rfl rfl ?_
  apply aw_get d_Walk_findLongest_21 fl_Walk_9; exact hm.2.2.1.1; rfl
  rw [hm.2.1]
  apply aw_get d_Walk_findLongest_24 fl_Walk_67; exact hm.1.1; rfl
  apply aw_callv_p (w_fits hm hv (c := hsta hs) (by omega)) d_Walk_findLongest_27 cl_Walk_82; exact hm.2.2.1.1; rfl; rfl; rfl; rfl; decide; exact Nat.le_of_ble_eq_true rfl; exact (Nat.le_refl _); exact (Nat.le_refl _)
  refine aw_if_eq d_Walk_findLongest_30 (fun br30_ => absurd br30_ (by decide)) (fun br30_ => ?_)
  refine aw_aload_n (i := 0) d_Walk_findLongest_33 rfl rfl ?_
  apply aw_get d_Walk_findLongest_34 fl_Walk_41; exact hm.2.2.1.1; rfl
  refine aw_aload_n (i := 0) d_Walk_findLongest_37 rfl rfl ?_
  apply aw_get d_Walk_findLongest_38 fl_Walk_9; exact hm.2.2.1.1; rfl
  rw [hm.2.1]
  apply aw_get d_Walk_findLongest_41 fl_Walk_67; exact hm.1.1; rfl
  apply ci_ld d_Walk_findLongest_44; exact hm.a1; (have := hm.mst; omega); omega; exact htl _ hst
  refine aw_ifN_ne d_Walk_findLongest_45 (by have := colc_bd (hs := hs) (rch hs) (hsta hs) (hall hs); have : hall hs * hs.2.1.length ≤ 20000 * 24 := Nat.mul_le_mul hall2 hs24; omega) (fun br45_ => ?_) (fun br45_ => ?_)
  · skip
    have hL0 : [] = (kS hs 0).1.1 := by show _ = (if _ then _ else _ : List Nat); rw [if_neg br45_]
    refine aw_iconst (v := nI 0) d_Walk_findLongest_62 (by decide) ?_
    refine aw_istore_n (i := 1) (lv2 := [(0, _), (1, _)]) d_Walk_findLongest_63 rfl (by decide) rfl ?_
    refine aw_iconst (v := nI 0) d_Walk_findLongest_64 (by decide) ?_
    refine aw_istore_n (i := 2) (lv2 := [(0, _), (1, _), (2, _)]) d_Walk_findLongest_65 rfl (by decide) rfl ?_
    show AW G m_Walk_findLongest 7 0 0 _ 66 [(0, .ref (A 0)), (1, .int (nI (kS hs 0).2)), (2, .int (nI 0))] [] (nx, _) 0 0
    refine Nat.strongRecOn (motive := fun m => ∀ (h1 : Nat → Option aC) (L9 : List Nat) (ar9 : Nat → Nat → Int32) (k : Nat), (WkF h0 h1 hs ad A most fl L L9 ar9 n ∧ (∀ k, k ≠ 1 → k ≠ 2 → ar9 k = ar k) ∧ KRc hs ar9 L9 (kS hs k).1 ∧ (k = 0 ∨ ∃ m, k = m + 1 ∧ m < (kS hs m).1.1.length) ∧ k ≤ hall hs ∧ m = hall hs - k) → AW G m_Walk_findLongest 7 0 0 _ 66 [(0, .ref (A 0)), (1, .int (nI (kS hs k).2)), (2, .int (nI k))] [] (nx, h1) 0 0) (hall hs - 0) (fun m ih => ?_) _ _ _ 0 ⟨hm, har2, ⟨hL0, hz9⟩, Or.inl rfl, Nat.zero_le _, rfl⟩
    intro h1 L9 ar9 k hI
    obtain ⟨hm, har, hR, hkp, hkl, hme⟩ := hI
    have hKI := kS_I hv k hkp
    have hln := hKI.len
    have hbd := kS_bd hv k
    refine aw_iload_n (i := 2) d_Walk_findLongest_66 rfl rfl ?_
    refine aw_aload_n (i := 0) d_Walk_findLongest_67 rfl rfl ?_
    apply aw_get d_Walk_findLongest_68 fl_Walk_38; exact hm.2.2.1.1; rfl
    refine li_size hm.Ll d_Walk_findLongest_71 fl_Walk_75 ?_
    rw [hR.1]
    refine aw_icmpN_ge d_Walk_findLongest_74 (by omega) (by omega) (fun br74_ => ?_) (fun br74_ => ?_)
    · skip
      have hlg := lng_at hv br74_ hkl
      refine aw_aload_n (i := 0) d_Walk_findLongest_130 rfl rfl ?_
      apply aw_get d_Walk_findLongest_131 fl_Walk_38; exact hm.2.2.1.1; rfl
      refine li_size hm.Ll d_Walk_findLongest_134 fl_Walk_75 ?_
      rw [hR.1]
      refine aw_aload_n (i := 0) d_Walk_findLongest_137 rfl rfl ?_
      apply aw_get d_Walk_findLongest_138 fl_Walk_30; exact hm.2.2.1.1; rfl
      refine li_size hm.Lr d_Walk_findLongest_141 fl_Walk_75 ?_
      refine aw_icmpN_ne d_Walk_findLongest_144 (by omega) (by omega) (fun br144_ => ?_) (fun br144_ => ?_)
      · skip
        have hr_ : lng hs = -2 := by rw [hlg, ← hLc, if_neg br144_]
        refine aw_bipush (v := -2) d_Walk_findLongest_151 (by decide) ?_
        refine aw_iret d_Walk_findLongest_153 rfl (Nat.le_refl _) (Nat.le_refl _) ?_
        exact ⟨by rw [hr_], _, L9, ar9, rfl, hm, har⟩
      · skip
        have hr_ : lng hs = nI (kS hs k).2 := by rw [hlg, ← hLc, if_pos br144_]
        refine aw_iload_n (i := 1) d_Walk_findLongest_147 rfl rfl ?_
        refine aw_goto d_Walk_findLongest_148 ?_
        refine aw_iret d_Walk_findLongest_153 rfl (Nat.le_refl _) (Nat.le_refl _) ?_
        exact ⟨by rw [hr_], _, L9, ar9, rfl, hm, har⟩
    · skip
      have hmem : (kS hs k).1.1.getD k 0 ∈ (kS hs k).1.1 := by rw [gDx br74_]; exact List.getElem_mem br74_
      have hcl := (hKI.2.1 _ hmem).1
      have hbc := hbd.1 ((kS hs k).1.1.getD k 0)
      have hop9 : ar9 0 ((kS hs k).1.1.getD k 0) = nI (opb hs ((kS hs k).1.1.getD k 0)) := by rw [har 0 (by decide) (by decide)]; exact hC.2.2 _ ((hC.2.1 _).mpr (rcs_iff.mp (hKI.2.1 _ hmem).2))
      refine aw_iload_n (i := 2) d_Walk_findLongest_77 rfl rfl ?_
      refine aw_aload_n (i := 0) d_Walk_findLongest_78 rfl rfl ?_
      apply aw_get d_Walk_findLongest_79 fl_Walk_21; exact hm.2.2.1.1; rfl
      refine aw_icmp_ge d_Walk_findLongest_82 (fun br82_ => absurd br82_ (nI_ge (show k < most by omega) (by omega))) (fun br82_ => ?_)
      refine aw_aload_n (i := 0) d_Walk_findLongest_85 rfl rfl ?_
      apply aw_get d_Walk_findLongest_86 fl_Walk_38; exact hm.2.2.1.1; rfl
      refine aw_iload_n (i := 2) d_Walk_findLongest_89 rfl rfl ?_
      apply aw_callv_p (c_Line_codeAt hm.Ll (i := k) (by rw [hR.1]; exact br74_)) d_Walk_findLongest_90 cl_Walk_78; exact hm.Ll.ob.choose_spec; rfl; rfl; rfl; rfl; decide; exact Nat.le_of_ble_eq_true rfl; exact (Nat.le_refl _); exact (Nat.le_refl _)
      rw [show L9[k]'(by rw [hR.1]; exact br74_) = (kS hs k).1.1.getD k 0 from by rw [gDx br74_]; congr 1; exact hR.1]
      refine aw_istore_n (i := 3) (lv2 := [(0, _), (1, _), (2, _), (3, _)]) d_Walk_findLongest_93 rfl (by decide) rfl ?_
      refine aw_aload_n (i := 0) d_Walk_findLongest_94 rfl rfl ?_
      refine aw_iload_n (i := 3) d_Walk_findLongest_95 rfl rfl ?_
      apply aw_callv_p (w_fits hm hv (c := (kS hs k).1.1.getD k 0) (by omega)) d_Walk_findLongest_96 cl_Walk_82; exact hm.2.2.1.1; rfl; rfl; rfl; rfl; decide; exact Nat.le_of_ble_eq_true rfl; exact (Nat.le_refl _); exact (Nat.le_refl _)
      refine aw_if_eq d_Walk_findLongest_99 (fun br99_ => absurd br99_ (by decide)) (fun br99_ => ?_)
      refine aw_iload_n (i := 1) d_Walk_findLongest_102 rfl rfl ?_
      refine aw_aload_n (i := 0) d_Walk_findLongest_103 rfl rfl ?_
      apply aw_get d_Walk_findLongest_104 fl_Walk_44; exact hm.2.2.1.1; rfl
      refine aw_iload_n (i := 3) d_Walk_findLongest_107 rfl rfl ?_
      apply ci_ld d_Walk_findLongest_108; exact hm.a2; (have := hm.mst; omega); omega; exact (hR.2 _ hcl).2
      apply aw_calls_p (c_Math_max_nI (kS hs k).2 ((kS hs k).1.2.2 ((kS hs k).1.1.getD k 0)) (by omega) (by omega)) d_Walk_findLongest_109 cl_Walk_15; rfl; rfl; decide; exact Nat.le_of_ble_eq_true rfl; exact (Nat.le_refl _); exact (Nat.le_refl _)
      refine aw_istore_n (i := 1) (lv2 := [(0, _), (1, _), (2, _), (3, _)]) d_Walk_findLongest_112 rfl (by decide) rfl ?_
      refine aw_aload_n (i := 0) d_Walk_findLongest_113 rfl rfl ?_
      refine aw_iload_n (i := 3) d_Walk_findLongest_114 rfl rfl ?_
      refine aw_aload_n (i := 0) d_Walk_findLongest_115 rfl rfl ?_
      apply aw_get d_Walk_findLongest_116 fl_Walk_44; exact hm.2.2.1.1; rfl
      refine aw_iload_n (i := 3) d_Walk_findLongest_119 rfl rfl ?_
      apply ci_ld d_Walk_findLongest_120; exact hm.a2; (have := hm.mst; omega); omega; exact (hR.2 _ hcl).2
      apply aw_callv d_Walk_findLongest_121 cl_Walk_187 (c_Walk_arriveFrom hm hv (c := (kS hs k).1.1.getD k 0) (sum := (kS hs k).1.2.2 ((kS hs k).1.1.getD k 0)) (k9 := k) (st := (kS hs k).1) hcl hal2 hop9 hKI br74_ rfl hR hbd.1 (hbd.1 _) (by omega)); exact hm.2.2.1.1; rfl; rfl; rfl; rfl; decide; exact (Nat.le_refl _); exact (Nat.le_refl _); exact Nat.le_of_ble_eq_true rfl
      rintro _ _ ⟨rfl, h2, L3, ar3, rfl, hm3, har3, hR3⟩
      refine aw_iincN (lv2 := [(0, _), (1, _), (2, _), (3, _)]) d_Walk_findLongest_124 (by decide) rfl rfl ?_
      refine aw_goto d_Walk_findLongest_127 ?_
      refine aw_drop (lv2 := [(0, _), (1, _), (2, _)]) [0, 1, 2] rfl ?_
      have k9 := ih (hall hs - (k + 1)) (by omega) _ L3 ar3 (k + 1) ⟨hm3, fun q h1 h2 => (har3 q h1 h2).trans (har q h1 h2), by rw [kS_s br74_]; exact hR3, Or.inr ⟨k, rfl, br74_⟩, by omega, rfl⟩
      rw [kS_s br74_] at k9
      exact k9
  · skip
    refine aw_aload_n (i := 0) d_Walk_findLongest_48 rfl rfl ?_
    apply aw_get d_Walk_findLongest_49 fl_Walk_38; exact hm.2.2.1.1; rfl
    refine aw_aload_n (i := 0) d_Walk_findLongest_52 rfl rfl ?_
    apply aw_get d_Walk_findLongest_53 fl_Walk_9; exact hm.2.2.1.1; rfl
    rw [hm.2.1]
    apply aw_get d_Walk_findLongest_56 fl_Walk_67; exact hm.1.1; rfl
    apply aw_callv d_Walk_findLongest_59 cl_Walk_72 (c_Line_join hm.Ll (c := hsta hs) (by omega)); exact hm.Ll.ob.choose_spec; rfl; rfl; rfl; rfl; decide; exact (Nat.le_refl _); exact (Nat.le_refl _); exact Nat.le_of_ble_eq_true rfl
    rintro _ _ ⟨rfl, h2, rfl, hl2, fr2⟩
    have hm := hm.line hv hl2 fr2
    rw [if_neg (fun q => q.elim (fun z => by cases z) (fun z => by simp at z; omega)), List.nil_append] at hm
    have hL0 : [hsta hs] = (kS hs 0).1.1 := by show _ = (if _ then _ else _ : List Nat); rw [if_pos br45_]
    refine aw_iconst (v := nI 0) d_Walk_findLongest_62 (by decide) ?_
    refine aw_istore_n (i := 1) (lv2 := [(0, _), (1, _)]) d_Walk_findLongest_63 rfl (by decide) rfl ?_
    refine aw_iconst (v := nI 0) d_Walk_findLongest_64 (by decide) ?_
    refine aw_istore_n (i := 2) (lv2 := [(0, _), (1, _), (2, _)]) d_Walk_findLongest_65 rfl (by decide) rfl ?_
    show AW G m_Walk_findLongest 7 0 0 _ 66 [(0, .ref (A 0)), (1, .int (nI (kS hs 0).2)), (2, .int (nI 0))] [] (nx, _) 0 0
    refine Nat.strongRecOn (motive := fun m => ∀ (h1 : Nat → Option aC) (L9 : List Nat) (ar9 : Nat → Nat → Int32) (k : Nat), (WkF h0 h1 hs ad A most fl L L9 ar9 n ∧ (∀ k, k ≠ 1 → k ≠ 2 → ar9 k = ar k) ∧ KRc hs ar9 L9 (kS hs k).1 ∧ (k = 0 ∨ ∃ m, k = m + 1 ∧ m < (kS hs m).1.1.length) ∧ k ≤ hall hs ∧ m = hall hs - k) → AW G m_Walk_findLongest 7 0 0 _ 66 [(0, .ref (A 0)), (1, .int (nI (kS hs k).2)), (2, .int (nI k))] [] (nx, h1) 0 0) (hall hs - 0) (fun m ih => ?_) _ _ _ 0 ⟨hm, har2, ⟨hL0, hz9⟩, Or.inl rfl, Nat.zero_le _, rfl⟩
    intro h1 L9 ar9 k hI
    obtain ⟨hm, har, hR, hkp, hkl, hme⟩ := hI
    have hKI := kS_I hv k hkp
    have hln := hKI.len
    have hbd := kS_bd hv k
    refine aw_iload_n (i := 2) d_Walk_findLongest_66 rfl rfl ?_
    refine aw_aload_n (i := 0) d_Walk_findLongest_67 rfl rfl ?_
    apply aw_get d_Walk_findLongest_68 fl_Walk_38; exact hm.2.2.1.1; rfl
    refine li_size hm.Ll d_Walk_findLongest_71 fl_Walk_75 ?_
    rw [hR.1]
    refine aw_icmpN_ge d_Walk_findLongest_74 (by omega) (by omega) (fun br74_ => ?_) (fun br74_ => ?_)
    · skip
      have hlg := lng_at hv br74_ hkl
      refine aw_aload_n (i := 0) d_Walk_findLongest_130 rfl rfl ?_
      apply aw_get d_Walk_findLongest_131 fl_Walk_38; exact hm.2.2.1.1; rfl
      refine li_size hm.Ll d_Walk_findLongest_134 fl_Walk_75 ?_
      rw [hR.1]
      refine aw_aload_n (i := 0) d_Walk_findLongest_137 rfl rfl ?_
      apply aw_get d_Walk_findLongest_138 fl_Walk_30; exact hm.2.2.1.1; rfl
      refine li_size hm.Lr d_Walk_findLongest_141 fl_Walk_75 ?_
      refine aw_icmpN_ne d_Walk_findLongest_144 (by omega) (by omega) (fun br144_ => ?_) (fun br144_ => ?_)
      · skip
        have hr_ : lng hs = -2 := by rw [hlg, ← hLc, if_neg br144_]
        refine aw_bipush (v := -2) d_Walk_findLongest_151 (by decide) ?_
        refine aw_iret d_Walk_findLongest_153 rfl (Nat.le_refl _) (Nat.le_refl _) ?_
        exact ⟨by rw [hr_], _, L9, ar9, rfl, hm, har⟩
      · skip
        have hr_ : lng hs = nI (kS hs k).2 := by rw [hlg, ← hLc, if_pos br144_]
        refine aw_iload_n (i := 1) d_Walk_findLongest_147 rfl rfl ?_
        refine aw_goto d_Walk_findLongest_148 ?_
        refine aw_iret d_Walk_findLongest_153 rfl (Nat.le_refl _) (Nat.le_refl _) ?_
        exact ⟨by rw [hr_], _, L9, ar9, rfl, hm, har⟩
    · skip
      have hmem : (kS hs k).1.1.getD k 0 ∈ (kS hs k).1.1 := by rw [gDx br74_]; exact List.getElem_mem br74_
      have hcl := (hKI.2.1 _ hmem).1
      have hbc := hbd.1 ((kS hs k).1.1.getD k 0)
      have hop9 : ar9 0 ((kS hs k).1.1.getD k 0) = nI (opb hs ((kS hs k).1.1.getD k 0)) := by rw [har 0 (by decide) (by decide)]; exact hC.2.2 _ ((hC.2.1 _).mpr (rcs_iff.mp (hKI.2.1 _ hmem).2))
      refine aw_iload_n (i := 2) d_Walk_findLongest_77 rfl rfl ?_
      refine aw_aload_n (i := 0) d_Walk_findLongest_78 rfl rfl ?_
      apply aw_get d_Walk_findLongest_79 fl_Walk_21; exact hm.2.2.1.1; rfl
      refine aw_icmp_ge d_Walk_findLongest_82 (fun br82_ => absurd br82_ (nI_ge (show k < most by omega) (by omega))) (fun br82_ => ?_)
      refine aw_aload_n (i := 0) d_Walk_findLongest_85 rfl rfl ?_
      apply aw_get d_Walk_findLongest_86 fl_Walk_38; exact hm.2.2.1.1; rfl
      refine aw_iload_n (i := 2) d_Walk_findLongest_89 rfl rfl ?_
      apply aw_callv_p (c_Line_codeAt hm.Ll (i := k) (by rw [hR.1]; exact br74_)) d_Walk_findLongest_90 cl_Walk_78; exact hm.Ll.ob.choose_spec; rfl; rfl; rfl; rfl; decide; exact Nat.le_of_ble_eq_true rfl; exact (Nat.le_refl _); exact (Nat.le_refl _)
      rw [show L9[k]'(by rw [hR.1]; exact br74_) = (kS hs k).1.1.getD k 0 from by rw [gDx br74_]; congr 1; exact hR.1]
      refine aw_istore_n (i := 3) (lv2 := [(0, _), (1, _), (2, _), (3, _)]) d_Walk_findLongest_93 rfl (by decide) rfl ?_
      refine aw_aload_n (i := 0) d_Walk_findLongest_94 rfl rfl ?_
      refine aw_iload_n (i := 3) d_Walk_findLongest_95 rfl rfl ?_
      apply aw_callv_p (w_fits hm hv (c := (kS hs k).1.1.getD k 0) (by omega)) d_Walk_findLongest_96 cl_Walk_82; exact hm.2.2.1.1; rfl; rfl; rfl; rfl; decide; exact Nat.le_of_ble_eq_true rfl; exact (Nat.le_refl _); exact (Nat.le_refl _)
      refine aw_if_eq d_Walk_findLongest_99 (fun br99_ => absurd br99_ (by decide)) (fun br99_ => ?_)
      refine aw_iload_n (i := 1) d_Walk_findLongest_102 rfl rfl ?_
      refine aw_aload_n (i := 0) d_Walk_findLongest_103 rfl rfl ?_
      apply aw_get d_Walk_findLongest_104 fl_Walk_44; exact hm.2.2.1.1; rfl
      refine aw_iload_n (i := 3) d_Walk_findLongest_107 rfl rfl ?_
      apply ci_ld d_Walk_findLongest_108; exact hm.a2; (have := hm.mst; omega); omega; exact (hR.2 _ hcl).2
      apply aw_calls_p (c_Math_max_nI (kS hs k).2 ((kS hs k).1.2.2 ((kS hs k).1.1.getD k 0)) (by omega) (by omega)) d_Walk_findLongest_109 cl_Walk_15; rfl; rfl; decide; exact Nat.le_of_ble_eq_true rfl; exact (Nat.le_refl _); exact (Nat.le_refl _)
      refine aw_istore_n (i := 1) (lv2 := [(0, _), (1, _), (2, _), (3, _)]) d_Walk_findLongest_112 rfl (by decide) rfl ?_
      refine aw_aload_n (i := 0) d_Walk_findLongest_113 rfl rfl ?_
      refine aw_iload_n (i := 3) d_Walk_findLongest_114 rfl rfl ?_
      refine aw_aload_n (i := 0) d_Walk_findLongest_115 rfl rfl ?_
      apply aw_get d_Walk_findLongest_116 fl_Walk_44; exact hm.2.2.1.1; rfl
      refine aw_iload_n (i := 3) d_Walk_findLongest_119 rfl rfl ?_
      apply ci_ld d_Walk_findLongest_120; exact hm.a2; (have := hm.mst; omega); omega; exact (hR.2 _ hcl).2
      apply aw_callv d_Walk_findLongest_121 cl_Walk_187 (c_Walk_arriveFrom hm hv (c := (kS hs k).1.1.getD k 0) (sum := (kS hs k).1.2.2 ((kS hs k).1.1.getD k 0)) (k9 := k) (st := (kS hs k).1) hcl hal2 hop9 hKI br74_ rfl hR hbd.1 (hbd.1 _) (by omega)); exact hm.2.2.1.1; rfl; rfl; rfl; rfl; decide; exact (Nat.le_refl _); exact (Nat.le_refl _); exact Nat.le_of_ble_eq_true rfl
      rintro _ _ ⟨rfl, h2, L3, ar3, rfl, hm3, har3, hR3⟩
      refine aw_iincN (lv2 := [(0, _), (1, _), (2, _), (3, _)]) d_Walk_findLongest_124 (by decide) rfl rfl ?_
      refine aw_goto d_Walk_findLongest_127 ?_
      refine aw_drop (lv2 := [(0, _), (1, _), (2, _)]) [0, 1, 2] rfl ?_
      have k9 := ih (hall hs - (k + 1)) (by omega) _ L3 ar3 (k + 1) ⟨hm3, fun q h1 h2 => (har3 q h1 h2).trans (har q h1 h2), by rw [kS_s br74_]; exact hR3, Or.inr ⟨k, rfl, br74_⟩, by omega, rfl⟩
      rw [kS_s br74_] at k9
      exact k9

set_option maxHeartbeats 4000000 in
set_option maxRecDepth 20000 in
theorem c_Walk_longestSumB {G : aG} {nx : Nat} {h h0 : Nat → Option aC} {hs : HSt} {ad : AD} {A : Nat → Nat} {most : Nat} {fl : WFl} {L L2 : List Nat} {ar : Nat → Nat → Int32} {n : Nat} (hm : WkF h0 h hs ad A most fl L L2 ar n) (hv : VH hs) (hfl : fl.2.2.1 = false) (hC : CHT hs L ar) (hal2 : hall hs ≤ most) : AMet G m_Walk_longestSum 8 0 0 [.ref (A 0)] (nx, h) (fun r w => r = some (.int (lng hs)) ∧ ∃ h2 L9 ar9, w = (nx, h2) ∧ WkF h0 h2 hs ad A most (fl.1, fl.2.1, true, lng hs) L L9 ar9 n ∧ ∀ k, k ≠ 1 → k ≠ 2 → ar9 k = ar k) := by
  have hp12 := hv.1.1
  have hs24 := hv.2.1
  have hall2 := hv.2.2.2.2.2.2.2
  have hmo := hm.mst
  refine amet_of pf_Walk_longestSum (Nat.le_of_ble_eq_true rfl) ?_
  show AW G m_Walk_longestSum 8 0 0 _ 0 [(0, .ref (A 0))] [] (nx, h) 0 0
  refine aw_aload_n (i := 0) d_Walk_longestSum_0 rfl rfl ?_
  apply aw_get d_Walk_longestSum_1 fl_Walk_61; exact hm.2.2.1.1; rfl
  refine aw_if_ne d_Walk_longestSum_4 (fun br4_ => absurd (show bI fl.2.2.1 = 0 by rw [hfl]; rfl) br4_) (fun br4_ => ?_)
  refine aw_aload_n (i := 0) d_Walk_longestSum_7 rfl rfl ?_
  refine aw_aload_n (i := 0) d_Walk_longestSum_8 rfl rfl ?_
  apply aw_callv d_Walk_longestSum_9 cl_Walk_172 (c_Walk_findLongest hm hv hC hal2); exact hm.2.2.1.1; rfl; rfl; rfl; rfl; decide; exact (Nat.le_refl _); exact (Nat.le_refl _); exact Nat.le_of_ble_eq_true rfl
  rintro _ _ ⟨rfl, h2, L9, ar9, rfl, hm, har⟩
  show AW G m_Walk_longestSum 8 0 0 _ 12 _ (.int (lng hs) :: .ref (A 0) :: []) _ 0 0
  apply aw_put d_Walk_longestSum_12 pl_Walk_175; exact hm.2.2.1.1; exact Nat.le_of_ble_eq_true rfl; rfl; rfl
  refine aw_nm hm.2.2.1.1 ?_
  intro h1 e1_ f1_ o1_
  have hm := hm.flg (fl2 := (fl.1, fl.2.1, fl.2.2.1, lng hs)) hv e1_ f1_
  refine aw_aload_n (i := 0) d_Walk_longestSum_15 rfl rfl ?_
  refine aw_iconst (v := nI 1) d_Walk_longestSum_16 (by decide) ?_
  apply aw_put d_Walk_longestSum_17 pl_Walk_61; exact hm.2.2.1.1; exact Nat.le_of_ble_eq_true rfl; rfl; rfl
  refine aw_nm hm.2.2.1.1 ?_
  intro h1 e1_ f1_ o1_
  have hm := hm.flg (fl2 := (fl.1, fl.2.1, true, lng hs)) hv e1_ f1_
  refine aw_aload_n (i := 0) d_Walk_longestSum_20 rfl rfl ?_
  apply aw_get d_Walk_longestSum_21 fl_Walk_175; exact hm.2.2.1.1; rfl
  refine aw_iret d_Walk_longestSum_24 rfl (Nat.le_refl _) (Nat.le_refl _) ?_
  exact ⟨rfl, _, L9, ar9, rfl, hm, har⟩

set_option maxHeartbeats 4000000 in
set_option maxRecDepth 20000 in
theorem c_Walk_longestSumA {G : aG} {nx : Nat} {h h0 : Nat → Option aC} {hs : HSt} {ad : AD} {A : Nat → Nat} {most : Nat} {fl : WFl} {L L2 : List Nat} {ar : Nat → Nat → Int32} {n : Nat} (hm : WkF h0 h hs ad A most fl L L2 ar n) (hv : VH hs) (hfl : fl.2.2.1 = true) : AMet G m_Walk_longestSum 8 0 0 [.ref (A 0)] (nx, h) (RV (.int fl.2.2.2) (nx, h)) := by
  have hp12 := hv.1.1
  have hs24 := hv.2.1
  have hall2 := hv.2.2.2.2.2.2.2
  have hmo := hm.mst
  refine amet_of pf_Walk_longestSum (Nat.le_of_ble_eq_true rfl) ?_
  show AW G m_Walk_longestSum 8 0 0 _ 0 [(0, .ref (A 0))] [] (nx, h) 0 0
  refine aw_aload_n (i := 0) d_Walk_longestSum_0 rfl rfl ?_
  apply aw_get d_Walk_longestSum_1 fl_Walk_61; exact hm.2.2.1.1; rfl
  refine aw_if_ne d_Walk_longestSum_4 (fun br4_ => ?_) (fun br4_ => absurd br4_ (show ¬ bI fl.2.2.1 = 0 by rw [hfl]; decide))
  refine aw_aload_n (i := 0) d_Walk_longestSum_20 rfl rfl ?_
  apply aw_get d_Walk_longestSum_21 fl_Walk_175; exact hm.2.2.1.1; rfl
  refine aw_iret d_Walk_longestSum_24 rfl (Nat.le_refl _) (Nat.le_refl _) ?_
  exact ⟨rfl, rfl⟩

