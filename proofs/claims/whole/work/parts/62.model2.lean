def cnt {α : Type} (p : α → Bool) (l : List α) : Nat := (l.filter p).length
theorem cnt_take {α : Type} (p : α → Bool) (l : List α) (i : Nat) (hi : i < l.length) : cnt p (l.take (i + 1)) = cnt p (l.take i) + (if p l[i] then 1 else 0) := by
  unfold cnt
  rw [List.take_succ_eq_append_getElem hi, List.filter_append, List.length_append]
  cases h : p l[i] <;> simp [h]
theorem cnt_le {α : Type} (p : α → Bool) (l : List α) : cnt p l ≤ l.length := List.length_filter_le p l
theorem cnt_all {α : Type} (p : α → Bool) : ∀ (l : List α), cnt p l = l.length ↔ l.all p = true
  | [] => by simp [cnt]
  | x :: t => by
    have ih := cnt_all p t
    have hle := cnt_le p t
    unfold cnt at ih hle ⊢
    cases h : p x
    · simp [h]; omega
    · simp [h]
theorem cnt_any {α : Type} (p : α → Bool) : ∀ (l : List α), 0 < cnt p l ↔ l.any p = true
  | [] => by simp [cnt]
  | x :: t => by
    have ih := cnt_any p t
    unfold cnt at ih ⊢
    cases h : p x
    · simp [h]
    · simp [h]
theorem dg_sds_ne {ps : List PSt} (hv : VP ps) {p : Nat} : ∀ (prs : Prs) (c : Nat), VPr ps prs → (∀ q ∈ prs, q.1 ≠ p) → dg (pks ps) (sds (pks ps) c prs) p = dg (pks ps) c p
  | [], _, _, _ => rfl
  | q :: t, c, hr, hn => by
    have h1 := hr q List.mem_cons_self
    simp only [sds]
    rw [dg_sds_ne hv t _ (fun x hx => hr x (List.mem_cons_of_mem _ hx)) (fun x hx => hn x (List.mem_cons_of_mem _ hx)), dg_sd c q.1 q.2 p (by rw [pk_len]; exact h1.1) hv.pos (by rw [pk_at h1.1]; exact h1.2), if_neg (fun e => hn q List.mem_cons_self e.symm)]
theorem nd_take {prs : Prs} (hn : (prs.map (fun p => p.1)).Nodup) {i : Nat} (hi : i < prs.length) : ∀ q ∈ prs.take i, q.1 ≠ prs[i].1 := by
  intro q hq e
  obtain ⟨k, hk, rfl⟩ := List.getElem_of_mem hq
  have hk2 : k < i := by simp at hk; omega
  rw [List.getElem_take] at e
  have h1 : (prs.map (fun p => p.1))[k]'(by simp; omega) = (prs.map (fun p => p.1))[i]'(by simpa using hi) := by simpa using e
  exact (List.pairwise_iff_getElem.mp hn k i (by simp; omega) (by simpa using hi) hk2) h1
set_option maxHeartbeats 4000000 in
set_option maxRecDepth 20000 in
theorem c_Mod_hasNeeds {G : aG} {nx : Nat} {h : Nat → Option aC} {a : Nat} {A : Nat → Nat} {sc : Nat → Int32} {ar : Nat → Nat → Int32} (hm : MoS h a A sc ar) {hs : HSt} (hh : MoH sc ar hs) (hw : MoW sc ar hs) (hv : VH hs) {c j : Nat} (hc : c < 2 ^ 31) (hj : j < hs.2.1.length) : AMet G m_Mod_hasNeeds 1 0 0 [.ref a, .int (nI c), .int (nI j)] (nx, h) (RV (.int (bI (nds hs c j))) (nx, h)) := by
  have hp12 := hv.1.1
  have hs24 := hv.2.1
  have hall2 := hv.2.2.2.2.2.2.2
  have hvs := hv.s hj
  have hvk : (hs.2.1.getD j sz0).1 ≤ 3 := hvs.1
  have hvh : (hs.2.1.getD j sz0).2.1 ≤ 9 := hvs.2.2.1
  have hvn : (hs.2.1.getD j sz0).2.2.2.2.1.length ≤ 4 := hvs.2.2.2.2.2.2.1
  have hvg : (hs.2.1.getD j sz0).2.2.2.2.2.length ≤ 4 := hvs.2.2.2.2.2.2.2.2.1
  have hst := hh.2.2.1 j hj
  refine amet_of pf_Mod_hasNeeds (Nat.le_of_ble_eq_true rfl) ?_
  show AW G m_Mod_hasNeeds 1 0 0 _ 0 [(0, .ref a), (1, .int (nI c)), (2, .int (nI j))] [] (nx, h) 0 0
  refine aw_iconst (v := 0) d_Mod_hasNeeds_0 (by decide) ?_
  refine aw_istore_n (i := 3) (lv2 := [(0, _), (1, _), (2, _), (3, _)]) d_Mod_hasNeeds_1 rfl (by decide) rfl ?_
  refine aw_iconst (v := 4) d_Mod_hasNeeds_2 (by decide) ?_
  refine aw_iload_n (i := 2) d_Mod_hasNeeds_3 rfl rfl ?_
  refine aw_imul d_Mod_hasNeeds_4 ?_
  rw [show (4 : Int32) = nI 4 from rfl, pk_mul]
  refine aw_istore (lv2 := [(0, _), (1, _), (2, _), (3, _), (4, _)]) d_Mod_hasNeeds_5 (by decide) rfl ?_
  have hT0 : AW G m_Mod_hasNeeds 1 0 0 (FQ G 0 0 (RV (.int (bI (nds hs c j))) (nx, h))) 7 [(0, .ref a), (1, .int (nI c)), (2, .int (nI j)), (3, .int (nI (cnt (fun p : Nat × Nat => dg (pks hs.1) c p.1 == p.2) ((hs.2.1.getD j sz0).2.2.2.2.1.take 0)))), (4, .int (nI (4 * j + 0)))] [] (nx, h) 0 0 := ?_
  · exact hT0
  refine upto (σ := Nat) (fun i => AW G m_Mod_hasNeeds 1 0 0 _ 7 [(0, .ref a), (1, .int (nI c)), (2, .int (nI j)), (3, .int (nI (cnt (fun p : Nat × Nat => dg (pks hs.1) c p.1 == p.2) ((hs.2.1.getD j sz0).2.2.2.2.1.take i)))), (4, .int (nI (4 * j + i)))] [] (nx, h) 0 0) (fun i s => s = i) (hs.2.1.getD j sz0).2.2.2.2.1.length ?_ 0 0 (Nat.zero_le _) rfl
  intro i s0 hi hI ih
  subst hI
  refine aw_iload d_Mod_hasNeeds_7 rfl ?_
  refine aw_iconst (v := 4) d_Mod_hasNeeds_9 (by decide) ?_
  refine aw_iload_n (i := 2) d_Mod_hasNeeds_10 rfl rfl ?_
  refine aw_imul d_Mod_hasNeeds_11 ?_
  rw [show (4 : Int32) = nI 4 from rfl, pk_mul]
  refine aw_aload_n (i := 0) d_Mod_hasNeeds_12 rfl rfl ?_
  apply aw_get d_Mod_hasNeeds_13 fl_Mod_28; exact hm.1; rfl
  refine aw_iload_n (i := 2) d_Mod_hasNeeds_16 rfl rfl ?_
  apply aw_iaload d_Mod_hasNeeds_17; exact hm.2.1 _ rfl; exact vp_in_nI (show j < 24 by omega) (by decide)
  rw [nI_clamp (by omega : j < 2 ^ 31), hst.2.2.2.2.1]
  refine aw_iadd d_Mod_hasNeeds_18 ?_
  rw [nI_add]
  refine aw_icmp_ge d_Mod_hasNeeds_19 (fun br19_ => ?_) (fun br19_ => ?_)
  · skip
    have hei : s0 = (hs.2.1.getD j sz0).2.2.2.2.1.length := by
      have := (nI_leI (by omega) (by omega)).mp br19_
      omega
    subst hei
    rw [List.take_length]
    have hcl := cnt_le (fun p : Nat × Nat => dg (pks hs.1) c p.1 == p.2) (hs.2.1.getD j sz0).2.2.2.2.1
    have hca := cnt_all (fun p : Nat × Nat => dg (pks hs.1) c p.1 == p.2) (hs.2.1.getD j sz0).2.2.2.2.1
    have hcy := cnt_any (fun p : Nat × Nat => dg (pks hs.1) c p.1 == p.2) (hs.2.1.getD j sz0).2.2.2.2.1
    refine aw_aload_n (i := 0) d_Mod_hasNeeds_58 rfl rfl ?_
    apply aw_get d_Mod_hasNeeds_59 fl_Mod_16; exact hm.1; rfl
    refine aw_iload_n (i := 2) d_Mod_hasNeeds_62 rfl rfl ?_
    apply aw_iaload d_Mod_hasNeeds_63; exact hm.2.1 _ rfl; exact vp_in_nI (show j < 24 by omega) (by decide)
    rw [nI_clamp (by omega : j < 2 ^ 31), hst.1]
    refine aw_iconst (v := 1) d_Mod_hasNeeds_64 (by decide) ?_
    refine aw_icmp_ne d_Mod_hasNeeds_65 (fun br65_ => ?_) (fun br65_ => ?_)
    · skip
      have hk1 : ¬ (hs.2.1.getD j sz0).1 = 1 := fun e9 => br65_ (by rw [e9]; rfl)
      refine aw_iload_n (i := 3) d_Mod_hasNeeds_89 rfl rfl ?_
      refine aw_aload_n (i := 0) d_Mod_hasNeeds_90 rfl rfl ?_
      apply aw_get d_Mod_hasNeeds_91 fl_Mod_28; exact hm.1; rfl
      refine aw_iload_n (i := 2) d_Mod_hasNeeds_94 rfl rfl ?_
      apply aw_iaload d_Mod_hasNeeds_95; exact hm.2.1 _ rfl; exact vp_in_nI (show j < 24 by omega) (by decide)
      rw [nI_clamp (by omega : j < 2 ^ 31), hst.2.2.2.2.1]
      refine aw_icmp_ne d_Mod_hasNeeds_96 (fun br96_ => ?_) (fun br96_ => ?_)
      · skip
        have hr_ : bI (nds hs c j) = 0 := by
          unfold nds; rw [if_neg hk1, Bool.eq_false_iff.mpr (fun q => br96_ (congrArg nI (hca.mpr q)))]; rfl
        refine aw_iconst (v := 0) d_Mod_hasNeeds_103 (by decide) ?_
        refine aw_zret d_Mod_hasNeeds_104 rfl rfl (Nat.le_refl _) (Nat.le_refl _) ?_
        exact ⟨by rw [hr_], rfl⟩
      · skip
        have hr_ : bI (nds hs c j) = 1 := by
          unfold nds; rw [if_neg hk1, hca.mp ((nI_eq (by omega) (by omega)).mp br96_)]; rfl
        refine aw_iconst (v := 1) d_Mod_hasNeeds_99 (by decide) ?_
        refine aw_goto d_Mod_hasNeeds_100 ?_
        refine aw_zret d_Mod_hasNeeds_104 rfl rfl (Nat.le_refl _) (Nat.le_refl _) ?_
        exact ⟨by rw [hr_], rfl⟩
    · skip
      have hk1 : (hs.2.1.getD j sz0).1 = 1 := (nI_eq (b := 1) (by omega) (by decide)).mp br65_
      refine aw_aload_n (i := 0) d_Mod_hasNeeds_68 rfl rfl ?_
      apply aw_get d_Mod_hasNeeds_69 fl_Mod_28; exact hm.1; rfl
      refine aw_iload_n (i := 2) d_Mod_hasNeeds_72 rfl rfl ?_
      apply aw_iaload d_Mod_hasNeeds_73; exact hm.2.1 _ rfl; exact vp_in_nI (show j < 24 by omega) (by decide)
      rw [nI_clamp (by omega : j < 2 ^ 31), hst.2.2.2.2.1]
      refine aw_if_eq d_Mod_hasNeeds_74 (fun br74_ => ?_) (fun br74_ => ?_)
      · skip
        have hr_ : bI (nds hs c j) = 1 := by
          have h9 : (hs.2.1.getD j sz0).2.2.2.2.1.length = 0 := (nI_eq (b := 0) (by omega) (by decide)).mp br74_
          unfold nds; rw [if_pos hk1, List.isEmpty_iff.mpr (List.eq_nil_of_length_eq_zero h9)]; rfl
        refine aw_iconst (v := 1) d_Mod_hasNeeds_81 (by decide) ?_
        refine aw_goto d_Mod_hasNeeds_82 ?_
        refine aw_zret d_Mod_hasNeeds_104 rfl rfl (Nat.le_refl _) (Nat.le_refl _) ?_
        exact ⟨by rw [hr_], rfl⟩
      · skip
        have hem : (hs.2.1.getD j sz0).2.2.2.2.1.isEmpty = false := by
          apply Bool.eq_false_iff.mpr; intro e9; exact br74_ (by rw [List.isEmpty_iff.mp e9]; rfl)
        refine aw_iload_n (i := 3) d_Mod_hasNeeds_77 rfl rfl ?_
        refine aw_if_le d_Mod_hasNeeds_78 (fun br78_ => ?_) (fun br78_ => ?_)
        · skip
          have hr_ : bI (nds hs c j) = 0 := by
            have h9 : ¬ 0 < cnt (fun p : Nat × Nat => dg (pks hs.1) c p.1 == p.2) (hs.2.1.getD j sz0).2.2.2.2.1 := fun q => absurd br78_ (nI_nle q (by omega))
            unfold nds; rw [if_pos hk1, hem, Bool.eq_false_iff.mpr (fun q => h9 (hcy.mpr q))]; rfl
          refine aw_iconst (v := 0) d_Mod_hasNeeds_85 (by decide) ?_
          refine aw_goto d_Mod_hasNeeds_86 ?_
          refine aw_zret d_Mod_hasNeeds_104 rfl rfl (Nat.le_refl _) (Nat.le_refl _) ?_
          exact ⟨by rw [hr_], rfl⟩
        · skip
          have hr_ : bI (nds hs c j) = 1 := by
            have h9 : 0 < cnt (fun p : Nat × Nat => dg (pks hs.1) c p.1 == p.2) (hs.2.1.getD j sz0).2.2.2.2.1 := Nat.pos_of_ne_zero (fun e9 => br78_ (by rw [e9]; exact Int32.le_refl _))
            unfold nds; rw [if_pos hk1, hem, hcy.mp h9]; rfl
          refine aw_iconst (v := 1) d_Mod_hasNeeds_81 (by decide) ?_
          refine aw_goto d_Mod_hasNeeds_82 ?_
          refine aw_zret d_Mod_hasNeeds_104 rfl rfl (Nat.le_refl _) (Nat.le_refl _) ?_
          exact ⟨by rw [hr_], rfl⟩
  · skip
    have hlt : s0 < (hs.2.1.getD j sz0).2.2.2.2.1.length := by
      have := paB (a := 4 * j + s0) (b := 4 * j + (hs.2.1.getD j sz0).2.2.2.2.1.length) (by omega) (by omega) br19_
      omega
    have hpr := hvs.2.2.2.2.2.2.2.1 _ (List.getElem_mem hlt)
    have hne := hst.2.2.2.2.2.1 s0 hlt
    have hat := cnt_take (fun p : Nat × Nat => dg (pks hs.1) c p.1 == p.2) (hs.2.1.getD j sz0).2.2.2.2.1 s0 hlt
    have hcl := cnt_le (fun p : Nat × Nat => dg (pks hs.1) c p.1 == p.2) ((hs.2.1.getD j sz0).2.2.2.2.1.take s0)
    have hcl2 : ((hs.2.1.getD j sz0).2.2.2.2.1.take s0).length ≤ 4 := by simp; omega
    refine aw_iload_n (i := 3) d_Mod_hasNeeds_22 rfl rfl ?_
    refine aw_aload_n (i := 0) d_Mod_hasNeeds_23 rfl rfl ?_
    refine aw_iload_n (i := 1) d_Mod_hasNeeds_24 rfl rfl ?_
    refine aw_aload_n (i := 0) d_Mod_hasNeeds_25 rfl rfl ?_
    apply aw_get d_Mod_hasNeeds_26 fl_Mod_31; exact hm.1; rfl
    refine aw_iload d_Mod_hasNeeds_29 rfl ?_
    apply aw_iaload d_Mod_hasNeeds_31; exact hm.2.1 _ rfl; exact vp_in_nI (show 4 * j + s0 < 96 by omega) (by decide)
    rw [nI_clamp (by omega : 4 * j + s0 < 2 ^ 31), hne.1]
    apply aw_callv_p (c_Mod_stateOf hm hh hw hv hc hpr.1) d_Mod_hasNeeds_32 cl_Mod_212; exact hm.1; rfl; rfl; rfl; rfl; decide; exact Nat.le_of_ble_eq_true rfl; exact (Nat.le_refl _); exact (Nat.le_refl _)
    refine aw_aload_n (i := 0) d_Mod_hasNeeds_35 rfl rfl ?_
    apply aw_get d_Mod_hasNeeds_36 fl_Mod_34; exact hm.1; rfl
    refine aw_iload d_Mod_hasNeeds_39 rfl ?_
    apply aw_iaload d_Mod_hasNeeds_41; exact hm.2.1 _ rfl; exact vp_in_nI (show 4 * j + s0 < 96 by omega) (by decide)
    rw [nI_clamp (by omega : 4 * j + s0 < 2 ^ 31), hne.2]
    refine aw_icmp_ne d_Mod_hasNeeds_42 (fun br42_ => ?_) (fun br42_ => ?_)
    · skip
      have hnew : nI (cnt (fun p : Nat × Nat => dg (pks hs.1) c p.1 == p.2) ((hs.2.1.getD j sz0).2.2.2.2.1.take (s0 + 1))) = nI (cnt (fun p : Nat × Nat => dg (pks hs.1) c p.1 == p.2) ((hs.2.1.getD j sz0).2.2.2.2.1.take s0)) + 0 := by
        rw [Int32.add_zero, hat, if_neg (by rw [beq_eq_false_iff_ne.mpr (fun e9 => br42_ (congrArg nI e9))]; decide)]; rfl
      refine aw_iconst (v := 0) d_Mod_hasNeeds_49 (by decide) ?_
      refine aw_iadd d_Mod_hasNeeds_50 ?_
      refine aw_istore_n (i := 3) (lv2 := [(0, _), (1, _), (2, _), (3, _), (4, _)]) d_Mod_hasNeeds_51 rfl (by decide) rfl ?_
      refine aw_iinc (v := _ + 1) (lv2 := [(0, _), (1, _), (2, _), (3, _), (4, _)]) d_Mod_hasNeeds_52 (by decide) rfl rfl rfl ?_
      refine aw_goto d_Mod_hasNeeds_55 ?_
      have k9 := ih hlt (s0 + 1) rfl
      rw [hnew, ← Nat.add_assoc, ← nI_1 (4 * j + s0)] at k9
      exact k9
    · skip
      have hdl := dg_lt (ks := pks hs.1) c (hs.2.1.getD j sz0).2.2.2.2.1[s0].1 (by rw [pk_len]; exact hpr.1) hv.1.pos
      rw [pk_at hpr.1] at hdl
      have hk9 := hv.1.k hpr.1
      have hnew : nI (cnt (fun p : Nat × Nat => dg (pks hs.1) c p.1 == p.2) ((hs.2.1.getD j sz0).2.2.2.2.1.take (s0 + 1))) = nI (cnt (fun p : Nat × Nat => dg (pks hs.1) c p.1 == p.2) ((hs.2.1.getD j sz0).2.2.2.2.1.take s0)) + 1 := by
        rw [nI_1, hat, if_pos (by rw [(nI_eq (by omega) (by omega)).mp br42_, beq_self_eq_true])]
      refine aw_iconst (v := 1) d_Mod_hasNeeds_45 (by decide) ?_
      refine aw_goto d_Mod_hasNeeds_46 ?_
      refine aw_iadd d_Mod_hasNeeds_50 ?_
      refine aw_istore_n (i := 3) (lv2 := [(0, _), (1, _), (2, _), (3, _), (4, _)]) d_Mod_hasNeeds_51 rfl (by decide) rfl ?_
      refine aw_iinc (v := _ + 1) (lv2 := [(0, _), (1, _), (2, _), (3, _), (4, _)]) d_Mod_hasNeeds_52 (by decide) rfl rfl rfl ?_
      refine aw_goto d_Mod_hasNeeds_55 ?_
      have k9 := ih hlt (s0 + 1) rfl
      rw [hnew, ← Nat.add_assoc, ← nI_1 (4 * j + s0)] at k9
      exact k9

set_option maxHeartbeats 4000000 in
set_option maxRecDepth 20000 in
theorem c_Mod_done {G : aG} {nx : Nat} {h : Nat → Option aC} {a : Nat} {A : Nat → Nat} {sc : Nat → Int32} {ar : Nat → Nat → Int32} (hm : MoS h a A sc ar) {hs : HSt} (hh : MoH sc ar hs) (hw : MoW sc ar hs) (hv : VH hs) {c j b : Nat} (hc : c < hall hs) (hj : j < hs.2.1.length) (hb : b ≤ 9) : AMet G m_Mod_done 2 0 0 [.ref a, .int (nI c), .int (nI j), .int (nI b)] (nx, h) (RV (.int (if !isE hs c && cdo hs c j b then nI (aft hs c j) else -1)) (nx, h)) := by
  have hp12 := hv.1.1
  have hs24 := hv.2.1
  have hall2 := hv.2.2.2.2.2.2.2
  have hvs := hv.s hj
  have hvk : (hs.2.1.getD j sz0).1 ≤ 3 := hvs.1
  have hvh : (hs.2.1.getD j sz0).2.1 ≤ 9 := hvs.2.2.1
  have hvn : (hs.2.1.getD j sz0).2.2.2.2.1.length ≤ 4 := hvs.2.2.2.2.2.2.1
  have hvg : (hs.2.1.getD j sz0).2.2.2.2.2.length ≤ 4 := hvs.2.2.2.2.2.2.2.2.1
  have hst := hh.2.2.1 j hj
  have hc2 := hv.hc hc
  have hwt := swt_le hv j
  refine amet_of pf_Mod_done (Nat.le_of_ble_eq_true rfl) ?_
  show AW G m_Mod_done 2 0 0 _ 0 [(0, .ref a), (1, .int (nI c)), (2, .int (nI j)), (3, .int (nI b))] [] (nx, h) 0 0
  refine aw_aload_n (i := 0) d_Mod_done_0 rfl rfl ?_
  refine aw_iload_n (i := 1) d_Mod_done_1 rfl rfl ?_
  apply aw_callv_p (c_Mod_isEnd hm hh hw hv hc2) d_Mod_done_2 cl_Mod_219; exact hm.1; rfl; rfl; rfl; rfl; decide; exact Nat.le_of_ble_eq_true rfl; exact (Nat.le_refl _); exact (Nat.le_refl _)
  refine aw_if_ne d_Mod_done_5 (fun br5_ => ?_) (fun br5_ => ?_)
  · skip
    have hr_ : (if !isE hs c && cdo hs c j b then nI (aft hs c j) else -1) = -1 := if_neg (by simp [bI_1.mp br5_])
    refine aw_iconst (v := -1) d_Mod_done_54 (by decide) ?_
    refine aw_iret d_Mod_done_55 rfl (Nat.le_refl _) (Nat.le_refl _) ?_
    exact ⟨by rw [hr_], rfl⟩
  · skip
    refine aw_iload_n (i := 3) d_Mod_done_8 rfl rfl ?_
    refine aw_aload_n (i := 0) d_Mod_done_9 rfl rfl ?_
    apply aw_get d_Mod_done_10 fl_Mod_19; exact hm.1; rfl
    refine aw_iload_n (i := 2) d_Mod_done_13 rfl rfl ?_
    apply aw_iaload d_Mod_done_14; exact hm.2.1 _ rfl; exact vp_in_nI (show j < 24 by omega) (by decide)
    rw [nI_clamp (by omega : j < 2 ^ 31), hst.2.1]
    refine aw_icmp_lt d_Mod_done_15 (fun br15_ => ?_) (fun br15_ => ?_)
    · skip
      have hr_ : (if !isE hs c && cdo hs c j b then nI (aft hs c j) else -1) = -1 := if_neg (by have h9 := decide_eq_false (fun q : (hs.2.1.getD j sz0).2.1 ≤ b => absurd br15_ (Int32.not_lt.mpr ((nI_leI (by omega) (by omega)).mpr q))); unfold cdo; rw [h9]; simp)
      refine aw_iconst (v := -1) d_Mod_done_54 (by decide) ?_
      refine aw_iret d_Mod_done_55 rfl (Nat.le_refl _) (Nat.le_refl _) ?_
      exact ⟨by rw [hr_], rfl⟩
    · skip
      have hA : decide ((hs.2.1.getD j sz0).2.1 ≤ b) = true := decide_eq_true ((nI_leI (by omega) (by omega)).mp (Int32.not_lt.mp br15_))
      refine aw_aload_n (i := 0) d_Mod_done_18 rfl rfl ?_
      refine aw_iload_n (i := 1) d_Mod_done_19 rfl rfl ?_
      refine aw_iload_n (i := 2) d_Mod_done_20 rfl rfl ?_
      apply aw_callv_p (c_Mod_hasNeeds hm hh hw hv hc2 hj) d_Mod_done_21 cl_Mod_222; exact hm.1; rfl; rfl; rfl; rfl; decide; exact Nat.le_of_ble_eq_true rfl; exact (Nat.le_refl _); exact (Nat.le_refl _)
      refine aw_if_eq d_Mod_done_24 (fun br24_ => ?_) (fun br24_ => ?_)
      · skip
        have hr_ : (if !isE hs c && cdo hs c j b then nI (aft hs c j) else -1) = -1 := if_neg (by unfold cdo; rw [bI_0.mp br24_]; simp)
        refine aw_iconst (v := -1) d_Mod_done_54 (by decide) ?_
        refine aw_iret d_Mod_done_55 rfl (Nat.le_refl _) (Nat.le_refl _) ?_
        exact ⟨by rw [hr_], rfl⟩
      · skip
        refine aw_aload_n (i := 0) d_Mod_done_27 rfl rfl ?_
        refine aw_iload_n (i := 1) d_Mod_done_28 rfl rfl ?_
        refine aw_iload_n (i := 2) d_Mod_done_29 rfl rfl ?_
        apply aw_callv_p (c_Mod_wasDone hm hh hw hv hc2 hj) d_Mod_done_30 cl_Mod_216; exact hm.1; rfl; rfl; rfl; rfl; decide; exact Nat.le_of_ble_eq_true rfl; exact (Nat.le_refl _); exact (Nat.le_refl _)
        refine aw_if_ne d_Mod_done_33 (fun br33_ => ?_) (fun br33_ => ?_)
        · skip
          have hr_ : (if !isE hs c && cdo hs c j b then nI (aft hs c j) else -1) = -1 := if_neg (by unfold cdo; rw [bI_1.mp br33_]; simp)
          refine aw_iconst (v := -1) d_Mod_done_54 (by decide) ?_
          refine aw_iret d_Mod_done_55 rfl (Nat.le_refl _) (Nat.le_refl _) ?_
          exact ⟨by rw [hr_], rfl⟩
        · skip
          refine aw_aload_n (i := 0) d_Mod_done_36 rfl rfl ?_
          apply aw_get d_Mod_done_37 fl_Mod_16; exact hm.1; rfl
          refine aw_iload_n (i := 2) d_Mod_done_40 rfl rfl ?_
          apply aw_iaload d_Mod_done_41; exact hm.2.1 _ rfl; exact vp_in_nI (show j < 24 by omega) (by decide)
          rw [nI_clamp (by omega : j < 2 ^ 31), hst.1]
          refine aw_iconst (v := 3) d_Mod_done_42 (by decide) ?_
          refine aw_icmp_ne d_Mod_done_43 (fun br43_ => ?_) (fun br43_ => ?_)
          · skip
            have hcan : (!isE hs c && cdo hs c j b) = true := by
              unfold cdo; rw [bI_0.mp br5_, hA, bI_1.mp br24_, bI_0.mp br33_, beq_eq_false_iff_ne.mpr (fun e9 => br43_ (by rw [e9]; rfl))]; rfl
            have hr_ : (if !isE hs c && cdo hs c j b then nI (aft hs c j) else -1) = nI (aft hs c j) := if_pos hcan
            have hwd := bI_0.mp br33_
            refine aw_iload_n (i := 1) d_Mod_done_56 rfl rfl ?_
            refine aw_aload_n (i := 0) d_Mod_done_57 rfl rfl ?_
            apply aw_get d_Mod_done_58 fl_Mod_75; exact hm.1; rfl
            refine aw_iload_n (i := 2) d_Mod_done_61 rfl rfl ?_
            apply aw_iaload d_Mod_done_62; exact hm.2.1 _ rfl; exact vp_in_nI (show j < 24 by omega) (by decide)
            rw [nI_clamp (by omega : j < 2 ^ 31), hw.2.2 j hj]
            refine aw_iadd d_Mod_done_63 ?_
            refine aw_istore (lv2 := [(0, _), (1, _), (2, _), (3, _), (4, _)]) d_Mod_done_64 (by decide) rfl ?_
            refine aw_iconst (v := 4) d_Mod_done_66 (by decide) ?_
            refine aw_iload_n (i := 2) d_Mod_done_67 rfl rfl ?_
            refine aw_imul d_Mod_done_68 ?_
            rw [show (4 : Int32) = nI 4 from rfl, pk_mul]
            refine aw_istore (lv2 := [(0, _), (1, _), (2, _), (3, _), (4, _), (5, _)]) d_Mod_done_69 (by decide) rfl ?_
            have hT0 : AW G m_Mod_done 2 0 0 (FQ G 0 0 (RV (.int (if !isE hs c && cdo hs c j b then nI (aft hs c j) else -1)) (nx, h))) 71 [(0, .ref a), (1, .int (nI c)), (2, .int (nI j)), (3, .int (nI b)), (4, .int (nI (sds (pks hs.1) c ((hs.2.1.getD j sz0).2.2.2.2.2.take 0)) + nI (swt hs.1 hs.2.1 j))), (5, .int (nI (4 * j + 0)))] [] (nx, h) 0 0 := ?_
            · exact hT0
            refine upto (σ := Nat) (fun i => AW G m_Mod_done 2 0 0 _ 71 [(0, .ref a), (1, .int (nI c)), (2, .int (nI j)), (3, .int (nI b)), (4, .int (nI (sds (pks hs.1) c ((hs.2.1.getD j sz0).2.2.2.2.2.take i)) + nI (swt hs.1 hs.2.1 j))), (5, .int (nI (4 * j + i)))] [] (nx, h) 0 0) (fun i s => s = i) (hs.2.1.getD j sz0).2.2.2.2.2.length ?_ 0 0 (Nat.zero_le _) rfl
            intro i s0 hi hI ih
            subst hI
            refine aw_iload d_Mod_done_71 rfl ?_
            refine aw_iconst (v := 4) d_Mod_done_73 (by decide) ?_
            refine aw_iload_n (i := 2) d_Mod_done_74 rfl rfl ?_
            refine aw_imul d_Mod_done_75 ?_
            rw [show (4 : Int32) = nI 4 from rfl, pk_mul]
            refine aw_aload_n (i := 0) d_Mod_done_76 rfl rfl ?_
            apply aw_get d_Mod_done_77 fl_Mod_37; exact hm.1; rfl
            refine aw_iload_n (i := 2) d_Mod_done_80 rfl rfl ?_
            apply aw_iaload d_Mod_done_81; exact hm.2.1 _ rfl; exact vp_in_nI (show j < 24 by omega) (by decide)
            rw [nI_clamp (by omega : j < 2 ^ 31), hst.2.2.2.2.2.2.1]
            refine aw_iadd d_Mod_done_82 ?_
            rw [nI_add (4 * j)]
            refine aw_icmp_ge d_Mod_done_83 (fun br83_ => ?_) (fun br83_ => ?_)
            · skip
              have hei : s0 = (hs.2.1.getD j sz0).2.2.2.2.2.length := by
                have := (nI_leI (by omega) (by omega)).mp br83_
                omega
              subst hei
              rw [List.take_length]
              have hr2_ : aft hs c j = sds (pks hs.1) c (hs.2.1.getD j sz0).2.2.2.2.2 + swt hs.1 hs.2.1 j := by unfold aft; rw [hwd]; rfl
              refine aw_iload d_Mod_done_129 rfl ?_
              refine aw_iret d_Mod_done_131 rfl (Nat.le_refl _) (Nat.le_refl _) ?_
              exact ⟨by rw [hr_, hr2_, nI_add], rfl⟩
            · skip
              have hlt : s0 < (hs.2.1.getD j sz0).2.2.2.2.2.length := by
                have := paB (a := 4 * j + s0) (b := 4 * j + (hs.2.1.getD j sz0).2.2.2.2.2.length) (by omega) (by omega) br83_
                omega
              have hpr := hvs.2.2.2.2.2.2.2.2.2.1 _ (List.getElem_mem hlt)
              have hgi := hst.2.2.2.2.2.2.2 s0 hlt
              have hdn := dg_sds_ne hv.1 (p := (hs.2.1.getD j sz0).2.2.2.2.2[s0].1) ((hs.2.1.getD j sz0).2.2.2.2.2.take s0) c (hvs.2.2.2.2.2.2.2.2.2.1.take s0) (nd_take hvs.2.2.2.2.2.2.2.2.2.2 hlt)
              have hsm := sd_math (ks := pks hs.1) (c := sds (pks hs.1) c ((hs.2.1.getD j sz0).2.2.2.2.2.take s0)) (i := (hs.2.1.getD j sz0).2.2.2.2.2[s0].1) (s := (hs.2.1.getD j sz0).2.2.2.2.2[s0].2) (by rw [pk_len]; exact hpr.1)
              rw [hdn, ← sds_take (pks hs.1) c (hs.2.1.getD j sz0).2.2.2.2.2 s0 hlt] at hsm
              refine aw_aload_n (i := 0) d_Mod_done_86 rfl rfl ?_
              apply aw_get d_Mod_done_87 fl_Mod_40; exact hm.1; rfl
              refine aw_iload d_Mod_done_90 rfl ?_
              apply aw_iaload d_Mod_done_92; exact hm.2.1 _ rfl; exact vp_in_nI (show 4 * j + s0 < 96 by omega) (by decide)
              rw [nI_clamp (by omega : 4 * j + s0 < 2 ^ 31), hgi.1]
              refine aw_istore (lv2 := [(0, _), (1, _), (2, _), (3, _), (4, _), (5, _), (6, _)]) d_Mod_done_93 (by decide) rfl ?_
              refine aw_iload d_Mod_done_95 rfl ?_
              refine aw_aload_n (i := 0) d_Mod_done_97 rfl rfl ?_
              apply aw_get d_Mod_done_98 fl_Mod_43; exact hm.1; rfl
              refine aw_iload d_Mod_done_101 rfl ?_
              apply aw_iaload d_Mod_done_103; exact hm.2.1 _ rfl; exact vp_in_nI (show 4 * j + s0 < 96 by omega) (by decide)
              rw [nI_clamp (by omega : 4 * j + s0 < 2 ^ 31), hgi.2]
              refine aw_aload_n (i := 0) d_Mod_done_104 rfl rfl ?_
              refine aw_iload_n (i := 1) d_Mod_done_105 rfl rfl ?_
              refine aw_iload d_Mod_done_106 rfl ?_
              apply aw_callv_p (c_Mod_stateOf hm hh hw hv hc2 hpr.1) d_Mod_done_108 cl_Mod_212; exact hm.1; rfl; rfl; rfl; rfl; decide; exact Nat.le_of_ble_eq_true rfl; exact (Nat.le_refl _); exact (Nat.le_refl _)
              refine aw_isub d_Mod_done_111 ?_
              refine aw_aload_n (i := 0) d_Mod_done_112 rfl rfl ?_
              apply aw_get d_Mod_done_113 fl_Mod_72; exact hm.1; rfl
              refine aw_iload d_Mod_done_116 rfl ?_
              apply aw_iaload d_Mod_done_118; exact hm.2.1 _ rfl; exact vp_in_nI (show (hs.2.1.getD j sz0).2.2.2.2.2[s0].1 < 12 by omega) (by decide)
              rw [nI_clamp (by omega : (hs.2.1.getD j sz0).2.2.2.2.2[s0].1 < 2 ^ 31), hw.2.1 _ hpr.1]
              refine aw_imul d_Mod_done_119 ?_
              refine aw_iadd d_Mod_done_120 ?_
              rw [show nI (sds (pks hs.1) c ((hs.2.1.getD j sz0).2.2.2.2.2.take s0)) + nI (swt hs.1 hs.2.1 j) + (nI (hs.2.1.getD j sz0).2.2.2.2.2[s0].2 - nI (dg (pks hs.1) c (hs.2.1.getD j sz0).2.2.2.2.2[s0].1)) * nI (prd ((pks hs.1).take (hs.2.1.getD j sz0).2.2.2.2.2[s0].1)) = nI (sds (pks hs.1) c ((hs.2.1.getD j sz0).2.2.2.2.2.take (s0 + 1))) + nI (swt hs.1 hs.2.1 j) by rw [← hsm]; grind]
              refine aw_istore (lv2 := [(0, _), (1, _), (2, _), (3, _), (4, _), (5, _), (6, _)]) d_Mod_done_121 (by decide) rfl ?_
              refine aw_iinc (v := _ + 1) (lv2 := [(0, _), (1, _), (2, _), (3, _), (4, _), (5, _), (6, _)]) d_Mod_done_123 (by decide) rfl rfl rfl ?_
              refine aw_goto d_Mod_done_126 ?_
              rw [nI_1]
              refine aw_drop (lv2 := [(0, _), (1, _), (2, _), (3, _), (4, _), (5, _)]) [0, 1, 2, 3, 4, 5] rfl ?_
              exact ih hlt _ rfl
          · skip
            have hk3 : ((hs.2.1.getD j sz0).1 == 3) = true := by rw [(nI_eq (b := 3) (by omega) (by decide)).mp br43_]; rfl
            refine aw_aload_n (i := 0) d_Mod_done_46 rfl rfl ?_
            refine aw_iload_n (i := 1) d_Mod_done_47 rfl rfl ?_
            apply aw_callv_p (c_Mod_allOnce hm hh hw hv hc2) d_Mod_done_48 cl_Mod_225; exact hm.1; rfl; rfl; rfl; rfl; decide; exact Nat.le_of_ble_eq_true rfl; exact (Nat.le_refl _); exact (Nat.le_refl _)
            refine aw_if_ne d_Mod_done_51 (fun br51_ => ?_) (fun br51_ => ?_)
            · skip
              have hcan : (!isE hs c && cdo hs c j b) = true := by
                unfold cdo; rw [bI_0.mp br5_, hA, bI_1.mp br24_, bI_0.mp br33_, hk3, bI_1.mp br51_]; rfl
              have hr_ : (if !isE hs c && cdo hs c j b then nI (aft hs c j) else -1) = nI (aft hs c j) := if_pos hcan
              have hwd := bI_0.mp br33_
              refine aw_iload_n (i := 1) d_Mod_done_56 rfl rfl ?_
              refine aw_aload_n (i := 0) d_Mod_done_57 rfl rfl ?_
              apply aw_get d_Mod_done_58 fl_Mod_75; exact hm.1; rfl
              refine aw_iload_n (i := 2) d_Mod_done_61 rfl rfl ?_
              apply aw_iaload d_Mod_done_62; exact hm.2.1 _ rfl; exact vp_in_nI (show j < 24 by omega) (by decide)
              rw [nI_clamp (by omega : j < 2 ^ 31), hw.2.2 j hj]
              refine aw_iadd d_Mod_done_63 ?_
              refine aw_istore (lv2 := [(0, _), (1, _), (2, _), (3, _), (4, _)]) d_Mod_done_64 (by decide) rfl ?_
              refine aw_iconst (v := 4) d_Mod_done_66 (by decide) ?_
              refine aw_iload_n (i := 2) d_Mod_done_67 rfl rfl ?_
              refine aw_imul d_Mod_done_68 ?_
              rw [show (4 : Int32) = nI 4 from rfl, pk_mul]
              refine aw_istore (lv2 := [(0, _), (1, _), (2, _), (3, _), (4, _), (5, _)]) d_Mod_done_69 (by decide) rfl ?_
              have hT0 : AW G m_Mod_done 2 0 0 (FQ G 0 0 (RV (.int (if !isE hs c && cdo hs c j b then nI (aft hs c j) else -1)) (nx, h))) 71 [(0, .ref a), (1, .int (nI c)), (2, .int (nI j)), (3, .int (nI b)), (4, .int (nI (sds (pks hs.1) c ((hs.2.1.getD j sz0).2.2.2.2.2.take 0)) + nI (swt hs.1 hs.2.1 j))), (5, .int (nI (4 * j + 0)))] [] (nx, h) 0 0 := ?_
              · exact hT0
              refine upto (σ := Nat) (fun i => AW G m_Mod_done 2 0 0 _ 71 [(0, .ref a), (1, .int (nI c)), (2, .int (nI j)), (3, .int (nI b)), (4, .int (nI (sds (pks hs.1) c ((hs.2.1.getD j sz0).2.2.2.2.2.take i)) + nI (swt hs.1 hs.2.1 j))), (5, .int (nI (4 * j + i)))] [] (nx, h) 0 0) (fun i s => s = i) (hs.2.1.getD j sz0).2.2.2.2.2.length ?_ 0 0 (Nat.zero_le _) rfl
              intro i s0 hi hI ih
              subst hI
              refine aw_iload d_Mod_done_71 rfl ?_
              refine aw_iconst (v := 4) d_Mod_done_73 (by decide) ?_
              refine aw_iload_n (i := 2) d_Mod_done_74 rfl rfl ?_
              refine aw_imul d_Mod_done_75 ?_
              rw [show (4 : Int32) = nI 4 from rfl, pk_mul]
              refine aw_aload_n (i := 0) d_Mod_done_76 rfl rfl ?_
              apply aw_get d_Mod_done_77 fl_Mod_37; exact hm.1; rfl
              refine aw_iload_n (i := 2) d_Mod_done_80 rfl rfl ?_
              apply aw_iaload d_Mod_done_81; exact hm.2.1 _ rfl; exact vp_in_nI (show j < 24 by omega) (by decide)
              rw [nI_clamp (by omega : j < 2 ^ 31), hst.2.2.2.2.2.2.1]
              refine aw_iadd d_Mod_done_82 ?_
              rw [nI_add (4 * j)]
              refine aw_icmp_ge d_Mod_done_83 (fun br83_ => ?_) (fun br83_ => ?_)
              · skip
                have hei : s0 = (hs.2.1.getD j sz0).2.2.2.2.2.length := by
                  have := (nI_leI (by omega) (by omega)).mp br83_
                  omega
                subst hei
                rw [List.take_length]
                have hr2_ : aft hs c j = sds (pks hs.1) c (hs.2.1.getD j sz0).2.2.2.2.2 + swt hs.1 hs.2.1 j := by unfold aft; rw [hwd]; rfl
                refine aw_iload d_Mod_done_129 rfl ?_
                refine aw_iret d_Mod_done_131 rfl (Nat.le_refl _) (Nat.le_refl _) ?_
                exact ⟨by rw [hr_, hr2_, nI_add], rfl⟩
              · skip
                have hlt : s0 < (hs.2.1.getD j sz0).2.2.2.2.2.length := by
                  have := paB (a := 4 * j + s0) (b := 4 * j + (hs.2.1.getD j sz0).2.2.2.2.2.length) (by omega) (by omega) br83_
                  omega
                have hpr := hvs.2.2.2.2.2.2.2.2.2.1 _ (List.getElem_mem hlt)
                have hgi := hst.2.2.2.2.2.2.2 s0 hlt
                have hdn := dg_sds_ne hv.1 (p := (hs.2.1.getD j sz0).2.2.2.2.2[s0].1) ((hs.2.1.getD j sz0).2.2.2.2.2.take s0) c (hvs.2.2.2.2.2.2.2.2.2.1.take s0) (nd_take hvs.2.2.2.2.2.2.2.2.2.2 hlt)
                have hsm := sd_math (ks := pks hs.1) (c := sds (pks hs.1) c ((hs.2.1.getD j sz0).2.2.2.2.2.take s0)) (i := (hs.2.1.getD j sz0).2.2.2.2.2[s0].1) (s := (hs.2.1.getD j sz0).2.2.2.2.2[s0].2) (by rw [pk_len]; exact hpr.1)
                rw [hdn, ← sds_take (pks hs.1) c (hs.2.1.getD j sz0).2.2.2.2.2 s0 hlt] at hsm
                refine aw_aload_n (i := 0) d_Mod_done_86 rfl rfl ?_
                apply aw_get d_Mod_done_87 fl_Mod_40; exact hm.1; rfl
                refine aw_iload d_Mod_done_90 rfl ?_
                apply aw_iaload d_Mod_done_92; exact hm.2.1 _ rfl; exact vp_in_nI (show 4 * j + s0 < 96 by omega) (by decide)
                rw [nI_clamp (by omega : 4 * j + s0 < 2 ^ 31), hgi.1]
                refine aw_istore (lv2 := [(0, _), (1, _), (2, _), (3, _), (4, _), (5, _), (6, _)]) d_Mod_done_93 (by decide) rfl ?_
                refine aw_iload d_Mod_done_95 rfl ?_
                refine aw_aload_n (i := 0) d_Mod_done_97 rfl rfl ?_
                apply aw_get d_Mod_done_98 fl_Mod_43; exact hm.1; rfl
                refine aw_iload d_Mod_done_101 rfl ?_
                apply aw_iaload d_Mod_done_103; exact hm.2.1 _ rfl; exact vp_in_nI (show 4 * j + s0 < 96 by omega) (by decide)
                rw [nI_clamp (by omega : 4 * j + s0 < 2 ^ 31), hgi.2]
                refine aw_aload_n (i := 0) d_Mod_done_104 rfl rfl ?_
                refine aw_iload_n (i := 1) d_Mod_done_105 rfl rfl ?_
                refine aw_iload d_Mod_done_106 rfl ?_
                apply aw_callv_p (c_Mod_stateOf hm hh hw hv hc2 hpr.1) d_Mod_done_108 cl_Mod_212; exact hm.1; rfl; rfl; rfl; rfl; decide; exact Nat.le_of_ble_eq_true rfl; exact (Nat.le_refl _); exact (Nat.le_refl _)
                refine aw_isub d_Mod_done_111 ?_
                refine aw_aload_n (i := 0) d_Mod_done_112 rfl rfl ?_
                apply aw_get d_Mod_done_113 fl_Mod_72; exact hm.1; rfl
                refine aw_iload d_Mod_done_116 rfl ?_
                apply aw_iaload d_Mod_done_118; exact hm.2.1 _ rfl; exact vp_in_nI (show (hs.2.1.getD j sz0).2.2.2.2.2[s0].1 < 12 by omega) (by decide)
                rw [nI_clamp (by omega : (hs.2.1.getD j sz0).2.2.2.2.2[s0].1 < 2 ^ 31), hw.2.1 _ hpr.1]
                refine aw_imul d_Mod_done_119 ?_
                refine aw_iadd d_Mod_done_120 ?_
                rw [show nI (sds (pks hs.1) c ((hs.2.1.getD j sz0).2.2.2.2.2.take s0)) + nI (swt hs.1 hs.2.1 j) + (nI (hs.2.1.getD j sz0).2.2.2.2.2[s0].2 - nI (dg (pks hs.1) c (hs.2.1.getD j sz0).2.2.2.2.2[s0].1)) * nI (prd ((pks hs.1).take (hs.2.1.getD j sz0).2.2.2.2.2[s0].1)) = nI (sds (pks hs.1) c ((hs.2.1.getD j sz0).2.2.2.2.2.take (s0 + 1))) + nI (swt hs.1 hs.2.1 j) by rw [← hsm]; grind]
                refine aw_istore (lv2 := [(0, _), (1, _), (2, _), (3, _), (4, _), (5, _), (6, _)]) d_Mod_done_121 (by decide) rfl ?_
                refine aw_iinc (v := _ + 1) (lv2 := [(0, _), (1, _), (2, _), (3, _), (4, _), (5, _), (6, _)]) d_Mod_done_123 (by decide) rfl rfl rfl ?_
                refine aw_goto d_Mod_done_126 ?_
                rw [nI_1]
                refine aw_drop (lv2 := [(0, _), (1, _), (2, _), (3, _), (4, _), (5, _)]) [0, 1, 2, 3, 4, 5] rfl ?_
                exact ih hlt _ rfl
            · skip
              have hr_ : (if !isE hs c && cdo hs c j b then nI (aft hs c j) else -1) = -1 := if_neg (by unfold cdo; rw [hk3, bI_0.mp br51_]; simp)
              refine aw_iconst (v := -1) d_Mod_done_54 (by decide) ?_
              refine aw_iret d_Mod_done_55 rfl (Nat.le_refl _) (Nat.le_refl _) ?_
              exact ⟨by rw [hr_], rfl⟩

