/-! Line: codes in the order in which they came -/
def LiA (t : Nat) (h : Nat → Option aC) (a most : Nat) (cs : List Nat) : Prop := ∃ (ca ma : Nat) (f g : Nat → Int32), h a = some (ob t 4 [.ref ca, .ref ma, .int (nI cs.length)]) ∧ h ca = some (cI (t + 1) most f) ∧ h ma = some (cB (t + 2) most g) ∧ cs.length ≤ most ∧ most ≤ 20000 ∧ (∀ (j : Nat) (hj : j < cs.length), f j = nI cs[j]) ∧ (∀ c, c < most → g c = bI (decide (c ∈ cs))) ∧ ∀ c ∈ cs, c < most
theorem LiA.fr {t : Nat} {h h2 : Nat → Option aC} {a most : Nat} {cs : List Nat} {T : List Nat} (hl : LiA t h a most cs) (hf : Fr T h h2) (ht : ∀ x, x < 3 → t + x ∉ T) : LiA t h2 a most cs := by
  obtain ⟨ca, ma, f, g, q1, q2, q3, q4⟩ := hl
  exact ⟨ca, ma, f, g, hf _ _ q1 (ht 0 (by omega)), hf _ _ q2 (ht 1 (by omega)), hf _ _ q3 (ht 2 (by omega)), q4⟩
theorem LiA.ob {t : Nat} {h : Nat → Option aC} {a most : Nat} {cs : List Nat} (hl : LiA t h a most cs) : ∃ fs, h a = some (t, .inr (4, fs)) := by
  obtain ⟨ca, ma, f, g, q1, -⟩ := hl
  exact ⟨_, q1⟩
set_option maxHeartbeats 4000000 in
set_option maxRecDepth 20000 in
theorem c_Line_has {G : aG} {nx : Nat} {h : Nat → Option aC} {t a most : Nat} {cs : List Nat} (hl : LiA t h a most cs) {c : Nat} (hc : c < 2 ^ 31) : AMet G m_Line_has 0 0 0 [.ref a, .int (nI c)] (nx, h) (RV (.int (bI (decide (c ∈ cs)))) (nx, h)) := by
  obtain ⟨ca, ma, f, g, q1, q2, q3, q4, q5, q6, q7, q8⟩ := hl
  refine amet_of pf_Line_has (Nat.le_of_ble_eq_true rfl) ?_
  show AW G m_Line_has 0 0 0 _ 0 [(0, .ref a), (1, .int (nI c))] [] (nx, h) 0 0
  refine aw_iload_n (i := 1) d_Line_has_0 rfl rfl ?_
  refine aw_if_lt d_Line_has_1 (fun br1_ => absurd br1_ (nI_pos hc)) (fun br1_ => ?_)
  refine aw_iload_n (i := 1) d_Line_has_4 rfl rfl ?_
  refine aw_aload_n (i := 0) d_Line_has_5 rfl rfl ?_
  apply aw_get d_Line_has_6 fl_Line_21; assumption; rfl
  apply aw_alen d_Line_has_9; assumption; decide
  refine aw_icmp_ge d_Line_has_10 (fun br10_ => ?_) (fun br10_ => ?_)
  · skip
    have hr_ : bI (decide (c ∈ cs)) = 0 := by
      have : ¬ c ∈ cs := fun q => absurd (q8 c q) (Nat.not_lt.mpr ((nI_leI (by omega) hc).mp br10_))
      rw [decide_eq_false this]; rfl
    refine aw_iconst (v := 0) d_Line_has_27 (by decide) ?_
    refine aw_zret d_Line_has_28 rfl rfl (Nat.le_refl _) (Nat.le_refl _) ?_
    exact ⟨by rw [hr_], rfl⟩
  · skip
    have hlt := paB hc (by omega) br10_
    refine aw_aload_n (i := 0) d_Line_has_13 rfl rfl ?_
    apply aw_get d_Line_has_14 fl_Line_21; assumption; rfl
    refine aw_iload_n (i := 1) d_Line_has_17 rfl rfl ?_
    apply aw_baload d_Line_has_18; assumption; exact vp_in_nI hlt (by omega)
    rw [nI_clamp hc, q7 c hlt]
    refine aw_iconst (v := 1) d_Line_has_19 (by decide) ?_
    refine aw_icmp_ne d_Line_has_20 (fun br20_ => ?_) (fun br20_ => ?_)
    · skip
      have hr_ : bI (decide (c ∈ cs)) = 0 := by
        cases e9 : decide (c ∈ cs)
        · rfl
        · rw [e9] at br20_; exact absurd rfl br20_
      refine aw_iconst (v := 0) d_Line_has_27 (by decide) ?_
      refine aw_zret d_Line_has_28 rfl rfl (Nat.le_refl _) (Nat.le_refl _) ?_
      exact ⟨by rw [hr_], rfl⟩
    · skip
      have hr_ : bI (decide (c ∈ cs)) = 1 := br20_
      refine aw_iconst (v := 1) d_Line_has_23 (by decide) ?_
      refine aw_goto d_Line_has_24 ?_
      refine aw_zret d_Line_has_28 rfl rfl (Nat.le_refl _) (Nat.le_refl _) ?_
      exact ⟨by rw [hr_], rfl⟩

set_option maxHeartbeats 4000000 in
set_option maxRecDepth 20000 in
theorem c_Line_codeAt {G : aG} {nx : Nat} {h : Nat → Option aC} {t a most : Nat} {cs : List Nat} (hl : LiA t h a most cs) {i : Nat} (hi : i < cs.length) : AMet G m_Line_codeAt 0 0 0 [.ref a, .int (nI i)] (nx, h) (RV (.int (nI cs[i])) (nx, h)) := by
  obtain ⟨ca, ma, f, g, q1, q2, q3, q4, q5, q6, q7, q8⟩ := hl
  refine amet_of pf_Line_codeAt (Nat.le_of_ble_eq_true rfl) ?_
  show AW G m_Line_codeAt 0 0 0 _ 0 [(0, .ref a), (1, .int (nI i))] [] (nx, h) 0 0
  refine aw_iload_n (i := 1) d_Line_codeAt_0 rfl rfl ?_
  refine aw_if_lt d_Line_codeAt_1 (fun br1_ => absurd br1_ (nI_pos (by omega))) (fun br1_ => ?_)
  refine aw_iload_n (i := 1) d_Line_codeAt_4 rfl rfl ?_
  refine aw_aload_n (i := 0) d_Line_codeAt_5 rfl rfl ?_
  apply aw_get d_Line_codeAt_6 fl_Line_31; assumption; rfl
  refine aw_icmp_ge d_Line_codeAt_9 (fun br9_ => absurd br9_ (nI_ge hi (by omega))) (fun br9_ => ?_)
  refine aw_iload_n (i := 1) d_Line_codeAt_12 rfl rfl ?_
  refine aw_aload_n (i := 0) d_Line_codeAt_13 rfl rfl ?_
  apply aw_get d_Line_codeAt_14 fl_Line_15; assumption; rfl
  apply aw_alen d_Line_codeAt_17; assumption; decide
  refine aw_icmp_ge d_Line_codeAt_18 (fun br18_ => absurd br18_ (nI_ge (by omega : i < most) (by omega))) (fun br18_ => ?_)
  refine aw_aload_n (i := 0) d_Line_codeAt_21 rfl rfl ?_
  apply aw_get d_Line_codeAt_22 fl_Line_15; assumption; rfl
  refine aw_iload_n (i := 1) d_Line_codeAt_25 rfl rfl ?_
  apply aw_iaload d_Line_codeAt_26; assumption; exact vp_in_nI (by omega) (by omega)
  rw [nI_clamp (by omega : i < 2 ^ 31), q6 i hi]
  refine aw_goto d_Line_codeAt_27 ?_
  refine aw_iret d_Line_codeAt_31 rfl (Nat.le_refl _) (Nat.le_refl _) ?_
  exact ⟨rfl, rfl⟩

set_option maxHeartbeats 4000000 in
set_option maxRecDepth 20000 in
theorem c_Line_begin {G : aG} {nx : Nat} {h : Nat → Option aC} {t a most : Nat} {cs : List Nat} (hl : LiA t h a most cs) : AMet G m_Line_begin 1 0 0 [.ref a] (nx, h) (fun r w => r = none ∧ ∃ h2, w = (nx, h2) ∧ LiA t h2 a most [] ∧ Fr [t, t + 1, t + 2] h h2) := by
  obtain ⟨ca, ma, f, g, q1, q2, q3, q4, q5, q6, q7, q8⟩ := hl
  refine amet_of pf_Line_begin (Nat.le_of_ble_eq_true rfl) ?_
  show AW G m_Line_begin 1 0 0 _ 0 [(0, .ref a)] [] (nx, h) 0 0
  refine aw_aload_n (i := 0) d_Line_begin_0 rfl rfl ?_
  apply aw_get d_Line_begin_1 fl_Line_21; assumption; rfl
  refine aw_iconst (v := 0) d_Line_begin_4 (by decide) ?_
  apply aw_calls_q (c_Arr_fill1 q3 (by omega) 0 (by decide)) d_Line_begin_5 cl_Line_25; rfl; rfl; decide; exact Nat.le_of_ble_eq_true rfl; exact (Nat.le_refl _); exact (Nat.le_refl _)
  refine aw_nm q3 ?_
  intro h1 e1_ f1_ o1_
  have q1_ := f1_ _ _ q1 (by simp)
  have q2_ := f1_ _ _ q2 (by simp)
  refine aw_aload_n (i := 0) d_Line_begin_8 rfl rfl ?_
  refine aw_iconst (v := 0) d_Line_begin_9 (by decide) ?_
  apply aw_put d_Line_begin_10 pl_Line_31; exact q1_; exact Nat.le_of_ble_eq_true rfl; rfl; rfl
  refine aw_vret d_Line_begin_13 rfl (Nat.le_refl _) (Nat.le_refl _) ?_
  refine ⟨rfl, _, rfl, ⟨ca, ma, f, _, hs_eq _ _ _, hs_tag q2_ q1_ (by simp), hs_tag e1_ q1_ (by simp), Nat.zero_le _, q5, fun j hj => absurd hj (Nat.not_lt_zero _), fun c hc => ?_, fun c hc => by cases hc⟩, ?_⟩
  · rw [fl0_in hc]; simp [bI]
  · exact (f1_.up (by simp)).tr (Fr.set q1_ (by simp))

set_option maxHeartbeats 4000000 in
set_option maxRecDepth 20000 in
theorem c_Line_join {G : aG} {nx : Nat} {h : Nat → Option aC} {t a most : Nat} {cs : List Nat} (hl : LiA t h a most cs) {c : Nat} (hc : c < most) : AMet G m_Line_join 0 0 0 [.ref a, .int (nI c)] (nx, h) (fun r w => r = none ∧ ∃ h2, w = (nx, h2) ∧ LiA t h2 a most (if c ∈ cs ∨ most ≤ cs.length then cs else cs ++ [c]) ∧ Fr [t, t + 1, t + 2] h h2) := by
  obtain ⟨ca, ma, f, g, q1, q2, q3, q4, q5, q6, q7, q8⟩ := hl
  refine amet_of pf_Line_join (Nat.le_of_ble_eq_true rfl) ?_
  show AW G m_Line_join 0 0 0 _ 0 [(0, .ref a), (1, .int (nI c))] [] (nx, h) 0 0
  refine aw_iload_n (i := 1) d_Line_join_0 rfl rfl ?_
  refine aw_if_lt d_Line_join_1 (fun br1_ => absurd br1_ (nI_pos (by omega))) (fun br1_ => ?_)
  refine aw_iload_n (i := 1) d_Line_join_4 rfl rfl ?_
  refine aw_aload_n (i := 0) d_Line_join_5 rfl rfl ?_
  apply aw_get d_Line_join_6 fl_Line_21; assumption; rfl
  apply aw_alen d_Line_join_9; assumption; decide
  refine aw_icmp_ge d_Line_join_10 (fun br10_ => absurd br10_ (nI_ge hc (by omega))) (fun br10_ => ?_)
  refine aw_aload_n (i := 0) d_Line_join_13 rfl rfl ?_
  apply aw_get d_Line_join_14 fl_Line_21; assumption; rfl
  refine aw_iload_n (i := 1) d_Line_join_17 rfl rfl ?_
  apply aw_baload d_Line_join_18; assumption; exact vp_in_nI hc (by omega)
  rw [nI_clamp (by omega : c < 2 ^ 31), q7 c hc]
  refine aw_if_ne d_Line_join_19 (fun br19_ => ?_) (fun br19_ => ?_)
  · skip
    have hin : c ∈ cs := of_decide_eq_true (bI_1.mp br19_)
    have hr_ : (if c ∈ cs ∨ most ≤ cs.length then cs else cs ++ [c]) = cs := if_pos (Or.inl hin)
    refine aw_vret d_Line_join_61 rfl (Nat.le_refl _) (Nat.le_refl _) ?_
    refine ⟨rfl, h, rfl, ?_, Fr.rf⟩
    rw [hr_]; exact ⟨ca, ma, f, g, q1, q2, q3, q4, q5, q6, q7, q8⟩
  · skip
    have hin : ¬ c ∈ cs := of_decide_eq_false (bI_0.mp br19_)
    refine aw_aload_n (i := 0) d_Line_join_22 rfl rfl ?_
    apply aw_get d_Line_join_23 fl_Line_31; assumption; rfl
    refine aw_aload_n (i := 0) d_Line_join_26 rfl rfl ?_
    apply aw_get d_Line_join_27 fl_Line_15; assumption; rfl
    apply aw_alen d_Line_join_30; assumption; decide
    refine aw_icmp_ge d_Line_join_31 (fun br31_ => ?_) (fun br31_ => ?_)
    · skip
      have hr_ : (if c ∈ cs ∨ most ≤ cs.length then cs else cs ++ [c]) = cs := if_pos (Or.inr ((nI_leI (by omega) (by omega)).mp br31_))
      refine aw_vret d_Line_join_61 rfl (Nat.le_refl _) (Nat.le_refl _) ?_
      refine ⟨rfl, h, rfl, ?_, Fr.rf⟩
      rw [hr_]; exact ⟨ca, ma, f, g, q1, q2, q3, q4, q5, q6, q7, q8⟩
    · skip
      have hsz := paB (by omega) (by omega) br31_
      have hr_ : (if c ∈ cs ∨ most ≤ cs.length then cs else cs ++ [c]) = cs ++ [c] := if_neg (fun q => q.elim hin (fun q => by omega))
      refine aw_aload_n (i := 0) d_Line_join_34 rfl rfl ?_
      apply aw_get d_Line_join_35 fl_Line_21; assumption; rfl
      refine aw_iload_n (i := 1) d_Line_join_38 rfl rfl ?_
      refine aw_iconst (v := 1) d_Line_join_39 (by decide) ?_
      apply aw_bastore d_Line_join_40; assumption; exact vp_in_nI hc (by omega)
      refine aw_nm q3 ?_
      intro h1 e1_ f1_ o1_
      have q1_ := f1_ _ _ q1 (by simp)
      have q2_ := f1_ _ _ q2 (by simp)
      refine aw_aload_n (i := 0) d_Line_join_41 rfl rfl ?_
      apply aw_get d_Line_join_42 fl_Line_15; exact q1_; rfl
      refine aw_aload_n (i := 0) d_Line_join_45 rfl rfl ?_
      apply aw_get d_Line_join_46 fl_Line_31; exact q1_; rfl
      refine aw_iload_n (i := 1) d_Line_join_49 rfl rfl ?_
      apply aw_iastore d_Line_join_50; exact q2_; exact vp_in_nI hsz (by omega)
      refine aw_nm q2_ ?_
      intro h3 e3_ f3_ o3_
      have q1b_ := f3_ _ _ q1_ (by simp)
      have e1b_ := f3_ _ _ e1_ (by simp)
      refine aw_aload_n (i := 0) d_Line_join_51 rfl rfl ?_
      refine aw_dup d_Line_join_52 rfl ?_
      apply aw_get d_Line_join_53 fl_Line_31; exact q1b_; rfl
      refine aw_iconst (v := 1) d_Line_join_56 (by decide) ?_
      refine aw_iadd d_Line_join_57 ?_
      rw [nI_1]
      apply aw_put d_Line_join_58 pl_Line_31; exact q1b_; exact Nat.le_of_ble_eq_true rfl; rfl; rfl
      refine aw_vret d_Line_join_61 rfl (Nat.le_refl _) (Nat.le_refl _) ?_
      refine ⟨rfl, _, rfl, ?_, ((f1_.up (by simp)).tr (f3_.up (by simp))).tr (Fr.set q1b_ (by simp))⟩
      rw [hr_]
      refine ⟨ca, ma, _, _, by rw [List.length_append]; exact hs_eq _ _ _, hs_tag e3_ q1b_ (by simp), hs_tag e1b_ q1b_ (by simp), by simp; omega, q5, fun j hj => ?_, fun c2 hc2 => ?_, fun c2 hc2 => ?_⟩
      · rw [nI_clamp (by omega : cs.length < 2 ^ 31)]
        by_cases e9 : j < cs.length
        · rw [List.getElem_append_left e9]; simp only [upd]; rw [if_neg (by omega)]; exact q6 j e9
        · have e8 : j = cs.length := by simp at hj; omega
          subst e8
          simp [upd]
      · rw [nI_clamp (by omega : c < 2 ^ 31)]
        by_cases e9 : c2 = c
        · subst e9; simp [upd, bI, vp_nar_byte]
        · simp only [upd]; rw [if_neg e9, q7 c2 hc2]; simp [e9]
      · rcases List.mem_append.mp hc2 with e9 | e9
        · exact q8 c2 e9
        · rw [List.mem_singleton.mp e9]; exact hc


