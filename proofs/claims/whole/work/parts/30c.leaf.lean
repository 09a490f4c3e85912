set_option maxHeartbeats 4000000 in
set_option maxRecDepth 20000 in
theorem c_Prop_stateIn {G : aG} {nx : Nat} {h : Nat → Option aC} {t a : Nat} {nu ks fi wt rp rs ex re : Int32} (hp : h a = some (ob t 6 [.int nu, .int ks, .int fi, .int wt, .int rp, .int rs, .int ex, .int re])) (c : Int32) (hw : ¬ wt = 0) (hk : ¬ ks = 0) : AMet G m_Prop_stateIn 0 0 0 [.ref a, .int c] (nx, h) (RV (.int (c / wt - c / wt / ks * ks)) (nx, h)) := by
  refine amet_of pf_Prop_stateIn (Nat.le_of_ble_eq_true rfl) ?_
  show AW G m_Prop_stateIn 0 0 0 _ 0 [(0, .ref a), (1, .int c)] [] (nx, h) 0 0
  refine aw_iload_n (i := 1) d_Prop_stateIn_0 rfl rfl ?_
  refine aw_aload_n (i := 0) d_Prop_stateIn_1 rfl rfl ?_
  apply aw_get d_Prop_stateIn_2 fl_Prop_36; assumption; rfl
  refine aw_idiv d_Prop_stateIn_5 (by assumption) ?_
  refine aw_aload_n (i := 0) d_Prop_stateIn_6 rfl rfl ?_
  apply aw_get d_Prop_stateIn_7 fl_Prop_33; assumption; rfl
  refine aw_irem d_Prop_stateIn_10 (by assumption) ?_
  refine aw_iret d_Prop_stateIn_11 rfl (Nat.le_refl _) (Nat.le_refl _) ?_
  exact ⟨rfl, rfl⟩

set_option maxHeartbeats 4000000 in
set_option maxRecDepth 20000 in
theorem c_Prop_codeWith {G : aG} {nx : Nat} {h : Nat → Option aC} {t a : Nat} {nu ks fi wt rp rs ex re : Int32} (hp : h a = some (ob t 6 [.int nu, .int ks, .int fi, .int wt, .int rp, .int rs, .int ex, .int re])) (c s : Int32) (hw : ¬ wt = 0) (hk : ¬ ks = 0) : AMet G m_Prop_codeWith 0 0 0 [.ref a, .int c, .int s] (nx, h) (RV (.int (c + (s - (c / wt - c / wt / ks * ks)) * wt)) (nx, h)) := by
  refine amet_of pf_Prop_codeWith (Nat.le_of_ble_eq_true rfl) ?_
  show AW G m_Prop_codeWith 0 0 0 _ 0 [(0, .ref a), (1, .int c), (2, .int s)] [] (nx, h) 0 0
  refine aw_iload_n (i := 1) d_Prop_codeWith_0 rfl rfl ?_
  refine aw_iload_n (i := 2) d_Prop_codeWith_1 rfl rfl ?_
  refine aw_iload_n (i := 1) d_Prop_codeWith_2 rfl rfl ?_
  refine aw_aload_n (i := 0) d_Prop_codeWith_3 rfl rfl ?_
  apply aw_get d_Prop_codeWith_4 fl_Prop_36; assumption; rfl
  refine aw_idiv d_Prop_codeWith_7 (by assumption) ?_
  refine aw_aload_n (i := 0) d_Prop_codeWith_8 rfl rfl ?_
  apply aw_get d_Prop_codeWith_9 fl_Prop_33; assumption; rfl
  refine aw_irem d_Prop_codeWith_12 (by assumption) ?_
  refine aw_isub d_Prop_codeWith_13 ?_
  refine aw_aload_n (i := 0) d_Prop_codeWith_14 rfl rfl ?_
  apply aw_get d_Prop_codeWith_15 fl_Prop_36; assumption; rfl
  refine aw_imul d_Prop_codeWith_18 ?_
  refine aw_iadd d_Prop_codeWith_19 ?_
  refine aw_iret d_Prop_codeWith_20 rfl (Nat.le_refl _) (Nat.le_refl _) ?_
  exact ⟨rfl, rfl⟩

set_option maxHeartbeats 4000000 in
set_option maxRecDepth 20000 in
theorem c_Prop_isMoved {G : aG} {nx : Nat} {h : Nat → Option aC} {t a : Nat} {nu ks fi wt rp rs ex re : Int32} (hp : h a = some (ob t 6 [.int nu, .int ks, .int fi, .int wt, .int rp, .int rs, .int ex, .int re])) (c : Int32) (hw : ¬ wt = 0) (hk : ¬ ks = 0) : AMet G m_Prop_isMoved 1 0 0 [.ref a, .int c] (nx, h) (RV (.int (if (c / wt - c / wt / ks * ks) = fi then 0 else 1)) (nx, h)) := by
  refine amet_of pf_Prop_isMoved (Nat.le_of_ble_eq_true rfl) ?_
  show AW G m_Prop_isMoved 1 0 0 _ 0 [(0, .ref a), (1, .int c)] [] (nx, h) 0 0
  refine aw_aload_n (i := 0) d_Prop_isMoved_0 rfl rfl ?_
  refine aw_iload_n (i := 1) d_Prop_isMoved_1 rfl rfl ?_
  apply aw_callv_p (c_Prop_stateIn hp c hw hk) d_Prop_isMoved_2 cl_Prop_42; assumption; rfl; rfl; rfl; rfl; decide; exact Nat.le_of_ble_eq_true rfl; exact (Nat.le_refl _); exact (Nat.le_refl _)
  refine aw_aload_n (i := 0) d_Prop_isMoved_5 rfl rfl ?_
  apply aw_get d_Prop_isMoved_6 fl_Prop_39; assumption; rfl
  refine aw_icmp_eq d_Prop_isMoved_9 (fun br9_ => ?_) (fun br9_ => ?_)
  · skip
    have hr_ : (if (c / wt - c / wt / ks * ks) = fi then (0 : Int32) else 1) = 0 := if_pos br9_
    refine aw_iconst (v := 0) d_Prop_isMoved_16 (by decide) ?_
    refine aw_zret d_Prop_isMoved_17 rfl rfl (Nat.le_refl _) (Nat.le_refl _) ?_
    exact ⟨by rw [hr_], rfl⟩
  · skip
    have hr_ : (if (c / wt - c / wt / ks * ks) = fi then (0 : Int32) else 1) = 1 := if_neg br9_
    refine aw_iconst (v := 1) d_Prop_isMoved_12 (by decide) ?_
    refine aw_goto d_Prop_isMoved_13 ?_
    refine aw_zret d_Prop_isMoved_17 rfl rfl (Nat.le_refl _) (Nat.le_refl _) ?_
    exact ⟨by rw [hr_], rfl⟩

set_option maxHeartbeats 4000000 in
set_option maxRecDepth 20000 in
theorem c_Prop_isLie {G : aG} {nx : Nat} {h : Nat → Option aC} {t a : Nat} {nu ks fi wt rp rs ex re : Int32} (hp : h a = some (ob t 6 [.int nu, .int ks, .int fi, .int wt, .int rp, .int rs, .int ex, .int re])) (c : Int32) (hw : ¬ wt = 0) (hk : ¬ ks = 0) : AMet G m_Prop_isLie 1 0 0 [.ref a, .int c] (nx, h) (RV (.int (if re = -1 ∨ re = (c / wt - c / wt / ks * ks) then 0 else 1)) (nx, h)) := by
  refine amet_of pf_Prop_isLie (Nat.le_of_ble_eq_true rfl) ?_
  show AW G m_Prop_isLie 1 0 0 _ 0 [(0, .ref a), (1, .int c)] [] (nx, h) 0 0
  refine aw_aload_n (i := 0) d_Prop_isLie_0 rfl rfl ?_
  apply aw_get d_Prop_isLie_1 fl_Prop_21; assumption; rfl
  refine aw_iconst (v := -1) d_Prop_isLie_4 (by decide) ?_
  refine aw_icmp_eq d_Prop_isLie_5 (fun br5_ => ?_) (fun br5_ => ?_)
  · skip
    have hr_ : (if re = -1 ∨ re = (c / wt - c / wt / ks * ks) then (0 : Int32) else 1) = 0 := if_pos (Or.inl br5_)
    refine aw_iconst (v := 0) d_Prop_isLie_24 (by decide) ?_
    refine aw_zret d_Prop_isLie_25 rfl rfl (Nat.le_refl _) (Nat.le_refl _) ?_
    exact ⟨by rw [hr_], rfl⟩
  · skip
    refine aw_aload_n (i := 0) d_Prop_isLie_8 rfl rfl ?_
    apply aw_get d_Prop_isLie_9 fl_Prop_21; assumption; rfl
    refine aw_aload_n (i := 0) d_Prop_isLie_12 rfl rfl ?_
    refine aw_iload_n (i := 1) d_Prop_isLie_13 rfl rfl ?_
    apply aw_callv_p (c_Prop_stateIn hp c hw hk) d_Prop_isLie_14 cl_Prop_42; assumption; rfl; rfl; rfl; rfl; decide; exact Nat.le_of_ble_eq_true rfl; exact (Nat.le_refl _); exact (Nat.le_refl _)
    refine aw_icmp_eq d_Prop_isLie_17 (fun br17_ => ?_) (fun br17_ => ?_)
    · skip
      have hr_ : (if re = -1 ∨ re = (c / wt - c / wt / ks * ks) then (0 : Int32) else 1) = 0 := if_pos (Or.inr br17_)
      refine aw_iconst (v := 0) d_Prop_isLie_24 (by decide) ?_
      refine aw_zret d_Prop_isLie_25 rfl rfl (Nat.le_refl _) (Nat.le_refl _) ?_
      exact ⟨by rw [hr_], rfl⟩
    · skip
      have hr_ : (if re = -1 ∨ re = (c / wt - c / wt / ks * ks) then (0 : Int32) else 1) = 1 := if_neg (fun q => q.elim br5_ br17_)
      refine aw_iconst (v := 1) d_Prop_isLie_20 (by decide) ?_
      refine aw_goto d_Prop_isLie_21 ?_
      refine aw_zret d_Prop_isLie_25 rfl rfl (Nat.le_refl _) (Nat.le_refl _) ?_
      exact ⟨by rw [hr_], rfl⟩
