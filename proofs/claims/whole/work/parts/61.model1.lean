theorem lgc_le (x y : Int64) : lg_cmp x y ≤ 0 ↔ x ≤ y := by
  unfold lg_cmp
  simp only [gt_iff_lt, Int64.lt_iff_toInt_lt, Int64.le_iff_toInt_le, ← Int64.toInt_inj]
  repeat' split
  · constructor
    · intro h; exact absurd h (by decide)
    · intro h; omega
  · constructor
    · intro h; omega
    · intro h; decide
  · constructor
    · intro h; omega
    · intro h; decide
theorem w_le (a b : Int32) : a.toInt64 ≤ b.toInt64 ↔ a ≤ b := by rw [Int64.le_iff_toInt_le, Int32.le_iff_toInt_le, Int32.toInt_toInt64, Int32.toInt_toInt64]
theorem in_ix {x : Int32} {n : Nat} (hn : n ≤ 1000000) : ((0 : Int64) ≤ x.toInt64 ∧ x.toInt64 ≤ (nI n - 1).toInt64) ↔ (0 ≤ x ∧ x < nI n) := by
  have e0 : (0 : Int64) = (0 : Int32).toInt64 := rfl
  rw [e0, w_le, w_le]
  refine and_congr_right (fun h0 => ?_)
  rw [Int32.le_iff_toInt_le, Int32.lt_iff_toInt_lt, nI_toInt (by omega)]
  have e1 : (nI n - 1).toInt = (n : Int) - 1 := pk_sub_toInt (b := 1) (by omega) (by omega)
  rw [e1]
  omega
set_option maxHeartbeats 4000000 in
set_option maxRecDepth 20000 in
theorem c_Mod_in {G : aG} {nx : Nat} {h : Nat → Option aC} (v lo hi : Int64) : AMet G m_Mod_in 0 0 0 [.long v, .long lo, .long hi] (nx, h) (RV (.int (bI (decide (lo ≤ v ∧ v ≤ hi)))) (nx, h)) := by
  refine amet_of pf_Mod_in (Nat.le_of_ble_eq_true rfl) ?_
  show AW G m_Mod_in 0 0 0 _ 0 [(0, .long v), (2, .long lo), (4, .long hi)] [] (nx, h) 0 0
  refine aw_lload_n (i := 0) d_Mod_in_0 rfl rfl ?_
  refine aw_lload_n (i := 2) d_Mod_in_1 rfl rfl ?_
  refine aw_lcmp d_Mod_in_2 ?_
  refine aw_if_lt d_Mod_in_3 (fun br3_ => ?_) (fun br3_ => ?_)
  · skip
    have hr_ : bI (decide (lo ≤ v ∧ v ≤ hi)) = 0 := bI_0.mpr (decide_eq_false (fun q => absurd ((lg_cmp_ge v lo).mpr q.1) (Int32.not_le.mpr br3_)))
    refine aw_iconst (v := 0) d_Mod_in_17 (by decide) ?_
    refine aw_zret d_Mod_in_18 rfl rfl (Nat.le_refl _) (Nat.le_refl _) ?_
    exact ⟨by rw [hr_], rfl⟩
  · skip
    have hlo_ := (lg_cmp_ge v lo).mp (Int32.not_lt.mp br3_)
    refine aw_lload_n (i := 0) d_Mod_in_6 rfl rfl ?_
    refine aw_lload d_Mod_in_7 rfl ?_
    refine aw_lcmp d_Mod_in_9 ?_
    refine aw_if_gt d_Mod_in_10 (fun br10_ => ?_) (fun br10_ => ?_)
    · skip
      have hr_ : bI (decide (lo ≤ v ∧ v ≤ hi)) = 0 := bI_0.mpr (decide_eq_false (fun q => absurd br10_ (Int32.not_lt.mpr ((lgc_le v hi).mpr q.2))))
      refine aw_iconst (v := 0) d_Mod_in_17 (by decide) ?_
      refine aw_zret d_Mod_in_18 rfl rfl (Nat.le_refl _) (Nat.le_refl _) ?_
      exact ⟨by rw [hr_], rfl⟩
    · skip
      have hr_ : bI (decide (lo ≤ v ∧ v ≤ hi)) = 1 := by rw [decide_eq_true ⟨hlo_, (lgc_le v hi).mp (Int32.not_lt.mp br10_)⟩]; rfl
      refine aw_iconst (v := 1) d_Mod_in_13 (by decide) ?_
      refine aw_goto d_Mod_in_14 ?_
      refine aw_zret d_Mod_in_18 rfl rfl (Nat.le_refl _) (Nat.le_refl _) ?_
      exact ⟨by rw [hr_], rfl⟩

set_option maxHeartbeats 4000000 in
set_option maxRecDepth 20000 in
theorem c_Mod_isOnce {G : aG} {nx : Nat} {h : Nat → Option aC} (x : Int32) : AMet G m_Mod_isOnce 0 0 0 [.int x] (nx, h) (RV (.int (bI (decide (2 ≤ x)))) (nx, h)) := by
  refine amet_of pf_Mod_isOnce (Nat.le_of_ble_eq_true rfl) ?_
  show AW G m_Mod_isOnce 0 0 0 _ 0 [(0, .int x)] [] (nx, h) 0 0
  refine aw_iload_n (i := 0) d_Mod_isOnce_0 rfl rfl ?_
  refine aw_iconst (v := 2) d_Mod_isOnce_1 (by decide) ?_
  refine aw_icmp_lt d_Mod_isOnce_2 (fun br2_ => ?_) (fun br2_ => ?_)
  · skip
    have hr_ : bI (decide (2 ≤ x)) = 0 := bI_0.mpr (decide_eq_false (Int32.not_le.mpr br2_))
    refine aw_iconst (v := 0) d_Mod_isOnce_9 (by decide) ?_
    refine aw_zret d_Mod_isOnce_10 rfl rfl (Nat.le_refl _) (Nat.le_refl _) ?_
    exact ⟨by rw [hr_], rfl⟩
  · skip
    have hr_ : bI (decide (2 ≤ x)) = 1 := by rw [decide_eq_true (Int32.not_lt.mp br2_)]; rfl
    refine aw_iconst (v := 1) d_Mod_isOnce_5 (by decide) ?_
    refine aw_goto d_Mod_isOnce_6 ?_
    refine aw_zret d_Mod_isOnce_10 rfl rfl (Nat.le_refl _) (Nat.le_refl _) ?_
    exact ⟨by rw [hr_], rfl⟩

set_option maxHeartbeats 4000000 in
set_option maxRecDepth 20000 in
theorem c_Mod_thrown {G : aG} {nx : Nat} {h : Nat → Option aC} {a : Nat} {A : Nat → Nat} {sc : Nat → Int32} {ar : Nat → Nat → Int32} (hm : MoS h a A sc ar) : AMet G m_Mod_thrown 0 0 0 [.ref a] (nx, h) (RV (.int (sc 0)) (nx, h)) := by
  refine amet_of pf_Mod_thrown (Nat.le_of_ble_eq_true rfl) ?_
  show AW G m_Mod_thrown 0 0 0 _ 0 [(0, .ref a)] [] (nx, h) 0 0
  refine aw_aload_n (i := 0) d_Mod_thrown_0 rfl rfl ?_
  apply aw_get d_Mod_thrown_1 fl_Mod_150; exact hm.1; rfl
  refine aw_iret d_Mod_thrown_4 rfl (Nat.le_refl _) (Nat.le_refl _) ?_
  exact ⟨rfl, rfl⟩

set_option maxHeartbeats 4000000 in
set_option maxRecDepth 20000 in
theorem c_Mod_isProp {G : aG} {nx : Nat} {h : Nat → Option aC} {a : Nat} {A : Nat → Nat} {sc : Nat → Int32} {ar : Nat → Nat → Int32} (hm : MoS h a A sc ar) {n : Nat} (hn : sc 1 = nI n) (hn2 : n ≤ 1000) (x : Int32) : AMet G m_Mod_isProp 1 0 0 [.ref a, .int x] (nx, h) (RV (.int (bI (decide (0 ≤ x ∧ x < nI n)))) (nx, h)) := by
  refine amet_of pf_Mod_isProp (Nat.le_of_ble_eq_true rfl) ?_
  show AW G m_Mod_isProp 1 0 0 _ 0 [(0, .ref a), (1, .int x)] [] (nx, h) 0 0
  refine aw_iload_n (i := 1) d_Mod_isProp_0 rfl rfl ?_
  refine aw_i2l d_Mod_isProp_1 ?_
  refine aw_lconst (v := 0) d_Mod_isProp_2 (by decide) ?_
  refine aw_aload_n (i := 0) d_Mod_isProp_3 rfl rfl ?_
  apply aw_get d_Mod_isProp_4 fl_Mod_153; exact hm.1; rfl
  rw [hn]
  refine aw_iconst (v := 1) d_Mod_isProp_7 (by decide) ?_
  refine aw_isub d_Mod_isProp_8 ?_
  refine aw_i2l d_Mod_isProp_9 ?_
  apply aw_calls_p (c_Mod_in x.toInt64 0 (nI n - 1).toInt64) d_Mod_isProp_10 cl_Mod_156; rfl; rfl; decide; exact Nat.le_of_ble_eq_true rfl; exact (Nat.le_refl _); exact (Nat.le_refl _)
  rw [show decide ((0 : Int64) ≤ x.toInt64 ∧ x.toInt64 ≤ (nI n - 1).toInt64) = decide (0 ≤ x ∧ x < nI n) from decide_eq_decide.mpr (in_ix (by omega))]
  refine aw_zret d_Mod_isProp_13 rfl (bI_nz _) (Nat.le_refl _) (Nat.le_refl _) ?_
  exact ⟨rfl, rfl⟩

set_option maxHeartbeats 4000000 in
set_option maxRecDepth 20000 in
theorem c_Mod_isStep {G : aG} {nx : Nat} {h : Nat → Option aC} {a : Nat} {A : Nat → Nat} {sc : Nat → Int32} {ar : Nat → Nat → Int32} (hm : MoS h a A sc ar) {n : Nat} (hn : sc 4 = nI n) (hn2 : n ≤ 1000) (x : Int32) : AMet G m_Mod_isStep 1 0 0 [.ref a, .int x] (nx, h) (RV (.int (bI (decide (0 ≤ x ∧ x < nI n)))) (nx, h)) := by
  refine amet_of pf_Mod_isStep (Nat.le_of_ble_eq_true rfl) ?_
  show AW G m_Mod_isStep 1 0 0 _ 0 [(0, .ref a), (1, .int x)] [] (nx, h) 0 0
  refine aw_iload_n (i := 1) d_Mod_isStep_0 rfl rfl ?_
  refine aw_i2l d_Mod_isStep_1 ?_
  refine aw_lconst (v := 0) d_Mod_isStep_2 (by decide) ?_
  refine aw_aload_n (i := 0) d_Mod_isStep_3 rfl rfl ?_
  apply aw_get d_Mod_isStep_4 fl_Mod_164; exact hm.1; rfl
  rw [hn]
  refine aw_iconst (v := 1) d_Mod_isStep_7 (by decide) ?_
  refine aw_isub d_Mod_isStep_8 ?_
  refine aw_i2l d_Mod_isStep_9 ?_
  apply aw_calls_p (c_Mod_in x.toInt64 0 (nI n - 1).toInt64) d_Mod_isStep_10 cl_Mod_156; rfl; rfl; decide; exact Nat.le_of_ble_eq_true rfl; exact (Nat.le_refl _); exact (Nat.le_refl _)
  rw [show decide ((0 : Int64) ≤ x.toInt64 ∧ x.toInt64 ≤ (nI n - 1).toInt64) = decide (0 ≤ x ∧ x < nI n) from decide_eq_decide.mpr (in_ix (by omega))]
  refine aw_zret d_Mod_isStep_13 rfl (bI_nz _) (Nat.le_refl _) (Nat.le_refl _) ?_
  exact ⟨rfl, rfl⟩

/-! the reference's numbers and the house -/
def MoH (sc : Nat → Int32) (ar : Nat → Nat → Int32) (hs : HSt) : Prop := (sc 1 = nI hs.1.length ∧ sc 4 = nI hs.2.1.length ∧ sc 15 = nI hs.2.2.1.length ∧ sc 18 = nI hs.2.2.2) ∧ (∀ i, i < hs.1.length → ar 2 i = nI (hs.1.getD i pz).1 ∧ ar 3 i = nI (hs.1.getD i pz).2.1 ∧ ar 19 i = (hs.1.getD i pz).2.2.1 ∧ (¬ (hs.1.getD i pz).2.2.1 = -1 → ar 20 i = (hs.1.getD i pz).2.2.2.1) ∧ ar 21 i = (hs.1.getD i pz).2.2.2.2.1 ∧ ar 22 i = (hs.1.getD i pz).2.2.2.2.2) ∧ (∀ j, j < hs.2.1.length → ar 5 j = nI (hs.2.1.getD j sz0).1 ∧ ar 6 j = nI (hs.2.1.getD j sz0).2.1 ∧ ar 7 j = nI (hs.2.1.getD j sz0).2.2.1 ∧ ar 8 j = nI (hs.2.1.getD j sz0).2.2.2.1 ∧ ar 9 j = nI (hs.2.1.getD j sz0).2.2.2.2.1.length ∧ (∀ (m : Nat) (hm : m < (hs.2.1.getD j sz0).2.2.2.2.1.length), ar 10 (4 * j + m) = nI (hs.2.1.getD j sz0).2.2.2.2.1[m].1 ∧ ar 11 (4 * j + m) = nI (hs.2.1.getD j sz0).2.2.2.2.1[m].2) ∧ ar 12 j = nI (hs.2.1.getD j sz0).2.2.2.2.2.length ∧ (∀ (m : Nat) (hm : m < (hs.2.1.getD j sz0).2.2.2.2.2.length), ar 13 (4 * j + m) = nI (hs.2.1.getD j sz0).2.2.2.2.2[m].1 ∧ ar 14 (4 * j + m) = nI (hs.2.1.getD j sz0).2.2.2.2.2[m].2)) ∧ (∀ (m : Nat) (hm : m < hs.2.2.1.length), ar 16 m = nI hs.2.2.1[m].1 ∧ ar 17 m = nI hs.2.2.1[m].2)
/-- what weigh() has left -/
def MoW (sc : Nat → Int32) (ar : Nat → Nat → Int32) (hs : HSt) : Prop := sc 26 = nI (hall hs) ∧ (∀ i, i < hs.1.length → ar 24 i = nI (prd ((pks hs.1).take i))) ∧ (∀ j, j < hs.2.1.length → ar 25 j = nI (swt hs.1 hs.2.1 j))
set_option maxHeartbeats 4000000 in
set_option maxRecDepth 20000 in
theorem c_Mod_stateOf {G : aG} {nx : Nat} {h : Nat → Option aC} {a : Nat} {A : Nat → Nat} {sc : Nat → Int32} {ar : Nat → Nat → Int32} (hm : MoS h a A sc ar) {hs : HSt} (hh : MoH sc ar hs) (hw : MoW sc ar hs) (hv : VH hs) {c i : Nat} (hc : c < 2 ^ 31) (hi : i < hs.1.length) : AMet G m_Mod_stateOf 0 0 0 [.ref a, .int (nI c), .int (nI i)] (nx, h) (RV (.int (nI (dg (pks hs.1) c i))) (nx, h)) := by
  have hp12 := hv.1.1
  have hs24 := hv.2.1
  have hall2 := hv.2.2.2.2.2.2.2
  have hk9 := hv.1.k hi
  have hw9 := hv.1.w i
  have hst := st_math hv.1 hi hc
  refine amet_of pf_Mod_stateOf (Nat.le_of_ble_eq_true rfl) ?_
  show AW G m_Mod_stateOf 0 0 0 _ 0 [(0, .ref a), (1, .int (nI c)), (2, .int (nI i))] [] (nx, h) 0 0
  refine aw_iload_n (i := 1) d_Mod_stateOf_0 rfl rfl ?_
  refine aw_aload_n (i := 0) d_Mod_stateOf_1 rfl rfl ?_
  apply aw_get d_Mod_stateOf_2 fl_Mod_72; exact hm.1; rfl
  refine aw_iload_n (i := 2) d_Mod_stateOf_5 rfl rfl ?_
  apply aw_iaload d_Mod_stateOf_6; exact hm.2.1 _ rfl; exact vp_in_nI (show i < 12 by omega) (by decide)
  rw [nI_clamp (by omega : i < 2 ^ 31), hw.2.1 i hi]
  refine aw_idiv d_Mod_stateOf_7 (nI_ne0 hw9.2 (by omega)) ?_
  refine aw_aload_n (i := 0) d_Mod_stateOf_8 rfl rfl ?_
  apply aw_get d_Mod_stateOf_9 fl_Mod_9; exact hm.1; rfl
  refine aw_iload_n (i := 2) d_Mod_stateOf_12 rfl rfl ?_
  apply aw_iaload d_Mod_stateOf_13; exact hm.2.1 _ rfl; exact vp_in_nI (show i < 12 by omega) (by decide)
  rw [nI_clamp (by omega : i < 2 ^ 31), (hh.2.1 i hi).1]
  refine aw_irem d_Mod_stateOf_14 (nI_ne0 (by omega) (by omega)) ?_
  rw [hst]
  refine aw_iret d_Mod_stateOf_15 rfl (Nat.le_refl _) (Nat.le_refl _) ?_
  exact ⟨rfl, rfl⟩

set_option maxHeartbeats 4000000 in
set_option maxRecDepth 20000 in
theorem c_Mod_wasDone {G : aG} {nx : Nat} {h : Nat → Option aC} {a : Nat} {A : Nat → Nat} {sc : Nat → Int32} {ar : Nat → Nat → Int32} (hm : MoS h a A sc ar) {hs : HSt} (hh : MoH sc ar hs) (hw : MoW sc ar hs) (hv : VH hs) {c j : Nat} (hc : c < 2 ^ 31) (hj : j < hs.2.1.length) : AMet G m_Mod_wasDone 0 0 0 [.ref a, .int (nI c), .int (nI j)] (nx, h) (RV (.int (bI (wdj hs c j))) (nx, h)) := by
  have hp12 := hv.1.1
  have hs24 := hv.2.1
  have hall2 := hv.2.2.2.2.2.2.2
  have hwt := swt_le hv j
  refine amet_of pf_Mod_wasDone (Nat.le_of_ble_eq_true rfl) ?_
  show AW G m_Mod_wasDone 0 0 0 _ 0 [(0, .ref a), (1, .int (nI c)), (2, .int (nI j))] [] (nx, h) 0 0
  refine aw_aload_n (i := 0) d_Mod_wasDone_0 rfl rfl ?_
  apply aw_get d_Mod_wasDone_1 fl_Mod_75; exact hm.1; rfl
  refine aw_iload_n (i := 2) d_Mod_wasDone_4 rfl rfl ?_
  apply aw_iaload d_Mod_wasDone_5; exact hm.2.1 _ rfl; exact vp_in_nI (show j < 24 by omega) (by decide)
  rw [nI_clamp (by omega : j < 2 ^ 31), hw.2.2 j hj]
  refine aw_if_le d_Mod_wasDone_6 (fun br6_ => ?_) (fun br6_ => ?_)
  · skip
    have hw0 : swt hs.1 hs.2.1 j = 0 := by
      rcases Nat.eq_zero_or_pos (swt hs.1 hs.2.1 j) with e9 | e9
      · exact e9
      · exact absurd br6_ (nI_nle e9 (by omega))
    have hr_ : bI (wdj hs c j) = 0 := by unfold wdj; rw [hw0]; rfl
    refine aw_iconst (v := 0) d_Mod_wasDone_27 (by decide) ?_
    refine aw_zret d_Mod_wasDone_28 rfl rfl (Nat.le_refl _) (Nat.le_refl _) ?_
    exact ⟨by rw [hr_], rfl⟩
  · skip
    have hwp : 0 < swt hs.1 hs.2.1 j := Nat.pos_of_ne_zero (fun e9 => br6_ (by rw [e9]; exact Int32.le_refl _))
    refine aw_iload_n (i := 1) d_Mod_wasDone_9 rfl rfl ?_
    refine aw_aload_n (i := 0) d_Mod_wasDone_10 rfl rfl ?_
    apply aw_get d_Mod_wasDone_11 fl_Mod_75; exact hm.1; rfl
    refine aw_iload_n (i := 2) d_Mod_wasDone_14 rfl rfl ?_
    apply aw_iaload d_Mod_wasDone_15; exact hm.2.1 _ rfl; exact vp_in_nI (show j < 24 by omega) (by decide)
    rw [nI_clamp (by omega : j < 2 ^ 31), hw.2.2 j hj]
    refine aw_idiv d_Mod_wasDone_16 (nI_ne0 hwp (by omega)) ?_
    rw [pk_div hc hwp (by omega)]
    refine aw_iconst (v := 2) d_Mod_wasDone_17 (by decide) ?_
    refine aw_irem d_Mod_wasDone_18 (by decide) ?_
    rw [show (2 : Int32) = nI 2 from rfl, pk_rem (Nat.lt_of_le_of_lt (Nat.div_le_self _ _) hc) (by decide) (by decide)]
    refine aw_iconst (v := 1) d_Mod_wasDone_19 (by decide) ?_
    refine aw_icmp_ne d_Mod_wasDone_20 (fun br20_ => ?_) (fun br20_ => ?_)
    · skip
      have hr_ : bI (wdj hs c j) = 0 := by
        have : ¬ c / swt hs.1 hs.2.1 j % 2 = 1 := fun e9 => br20_ (by rw [e9]; rfl)
        simp [bI, wdj, wdn, this]
      refine aw_iconst (v := 0) d_Mod_wasDone_27 (by decide) ?_
      refine aw_zret d_Mod_wasDone_28 rfl rfl (Nat.le_refl _) (Nat.le_refl _) ?_
      exact ⟨by rw [hr_], rfl⟩
    · skip
      have hr_ : bI (wdj hs c j) = 1 := by
        have : c / swt hs.1 hs.2.1 j % 2 = 1 := (nI_eq (b := 1) (by omega) (by decide)).mp br20_
        simp [bI, wdj, wdn, this, hwp]
      refine aw_iconst (v := 1) d_Mod_wasDone_23 (by decide) ?_
      refine aw_goto d_Mod_wasDone_24 ?_
      refine aw_zret d_Mod_wasDone_28 rfl rfl (Nat.le_refl _) (Nat.le_refl _) ?_
      exact ⟨by rw [hr_], rfl⟩

theorem all_take {α : Type} (p : α → Bool) (l : List α) (i : Nat) (hi : i < l.length) : (l.take (i + 1)).all p = ((l.take i).all p && p l[i]) := by
  rw [List.take_succ_eq_append_getElem hi, List.all_append]; simp
theorem any_take {α : Type} (p : α → Bool) (l : List α) (i : Nat) (hi : i < l.length) : (l.take (i + 1)).any p = ((l.take i).any p || p l[i]) := by
  rw [List.take_succ_eq_append_getElem hi, List.any_append]; simp
set_option maxHeartbeats 4000000 in
set_option maxRecDepth 20000 in
theorem c_Mod_isEnd {G : aG} {nx : Nat} {h : Nat → Option aC} {a : Nat} {A : Nat → Nat} {sc : Nat → Int32} {ar : Nat → Nat → Int32} (hm : MoS h a A sc ar) {hs : HSt} (hh : MoH sc ar hs) (hw : MoW sc ar hs) (hv : VH hs) {c : Nat} (hc : c < 2 ^ 31) : AMet G m_Mod_isEnd 1 0 0 [.ref a, .int (nI c)] (nx, h) (RV (.int (bI (isE hs c))) (nx, h)) := by
  have hp12 := hv.1.1
  have hs24 := hv.2.1
  have hall2 := hv.2.2.2.2.2.2.2
  have hgl := hv.2.2.2.2.1
  refine amet_of pf_Mod_isEnd (Nat.le_of_ble_eq_true rfl) ?_
  show AW G m_Mod_isEnd 1 0 0 _ 0 [(0, .ref a), (1, .int (nI c))] [] (nx, h) 0 0
  refine aw_iconst (v := 1) d_Mod_isEnd_0 (by decide) ?_
  refine aw_istore_n (i := 2) (lv2 := [(0, _), (1, _), (2, _)]) d_Mod_isEnd_1 rfl (by decide) rfl ?_
  refine aw_iconst (v := 0) d_Mod_isEnd_2 (by decide) ?_
  refine aw_istore_n (i := 3) (lv2 := [(0, _), (1, _), (2, _), (3, _)]) d_Mod_isEnd_3 rfl (by decide) rfl ?_
  have hT0 : AW G m_Mod_isEnd 1 0 0 (FQ G 0 0 (RV (.int (bI (isE hs c))) (nx, h))) 4 [(0, .ref a), (1, .int (nI c)), (2, .int (bI ((hs.2.2.1.take 0).all (fun p : Nat × Nat => dg (pks hs.1) c p.1 == p.2)))), (3, .int (nI 0))] [] (nx, h) 0 0 := ?_
  · exact hT0
  refine upto (σ := Nat) (fun i => AW G m_Mod_isEnd 1 0 0 _ 4 [(0, .ref a), (1, .int (nI c)), (2, .int (bI ((hs.2.2.1.take i).all (fun p : Nat × Nat => dg (pks hs.1) c p.1 == p.2)))), (3, .int (nI i))] [] (nx, h) 0 0) (fun i s => s = i) hs.2.2.1.length ?_ 0 0 (Nat.zero_le _) rfl
  intro i s0 hi hI ih
  subst hI
  refine aw_iload_n (i := 3) d_Mod_isEnd_4 rfl rfl ?_
  refine aw_aload_n (i := 0) d_Mod_isEnd_5 rfl rfl ?_
  apply aw_get d_Mod_isEnd_6 fl_Mod_197; exact hm.1; rfl
  rw [hh.1.2.2.1]
  refine aw_icmp_ge d_Mod_isEnd_9 (fun br9_ => ?_) (fun br9_ => ?_)
  · skip
    have hei : s0 = hs.2.2.1.length := by
      have := (nI_leI (by omega) (by omega)).mp br9_
      omega
    subst hei
    rw [List.take_length]
    refine aw_iload_n (i := 2) d_Mod_isEnd_48 rfl rfl ?_
    refine aw_zret d_Mod_isEnd_49 rfl (bI_nz (isE hs c)) (Nat.le_refl _) (Nat.le_refl _) ?_
    exact ⟨rfl, rfl⟩
  · skip
    have hlt := paB (by omega) (by omega) br9_
    have hpr := hv.2.2.2.1 _ (List.getElem_mem hlt)
    have hgo := hh.2.2.2 s0 hlt
    have hat := all_take (fun p : Nat × Nat => dg (pks hs.1) c p.1 == p.2) hs.2.2.1 s0 hlt
    refine aw_iload_n (i := 2) d_Mod_isEnd_12 rfl rfl ?_
    refine aw_if_eq d_Mod_isEnd_13 (fun br13_ => ?_) (fun br13_ => ?_)
    · skip
      have hnew : bI ((hs.2.2.1.take (s0 + 1)).all (fun p : Nat × Nat => dg (pks hs.1) c p.1 == p.2)) = 0 := by rw [hat, bI_0.mp br13_]; rfl
      refine aw_iconst (v := 0) d_Mod_isEnd_40 (by decide) ?_
      refine aw_istore_n (i := 2) (lv2 := [(0, _), (1, _), (2, _), (3, _)]) d_Mod_isEnd_41 rfl (by decide) rfl ?_
      refine aw_iinc (v := _ + 1) (lv2 := [(0, _), (1, _), (2, _), (3, _)]) d_Mod_isEnd_42 (by decide) rfl rfl rfl ?_
      refine aw_goto d_Mod_isEnd_45 ?_
      rw [nI_1]
      have k9 := ih hlt (s0 + 1) rfl
      rw [hnew] at k9
      exact k9
    · skip
      refine aw_aload_n (i := 0) d_Mod_isEnd_16 rfl rfl ?_
      refine aw_iload_n (i := 1) d_Mod_isEnd_17 rfl rfl ?_
      refine aw_aload_n (i := 0) d_Mod_isEnd_18 rfl rfl ?_
      apply aw_get d_Mod_isEnd_19 fl_Mod_46; exact hm.1; rfl
      refine aw_iload_n (i := 3) d_Mod_isEnd_22 rfl rfl ?_
      apply aw_iaload d_Mod_isEnd_23; exact hm.2.1 _ rfl; exact vp_in_nI (show s0 < 6 by omega) (by decide)
      rw [nI_clamp (by omega : s0 < 2 ^ 31), hgo.1]
      apply aw_callv_p (c_Mod_stateOf hm hh hw hv hc hpr.1) d_Mod_isEnd_24 cl_Mod_212; exact hm.1; rfl; rfl; rfl; rfl; decide; exact Nat.le_of_ble_eq_true rfl; exact (Nat.le_refl _); exact (Nat.le_refl _)
      refine aw_aload_n (i := 0) d_Mod_isEnd_27 rfl rfl ?_
      apply aw_get d_Mod_isEnd_28 fl_Mod_49; exact hm.1; rfl
      refine aw_iload_n (i := 3) d_Mod_isEnd_31 rfl rfl ?_
      apply aw_iaload d_Mod_isEnd_32; exact hm.2.1 _ rfl; exact vp_in_nI (show s0 < 6 by omega) (by decide)
      rw [nI_clamp (by omega : s0 < 2 ^ 31), hgo.2]
      refine aw_icmp_ne d_Mod_isEnd_33 (fun br33_ => ?_) (fun br33_ => ?_)
      · skip
        have hnew : bI ((hs.2.2.1.take (s0 + 1)).all (fun p : Nat × Nat => dg (pks hs.1) c p.1 == p.2)) = 0 := by
          rw [hat, beq_eq_false_iff_ne.mpr (fun e9 => br33_ (congrArg nI e9)), Bool.and_false]; rfl
        refine aw_iconst (v := 0) d_Mod_isEnd_40 (by decide) ?_
        refine aw_istore_n (i := 2) (lv2 := [(0, _), (1, _), (2, _), (3, _)]) d_Mod_isEnd_41 rfl (by decide) rfl ?_
        refine aw_iinc (v := _ + 1) (lv2 := [(0, _), (1, _), (2, _), (3, _)]) d_Mod_isEnd_42 (by decide) rfl rfl rfl ?_
        refine aw_goto d_Mod_isEnd_45 ?_
        rw [nI_1]
        have k9 := ih hlt (s0 + 1) rfl
        rw [hnew] at k9
        exact k9
      · skip
        have hdl := dg_lt (ks := pks hs.1) c hs.2.2.1[s0].1 (by rw [pk_len]; exact hpr.1) hv.1.pos
        rw [pk_at hpr.1] at hdl
        have hk9 := hv.1.k hpr.1
        have hnew : bI ((hs.2.2.1.take (s0 + 1)).all (fun p : Nat × Nat => dg (pks hs.1) c p.1 == p.2)) = 1 := by
          rw [hat, bI_1.mp br13_, (nI_eq (by omega) (by omega)).mp br33_, beq_self_eq_true]; rfl
        refine aw_iconst (v := 1) d_Mod_isEnd_36 (by decide) ?_
        refine aw_goto d_Mod_isEnd_37 ?_
        refine aw_istore_n (i := 2) (lv2 := [(0, _), (1, _), (2, _), (3, _)]) d_Mod_isEnd_41 rfl (by decide) rfl ?_
        refine aw_iinc (v := _ + 1) (lv2 := [(0, _), (1, _), (2, _), (3, _)]) d_Mod_isEnd_42 (by decide) rfl rfl rfl ?_
        refine aw_goto d_Mod_isEnd_45 ?_
        rw [nI_1]
        have k9 := ih hlt (s0 + 1) rfl
        rw [hnew] at k9
        exact k9

set_option maxHeartbeats 4000000 in
set_option maxRecDepth 20000 in
theorem c_Mod_allOnce {G : aG} {nx : Nat} {h : Nat → Option aC} {a : Nat} {A : Nat → Nat} {sc : Nat → Int32} {ar : Nat → Nat → Int32} (hm : MoS h a A sc ar) {hs : HSt} (hh : MoH sc ar hs) (hw : MoW sc ar hs) (hv : VH hs) {c : Nat} (hc : c < 2 ^ 31) : AMet G m_Mod_allOnce 1 0 0 [.ref a, .int (nI c)] (nx, h) (RV (.int (bI (aod hs c))) (nx, h)) := by
  have hp12 := hv.1.1
  have hs24 := hv.2.1
  have hall2 := hv.2.2.2.2.2.2.2
  refine amet_of pf_Mod_allOnce (Nat.le_of_ble_eq_true rfl) ?_
  show AW G m_Mod_allOnce 1 0 0 _ 0 [(0, .ref a), (1, .int (nI c))] [] (nx, h) 0 0
  refine aw_iconst (v := 1) d_Mod_allOnce_0 (by decide) ?_
  refine aw_istore_n (i := 2) (lv2 := [(0, _), (1, _), (2, _)]) d_Mod_allOnce_1 rfl (by decide) rfl ?_
  refine aw_iconst (v := 0) d_Mod_allOnce_2 (by decide) ?_
  refine aw_istore_n (i := 3) (lv2 := [(0, _), (1, _), (2, _), (3, _)]) d_Mod_allOnce_3 rfl (by decide) rfl ?_
  have hT0 : AW G m_Mod_allOnce 1 0 0 (FQ G 0 0 (RV (.int (bI (aod hs c))) (nx, h))) 4 [(0, .ref a), (1, .int (nI c)), (2, .int (bI (((List.range hs.2.1.length).take 0).all (fun j => !((hs.2.1.getD j sz0).1 == 2) || wdj hs c j)))), (3, .int (nI 0))] [] (nx, h) 0 0 := ?_
  · exact hT0
  refine upto (σ := Nat) (fun i => AW G m_Mod_allOnce 1 0 0 _ 4 [(0, .ref a), (1, .int (nI c)), (2, .int (bI (((List.range hs.2.1.length).take i).all (fun j => !((hs.2.1.getD j sz0).1 == 2) || wdj hs c j)))), (3, .int (nI i))] [] (nx, h) 0 0) (fun i s => s = i) hs.2.1.length ?_ 0 0 (Nat.zero_le _) rfl
  intro i s0 hi hI ih
  subst hI
  refine aw_iload_n (i := 3) d_Mod_allOnce_4 rfl rfl ?_
  refine aw_aload_n (i := 0) d_Mod_allOnce_5 rfl rfl ?_
  apply aw_get d_Mod_allOnce_6 fl_Mod_164; exact hm.1; rfl
  rw [hh.1.2.1]
  refine aw_icmp_ge d_Mod_allOnce_9 (fun br9_ => ?_) (fun br9_ => ?_)
  · skip
    have hei : s0 = hs.2.1.length := by
      have := (nI_leI (by omega) (by omega)).mp br9_
      omega
    subst hei
    rw [List.take_of_length_le (by simp)]
    refine aw_iload_n (i := 2) d_Mod_allOnce_47 rfl rfl ?_
    refine aw_zret d_Mod_allOnce_48 rfl (bI_nz (aod hs c)) (Nat.le_refl _) (Nat.le_refl _) ?_
    exact ⟨rfl, rfl⟩
  · skip
    have hlt := paB (by omega) (by omega) br9_
    have hst := hh.2.2.1 s0 hlt
    have hvk : (hs.2.1.getD s0 sz0).1 ≤ 3 := (hv.s hlt).1
    have hat := all_take (fun j => !((hs.2.1.getD j sz0).1 == 2) || wdj hs c j) (List.range hs.2.1.length) s0 (by simpa using hlt)
    rw [List.getElem_range] at hat
    refine aw_iload_n (i := 2) d_Mod_allOnce_12 rfl rfl ?_
    refine aw_if_eq d_Mod_allOnce_13 (fun br13_ => ?_) (fun br13_ => ?_)
    · skip
      have hnew : bI (((List.range hs.2.1.length).take (s0 + 1)).all (fun j => !((hs.2.1.getD j sz0).1 == 2) || wdj hs c j)) = 0 := by rw [hat, bI_0.mp br13_]; rfl
      refine aw_iconst (v := 0) d_Mod_allOnce_39 (by decide) ?_
      refine aw_istore_n (i := 2) (lv2 := [(0, _), (1, _), (2, _), (3, _)]) d_Mod_allOnce_40 rfl (by decide) rfl ?_
      refine aw_iinc (v := _ + 1) (lv2 := [(0, _), (1, _), (2, _), (3, _)]) d_Mod_allOnce_41 (by decide) rfl rfl rfl ?_
      refine aw_goto d_Mod_allOnce_44 ?_
      rw [nI_1]
      have k9 := ih hlt (s0 + 1) rfl
      rw [hnew] at k9
      exact k9
    · skip
      refine aw_aload_n (i := 0) d_Mod_allOnce_16 rfl rfl ?_
      apply aw_get d_Mod_allOnce_17 fl_Mod_16; exact hm.1; rfl
      refine aw_iload_n (i := 3) d_Mod_allOnce_20 rfl rfl ?_
      apply aw_iaload d_Mod_allOnce_21; exact hm.2.1 _ rfl; exact vp_in_nI (show s0 < 24 by omega) (by decide)
      rw [nI_clamp (by omega : s0 < 2 ^ 31), hst.1]
      refine aw_iconst (v := 2) d_Mod_allOnce_22 (by decide) ?_
      refine aw_icmp_ne d_Mod_allOnce_23 (fun br23_ => ?_) (fun br23_ => ?_)
      · skip
        have hnew : bI (((List.range hs.2.1.length).take (s0 + 1)).all (fun j => !((hs.2.1.getD j sz0).1 == 2) || wdj hs c j)) = 1 := by
          rw [hat, bI_1.mp br13_, beq_eq_false_iff_ne.mpr (fun e9 => br23_ (by rw [e9]; rfl))]; rfl
        refine aw_iconst (v := 1) d_Mod_allOnce_35 (by decide) ?_
        refine aw_goto d_Mod_allOnce_36 ?_
        refine aw_istore_n (i := 2) (lv2 := [(0, _), (1, _), (2, _), (3, _)]) d_Mod_allOnce_40 rfl (by decide) rfl ?_
        refine aw_iinc (v := _ + 1) (lv2 := [(0, _), (1, _), (2, _), (3, _)]) d_Mod_allOnce_41 (by decide) rfl rfl rfl ?_
        refine aw_goto d_Mod_allOnce_44 ?_
        rw [nI_1]
        have k9 := ih hlt (s0 + 1) rfl
        rw [hnew] at k9
        exact k9
      · skip
        have hk2 : ((hs.2.1.getD s0 sz0).1 == 2) = true := by rw [(nI_eq (b := 2) (by omega) (by decide)).mp br23_]; rfl
        refine aw_aload_n (i := 0) d_Mod_allOnce_26 rfl rfl ?_
        refine aw_iload_n (i := 1) d_Mod_allOnce_27 rfl rfl ?_
        refine aw_iload_n (i := 3) d_Mod_allOnce_28 rfl rfl ?_
        apply aw_callv_p (c_Mod_wasDone hm hh hw hv hc hlt) d_Mod_allOnce_29 cl_Mod_216; exact hm.1; rfl; rfl; rfl; rfl; decide; exact Nat.le_of_ble_eq_true rfl; exact (Nat.le_refl _); exact (Nat.le_refl _)
        refine aw_if_eq d_Mod_allOnce_32 (fun br32_ => ?_) (fun br32_ => ?_)
        · skip
          have hnew : bI (((List.range hs.2.1.length).take (s0 + 1)).all (fun j => !((hs.2.1.getD j sz0).1 == 2) || wdj hs c j)) = 0 := by
            rw [hat, hk2, bI_0.mp br32_, Bool.and_comm]; rfl
          refine aw_iconst (v := 0) d_Mod_allOnce_39 (by decide) ?_
          refine aw_istore_n (i := 2) (lv2 := [(0, _), (1, _), (2, _), (3, _)]) d_Mod_allOnce_40 rfl (by decide) rfl ?_
          refine aw_iinc (v := _ + 1) (lv2 := [(0, _), (1, _), (2, _), (3, _)]) d_Mod_allOnce_41 (by decide) rfl rfl rfl ?_
          refine aw_goto d_Mod_allOnce_44 ?_
          rw [nI_1]
          have k9 := ih hlt (s0 + 1) rfl
          rw [hnew] at k9
          exact k9
        · skip
          have hnew : bI (((List.range hs.2.1.length).take (s0 + 1)).all (fun j => !((hs.2.1.getD j sz0).1 == 2) || wdj hs c j)) = 1 := by
            rw [hat, bI_1.mp br13_, hk2, bI_1.mp br32_]; rfl
          refine aw_iconst (v := 1) d_Mod_allOnce_35 (by decide) ?_
          refine aw_goto d_Mod_allOnce_36 ?_
          refine aw_istore_n (i := 2) (lv2 := [(0, _), (1, _), (2, _), (3, _)]) d_Mod_allOnce_40 rfl (by decide) rfl ?_
          refine aw_iinc (v := _ + 1) (lv2 := [(0, _), (1, _), (2, _), (3, _)]) d_Mod_allOnce_41 (by decide) rfl rfl rfl ?_
          refine aw_goto d_Mod_allOnce_44 ?_
          rw [nI_1]
          have k9 := ih hlt (s0 + 1) rfl
          rw [hnew] at k9
          exact k9

