theorem hs_hs (h : Nat → Option aC) (a : Nat) (c1 c2 : aC) : hset (hset h a c1) a c2 = hset h a c2 := by
  funext j
  simp only [hset]
  split <;> rfl
set_option maxHeartbeats 4000000 in
set_option maxRecDepth 20000 in
theorem c_Math_max {G : aG} {nx : Nat} {h : Nat → Option aC} (x y : Int32) : AMet G m_Math_max 0 0 0 [.int x, .int y] (nx, h) (RV (.int (if x < y then y else x)) (nx, h)) := by
  refine amet_of pf_Math_max (Nat.le_of_ble_eq_true rfl) ?_
  show AW G m_Math_max 0 0 0 _ 0 [(0, .int x), (1, .int y)] [] (nx, h) 0 0
  refine aw_iload_n (i := 0) d_Math_max_0 rfl rfl ?_
  refine aw_iload_n (i := 1) d_Math_max_1 rfl rfl ?_
  refine aw_icmp_lt d_Math_max_2 (fun br2_ => ?_) (fun br2_ => ?_)
  · skip
    have hr_ : (if x < y then y else x) = y := if_pos br2_
    refine aw_iload_n (i := 1) d_Math_max_9 rfl rfl ?_
    refine aw_iret d_Math_max_10 rfl (Nat.le_refl _) (Nat.le_refl _) ?_
    exact ⟨by rw [hr_], rfl⟩
  · skip
    have hr_ : (if x < y then y else x) = x := if_neg br2_
    refine aw_iload_n (i := 0) d_Math_max_5 rfl rfl ?_
    refine aw_goto d_Math_max_6 ?_
    refine aw_iret d_Math_max_10 rfl (Nat.le_refl _) (Nat.le_refl _) ?_
    exact ⟨by rw [hr_], rfl⟩

set_option maxHeartbeats 4000000 in
set_option maxRecDepth 20000 in
theorem c_Math_min {G : aG} {nx : Nat} {h : Nat → Option aC} (x y : Int32) : AMet G m_Math_min 0 0 0 [.int x, .int y] (nx, h) (RV (.int (if y < x then y else x)) (nx, h)) := by
  refine amet_of pf_Math_min (Nat.le_of_ble_eq_true rfl) ?_
  show AW G m_Math_min 0 0 0 _ 0 [(0, .int x), (1, .int y)] [] (nx, h) 0 0
  refine aw_iload_n (i := 0) d_Math_min_0 rfl rfl ?_
  refine aw_iload_n (i := 1) d_Math_min_1 rfl rfl ?_
  refine aw_icmp_gt d_Math_min_2 (fun br2_ => ?_) (fun br2_ => ?_)
  · skip
    have hr_ : (if y < x then y else x) = y := if_pos br2_
    refine aw_iload_n (i := 1) d_Math_min_9 rfl rfl ?_
    refine aw_iret d_Math_min_10 rfl (Nat.le_refl _) (Nat.le_refl _) ?_
    exact ⟨by rw [hr_], rfl⟩
  · skip
    have hr_ : (if y < x then y else x) = x := if_neg br2_
    refine aw_iload_n (i := 0) d_Math_min_5 rfl rfl ?_
    refine aw_goto d_Math_min_6 ?_
    refine aw_iret d_Math_min_10 rfl (Nat.le_refl _) (Nat.le_refl _) ?_
    exact ⟨by rw [hr_], rfl⟩

set_option maxHeartbeats 4000000 in
set_option maxRecDepth 20000 in
theorem c_Math_floorMod {G : aG} {nx : Nat} {h : Nat → Option aC} (x y : Int32) (hy : ¬ y = 0) : AMet G m_Math_floorMod 0 0 0 [.int x, .int y] (nx, h) (RV (.int (if (x ^^^ y) < 0 ∧ ¬ x - x / y * y = 0 then x - x / y * y + y else x - x / y * y)) (nx, h)) := by
  refine amet_of pf_Math_floorMod (Nat.le_of_ble_eq_true rfl) ?_
  show AW G m_Math_floorMod 0 0 0 _ 0 [(0, .int x), (1, .int y)] [] (nx, h) 0 0
  refine aw_iload_n (i := 0) d_Math_floorMod_0 rfl rfl ?_
  refine aw_iload_n (i := 1) d_Math_floorMod_1 rfl rfl ?_
  refine aw_irem d_Math_floorMod_2 (by assumption) ?_
  refine aw_istore_n (i := 2) (lv2 := [(0, _), (1, _), (2, _)]) d_Math_floorMod_3 rfl (by decide) rfl ?_
  refine aw_iload_n (i := 0) d_Math_floorMod_4 rfl rfl ?_
  refine aw_iload_n (i := 1) d_Math_floorMod_5 rfl rfl ?_
  refine aw_ixor d_Math_floorMod_6 ?_
  refine aw_if_ge d_Math_floorMod_7 (fun br7_ => ?_) (fun br7_ => ?_)
  · skip
    have hr_ := if_neg (c := (x ^^^ y) < 0 ∧ ¬ x - x / y * y = 0) (t := x - x / y * y + y) (e := x - x / y * y) (fun q => absurd br7_ (Int32.not_le.mpr q.1))
    refine aw_iload_n (i := 2) d_Math_floorMod_18 rfl rfl ?_
    refine aw_iret d_Math_floorMod_19 rfl (Nat.le_refl _) (Nat.le_refl _) ?_
    exact ⟨by rw [hr_], rfl⟩
  · skip
    refine aw_iload_n (i := 2) d_Math_floorMod_10 rfl rfl ?_
    refine aw_if_eq d_Math_floorMod_11 (fun br11_ => ?_) (fun br11_ => ?_)
    · skip
      have hr_ := if_neg (c := (x ^^^ y) < 0 ∧ ¬ x - x / y * y = 0) (t := x - x / y * y + y) (e := x - x / y * y) (fun q => q.2 br11_)
      refine aw_iload_n (i := 2) d_Math_floorMod_18 rfl rfl ?_
      refine aw_iret d_Math_floorMod_19 rfl (Nat.le_refl _) (Nat.le_refl _) ?_
      exact ⟨by rw [hr_], rfl⟩
    · skip
      have hr_ := if_pos (c := (x ^^^ y) < 0 ∧ ¬ x - x / y * y = 0) (t := x - x / y * y + y) (e := x - x / y * y) ⟨Int32.not_le.mp br7_, br11_⟩
      refine aw_iload_n (i := 2) d_Math_floorMod_14 rfl rfl ?_
      refine aw_iload_n (i := 1) d_Math_floorMod_15 rfl rfl ?_
      refine aw_iadd d_Math_floorMod_16 ?_
      refine aw_iret d_Math_floorMod_17 rfl (Nat.le_refl _) (Nat.le_refl _) ?_
      exact ⟨by rw [hr_], rfl⟩

set_option maxHeartbeats 4000000 in
set_option maxRecDepth 20000 in
theorem c_Pre_checkIndex {G : aG} {nx : Nat} {h : Nat → Option aC} (i n : Int32) (h0 : ¬ i < 0) (h1 : i < n) : AMet G m_Pre_checkIndex 0 0 0 [.int i, .int n, .null] (nx, h) (RV (.int i) (nx, h)) := by
  refine amet_of pf_Pre_checkIndex (Nat.le_of_ble_eq_true rfl) ?_
  show AW G m_Pre_checkIndex 0 0 0 _ 0 [(0, .int i), (1, .int n), (2, .null)] [] (nx, h) 0 0
  refine aw_iload_n (i := 0) d_Pre_checkIndex_0 rfl rfl ?_
  refine aw_if_lt d_Pre_checkIndex_1 (fun br1_ => absurd br1_ h0) (fun br1_ => ?_)
  refine aw_iload_n (i := 0) d_Pre_checkIndex_4 rfl rfl ?_
  refine aw_iload_n (i := 1) d_Pre_checkIndex_5 rfl rfl ?_
  refine aw_icmp_lt d_Pre_checkIndex_6 (fun br6_ => ?_) (fun br6_ => absurd h1 br6_)
  refine aw_iload_n (i := 0) d_Pre_checkIndex_16 rfl rfl ?_
  refine aw_iret d_Pre_checkIndex_17 rfl (Nat.le_refl _) (Nat.le_refl _) ?_
  exact ⟨rfl, rfl⟩

set_option maxHeartbeats 4000000 in
set_option maxRecDepth 20000 in
theorem c_Objs_checkIndex {G : aG} {nx : Nat} {h : Nat → Option aC} (i n : Int32) (h0 : ¬ i < 0) (h1 : i < n) : AMet G m_Objs_checkIndex 1 0 0 [.int i, .int n] (nx, h) (RV (.int i) (nx, h)) := by
  refine amet_of pf_Objs_checkIndex (Nat.le_of_ble_eq_true rfl) ?_
  show AW G m_Objs_checkIndex 1 0 0 _ 0 [(0, .int i), (1, .int n)] [] (nx, h) 0 0
  refine aw_iload_n (i := 0) d_Objs_checkIndex_0 rfl rfl ?_
  refine aw_iload_n (i := 1) d_Objs_checkIndex_1 rfl rfl ?_
  refine aw_null d_Objs_checkIndex_2 ?_
  apply aw_calls_p (c_Pre_checkIndex i n h0 h1) d_Objs_checkIndex_3 cl_Objs_105; rfl; rfl; decide; exact Nat.le_of_ble_eq_true rfl; exact (Nat.le_refl _); exact (Nat.le_refl _)
  refine aw_iret d_Objs_checkIndex_6 rfl (Nat.le_refl _) (Nat.le_refl _) ?_
  exact ⟨rfl, rfl⟩

set_option maxHeartbeats 4000000 in
set_option maxRecDepth 20000 in
theorem c_AL_size {G : aG} {nx : Nat} {h : Nat → Option aC} {t a e : Nat} {m z : Int32} (hl : h a = some (ob t 12 [.int m, .ref e, .int z])) : AMet G m_AL_size 0 0 0 [.ref a] (nx, h) (RV (.int z) (nx, h)) := by
  refine amet_of pf_AL_size (Nat.le_of_ble_eq_true rfl) ?_
  show AW G m_AL_size 0 0 0 _ 0 [(0, .ref a)] [] (nx, h) 0 0
  refine aw_aload_n (i := 0) d_AL_size_0 rfl rfl ?_
  apply aw_get d_AL_size_1 fl_AL_48; assumption; rfl
  refine aw_iret d_AL_size_4 rfl (Nat.le_refl _) (Nat.le_refl _) ?_
  exact ⟨rfl, rfl⟩

set_option maxHeartbeats 4000000 in
set_option maxRecDepth 20000 in
theorem c_AL_elementData {G : aG} {nx : Nat} {h : Nat → Option aC} {t te a e N : Nat} {m z : Int32} {f : Nat → Option Nat} (hl : h a = some (ob t 12 [.int m, .ref e, .int z])) (he : h e = some (cO te N f)) (i : Int32) (hi : vp_in i N) : AMet G m_AL_elementData 0 0 0 [.ref a, .int i] (nx, h) (RV (va_rf (f i.toNatClampNeg)) (nx, h)) := by
  refine amet_of pf_AL_elementData (Nat.le_of_ble_eq_true rfl) ?_
  show AW G m_AL_elementData 0 0 0 _ 0 [(0, .ref a), (1, .int i)] [] (nx, h) 0 0
  refine aw_aload_n (i := 0) d_AL_elementData_0 rfl rfl ?_
  apply aw_get d_AL_elementData_1 fl_AL_9; assumption; rfl
  refine aw_iload_n (i := 1) d_AL_elementData_4 rfl rfl ?_
  apply aw_aaload d_AL_elementData_5; assumption; assumption
  refine aw_aret d_AL_elementData_6 rfl (Or.inl ⟨_, rfl⟩) (by cases f i.toNatClampNeg <;> simp [va_rf]) (Nat.le_refl _) (Nat.le_refl _) ?_
  exact ⟨rfl, rfl⟩

set_option maxHeartbeats 4000000 in
set_option maxRecDepth 20000 in
theorem c_AL_get {G : aG} {nx : Nat} {h : Nat → Option aC} {t te a e N : Nat} {m z : Int32} {f : Nat → Option Nat} (hl : h a = some (ob t 12 [.int m, .ref e, .int z])) (he : h e = some (cO te N f)) (i : Int32) (hi : vp_in i N) (h0 : ¬ i < 0) (h1 : i < z) : AMet G m_AL_get 2 0 0 [.ref a, .int i] (nx, h) (RV (va_rf (f i.toNatClampNeg)) (nx, h)) := by
  refine amet_of pf_AL_get (Nat.le_of_ble_eq_true rfl) ?_
  show AW G m_AL_get 2 0 0 _ 0 [(0, .ref a), (1, .int i)] [] (nx, h) 0 0
  refine aw_iload_n (i := 1) d_AL_get_0 rfl rfl ?_
  refine aw_aload_n (i := 0) d_AL_get_1 rfl rfl ?_
  apply aw_get d_AL_get_2 fl_AL_48; assumption; rfl
  apply aw_calls_p (c_Objs_checkIndex i z h0 h1) d_AL_get_5 cl_AL_118; rfl; rfl; decide; exact Nat.le_of_ble_eq_true rfl; exact (Nat.le_refl _); exact (Nat.le_refl _)
  refine aw_pop d_AL_get_8 rfl ?_
  refine aw_aload_n (i := 0) d_AL_get_9 rfl rfl ?_
  refine aw_iload_n (i := 1) d_AL_get_10 rfl rfl ?_
  apply aw_callv_p (c_AL_elementData hl he i hi) d_AL_get_11 cl_AL_123; assumption; rfl; rfl; rfl; rfl; decide; exact Nat.le_of_ble_eq_true rfl; exact (Nat.le_refl _); exact (Nat.le_refl _)
  refine aw_aret d_AL_get_14 rfl (Or.inl ⟨_, rfl⟩) (by cases f i.toNatClampNeg <;> simp [va_rf]) (Nat.le_refl _) (Nat.le_refl _) ?_
  exact ⟨rfl, rfl⟩

set_option maxHeartbeats 4000000 in
set_option maxRecDepth 20000 in
theorem c_Prop_stateIn {G : aG} {nx : Nat} {h : Nat → Option aC} {t a : Nat} {nu ks fi wt rp rs ex re : Int32} (hp : h a = some (ob t 6 [.int nu, .int ks, .int fi, .int wt, .int rp, .int rs, .int ex, .int re])) (c : Int32) (hw : ¬ wt = 0) (hk : ¬ ks = 0) : AMet G m_Prop_stateIn 0 0 0 [.ref a, .int c] (nx, h) (RV (.int (c / wt - c / wt / ks * ks)) (nx, h)) := by
  refine amet_of pf_Prop_stateIn (Nat.le_of_ble_eq_true rfl) ?_
  show AW G m_Prop_stateIn 0 0 0 _ 0 [(0, .ref a), (1, .int c)] [] (nx, h) 0 0
  refine aw_iload_n (i := 1) d_Prop_stateIn_0 rfl rfl ?_
  refine aw_aload_n (i := 0) d_Prop_stateIn_1 rfl rfl ?_
  apply aw_get d_Prop_stateIn_2 fl_Prop_36; assumption; rfl
  refine aw_idiv d_Prop_stateIn_5 (by assumption) ?_
  refine aw_aload_n (i := 0) d_Prop_stateIn_6 rfl rfl ?_
  apply aw_get d_Prop_stateIn_7 fl_Prop_33; assumption; rfl
  refine aw_irem d_Prop_stateIn_10 (by assumption) ?_
  refine aw_iret d_Prop_stateIn_11 rfl (Nat.le_refl _) (Nat.le_refl _) ?_
  exact ⟨rfl, rfl⟩

set_option maxHeartbeats 4000000 in
set_option maxRecDepth 20000 in
theorem c_Prop_codeWith {G : aG} {nx : Nat} {h : Nat → Option aC} {t a : Nat} {nu ks fi wt rp rs ex re : Int32} (hp : h a = some (ob t 6 [.int nu, .int ks, .int fi, .int wt, .int rp, .int rs, .int ex, .int re])) (c s : Int32) (hw : ¬ wt = 0) (hk : ¬ ks = 0) : AMet G m_Prop_codeWith 0 0 0 [.ref a, .int c, .int s] (nx, h) (RV (.int (c + (s - (c / wt - c / wt / ks * ks)) * wt)) (nx, h)) := by
  refine amet_of pf_Prop_codeWith (Nat.le_of_ble_eq_true rfl) ?_
  show AW G m_Prop_codeWith 0 0 0 _ 0 [(0, .ref a), (1, .int c), (2, .int s)] [] (nx, h) 0 0
  refine aw_iload_n (i := 1) d_Prop_codeWith_0 rfl rfl ?_
  refine aw_iload_n (i := 2) d_Prop_codeWith_1 rfl rfl ?_
  refine aw_iload_n (i := 1) d_Prop_codeWith_2 rfl rfl ?_
  refine aw_aload_n (i := 0) d_Prop_codeWith_3 rfl rfl ?_
  apply aw_get d_Prop_codeWith_4 fl_Prop_36; assumption; rfl
  refine aw_idiv d_Prop_codeWith_7 (by assumption) ?_
  refine aw_aload_n (i := 0) d_Prop_codeWith_8 rfl rfl ?_
  apply aw_get d_Prop_codeWith_9 fl_Prop_33; assumption; rfl
  refine aw_irem d_Prop_codeWith_12 (by assumption) ?_
  refine aw_isub d_Prop_codeWith_13 ?_
  refine aw_aload_n (i := 0) d_Prop_codeWith_14 rfl rfl ?_
  apply aw_get d_Prop_codeWith_15 fl_Prop_36; assumption; rfl
  refine aw_imul d_Prop_codeWith_18 ?_
  refine aw_iadd d_Prop_codeWith_19 ?_
  refine aw_iret d_Prop_codeWith_20 rfl (Nat.le_refl _) (Nat.le_refl _) ?_
  exact ⟨rfl, rfl⟩

set_option maxHeartbeats 4000000 in
set_option maxRecDepth 20000 in
theorem c_Prop_isMoved {G : aG} {nx : Nat} {h : Nat → Option aC} {t a : Nat} {nu ks fi wt rp rs ex re : Int32} (hp : h a = some (ob t 6 [.int nu, .int ks, .int fi, .int wt, .int rp, .int rs, .int ex, .int re])) (c : Int32) (hw : ¬ wt = 0) (hk : ¬ ks = 0) : AMet G m_Prop_isMoved 1 0 0 [.ref a, .int c] (nx, h) (RV (.int (if (c / wt - c / wt / ks * ks) = fi then 0 else 1)) (nx, h)) := by
  refine amet_of pf_Prop_isMoved (Nat.le_of_ble_eq_true rfl) ?_
  show AW G m_Prop_isMoved 1 0 0 _ 0 [(0, .ref a), (1, .int c)] [] (nx, h) 0 0
  refine aw_aload_n (i := 0) d_Prop_isMoved_0 rfl rfl ?_
  refine aw_iload_n (i := 1) d_Prop_isMoved_1 rfl rfl ?_
  apply aw_callv_p (c_Prop_stateIn hp c hw hk) d_Prop_isMoved_2 cl_Prop_42; assumption; rfl; rfl; rfl; rfl; decide; exact Nat.le_of_ble_eq_true rfl; exact (Nat.le_refl _); exact (Nat.le_refl _)
  refine aw_aload_n (i := 0) d_Prop_isMoved_5 rfl rfl ?_
  apply aw_get d_Prop_isMoved_6 fl_Prop_39; assumption; rfl
  refine aw_icmp_eq d_Prop_isMoved_9 (fun br9_ => ?_) (fun br9_ => ?_)
  · skip
    have hr_ := if_pos (t := (0 : Int32)) (e := 1) br9_
    refine aw_iconst (v := 0) d_Prop_isMoved_16 (by decide) ?_
    refine aw_zret d_Prop_isMoved_17 rfl rfl (Nat.le_refl _) (Nat.le_refl _) ?_
    exact ⟨by rw [hr_], rfl⟩
  · skip
    have hr_ := if_neg (t := (0 : Int32)) (e := 1) br9_
    refine aw_iconst (v := 1) d_Prop_isMoved_12 (by decide) ?_
    refine aw_goto d_Prop_isMoved_13 ?_
    refine aw_zret d_Prop_isMoved_17 rfl rfl (Nat.le_refl _) (Nat.le_refl _) ?_
    exact ⟨by rw [hr_], rfl⟩

set_option maxHeartbeats 4000000 in
set_option maxRecDepth 20000 in
theorem c_Prop_isLie {G : aG} {nx : Nat} {h : Nat → Option aC} {t a : Nat} {nu ks fi wt rp rs ex re : Int32} (hp : h a = some (ob t 6 [.int nu, .int ks, .int fi, .int wt, .int rp, .int rs, .int ex, .int re])) (c : Int32) (hw : ¬ wt = 0) (hk : ¬ ks = 0) : AMet G m_Prop_isLie 1 0 0 [.ref a, .int c] (nx, h) (RV (.int (if re = -1 ∨ re = (c / wt - c / wt / ks * ks) then 0 else 1)) (nx, h)) := by
  refine amet_of pf_Prop_isLie (Nat.le_of_ble_eq_true rfl) ?_
  show AW G m_Prop_isLie 1 0 0 _ 0 [(0, .ref a), (1, .int c)] [] (nx, h) 0 0
  refine aw_aload_n (i := 0) d_Prop_isLie_0 rfl rfl ?_
  apply aw_get d_Prop_isLie_1 fl_Prop_21; assumption; rfl
  refine aw_iconst (v := -1) d_Prop_isLie_4 (by decide) ?_
  refine aw_icmp_eq d_Prop_isLie_5 (fun br5_ => ?_) (fun br5_ => ?_)
  · skip
    have hr_ := if_pos (t := (0 : Int32)) (e := 1) (Or.inl br5_ : re = -1 ∨ re = (c / wt - c / wt / ks * ks))
    refine aw_iconst (v := 0) d_Prop_isLie_24 (by decide) ?_
    refine aw_zret d_Prop_isLie_25 rfl rfl (Nat.le_refl _) (Nat.le_refl _) ?_
    exact ⟨by rw [hr_], rfl⟩
  · skip
    refine aw_aload_n (i := 0) d_Prop_isLie_8 rfl rfl ?_
    apply aw_get d_Prop_isLie_9 fl_Prop_21; assumption; rfl
    refine aw_aload_n (i := 0) d_Prop_isLie_12 rfl rfl ?_
    refine aw_iload_n (i := 1) d_Prop_isLie_13 rfl rfl ?_
    apply aw_callv_p (c_Prop_stateIn hp c hw hk) d_Prop_isLie_14 cl_Prop_42; assumption; rfl; rfl; rfl; rfl; decide; exact Nat.le_of_ble_eq_true rfl; exact (Nat.le_refl _); exact (Nat.le_refl _)
    refine aw_icmp_eq d_Prop_isLie_17 (fun br17_ => ?_) (fun br17_ => ?_)
    · skip
      have hr_ := if_pos (t := (0 : Int32)) (e := 1) (Or.inr br17_ : re = -1 ∨ re = (c / wt - c / wt / ks * ks))
      refine aw_iconst (v := 0) d_Prop_isLie_24 (by decide) ?_
      refine aw_zret d_Prop_isLie_25 rfl rfl (Nat.le_refl _) (Nat.le_refl _) ?_
      exact ⟨by rw [hr_], rfl⟩
    · skip
      have hr_ := if_neg (t := (0 : Int32)) (e := 1) (fun q : re = -1 ∨ re = (c / wt - c / wt / ks * ks) => q.elim br5_ br17_)
      refine aw_iconst (v := 1) d_Prop_isLie_20 (by decide) ?_
      refine aw_goto d_Prop_isLie_21 ?_
      refine aw_zret d_Prop_isLie_25 rfl rfl (Nat.le_refl _) (Nat.le_refl _) ?_
      exact ⟨by rw [hr_], rfl⟩
