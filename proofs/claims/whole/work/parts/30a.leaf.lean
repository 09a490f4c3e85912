theorem hs_hs (h : Nat → Option aC) (a : Nat) (c1 c2 : aC) : hset (hset h a c1) a c2 = hset h a c2 := by
  funext j
  simp only [hset]
  split <;> rfl
set_option maxHeartbeats 4000000 in
set_option maxRecDepth 20000 in
theorem c_Math_max {G : aG} {nx : Nat} {h : Nat → Option aC} (x y : Int32) : AMet G m_Math_max 0 0 0 [.int x, .int y] (nx, h) (RV (.int (if x < y then y else x)) (nx, h)) := by
  refine amet_of pf_Math_max (Nat.le_of_ble_eq_true rfl) ?_
  show AW G m_Math_max 0 0 0 _ 0 [(0, .int x), (1, .int y)] [] (nx, h) 0 0
  refine aw_iload_n (i := 0) d_Math_max_0 rfl rfl ?_
  refine aw_iload_n (i := 1) d_Math_max_1 rfl rfl ?_
  refine aw_icmp_lt d_Math_max_2 (fun br2_ => ?_) (fun br2_ => ?_)
  · skip
    have hr_ : (if x < y then y else x) = y := if_pos br2_
    refine aw_iload_n (i := 1) d_Math_max_9 rfl rfl ?_
    refine aw_iret d_Math_max_10 rfl (Nat.le_refl _) (Nat.le_refl _) ?_
    exact ⟨by rw [hr_], rfl⟩
  · skip
    have hr_ : (if x < y then y else x) = x := if_neg br2_
    refine aw_iload_n (i := 0) d_Math_max_5 rfl rfl ?_
    refine aw_goto d_Math_max_6 ?_
    refine aw_iret d_Math_max_10 rfl (Nat.le_refl _) (Nat.le_refl _) ?_
    exact ⟨by rw [hr_], rfl⟩

set_option maxHeartbeats 4000000 in
set_option maxRecDepth 20000 in
theorem c_Math_min {G : aG} {nx : Nat} {h : Nat → Option aC} (x y : Int32) : AMet G m_Math_min 0 0 0 [.int x, .int y] (nx, h) (RV (.int (if y < x then y else x)) (nx, h)) := by
  refine amet_of pf_Math_min (Nat.le_of_ble_eq_true rfl) ?_
  show AW G m_Math_min 0 0 0 _ 0 [(0, .int x), (1, .int y)] [] (nx, h) 0 0
  refine aw_iload_n (i := 0) d_Math_min_0 rfl rfl ?_
  refine aw_iload_n (i := 1) d_Math_min_1 rfl rfl ?_
  refine aw_icmp_gt d_Math_min_2 (fun br2_ => ?_) (fun br2_ => ?_)
  · skip
    have hr_ : (if y < x then y else x) = y := if_pos br2_
    refine aw_iload_n (i := 1) d_Math_min_9 rfl rfl ?_
    refine aw_iret d_Math_min_10 rfl (Nat.le_refl _) (Nat.le_refl _) ?_
    exact ⟨by rw [hr_], rfl⟩
  · skip
    have hr_ : (if y < x then y else x) = x := if_neg br2_
    refine aw_iload_n (i := 0) d_Math_min_5 rfl rfl ?_
    refine aw_goto d_Math_min_6 ?_
    refine aw_iret d_Math_min_10 rfl (Nat.le_refl _) (Nat.le_refl _) ?_
    exact ⟨by rw [hr_], rfl⟩

set_option maxHeartbeats 4000000 in
set_option maxRecDepth 20000 in
theorem c_Math_floorMod {G : aG} {nx : Nat} {h : Nat → Option aC} (x y : Int32) (hy : ¬ y = 0) : AMet G m_Math_floorMod 0 0 0 [.int x, .int y] (nx, h) (RV (.int (if (x ^^^ y) < 0 ∧ ¬ x - x / y * y = 0 then x - x / y * y + y else x - x / y * y)) (nx, h)) := by
  refine amet_of pf_Math_floorMod (Nat.le_of_ble_eq_true rfl) ?_
  show AW G m_Math_floorMod 0 0 0 _ 0 [(0, .int x), (1, .int y)] [] (nx, h) 0 0
  refine aw_iload_n (i := 0) d_Math_floorMod_0 rfl rfl ?_
  refine aw_iload_n (i := 1) d_Math_floorMod_1 rfl rfl ?_
  refine aw_irem d_Math_floorMod_2 (by assumption) ?_
  refine aw_istore_n (i := 2) (lv2 := [(0, _), (1, _), (2, _)]) d_Math_floorMod_3 rfl (by decide) rfl ?_
  refine aw_iload_n (i := 0) d_Math_floorMod_4 rfl rfl ?_
  refine aw_iload_n (i := 1) d_Math_floorMod_5 rfl rfl ?_
  refine aw_ixor d_Math_floorMod_6 ?_
  refine aw_if_ge d_Math_floorMod_7 (fun br7_ => ?_) (fun br7_ => ?_)
  · skip
    have hr_ : (if (x ^^^ y) < 0 ∧ ¬ x - x / y * y = 0 then x - x / y * y + y else x - x / y * y) = x - x / y * y := if_neg (fun q => absurd br7_ (Int32.not_le.mpr q.1))
    refine aw_iload_n (i := 2) d_Math_floorMod_18 rfl rfl ?_
    refine aw_iret d_Math_floorMod_19 rfl (Nat.le_refl _) (Nat.le_refl _) ?_
    exact ⟨by rw [hr_], rfl⟩
  · skip
    refine aw_iload_n (i := 2) d_Math_floorMod_10 rfl rfl ?_
    refine aw_if_eq d_Math_floorMod_11 (fun br11_ => ?_) (fun br11_ => ?_)
    · skip
      have hr_ : (if (x ^^^ y) < 0 ∧ ¬ x - x / y * y = 0 then x - x / y * y + y else x - x / y * y) = x - x / y * y := if_neg (fun q => q.2 br11_)
      refine aw_iload_n (i := 2) d_Math_floorMod_18 rfl rfl ?_
      refine aw_iret d_Math_floorMod_19 rfl (Nat.le_refl _) (Nat.le_refl _) ?_
      exact ⟨by rw [hr_], rfl⟩
    · skip
      have hr_ : (if (x ^^^ y) < 0 ∧ ¬ x - x / y * y = 0 then x - x / y * y + y else x - x / y * y) = x - x / y * y + y := if_pos ⟨Int32.not_le.mp br7_, br11_⟩
      refine aw_iload_n (i := 2) d_Math_floorMod_14 rfl rfl ?_
      refine aw_iload_n (i := 1) d_Math_floorMod_15 rfl rfl ?_
      refine aw_iadd d_Math_floorMod_16 ?_
      refine aw_iret d_Math_floorMod_17 rfl (Nat.le_refl _) (Nat.le_refl _) ?_
      exact ⟨by rw [hr_], rfl⟩

set_option maxHeartbeats 4000000 in
set_option maxRecDepth 20000 in
theorem c_Pre_checkIndex {G : aG} {nx : Nat} {h : Nat → Option aC} (i n : Int32) (h0 : ¬ i < 0) (h1 : i < n) : AMet G m_Pre_checkIndex 0 0 0 [.int i, .int n, .null] (nx, h) (RV (.int i) (nx, h)) := by
  refine amet_of pf_Pre_checkIndex (Nat.le_of_ble_eq_true rfl) ?_
  show AW G m_Pre_checkIndex 0 0 0 _ 0 [(0, .int i), (1, .int n), (2, .null)] [] (nx, h) 0 0
  refine aw_iload_n (i := 0) d_Pre_checkIndex_0 rfl rfl ?_
  refine aw_if_lt d_Pre_checkIndex_1 (fun br1_ => absurd br1_ h0) (fun br1_ => ?_)
  refine aw_iload_n (i := 0) d_Pre_checkIndex_4 rfl rfl ?_
  refine aw_iload_n (i := 1) d_Pre_checkIndex_5 rfl rfl ?_
  refine aw_icmp_lt d_Pre_checkIndex_6 (fun br6_ => ?_) (fun br6_ => absurd h1 br6_)
  refine aw_iload_n (i := 0) d_Pre_checkIndex_16 rfl rfl ?_
  refine aw_iret d_Pre_checkIndex_17 rfl (Nat.le_refl _) (Nat.le_refl _) ?_
  exact ⟨rfl, rfl⟩

set_option maxHeartbeats 4000000 in
set_option maxRecDepth 20000 in
theorem c_Objs_checkIndex {G : aG} {nx : Nat} {h : Nat → Option aC} (i n : Int32) (h0 : ¬ i < 0) (h1 : i < n) : AMet G m_Objs_checkIndex 1 0 0 [.int i, .int n] (nx, h) (RV (.int i) (nx, h)) := by
  refine amet_of pf_Objs_checkIndex (Nat.le_of_ble_eq_true rfl) ?_
  show AW G m_Objs_checkIndex 1 0 0 _ 0 [(0, .int i), (1, .int n)] [] (nx, h) 0 0
  refine aw_iload_n (i := 0) d_Objs_checkIndex_0 rfl rfl ?_
  refine aw_iload_n (i := 1) d_Objs_checkIndex_1 rfl rfl ?_
  refine aw_null d_Objs_checkIndex_2 ?_
  apply aw_calls_p (c_Pre_checkIndex i n h0 h1) d_Objs_checkIndex_3 cl_Objs_105; rfl; rfl; decide; exact Nat.le_of_ble_eq_true rfl; exact (Nat.le_refl _); exact (Nat.le_refl _)
  refine aw_iret d_Objs_checkIndex_6 rfl (Nat.le_refl _) (Nat.le_refl _) ?_
  exact ⟨rfl, rfl⟩
