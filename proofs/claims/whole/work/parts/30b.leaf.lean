set_option maxHeartbeats 4000000 in
set_option maxRecDepth 20000 in
theorem c_AL_size {G : aG} {nx : Nat} {h : Nat → Option aC} {t a e : Nat} {m z : Int32} (hl : h a = some (ob t 12 [.int m, .ref e, .int z])) : AMet G m_AL_size 0 0 0 [.ref a] (nx, h) (RV (.int z) (nx, h)) := by
  refine amet_of pf_AL_size (Nat.le_of_ble_eq_true rfl) ?_
  show AW G m_AL_size 0 0 0 _ 0 [(0, .ref a)] [] (nx, h) 0 0
  refine aw_aload_n (i := 0) d_AL_size_0 rfl rfl ?_
  apply aw_get d_AL_size_1 fl_AL_48; assumption; rfl
  refine aw_iret d_AL_size_4 rfl (Nat.le_refl _) (Nat.le_refl _) ?_
  exact ⟨rfl, rfl⟩

set_option maxHeartbeats 4000000 in
set_option maxRecDepth 20000 in
theorem c_AL_elementData {G : aG} {nx : Nat} {h : Nat → Option aC} {t te a e N : Nat} {m z : Int32} {f : Nat → Option Nat} (hl : h a = some (ob t 12 [.int m, .ref e, .int z])) (he : h e = some (cO te N f)) (i : Int32) (hi : vp_in i N) : AMet G m_AL_elementData 0 0 0 [.ref a, .int i] (nx, h) (RV (va_rf (f i.toNatClampNeg)) (nx, h)) := by
  refine amet_of pf_AL_elementData (Nat.le_of_ble_eq_true rfl) ?_
  show AW G m_AL_elementData 0 0 0 _ 0 [(0, .ref a), (1, .int i)] [] (nx, h) 0 0
  refine aw_aload_n (i := 0) d_AL_elementData_0 rfl rfl ?_
  apply aw_get d_AL_elementData_1 fl_AL_9; assumption; rfl
  refine aw_iload_n (i := 1) d_AL_elementData_4 rfl rfl ?_
  apply aw_aaload d_AL_elementData_5; assumption; assumption
  refine aw_aret d_AL_elementData_6 rfl (Or.inl ⟨_, rfl⟩) (by cases f i.toNatClampNeg <;> simp [va_rf]) (Nat.le_refl _) (Nat.le_refl _) ?_
  exact ⟨rfl, rfl⟩

set_option maxHeartbeats 4000000 in
set_option maxRecDepth 20000 in
theorem c_AL_get {G : aG} {nx : Nat} {h : Nat → Option aC} {t te a e N : Nat} {m z : Int32} {f : Nat → Option Nat} (hl : h a = some (ob t 12 [.int m, .ref e, .int z])) (he : h e = some (cO te N f)) (i : Int32) (hi : vp_in i N) (h0 : ¬ i < 0) (h1 : i < z) : AMet G m_AL_get 2 0 0 [.ref a, .int i] (nx, h) (RV (va_rf (f i.toNatClampNeg)) (nx, h)) := by
  refine amet_of pf_AL_get (Nat.le_of_ble_eq_true rfl) ?_
  show AW G m_AL_get 2 0 0 _ 0 [(0, .ref a), (1, .int i)] [] (nx, h) 0 0
  refine aw_iload_n (i := 1) d_AL_get_0 rfl rfl ?_
  refine aw_aload_n (i := 0) d_AL_get_1 rfl rfl ?_
  apply aw_get d_AL_get_2 fl_AL_48; assumption; rfl
  apply aw_calls_p (c_Objs_checkIndex i z h0 h1) d_AL_get_5 cl_AL_118; rfl; rfl; decide; exact Nat.le_of_ble_eq_true rfl; exact (Nat.le_refl _); exact (Nat.le_refl _)
  refine aw_pop d_AL_get_8 rfl ?_
  refine aw_aload_n (i := 0) d_AL_get_9 rfl rfl ?_
  refine aw_iload_n (i := 1) d_AL_get_10 rfl rfl ?_
  apply aw_callv_p (c_AL_elementData hl he i hi) d_AL_get_11 cl_AL_123; assumption; rfl; rfl; rfl; rfl; decide; exact Nat.le_of_ble_eq_true rfl; exact (Nat.le_refl _); exact (Nat.le_refl _)
  refine aw_aret d_AL_get_14 rfl (Or.inl ⟨_, rfl⟩) (by cases f i.toNatClampNeg <;> simp [va_rf]) (Nat.le_refl _) (Nat.le_refl _) ?_
  exact ⟨rfl, rfl⟩
