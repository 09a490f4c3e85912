theorem c_Math_max_nI {G : aG} {nx : Nat} {h : Nat → Option aC} (a b : Nat) (ha : a < 2 ^ 31) (hb : b < 2 ^ 31) : AMet G m_Math_max 0 0 0 [.int (nI a), .int (nI b)] (nx, h) (RV (.int (nI (max a b))) (nx, h)) := by
  have := c_Math_max (G := G) (nx := nx) (h := h) (nI a) (nI b)
  rwa [show (if nI a < nI b then nI b else nI a) = nI (max a b) by
    by_cases q : a < b
    · rw [if_pos ((nI_ltI ha hb).mpr q), Nat.max_eq_right (by omega)]
    · rw [if_neg (fun z => q ((nI_ltI ha hb).mp z)), Nat.max_eq_left (by omega)]] at this
theorem c_Math_min_nI {G : aG} {nx : Nat} {h : Nat → Option aC} (a b : Nat) (hab : a ≤ b) (hb : b < 2 ^ 31) : AMet G m_Math_min 0 0 0 [.int (nI a), .int (nI b)] (nx, h) (RV (.int (nI a)) (nx, h)) := by
  have := c_Math_min (G := G) (nx := nx) (h := h) (nI a) (nI b)
  rwa [if_neg (fun z => absurd ((nI_ltI hb (by omega)).mp z) (by omega))] at this
theorem c_Math_max_10 {G : aG} {nx : Nat} {h : Nat → Option aC} : AMet G m_Math_max 0 0 0 [.int 10, .int 1] (nx, h) (RV (.int 10) (nx, h)) := c_Math_max (G := G) (nx := nx) (h := h) 10 1
set_option maxHeartbeats 4000000 in
set_option maxRecDepth 20000 in
theorem c_ACo_init {G : aG} {nx : Nat} {h : Nat → Option aC} (a : Nat) : AMet G m_ACo_init 1 0 0 [.ref a] (nx, h) (R0 (nx, h)) := by
  refine amet_of pf_ACo_init (Nat.le_of_ble_eq_true rfl) ?_
  show AW G m_ACo_init 1 0 0 _ 0 [(0, .ref a)] [] (nx, h) 0 0
  refine aw_aload_n (i := 0) d_ACo_init_0 rfl rfl ?_
  refine aw_objInit d_ACo_init_1 oi_ACo_1 (by decide) (Nat.le_of_ble_eq_true rfl) ?_
  refine aw_vret d_ACo_init_4 rfl (Nat.le_refl _) (Nat.le_refl _) ?_
  exact ⟨rfl, rfl⟩

set_option maxHeartbeats 4000000 in
set_option maxRecDepth 20000 in
theorem c_ALs_init {G : aG} {nx : Nat} {h : Nat → Option aC} {t a : Nat} {v0 v1 v2 : Value} (ha : h a = some (ob t 12 [v0, v1, v2])) : AMet G m_ALs_init 2 0 0 [.ref a] (nx, h) (R0 (nx, hset h a (ob t 12 [.int 0, v1, v2]))) := by
  refine amet_of pf_ALs_init (Nat.le_of_ble_eq_true rfl) ?_
  show AW G m_ALs_init 2 0 0 _ 0 [(0, .ref a)] [] (nx, h) 0 0
  refine aw_aload_n (i := 0) d_ALs_init_0 rfl rfl ?_
  apply aw_calli_m (c_ACo_init a) d_ALs_init_1 cl_ALs_1; rfl; rfl; decide; exact (by decide); exact (by decide); exact Nat.le_of_ble_eq_true rfl
  refine aw_aload_n (i := 0) d_ALs_init_4 rfl rfl ?_
  refine aw_iconst (v := 0) d_ALs_init_5 (by decide) ?_
  apply aw_put d_ALs_init_6 pl_ALs_7; assumption; exact Nat.le_of_ble_eq_true rfl; rfl; rfl
  refine aw_vret d_ALs_init_9 rfl (Nat.le_refl _) (Nat.le_refl _) ?_
  exact ⟨rfl, rfl⟩

set_option maxHeartbeats 4000000 in
set_option maxRecDepth 20000 in
theorem c_AL_init {G : aG} {nx : Nat} {h : Nat → Option aC} {t a : Nat} {v0 v1 v2 : Value} (ha : h a = some (ob t 12 [v0, v1, v2])) : AMet G m_AL_init 3 0 0 [.ref a] (nx, h) (R0 (nx, hset h a (ob t 12 [.int 0, .ref 0, v2]))) := by
  refine amet_of pf_AL_init (Nat.le_of_ble_eq_true rfl) ?_
  show AW G m_AL_init 3 0 0 _ 0 [(0, .ref a)] [] (nx, h) 0 0
  refine aw_aload_n (i := 0) d_AL_init_0 rfl rfl ?_
  apply aw_calli_m (c_ALs_init ha) d_AL_init_1 cl_AL_1; rfl; rfl; decide; exact (by decide); exact (by decide); exact Nat.le_of_ble_eq_true rfl
  refine aw_aload_n (i := 0) d_AL_init_4 rfl rfl ?_
  refine aw_getsE d_AL_init_5 gs_AL_39 ?_
  apply aw_put d_AL_init_8 pl_AL_9; exact hs_eq _ _ _; exact Nat.le_of_ble_eq_true rfl; rfl; rfl
  refine aw_vret d_AL_init_11 rfl (Nat.le_refl _) (Nat.le_refl _) ?_
  exact ⟨rfl, by rw [hs_hs]; rfl⟩

set_option maxHeartbeats 4000000 in
set_option maxRecDepth 20000 in
theorem c_ArS_newLength {G : aG} {nx : Nat} {h : Nat → Option aC} (N p g : Nat) (hN : N ≤ 1000) (hp : p ≤ 1000) (hg : g ≤ 1000) (h0 : 0 < p) : AMet G m_ArS_newLength 1 0 0 [.int (nI N), .int (nI p), .int (nI g)] (nx, h) (RV (.int (nI (N + max p g))) (nx, h)) := by
  refine amet_of pf_ArS_newLength (Nat.le_of_ble_eq_true rfl) ?_
  show AW G m_ArS_newLength 1 0 0 _ 0 [(0, .int (nI N)), (1, .int (nI p)), (2, .int (nI g))] [] (nx, h) 0 0
  refine aw_iload_n (i := 0) d_ArS_newLength_0 rfl rfl ?_
  refine aw_iload_n (i := 1) d_ArS_newLength_1 rfl rfl ?_
  refine aw_iload_n (i := 2) d_ArS_newLength_2 rfl rfl ?_
  apply aw_calls_p (c_Math_max_nI p g (by omega) (by omega)) d_ArS_newLength_3 cl_ArS_194; rfl; rfl; decide; exact Nat.le_of_ble_eq_true rfl; exact (Nat.le_refl _); exact (Nat.le_refl _)
  refine aw_iadd d_ArS_newLength_6 ?_
  rw [nI_add]
  refine aw_istore_n (i := 3) (lv2 := [(0, _), (1, _), (2, _), (3, _)]) d_ArS_newLength_7 rfl (by decide) rfl ?_
  refine aw_iconst (v := 0) d_ArS_newLength_8 (by decide) ?_
  refine aw_iload_n (i := 3) d_ArS_newLength_9 rfl rfl ?_
  refine aw_icmp_ge d_ArS_newLength_10 (fun br10_ => absurd br10_ (nI_nle (by omega) (by omega))) (fun br10_ => ?_)
  refine aw_iload_n (i := 3) d_ArS_newLength_13 rfl rfl ?_
  refine aw_ldc d_ArS_newLength_14 kc_ArS_200 ?_
  refine aw_icmp_gt d_ArS_newLength_16 (fun br16_ => absurd ((nI_ltI (a := 2147483639) (b := N + max p g) (by decide) (by omega)).mp br16_) (by omega)) (fun br16_ => ?_)
  refine aw_iload_n (i := 3) d_ArS_newLength_19 rfl rfl ?_
  refine aw_iret d_ArS_newLength_20 rfl (Nat.le_refl _) (Nat.le_refl _) ?_
  exact ⟨rfl, rfl⟩

set_option maxHeartbeats 4000000 in
set_option maxRecDepth 20000 in
theorem c_Arr_copyOf2 {G : aG} {nx : Nat} {h : Nat → Option aC} (te : Nat) {t1 e N n2 : Nat} {f : Nat → Option Nat} {q : vw_C} {ci : Nat} (hd : Dom nx h) (he : h e = some (cO t1 N f)) (hN : N ≤ n2) (h2 : n2 ≤ 1000) (hq : cls[ci]? = some q) (hcast : Cond.castable q.1 "java/lang/Object" ∈ nws) (hel : ∀ i : Nat, i < N → ∀ y : Nat, f i = some y → ∃ tt fs, h y = some (tt, .inr (ci, fs))) : AMet G m_Arr_copyOf2 1 1 n2 [.ref e, .int (nI n2), .ref 2] (nx, h) (RV (.ref nx) (nx + 1, hset h nx (cO te n2 (va_cpy f (fun _ => none) 0 0 N)))) := by
  refine amet_of pf_Arr_copyOf2 (Nat.le_of_ble_eq_true rfl) ?_
  show AW G m_Arr_copyOf2 1 1 n2 _ 0 [(0, .ref e), (1, .int (nI n2)), (2, .ref 2)] [] (nx, h) 0 0
  refine aw_aload_n (i := 2) d_Arr_copyOf2_0 rfl rfl ?_
  refine aw_ldcM d_Arr_copyOf2_1 cc_Arr_110 ?_
  refine aw_acmp_ne d_Arr_copyOf2_3 rfl ?_
  refine aw_iload_n (i := 1) d_Arr_copyOf2_6 rfl rfl ?_
  refine aw_anew te (N := n2) d_Arr_copyOf2_7 cc_Arr_2 rfl (by omega) (by omega) (by omega) ?_
  refine aw_goto d_Arr_copyOf2_10 ?_
  refine aw_astore_n (i := 3) (lv2 := [(0, _), (1, _), (2, _), (3, _)]) d_Arr_copyOf2_24 rfl (by decide) rfl ?_
  refine aw_aload_n (i := 0) d_Arr_copyOf2_25 rfl rfl ?_
  refine aw_iconst (v := 0) d_Arr_copyOf2_26 (by decide) ?_
  refine aw_aload_n (i := 3) d_Arr_copyOf2_27 rfl rfl ?_
  refine aw_iconst (v := 0) d_Arr_copyOf2_28 (by decide) ?_
  refine aw_aload_n (i := 0) d_Arr_copyOf2_29 rfl rfl ?_
  apply aw_alen d_Arr_copyOf2_30; exact hs_dom hd he; decide
  refine aw_iload_n (i := 1) d_Arr_copyOf2_31 rfl rfl ?_
  refine aw_calls_p (c_Math_min_nI N n2 hN (by omega)) d_Arr_copyOf2_32 cl_Arr_304 rfl rfl (by decide) (Nat.le_of_ble_eq_true rfl) (by omega) (by omega) ?_
  refine aw_acopy (t1 := t1) (t2 := te) (N0 := N) (N1 := n2) (g := fun _ => none) d_Arr_copyOf2_35 ml_Arr_150 (hs_dom hd he) (hs_eq _ _ _) (Nat.le_refl _) hN (by omega) hq hcast (fun i hi y hy => by obtain ⟨tt, fs, h9⟩ := hel i hi y hy; exact ⟨tt, fs, hs_dom hd h9⟩) (by decide) (Nat.le_of_ble_eq_true rfl) ?_
  refine aw_aload_n (i := 3) d_Arr_copyOf2_38 rfl rfl ?_
  refine aw_aret d_Arr_copyOf2_39 rfl (Or.inr ⟨_, rfl⟩) (Or.inr ⟨_, rfl⟩) (by omega) (by omega) ?_
  exact ⟨rfl, by rw [hs_hs]⟩

set_option maxHeartbeats 4000000 in
set_option maxRecDepth 20000 in
theorem c_Arr_copyOf1 {G : aG} {nx : Nat} {h : Nat → Option aC} (te : Nat) {t1 e N n2 : Nat} {f : Nat → Option Nat} {q : vw_C} {ci : Nat} (hd : Dom nx h) (he : h e = some (cO t1 N f)) (hN : N ≤ n2) (h2 : n2 ≤ 1000) (hq : cls[ci]? = some q) (hcast : Cond.castable q.1 "java/lang/Object" ∈ nws) (hel : ∀ i : Nat, i < N → ∀ y : Nat, f i = some y → ∃ tt fs, h y = some (tt, .inr (ci, fs))) : AMet G m_Arr_copyOf1 2 1 n2 [.ref e, .int (nI n2)] (nx, h) (RV (.ref nx) (nx + 1, hset h nx (cO te n2 (va_cpy f (fun _ => none) 0 0 N)))) := by
  refine amet_of pf_Arr_copyOf1 (Nat.le_of_ble_eq_true rfl) ?_
  show AW G m_Arr_copyOf1 2 1 n2 _ 0 [(0, .ref e), (1, .int (nI n2))] [] (nx, h) 0 0
  refine aw_aload_n (i := 0) d_Arr_copyOf1_0 rfl rfl ?_
  refine aw_iload_n (i := 1) d_Arr_copyOf1_1 rfl rfl ?_
  refine aw_aload_n (i := 0) d_Arr_copyOf1_2 rfl rfl ?_
  refine aw_getClass d_Arr_copyOf1_3 ml_Arr_86 he (by decide) (Nat.le_of_ble_eq_true rfl) ?_
  refine aw_calls_r (c_Arr_copyOf2 te hd he hN h2 hq hcast hel) d_Arr_copyOf1_6 cl_Arr_300 rfl rfl (by decide) (by omega) (by omega) (Nat.le_of_ble_eq_true rfl) ?_
  refine aw_aret d_Arr_copyOf1_9 rfl (Or.inr ⟨_, rfl⟩) (Or.inr ⟨_, rfl⟩) (by omega) (by omega) ?_
  exact ⟨rfl, rfl⟩

set_option maxHeartbeats 4000000 in
set_option maxRecDepth 20000 in
theorem c_AL_grow2A {G : aG} {nx : Nat} {h : Nat → Option aC} (te : Nat) {t a : Nat} {m z : Int32} (hl : h a = some (ob t 12 [.int m, .ref 0, .int z])) (hd : Dom nx h) : AMet G m_AL_grow2 1 1 10 [.ref a, .int 1] (nx, h) (RV (.ref nx) (nx + 1, hset (hset h nx (cO te 10 (fun _ => none))) a (ob t 12 [.int m, .ref nx, .int z]))) := by
  refine amet_of pf_AL_grow2 (Nat.le_of_ble_eq_true rfl) ?_
  show AW G m_AL_grow2 1 1 10 _ 0 [(0, .ref a), (1, .int 1)] [] (nx, h) 0 0
  refine aw_aload_n (i := 0) d_AL_grow2_0 rfl rfl ?_
  apply aw_get d_AL_grow2_1 fl_AL_9; assumption; rfl
  refine aw_alenE d_AL_grow2_4 ?_
  refine aw_istore_n (i := 2) (lv2 := [(0, _), (1, _), (2, _)]) d_AL_grow2_5 rfl (by decide) rfl ?_
  refine aw_iload_n (i := 2) d_AL_grow2_6 rfl rfl ?_
  refine aw_if_gt d_AL_grow2_7 (fun br7_ => absurd br7_ (by decide)) (fun br7_ => ?_)
  refine aw_aload_n (i := 0) d_AL_grow2_10 rfl rfl ?_
  apply aw_get d_AL_grow2_11 fl_AL_9; assumption; rfl
  refine aw_getsE d_AL_grow2_14 gs_AL_39 ?_
  refine aw_acmp_eq d_AL_grow2_17 rfl ?_
  refine aw_aload_n (i := 0) d_AL_grow2_45 rfl rfl ?_
  refine aw_bipush (v := 10) d_AL_grow2_46 (by decide) ?_
  refine aw_iload_n (i := 1) d_AL_grow2_48 rfl rfl ?_
  apply aw_calls_p (c_Math_max_10) d_AL_grow2_49 cl_AL_79; rfl; rfl; decide; exact Nat.le_of_ble_eq_true rfl; exact (by decide); exact (by decide)
  refine aw_anew te (N := 10) d_AL_grow2_52 cc_AL_7 rfl (by decide) (by decide) (by decide) ?_
  refine aw_dup_x1 d_AL_grow2_55 rfl rfl ?_
  apply aw_put d_AL_grow2_56 pl_AL_9; exact hs_dom hd hl; exact Nat.le_of_ble_eq_true rfl; rfl; rfl
  refine aw_aret d_AL_grow2_59 rfl (Or.inr ⟨_, rfl⟩) (Or.inr ⟨_, rfl⟩) (by decide) (by decide) ?_
  exact ⟨rfl, rfl⟩

set_option maxHeartbeats 4000000 in
set_option maxRecDepth 20000 in
theorem c_AL_grow2B {G : aG} {nx : Nat} {h : Nat → Option aC} (te : Nat) {t t1 a e N : Nat} {m z : Int32} {f : Nat → Option Nat} {q : vw_C} {ci : Nat} (hd : Dom nx h) (hl : h a = some (ob t 12 [.int m, .ref e, .int z])) (he : h e = some (cO t1 N f)) (hN0 : 1 ≤ N) (hN : N ≤ 500) (hq : cls[ci]? = some q) (hcast : Cond.castable q.1 "java/lang/Object" ∈ nws) (hel : ∀ i : Nat, i < N → ∀ y : Nat, f i = some y → ∃ tt fs, h y = some (tt, .inr (ci, fs))) : AMet G m_AL_grow2 3 1 (N + max 1 (N / 2)) [.ref a, .int (nI (N + 1))] (nx, h) (RV (.ref nx) (nx + 1, hset (hset h nx (cO te (N + max 1 (N / 2)) (va_cpy f (fun _ => none) 0 0 N))) a (ob t 12 [.int m, .ref nx, .int z]))) := by
  refine amet_of pf_AL_grow2 (Nat.le_of_ble_eq_true rfl) ?_
  show AW G m_AL_grow2 3 1 (N + max 1 (N / 2)) _ 0 [(0, .ref a), (1, .int (nI (N + 1)))] [] (nx, h) 0 0
  refine aw_aload_n (i := 0) d_AL_grow2_0 rfl rfl ?_
  apply aw_get d_AL_grow2_1 fl_AL_9; assumption; rfl
  apply aw_alen d_AL_grow2_4; assumption; decide
  refine aw_istore_n (i := 2) (lv2 := [(0, _), (1, _), (2, _)]) d_AL_grow2_5 rfl (by decide) rfl ?_
  refine aw_iload_n (i := 2) d_AL_grow2_6 rfl rfl ?_
  refine aw_if_gt d_AL_grow2_7 (fun br7_ => ?_) (fun br7_ => absurd (nI_lt (a := 0) (b := N) (by omega) (by omega)) br7_)
  refine aw_iload_n (i := 2) d_AL_grow2_20 rfl rfl ?_
  refine aw_iload_n (i := 1) d_AL_grow2_21 rfl rfl ?_
  refine aw_iload_n (i := 2) d_AL_grow2_22 rfl rfl ?_
  refine aw_isub d_AL_grow2_23 ?_
  rw [pk_sub (by omega : N ≤ N + 1), show N + 1 - N = 1 by omega]
  refine aw_iload_n (i := 2) d_AL_grow2_24 rfl rfl ?_
  refine aw_iconst (v := 1) d_AL_grow2_25 (by decide) ?_
  refine aw_ishr d_AL_grow2_26 ?_
  rw [show nI N >>> ((1 : Int32) &&& 31) = nI (N / 2) from pk_shrN (by omega) _ 1 (by decide)]
  apply aw_calls_p (c_ArS_newLength N 1 (N / 2) (by omega) (by omega) (by omega) (by omega)) d_AL_grow2_27 cl_AL_73; rfl; rfl; decide; exact Nat.le_of_ble_eq_true rfl; exact (by omega); exact (by omega)
  refine aw_istore_n (i := 3) (lv2 := [(0, _), (1, _), (2, _), (3, _)]) d_AL_grow2_30 rfl (by decide) rfl ?_
  refine aw_aload_n (i := 0) d_AL_grow2_31 rfl rfl ?_
  refine aw_aload_n (i := 0) d_AL_grow2_32 rfl rfl ?_
  apply aw_get d_AL_grow2_33 fl_AL_9; assumption; rfl
  refine aw_iload_n (i := 3) d_AL_grow2_36 rfl rfl ?_
  apply aw_calls_r (c_Arr_copyOf1 te (n2 := N + max 1 (N / 2)) hd he (by omega) (by omega) hq hcast hel) d_AL_grow2_37 cl_AL_66; rfl; rfl; decide; exact (by omega); exact (by omega); exact Nat.le_of_ble_eq_true rfl
  refine aw_dup_x1 d_AL_grow2_40 rfl rfl ?_
  apply aw_put d_AL_grow2_41 pl_AL_9; exact hs_dom hd hl; exact Nat.le_of_ble_eq_true rfl; rfl; rfl
  refine aw_aret d_AL_grow2_44 rfl (Or.inr ⟨_, rfl⟩) (Or.inr ⟨_, rfl⟩) (by omega) (by omega) ?_
  exact ⟨rfl, rfl⟩

set_option maxHeartbeats 4000000 in
set_option maxRecDepth 20000 in
theorem c_AL_grow1A {G : aG} {nx : Nat} {h : Nat → Option aC} (te : Nat) {t a : Nat} {m : Int32} (hl : h a = some (ob t 12 [.int m, .ref 0, .int 0])) (hd : Dom nx h) : AMet G m_AL_grow1 4 1 10 [.ref a] (nx, h) (RV (.ref nx) (nx + 1, hset (hset h nx (cO te 10 (fun _ => none))) a (ob t 12 [.int m, .ref nx, .int 0]))) := by
  refine amet_of pf_AL_grow1 (Nat.le_of_ble_eq_true rfl) ?_
  show AW G m_AL_grow1 4 1 10 _ 0 [(0, .ref a)] [] (nx, h) 0 0
  refine aw_aload_n (i := 0) d_AL_grow1_0 rfl rfl ?_
  refine aw_aload_n (i := 0) d_AL_grow1_1 rfl rfl ?_
  apply aw_get d_AL_grow1_2 fl_AL_48; assumption; rfl
  refine aw_iconst (v := 1) d_AL_grow1_5 (by decide) ?_
  refine aw_iadd d_AL_grow1_6 ?_
  rw [show (0 : Int32) + 1 = 1 from rfl]
  apply aw_callv_r (c_AL_grow2A te hl hd) d_AL_grow1_7 cl_AL_69; assumption; rfl; rfl; rfl; rfl; decide; exact (by decide); exact (by decide); exact Nat.le_of_ble_eq_true rfl
  refine aw_aret d_AL_grow1_10 rfl (Or.inr ⟨_, rfl⟩) (Or.inr ⟨_, rfl⟩) (by decide) (by decide) ?_
  exact ⟨rfl, rfl⟩

set_option maxHeartbeats 4000000 in
set_option maxRecDepth 20000 in
theorem c_AL_grow1B {G : aG} {nx : Nat} {h : Nat → Option aC} (te : Nat) {t t1 a e N : Nat} {m : Int32} {f : Nat → Option Nat} {q : vw_C} {ci : Nat} (hd : Dom nx h) (hl : h a = some (ob t 12 [.int m, .ref e, .int (nI N)])) (he : h e = some (cO t1 N f)) (hN0 : 1 ≤ N) (hN : N ≤ 500) (hq : cls[ci]? = some q) (hcast : Cond.castable q.1 "java/lang/Object" ∈ nws) (hel : ∀ i : Nat, i < N → ∀ y : Nat, f i = some y → ∃ tt fs, h y = some (tt, .inr (ci, fs))) : AMet G m_AL_grow1 4 1 (N + max 1 (N / 2)) [.ref a] (nx, h) (RV (.ref nx) (nx + 1, hset (hset h nx (cO te (N + max 1 (N / 2)) (va_cpy f (fun _ => none) 0 0 N))) a (ob t 12 [.int m, .ref nx, .int (nI N)]))) := by
  refine amet_of pf_AL_grow1 (Nat.le_of_ble_eq_true rfl) ?_
  show AW G m_AL_grow1 4 1 (N + max 1 (N / 2)) _ 0 [(0, .ref a)] [] (nx, h) 0 0
  refine aw_aload_n (i := 0) d_AL_grow1_0 rfl rfl ?_
  refine aw_aload_n (i := 0) d_AL_grow1_1 rfl rfl ?_
  apply aw_get d_AL_grow1_2 fl_AL_48; assumption; rfl
  refine aw_iconst (v := 1) d_AL_grow1_5 (by decide) ?_
  refine aw_iadd d_AL_grow1_6 ?_
  rw [nI_1]
  apply aw_callv_r (c_AL_grow2B te hd hl he hN0 hN hq hcast hel) d_AL_grow1_7 cl_AL_69; assumption; rfl; rfl; rfl; rfl; decide; exact (by omega); exact (by omega); exact Nat.le_of_ble_eq_true rfl
  refine aw_aret d_AL_grow1_10 rfl (Or.inr ⟨_, rfl⟩) (Or.inr ⟨_, rfl⟩) (by omega) (by omega) ?_
  exact ⟨rfl, rfl⟩
