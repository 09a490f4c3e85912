theorem hs_self {h : Nat → Option aC} {a : Nat} {c : aC} (ha : h a = some c) : hset h a c = h := by
  funext j
  simp only [hset]
  split
  · subst_vars; exact ha.symm
  · rfl
def fl0 (v : Int32) (f : Nat → Int32) (i : Nat) : Nat → Int32 := fun j => if j < i then v else f j
theorem fl0_0 (v : Int32) (f : Nat → Int32) : fl0 v f 0 = f := by funext j; simp [fl0]
theorem fl0_s (v : Int32) (f : Nat → Int32) (i : Nat) : upd (fl0 v f i) i v = fl0 v f (i + 1) := by
  funext j
  simp only [upd, fl0]
  by_cases e : j = i
  · subst e; simp
  · rw [if_neg e]
    by_cases e2 : j < i
    · rw [if_pos e2, if_pos (by omega)]
    · rw [if_neg e2, if_neg (by omega)]
theorem fl0_in {v : Int32} {f : Nat → Int32} {i j : Nat} (h : j < i) : fl0 v f i j = v := if_pos h
set_option maxHeartbeats 4000000 in
set_option maxRecDepth 20000 in
theorem c_Arr_fill2 {G : aG} {nx : Nat} {h : Nat → Option aC} {t a N : Nat} {f : Nat → Int32} (ha : h a = some (cI t N f)) (hN : N ≤ 1000000) (v : Int32) : AMet G m_Arr_fill2 0 0 0 [.ref a, .int v] (nx, h) (R0 (nx, hset h a (cI t N (fl0 v f N)))) := by
  refine amet_of pf_Arr_fill2 (Nat.le_of_ble_eq_true rfl) ?_
  show AW G m_Arr_fill2 0 0 0 _ 0 [(0, .ref a), (1, .int v)] [] (nx, h) 0 0
  refine aw_iconst (v := 0) d_Arr_fill2_0 (by decide) ?_
  refine aw_istore_n (i := 2) (lv2 := [(0, _), (1, _), (2, _)]) d_Arr_fill2_1 rfl (by decide) rfl ?_
  refine aw_aload_n (i := 0) d_Arr_fill2_2 rfl rfl ?_
  apply aw_alen d_Arr_fill2_3; assumption; decide
  refine aw_istore_n (i := 3) (lv2 := [(0, _), (1, _), (2, _), (3, _)]) d_Arr_fill2_4 rfl (by decide) rfl ?_
  suffices key : ∀ i, i ≤ N → AW G m_Arr_fill2 0 0 0 (FQ G 0 0 (R0 (nx, hset h a (cI t N (fl0 v f N))))) 5 [(0, .ref a), (1, .int v), (2, .int (nI i)), (3, .int (nI N))] [] (nx, hset h a (cI t N (fl0 v f i))) 0 0 by
    have k0 := key 0 (Nat.zero_le _)
    rw [fl0_0, hs_self ha] at k0
    exact k0
  refine fun i hi => upto (σ := Nat) (fun i => AW G m_Arr_fill2 0 0 0 (FQ G 0 0 (R0 (nx, hset h a (cI t N (fl0 v f N))))) 5 [(0, .ref a), (1, .int v), (2, .int (nI i)), (3, .int (nI N))] [] (nx, hset h a (cI t N (fl0 v f i))) 0 0) (fun i s => s = i) N ?_ i i hi rfl
  intro i s0 hi hI ih
  subst hI
  refine aw_iload_n (i := 2) d_Arr_fill2_5 rfl rfl ?_
  refine aw_iload_n (i := 3) d_Arr_fill2_6 rfl rfl ?_
  refine aw_icmp_ge d_Arr_fill2_7 (fun br7_ => ?_) (fun br7_ => ?_)
  · skip
    have hei : s0 = N := by
      have := (nI_leI (by omega) (by omega)).mp br7_
      omega
    subst hei
    refine aw_vret d_Arr_fill2_20 rfl (Nat.le_refl _) (Nat.le_refl _) ?_
    exact ⟨rfl, rfl⟩
  · skip
    have hlt : s0 < N := Nat.not_le.mp fun z => br7_ ((nI_leI (by omega) (by omega)).mpr z)
    refine aw_aload_n (i := 0) d_Arr_fill2_10 rfl rfl ?_
    refine aw_iload_n (i := 2) d_Arr_fill2_11 rfl rfl ?_
    refine aw_iload_n (i := 1) d_Arr_fill2_12 rfl rfl ?_
    apply aw_iastore d_Arr_fill2_13; exact hs_eq _ _ _; exact vp_in_nI hlt (by omega)
    rw [hs_hs, nI_clamp (by omega : s0 < 2 ^ 31), fl0_s]
    refine aw_iinc (v := _ + 1) (lv2 := [(0, _), (1, _), (2, _), (3, _)]) d_Arr_fill2_14 (by decide) rfl rfl rfl ?_
    refine aw_goto d_Arr_fill2_17 ?_
    rw [nI_1]
    exact ih hlt _ rfl

set_option maxHeartbeats 4000000 in
set_option maxRecDepth 20000 in
theorem c_Arr_fill1 {G : aG} {nx : Nat} {h : Nat → Option aC} {t a N : Nat} {f : Nat → Int32} (ha : h a = some (cB t N f)) (hN : N ≤ 1000000) (v : Int32) (hv : vp_nar .byte v = v) : AMet G m_Arr_fill1 0 0 0 [.ref a, .int v] (nx, h) (R0 (nx, hset h a (cB t N (fl0 v f N)))) := by
  refine amet_of pf_Arr_fill1 (Nat.le_of_ble_eq_true rfl) ?_
  show AW G m_Arr_fill1 0 0 0 _ 0 [(0, .ref a), (1, .int v)] [] (nx, h) 0 0
  refine aw_iconst (v := 0) d_Arr_fill1_0 (by decide) ?_
  refine aw_istore_n (i := 2) (lv2 := [(0, _), (1, _), (2, _)]) d_Arr_fill1_1 rfl (by decide) rfl ?_
  refine aw_aload_n (i := 0) d_Arr_fill1_2 rfl rfl ?_
  apply aw_alen d_Arr_fill1_3; assumption; decide
  refine aw_istore_n (i := 3) (lv2 := [(0, _), (1, _), (2, _), (3, _)]) d_Arr_fill1_4 rfl (by decide) rfl ?_
  suffices key : ∀ i, i ≤ N → AW G m_Arr_fill1 0 0 0 (FQ G 0 0 (R0 (nx, hset h a (cB t N (fl0 v f N))))) 5 [(0, .ref a), (1, .int v), (2, .int (nI i)), (3, .int (nI N))] [] (nx, hset h a (cB t N (fl0 v f i))) 0 0 by
    have k0 := key 0 (Nat.zero_le _)
    rw [fl0_0, hs_self ha] at k0
    exact k0
  refine fun i hi => upto (σ := Nat) (fun i => AW G m_Arr_fill1 0 0 0 (FQ G 0 0 (R0 (nx, hset h a (cB t N (fl0 v f N))))) 5 [(0, .ref a), (1, .int v), (2, .int (nI i)), (3, .int (nI N))] [] (nx, hset h a (cB t N (fl0 v f i))) 0 0) (fun i s => s = i) N ?_ i i hi rfl
  intro i s0 hi hI ih
  subst hI
  refine aw_iload_n (i := 2) d_Arr_fill1_5 rfl rfl ?_
  refine aw_iload_n (i := 3) d_Arr_fill1_6 rfl rfl ?_
  refine aw_icmp_ge d_Arr_fill1_7 (fun br7_ => ?_) (fun br7_ => ?_)
  · skip
    have hei : s0 = N := by
      have := (nI_leI (by omega) (by omega)).mp br7_
      omega
    subst hei
    refine aw_vret d_Arr_fill1_20 rfl (Nat.le_refl _) (Nat.le_refl _) ?_
    exact ⟨rfl, rfl⟩
  · skip
    have hlt : s0 < N := Nat.not_le.mp fun z => br7_ ((nI_leI (by omega) (by omega)).mpr z)
    refine aw_aload_n (i := 0) d_Arr_fill1_10 rfl rfl ?_
    refine aw_iload_n (i := 2) d_Arr_fill1_11 rfl rfl ?_
    refine aw_iload_n (i := 1) d_Arr_fill1_12 rfl rfl ?_
    apply aw_bastore d_Arr_fill1_13; exact hs_eq _ _ _; exact vp_in_nI hlt (by omega)
    rw [hs_hs, nI_clamp (by omega : s0 < 2 ^ 31), hv, fl0_s]
    refine aw_iinc (v := _ + 1) (lv2 := [(0, _), (1, _), (2, _), (3, _)]) d_Arr_fill1_14 (by decide) rfl rfl rfl ?_
    refine aw_goto d_Arr_fill1_17 ?_
    rw [nI_1]
    exact ih hlt _ rfl

def bc1 (x : Int32) : Int32 := x - ((x.toUInt32 >>> ((1 : Int32).toUInt32 &&& Int32.toUInt32 31)).toInt32 &&& 1431655765)
def bc2 (x : Int32) : Int32 := (x &&& 858993459) + ((x.toUInt32 >>> ((2 : Int32).toUInt32 &&& Int32.toUInt32 31)).toInt32 &&& 858993459)
def bc3 (x : Int32) : Int32 := (x + (x.toUInt32 >>> ((4 : Int32).toUInt32 &&& Int32.toUInt32 31)).toInt32) &&& 252645135
def bc4 (x : Int32) : Int32 := x + (x.toUInt32 >>> ((8 : Int32).toUInt32 &&& Int32.toUInt32 31)).toInt32
def bc5 (x : Int32) : Int32 := x + (x.toUInt32 >>> ((16 : Int32).toUInt32 &&& Int32.toUInt32 31)).toInt32
def bcn (x : Int32) : Int32 := bc5 (bc4 (bc3 (bc2 (bc1 x)))) &&& 63
set_option maxHeartbeats 4000000 in
set_option maxRecDepth 20000 in
theorem c_Int_bitCount {G : aG} {nx : Nat} {h : Nat → Option aC} (x : Int32) : AMet G m_Int_bitCount 0 0 0 [.int x] (nx, h) (RV (.int (bcn x)) (nx, h)) := by
  refine amet_of pf_Int_bitCount (Nat.le_of_ble_eq_true rfl) ?_
  show AW G m_Int_bitCount 0 0 0 _ 0 [(0, .int x)] [] (nx, h) 0 0
  refine aw_iload_n (i := 0) d_Int_bitCount_0 rfl rfl ?_
  refine aw_iload_n (i := 0) d_Int_bitCount_1 rfl rfl ?_
  refine aw_iconst (v := 1) d_Int_bitCount_2 (by decide) ?_
  refine aw_iushr d_Int_bitCount_3 ?_
  refine aw_ldcw d_Int_bitCount_4 kc_Int_265 ?_
  refine aw_iand d_Int_bitCount_7 ?_
  refine aw_isub d_Int_bitCount_8 ?_
  refine aw_istore_n (i := 0) (lv2 := [(0, _)]) d_Int_bitCount_9 rfl (by decide) rfl ?_
  refine aw_iload_n (i := 0) d_Int_bitCount_10 rfl rfl ?_
  refine aw_ldcw d_Int_bitCount_11 kc_Int_266 ?_
  refine aw_iand d_Int_bitCount_14 ?_
  refine aw_iload_n (i := 0) d_Int_bitCount_15 rfl rfl ?_
  refine aw_iconst (v := 2) d_Int_bitCount_16 (by decide) ?_
  refine aw_iushr d_Int_bitCount_17 ?_
  refine aw_ldcw d_Int_bitCount_18 kc_Int_266 ?_
  refine aw_iand d_Int_bitCount_21 ?_
  refine aw_iadd d_Int_bitCount_22 ?_
  refine aw_istore_n (i := 0) (lv2 := [(0, _)]) d_Int_bitCount_23 rfl (by decide) rfl ?_
  refine aw_iload_n (i := 0) d_Int_bitCount_24 rfl rfl ?_
  refine aw_iload_n (i := 0) d_Int_bitCount_25 rfl rfl ?_
  refine aw_iconst (v := 4) d_Int_bitCount_26 (by decide) ?_
  refine aw_iushr d_Int_bitCount_27 ?_
  refine aw_iadd d_Int_bitCount_28 ?_
  refine aw_ldcw d_Int_bitCount_29 kc_Int_267 ?_
  refine aw_iand d_Int_bitCount_32 ?_
  refine aw_istore_n (i := 0) (lv2 := [(0, _)]) d_Int_bitCount_33 rfl (by decide) rfl ?_
  refine aw_iload_n (i := 0) d_Int_bitCount_34 rfl rfl ?_
  refine aw_iload_n (i := 0) d_Int_bitCount_35 rfl rfl ?_
  refine aw_bipush (v := 8) d_Int_bitCount_36 (by decide) ?_
  refine aw_iushr d_Int_bitCount_38 ?_
  refine aw_iadd d_Int_bitCount_39 ?_
  refine aw_istore_n (i := 0) (lv2 := [(0, _)]) d_Int_bitCount_40 rfl (by decide) rfl ?_
  refine aw_iload_n (i := 0) d_Int_bitCount_41 rfl rfl ?_
  refine aw_iload_n (i := 0) d_Int_bitCount_42 rfl rfl ?_
  refine aw_bipush (v := 16) d_Int_bitCount_43 (by decide) ?_
  refine aw_iushr d_Int_bitCount_45 ?_
  refine aw_iadd d_Int_bitCount_46 ?_
  refine aw_istore_n (i := 0) (lv2 := [(0, _)]) d_Int_bitCount_47 rfl (by decide) rfl ?_
  refine aw_iload_n (i := 0) d_Int_bitCount_48 rfl rfl ?_
  refine aw_bipush (v := 63) d_Int_bitCount_49 (by decide) ?_
  refine aw_iand d_Int_bitCount_51 ?_
  refine aw_iret d_Int_bitCount_52 rfl (Nat.le_refl _) (Nat.le_refl _) ?_
  exact ⟨rfl, rfl⟩

