/-! the law's own three, which catch -/
set_option maxRecDepth 20000 in
theorem cw_Law_part : Cond.codeWith y_Law_part method_3_code 6 (some .int) [(0, 12, 15, 13)] ∈ gw := gw_t 981 rfl rfl
set_option maxRecDepth 20000 in
theorem cw_Law_group : Cond.codeWith y_Law_group method_4_code 5 (some .int) [(0, 10, 13, 13)] ∈ gw := gw_t 1056 rfl rfl
set_option maxRecDepth 20000 in
theorem cw_Law_row : Cond.codeWith y_Law_row method_5_code 4 (some .int) [(0, 9, 12, 13)] ∈ gw := gw_t 1066 rfl rfl
theorem ck_Law_13 : Cond.classLink R_Law 13 xnse ∈ gw := gw_t 982 (by decide +kernel) rfl
/-- out's one place after a call that returned v -/
def SO (h : Nat → Option aC) (o : Nat) (an : Option Int32) : Option Value → aH → Prop := fun r w => r = some (.int (bI an.isNone)) ∧ ∃ n2 h2, w = (n2, h2) ∧ Fr [120] h h2 ∧ ∃ f : Nat → Int64, h2 o = some (cL 120 1 f) ∧ (∀ v, an = some v → f 0 = v.toInt64)
set_option maxHeartbeats 4000000 in
set_option maxRecDepth 20000 in
theorem c_Law_part {G : aG} {nx : Nat} {h : Nat → Option aC} {x : Nat} {B : LB} {hs : HSt} {ad : AD} {A : Nat → Nat} {most : Nat} {fl : WFl} {L L2 : List Nat} {ar : Nat → Nat → Int32} {n : Nat} {gs : List GSt} {lg : Lg} {xs : List Int32} {cap : Nat} (hc : CL h x B hs ad A most fl L L2 ar n gs lg xs cap) (hv : VH hs) (v w9 i : Int32) {o : Nat} {fo : Nat → Int64} (ho : h o = some (cL 120 1 fo)) : AMetW G m_Law_part [(0, 12, 15, 13)] 9 1 6 [.ref x, .int v, .int w9, .int i, .ref o] (nx, h) (SO h o (sPart hs v w9 i)) := by
  refine amet_ofW (by decide) (Nat.le_of_ble_eq_true rfl) ?_
  show AW G m_Law_part 9 1 6 _ 0 [(0, .ref x), (1, .int v), (2, .int w9), (3, .int i), (4, .ref o)] [] (nx, h) 0 0
  refine aw_aload d_Law_part_0 rfl ?_
  refine aw_iconst (v := 0) d_Law_part_2 (by decide) ?_
  refine aw_aload_n (i := 0) d_Law_part_3 rfl rfl ?_
  refine aw_iload_n (i := 1) d_Law_part_4 rfl rfl ?_
  refine aw_iload_n (i := 2) d_Law_part_5 rfl rfl ?_
  refine aw_iload_n (i := 3) d_Law_part_6 rfl rfl ?_
  apply aw_callvX (c_LH_part hc hv v w9 i) d_Law_part_7 cl_Law_7; exact hc.1.1; rfl; rfl; rfl; rfl; decide; decide; decide; exact Nat.le_of_ble_eq_true rfl; exact cw_Law_part; exact ck_Law_13; decide; decide; exact Or.inr d_Law_part_15; decide; (intro q hq; simp at hq; rcases hq with rfl | rfl | rfl | rfl | rfl <;> exact ⟨Nat.le_of_ble_eq_true rfl, rfl⟩)
  · rintro _ _ ⟨a9, e9, rfl, rfl⟩
    refine aw_i2l d_Law_part_10 ?_
    apply aw_lastore d_Law_part_11; exact ho; exact (by unfold vp_in; decide)
    refine aw_nm ho ?_
    intro h1 k3 f1 o1
    refine aw_goto d_Law_part_12 ?_
    refine aw_iconst (v := 0) d_Law_part_19 (by decide) ?_
    refine aw_toW ?_
    refine aw_iret d_Law_part_20 rfl (by decide) (by decide) ?_
    exact ⟨by rw [e9]; rfl, nx, h1, rfl, f1, _, k3, fun v hv => by rw [e9] at hv; cases hv; rfl⟩
  · rintro _ ⟨e9, n2, rfl⟩
    refine aw_iconst (v := 1) d_Law_part_17 (by decide) ?_
    refine aw_toW ?_
    refine aw_iret d_Law_part_18 rfl (by decide) (by decide) ?_
    exact ⟨by rw [e9]; rfl, n2, h, rfl, Fr.rf, fo, ho, fun v hv => by rw [e9] at hv; cases hv⟩
set_option maxHeartbeats 4000000 in
set_option maxRecDepth 20000 in
theorem c_Law_group {G : aG} {nx : Nat} {h : Nat → Option aC} {x : Nat} {B : LB} {hs : HSt} {ad : AD} {A : Nat → Nat} {most : Nat} {fl : WFl} {L L2 : List Nat} {ar : Nat → Nat → Int32} {n : Nat} {gs : List GSt} {lg : Lg} {xs : List Int32} {cap : Nat} (hc : CL h x B hs ad A most fl L L2 ar n gs lg xs cap) (hv : VH hs) (hg : gs.length = 4) (hvg : VG hs gs) (v w9 : Int32) {o : Nat} {fo : Nat → Int64} (ho : h o = some (cL 120 1 fo)) : AMetW G m_Law_group [(0, 10, 13, 13)] 9 1 6 [.ref x, .int v, .int w9, .ref o] (nx, h) (SO h o (sGrp hs gs v w9)) := by
  refine amet_ofW (by decide) (Nat.le_of_ble_eq_true rfl) ?_
  show AW G m_Law_group 9 1 6 _ 0 [(0, .ref x), (1, .int v), (2, .int w9), (3, .ref o)] [] (nx, h) 0 0
  refine aw_aload_n (i := 3) d_Law_group_0 rfl rfl ?_
  refine aw_iconst (v := 0) d_Law_group_1 (by decide) ?_
  refine aw_aload_n (i := 0) d_Law_group_2 rfl rfl ?_
  refine aw_iload_n (i := 1) d_Law_group_3 rfl rfl ?_
  refine aw_iload_n (i := 2) d_Law_group_4 rfl rfl ?_
  apply aw_callvX (c_LH_group hc hv hg hvg v w9) d_Law_group_5 cl_Law_15; exact hc.1.1; rfl; rfl; rfl; rfl; decide; decide; decide; exact Nat.le_of_ble_eq_true rfl; exact cw_Law_group; exact ck_Law_13; decide; decide; exact Or.inr d_Law_group_13; decide; (intro q hq; simp at hq; rcases hq with rfl | rfl | rfl | rfl <;> exact ⟨Nat.le_of_ble_eq_true rfl, rfl⟩)
  · rintro _ _ ⟨a9, e9, rfl, rfl⟩
    refine aw_i2l d_Law_group_8 ?_
    apply aw_lastore d_Law_group_9; exact ho; exact (by unfold vp_in; decide)
    refine aw_nm ho ?_
    intro h1 k3 f1 o1
    refine aw_goto d_Law_group_10 ?_
    refine aw_iconst (v := 0) d_Law_group_17 (by decide) ?_
    refine aw_toW ?_
    refine aw_iret d_Law_group_18 rfl (by decide) (by decide) ?_
    exact ⟨by rw [e9]; rfl, nx, h1, rfl, f1, _, k3, fun v hv => by rw [e9] at hv; cases hv; rfl⟩
  · rintro _ ⟨e9, n2, rfl⟩
    refine aw_iconst (v := 1) d_Law_group_15 (by decide) ?_
    refine aw_toW ?_
    refine aw_iret d_Law_group_16 rfl (by decide) (by decide) ?_
    exact ⟨by rw [e9]; rfl, n2, h, rfl, Fr.rf, fo, ho, fun v hv => by rw [e9] at hv; cases hv⟩
set_option maxHeartbeats 4000000 in
set_option maxRecDepth 20000 in
theorem c_Law_row {G : aG} {nx : Nat} {h : Nat → Option aC} {x : Nat} {B : LB} {hs : HSt} {ad : AD} {A : Nat → Nat} {most : Nat} {fl : WFl} {L L2 : List Nat} {ar : Nat → Nat → Int32} {n : Nat} {gs : List GSt} {lg : Lg} {xs : List Int32} {cap : Nat} (hc : CL h x B hs ad A most fl L L2 ar n gs lg xs cap) (hv : VH hs) (i : Int32) {o : Nat} {fo : Nat → Int64} (ho : h o = some (cL 120 1 fo)) : AMetW G m_Law_row [(0, 9, 12, 13)] 9 1 6 [.ref x, .int i, .ref o] (nx, h) (SO h o (sRow xs i)) := by
  refine amet_ofW (by decide) (Nat.le_of_ble_eq_true rfl) ?_
  show AW G m_Law_row 9 1 6 _ 0 [(0, .ref x), (1, .int i), (2, .ref o)] [] (nx, h) 0 0
  refine aw_aload_n (i := 2) d_Law_row_0 rfl rfl ?_
  refine aw_iconst (v := 0) d_Law_row_1 (by decide) ?_
  refine aw_aload_n (i := 0) d_Law_row_2 rfl rfl ?_
  refine aw_iload_n (i := 1) d_Law_row_3 rfl rfl ?_
  apply aw_callvX (c_LH_row hc hv i) d_Law_row_4 cl_Law_19; exact hc.1.1; rfl; rfl; rfl; rfl; decide; decide; decide; exact Nat.le_of_ble_eq_true rfl; exact cw_Law_row; exact ck_Law_13; decide; decide; exact Or.inl ⟨3, rfl, d_Law_row_12⟩; decide; (intro q hq; simp at hq; rcases hq with rfl | rfl | rfl <;> exact ⟨Nat.le_of_ble_eq_true rfl, rfl⟩)
  · rintro _ _ ⟨a9, e9, rfl, rfl⟩
    refine aw_i2l d_Law_row_7 ?_
    apply aw_lastore d_Law_row_8; exact ho; exact (by unfold vp_in; decide)
    refine aw_nm ho ?_
    intro h1 k3 f1 o1
    refine aw_goto d_Law_row_9 ?_
    refine aw_iconst (v := 0) d_Law_row_15 (by decide) ?_
    refine aw_toW ?_
    refine aw_iret d_Law_row_16 rfl (by decide) (by decide) ?_
    exact ⟨by rw [e9]; rfl, nx, h1, rfl, f1, _, k3, fun v hv => by rw [e9] at hv; cases hv; rfl⟩
  · rintro _ ⟨e9, n2, rfl⟩
    refine aw_iconst (v := 1) d_Law_row_13 (by decide) ?_
    refine aw_toW ?_
    refine aw_iret d_Law_row_14 rfl (by decide) (by decide) ?_
    exact ⟨by rw [e9]; rfl, n2, h, rfl, Fr.rf, fo, ho, fun v hv => by rw [e9] at hv; cases hv⟩
