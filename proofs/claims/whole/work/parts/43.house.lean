/-! the house in numbers -/
abbrev SSt : Type := Nat × Nat × Nat × Nat × Prs × Prs
abbrev sz0 : SSt := (0, 1, 1, 0, [], [])
abbrev HSt : Type := List PSt × List SSt × Prs × Nat
def ocn (ss : List SSt) : Nat := (ss.filter (fun s => decide (2 ≤ s.1))).length
def htl (ss : List SSt) : List Nat := List.replicate (ocn ss) 2
def swt (ps : List PSt) (ss : List SSt) (j : Nat) : Nat := if 2 ≤ (ss.getD j sz0).1 then prd (pks ps ++ htl (ss.take j)) else 0
def hall (hs : HSt) : Nat := prd (pks hs.1 ++ htl hs.2.1)
def VS (ps : List PSt) (s : SSt) : Prop := s.1 ≤ 3 ∧ 1 ≤ s.2.1 ∧ s.2.1 ≤ 9 ∧ 1 ≤ s.2.2.1 ∧ s.2.2.1 ≤ 100 ∧ s.2.2.2.1 ≤ 7 ∧ s.2.2.2.2.1.length ≤ 4 ∧ VPr ps s.2.2.2.2.1 ∧ s.2.2.2.2.2.length ≤ 4 ∧ VPr ps s.2.2.2.2.2 ∧ (s.2.2.2.2.2.map (fun p => p.1)).Nodup
def VH (hs : HSt) : Prop := VP hs.1 ∧ hs.2.1.length ≤ 24 ∧ (∀ s ∈ hs.2.1, VS hs.1 s) ∧ VPr hs.1 hs.2.2.1 ∧ hs.2.2.1.length ≤ 6 ∧ 1 ≤ hs.2.2.2 ∧ hs.2.2.2 ≤ 9 ∧ hall hs ≤ 20000
def StS (h : Nat → Option aC) (ps : List PSt) (ss : List SSt) (pas sas : List Nat) : Prop := sas.length = ss.length ∧ ∀ j, j < ss.length → ∃ na ga : Nat, h (sas.getD j 0) = some (ob (300 + 20 * j) 8 [.int (nI (ss.getD j sz0).1), .int (nI (ss.getD j sz0).2.1), .int (nI (ss.getD j sz0).2.2.1), .int (nI (ss.getD j sz0).2.2.2.1), .ref na, .ref ga, .int (nI (swt ps ss j))]) ∧ PaA (301 + 20 * j) h na 4 (ss.getD j sz0).2.2.2.2.1 pas ∧ PaA (306 + 20 * j) h ga 4 (ss.getD j sz0).2.2.2.2.2 pas
def hst0 (hs : HSt) : Nat := sds (pks hs.1) 0 (hs.1.zipIdx.map (fun q => (q.2, q.1.2.1)))
abbrev AD : Type := Nat × Nat × Nat × Nat × List Nat × List Nat
/-- the house at its cells: (ho, pl, sl, en, pas, sas) -/
def HoA (h : Nat → Option aC) (hs : HSt) (ad : AD) (start : Nat) : Prop := h ad.1 = some (ob 2 3 [.ref ad.2.1, .ref ad.2.2.1, .ref ad.2.2.2.1, .int (nI hs.2.2.2), .int (nI (hall hs)), .int (nI start)]) ∧ Lsx 3 4 h ad.2.1 ad.2.2.2.2.1 ∧ Lsx 5 6 h ad.2.2.1 ad.2.2.2.2.2 ∧ PaA 7 h ad.2.2.2.1 6 hs.2.2.1 ad.2.2.2.2.1 ∧ PrS h hs.1 ad.2.2.2.2.1 ∧ StS h hs.1 hs.2.1 ad.2.2.2.2.1 ad.2.2.2.2.2
/-- the tags of the house -/
def HT (x : Nat) : Prop := (2 ≤ x ∧ x ≤ 10) ∨ (200 ≤ x ∧ x ≤ 211) ∨ (300 ≤ x ∧ x ≤ 779)
theorem HoA.fr {h h2 : Nat → Option aC} {hs : HSt} {ad : AD} {start : Nat} {T : List Nat} (ho : HoA h hs ad start) (hv : VH hs) (hf : Fr T h h2) (ht : ∀ x, HT x → x ∉ T) : HoA h2 hs ad start := by
  obtain ⟨h1, h3, h4, h5, h6, h7, h8⟩ := ho
  have hl := hv.2.1
  have hp := hv.1.1
  refine ⟨hf _ _ h1 (ht 2 (Or.inl (by omega))), h3.fr hf (ht _ (Or.inl (by omega))) (ht _ (Or.inl (by omega))), h4.fr hf (ht _ (Or.inl (by omega))) (ht _ (Or.inl (by omega))), h5.fr hf (fun x hx => ht _ (Or.inl (by omega))), h6.fr hf hp (fun i hi => ht _ (Or.inr (Or.inl (by omega)))), h7, fun j hj => ?_⟩
  obtain ⟨na, ga, k1, k2, k3⟩ := h8 j hj
  exact ⟨na, ga, hf _ _ k1 (ht (300 + 20 * j) (Or.inr (Or.inr (by omega)))), k2.fr hf (fun x hx => ht _ (Or.inr (Or.inr (by omega)))), k3.fr hf (fun x hx => ht _ (Or.inr (Or.inr (by omega))))⟩
theorem ocn_take (ss : List SSt) (j : Nat) : ocn (ss.take j) ≤ ocn ss := by
  unfold ocn
  exact List.Sublist.length_le ((List.take_sublist j ss).filter _)
theorem htl_pos (ss : List SSt) : ∀ k ∈ htl ss, 0 < k := fun k hk => by rw [List.eq_of_mem_replicate hk]; decide
theorem VH.vt {hs : HSt} (hv : VH hs) : VT hs.1 (htl hs.2.1) := ⟨htl_pos _, hv.2.2.2.2.2.2.2⟩
theorem prd_rep (n : Nat) : 0 < prd (List.replicate n 2) := prd_pos (fun k hk => by rw [List.eq_of_mem_replicate hk]; decide)
theorem prd_repm {m n : Nat} (h : m ≤ n) : prd (List.replicate m 2) ≤ prd (List.replicate n 2) := by
  obtain ⟨r, rfl⟩ : ∃ r, n = m + r := ⟨n - m, by omega⟩
  rw [← List.replicate_append_replicate, prd_app]
  exact Nat.le_mul_of_pos_right _ (prd_rep r)
theorem swt_le {hs : HSt} (hv : VH hs) (j : Nat) : swt hs.1 hs.2.1 j ≤ 20000 := by
  unfold swt
  split
  · have h1 := hv.2.2.2.2.2.2.2
    unfold hall at h1
    rw [prd_app] at h1 ⊢
    have h2 : prd (htl (hs.2.1.take j)) ≤ prd (htl hs.2.1) := prd_repm (ocn_take _ _)
    exact Nat.le_trans (Nat.mul_le_mul_left _ h2) h1
  · omega
theorem VH.s {hs : HSt} (hv : VH hs) {j : Nat} (hj : j < hs.2.1.length) : VS hs.1 (hs.2.1.getD j sz0) := by
  have e : hs.2.1.getD j sz0 = hs.2.1[j] := by simp [List.getD_eq_getElem?_getD, List.getElem?_eq_getElem hj]
  rw [e]
  exact hv.2.2.1 _ (List.getElem_mem hj)
def isE (hs : HSt) (c : Nat) : Bool := hs.2.2.1.all (fun p => dg (pks hs.1) c p.1 == p.2)
def wdj (hs : HSt) (c j : Nat) : Bool := wdn (swt hs.1 hs.2.1 j) c
def nds (hs : HSt) (c j : Nat) : Bool := if (hs.2.1.getD j sz0).1 = 1 then (hs.2.1.getD j sz0).2.2.2.2.1.isEmpty || (hs.2.1.getD j sz0).2.2.2.2.1.any (fun p => dg (pks hs.1) c p.1 == p.2) else (hs.2.1.getD j sz0).2.2.2.2.1.all (fun p => dg (pks hs.1) c p.1 == p.2)
def aod (hs : HSt) (c : Nat) : Bool := (List.range hs.2.1.length).all (fun j => !((hs.2.1.getD j sz0).1 == 2) || wdj hs c j)
def cdo (hs : HSt) (c j b : Nat) : Bool := decide ((hs.2.1.getD j sz0).2.1 ≤ b) && !wdj hs c j && nds hs c j && (!((hs.2.1.getD j sz0).1 == 3) || aod hs c)
def aft (hs : HSt) (c j : Nat) : Nat := sds (pks hs.1) c (hs.2.1.getD j sz0).2.2.2.2.2 + (if wdj hs c j then 0 else swt hs.1 hs.2.1 j)
def opn (hs : HSt) (c j : Nat) : Bool := !isE hs c && cdo hs c j hs.2.2.2
set_option maxHeartbeats 4000000 in
set_option maxRecDepth 20000 in
theorem c_House_isEnd {G : aG} {nx : Nat} {h : Nat → Option aC} {hs : HSt} {ad : AD} {start : Nat} (hH : HoA h hs ad start) (hv : VH hs) {c : Nat} (hc : c < 2 ^ 31) : AMet G m_House_isEnd 4 0 0 [.ref ad.1, .int (nI c)] (nx, h) (RV (.int (bI (isE hs c))) (nx, h)) := by
  obtain ⟨z1, z2, z3, z4, z5, z6, z7⟩ := hH
  have hlp : ad.2.2.2.2.1.length = hs.1.length := z5.1
  have hp12 := hv.1.1
  have hs24 := hv.2.1
  have hall2 := hv.2.2.2.2.2.2.2
  refine amet_of pf_House_isEnd (Nat.le_of_ble_eq_true rfl) ?_
  show AW G m_House_isEnd 4 0 0 _ 0 [(0, .ref ad.1), (1, .int (nI c))] [] (nx, h) 0 0
  refine aw_aload_n (i := 0) d_House_isEnd_0 rfl rfl ?_
  apply aw_get d_House_isEnd_1 fl_House_26; assumption; rfl
  refine aw_iload_n (i := 1) d_House_isEnd_4 rfl rfl ?_
  apply aw_callv_p (c_Pairs_areAll z5 hv.1 z4 hv.2.2.2.1 hc) d_House_isEnd_5 cl_House_85; exact z4.ob.choose_spec; rfl; rfl; rfl; rfl; decide; exact Nat.le_of_ble_eq_true rfl; exact (Nat.le_refl _); exact (Nat.le_refl _)
  refine aw_zret d_House_isEnd_8 rfl (bI_nz (isE hs c)) (Nat.le_refl _) (Nat.le_refl _) ?_
  exact ⟨rfl, rfl⟩

set_option maxHeartbeats 4000000 in
set_option maxRecDepth 20000 in
theorem c_House_hasProp {G : aG} {nx : Nat} {h : Nat → Option aC} {hs : HSt} {ad : AD} {start : Nat} (hH : HoA h hs ad start) (hv : VH hs) (x : Int32) : AMet G m_House_hasProp 1 0 0 [.ref ad.1, .int x] (nx, h) (RV (.int (bI (decide (0 ≤ x ∧ x < nI hs.1.length)))) (nx, h)) := by
  obtain ⟨z1, z2, z3, z4, z5, z6, z7⟩ := hH
  have hlp : ad.2.2.2.2.1.length = hs.1.length := z5.1
  have hp12 := hv.1.1
  have hs24 := hv.2.1
  have hall2 := hv.2.2.2.2.2.2.2
  refine amet_of pf_House_hasProp (Nat.le_of_ble_eq_true rfl) ?_
  show AW G m_House_hasProp 1 0 0 _ 0 [(0, .ref ad.1), (1, .int x)] [] (nx, h) 0 0
  refine aw_iload_n (i := 1) d_House_hasProp_0 rfl rfl ?_
  refine aw_if_lt d_House_hasProp_1 (fun br1_ => ?_) (fun br1_ => ?_)
  · skip
    have hr_ : bI (decide (0 ≤ x ∧ x < nI hs.1.length)) = 0 := bI_0.mpr (decide_eq_false (fun q => absurd br1_ (Int32.not_lt.mpr q.1)))
    refine aw_iconst (v := 0) d_House_hasProp_19 (by decide) ?_
    refine aw_zret d_House_hasProp_20 rfl rfl (Nat.le_refl _) (Nat.le_refl _) ?_
    exact ⟨by rw [hr_], rfl⟩
  · skip
    refine aw_iload_n (i := 1) d_House_hasProp_4 rfl rfl ?_
    refine aw_aload_n (i := 0) d_House_hasProp_5 rfl rfl ?_
    apply aw_get d_House_hasProp_6 fl_House_12; assumption; rfl
    apply aw_callv_p (l_size z2) d_House_hasProp_9 cl_House_46; exact z2.ob.choose_spec; rfl; rfl; rfl; rfl; decide; exact Nat.le_of_ble_eq_true rfl; exact (Nat.le_refl _); exact (Nat.le_refl _)
    rw [hlp]
    refine aw_icmp_ge d_House_hasProp_12 (fun br12_ => ?_) (fun br12_ => ?_)
    · skip
      have hr_ : bI (decide (0 ≤ x ∧ x < nI hs.1.length)) = 0 := bI_0.mpr (decide_eq_false (fun q => absurd br12_ (Int32.not_le.mpr q.2)))
      refine aw_iconst (v := 0) d_House_hasProp_19 (by decide) ?_
      refine aw_zret d_House_hasProp_20 rfl rfl (Nat.le_refl _) (Nat.le_refl _) ?_
      exact ⟨by rw [hr_], rfl⟩
    · skip
      have hr_ : bI (decide (0 ≤ x ∧ x < nI hs.1.length)) = 1 := by
        rw [decide_eq_true ⟨Int32.not_lt.mp br1_, Int32.not_le.mp br12_⟩]; rfl
      refine aw_iconst (v := 1) d_House_hasProp_15 (by decide) ?_
      refine aw_goto d_House_hasProp_16 ?_
      refine aw_zret d_House_hasProp_20 rfl rfl (Nat.le_refl _) (Nat.le_refl _) ?_
      exact ⟨by rw [hr_], rfl⟩

set_option maxHeartbeats 4000000 in
set_option maxRecDepth 20000 in
theorem c_House_hasStep {G : aG} {nx : Nat} {h : Nat → Option aC} {hs : HSt} {ad : AD} {start : Nat} (hH : HoA h hs ad start) (hv : VH hs) (x : Int32) : AMet G m_House_hasStep 1 0 0 [.ref ad.1, .int x] (nx, h) (RV (.int (bI (decide (0 ≤ x ∧ x < nI hs.2.1.length)))) (nx, h)) := by
  obtain ⟨z1, z2, z3, z4, z5, z6, z7⟩ := hH
  have hlp : ad.2.2.2.2.1.length = hs.1.length := z5.1
  have hp12 := hv.1.1
  have hs24 := hv.2.1
  have hall2 := hv.2.2.2.2.2.2.2
  refine amet_of pf_House_hasStep (Nat.le_of_ble_eq_true rfl) ?_
  show AW G m_House_hasStep 1 0 0 _ 0 [(0, .ref ad.1), (1, .int x)] [] (nx, h) 0 0
  refine aw_iload_n (i := 1) d_House_hasStep_0 rfl rfl ?_
  refine aw_if_lt d_House_hasStep_1 (fun br1_ => ?_) (fun br1_ => ?_)
  · skip
    have hr_ : bI (decide (0 ≤ x ∧ x < nI hs.2.1.length)) = 0 := bI_0.mpr (decide_eq_false (fun q => absurd br1_ (Int32.not_lt.mpr q.1)))
    refine aw_iconst (v := 0) d_House_hasStep_19 (by decide) ?_
    refine aw_zret d_House_hasStep_20 rfl rfl (Nat.le_refl _) (Nat.le_refl _) ?_
    exact ⟨by rw [hr_], rfl⟩
  · skip
    refine aw_iload_n (i := 1) d_House_hasStep_4 rfl rfl ?_
    refine aw_aload_n (i := 0) d_House_hasStep_5 rfl rfl ?_
    apply aw_get d_House_hasStep_6 fl_House_18; assumption; rfl
    apply aw_callv_p (l_size z3) d_House_hasStep_9 cl_House_46; exact z3.ob.choose_spec; rfl; rfl; rfl; rfl; decide; exact Nat.le_of_ble_eq_true rfl; exact (Nat.le_refl _); exact (Nat.le_refl _)
    rw [z6]
    refine aw_icmp_ge d_House_hasStep_12 (fun br12_ => ?_) (fun br12_ => ?_)
    · skip
      have hr_ : bI (decide (0 ≤ x ∧ x < nI hs.2.1.length)) = 0 := bI_0.mpr (decide_eq_false (fun q => absurd br12_ (Int32.not_le.mpr q.2)))
      refine aw_iconst (v := 0) d_House_hasStep_19 (by decide) ?_
      refine aw_zret d_House_hasStep_20 rfl rfl (Nat.le_refl _) (Nat.le_refl _) ?_
      exact ⟨by rw [hr_], rfl⟩
    · skip
      have hr_ : bI (decide (0 ≤ x ∧ x < nI hs.2.1.length)) = 1 := by
        rw [decide_eq_true ⟨Int32.not_lt.mp br1_, Int32.not_le.mp br12_⟩]; rfl
      refine aw_iconst (v := 1) d_House_hasStep_15 (by decide) ?_
      refine aw_goto d_House_hasStep_16 ?_
      refine aw_zret d_House_hasStep_20 rfl rfl (Nat.le_refl _) (Nat.le_refl _) ?_
      exact ⟨by rw [hr_], rfl⟩

theorem s_done {G : aG} {nx : Nat} {h : Nat → Option aC} {hs : HSt} {ad : AD} {start : Nat} (hH : HoA h hs ad start) (hv : VH hs) {j : Nat} (hj : j < hs.2.1.length) {c : Nat} (hc : c < 2 ^ 31) : AMet G m_Step_wasDone 0 0 0 [.ref (ad.2.2.2.2.2.getD j 0), .int (nI c)] (nx, h) (RV (.int (bI (wdj hs c j))) (nx, h)) := by
  obtain ⟨na, ga, k1, -, -⟩ := hH.2.2.2.2.2.2 j hj
  have := swt_le hv j
  exact c_Step_wasDone k1 (by omega) hc
set_option maxHeartbeats 4000000 in
set_option maxRecDepth 20000 in
theorem c_House_isAllOnceDone {G : aG} {nx : Nat} {h : Nat → Option aC} {hs : HSt} {ad : AD} {start : Nat} (hH : HoA h hs ad start) (hv : VH hs) {c : Nat} (hc : c < 2 ^ 31) : AMet G m_House_isAllOnceDone 3 0 0 [.ref ad.1, .int (nI c)] (nx, h) (RV (.int (bI (aod hs c))) (nx, h)) := by
  have hH0 := hH
  obtain ⟨z1, z2, z3, z4, z5, z6, z7⟩ := hH
  have hlp : ad.2.2.2.2.1.length = hs.1.length := z5.1
  have hp12 := hv.1.1
  have hs24 := hv.2.1
  have hall2 := hv.2.2.2.2.2.2.2
  refine amet_of pf_House_isAllOnceDone (Nat.le_of_ble_eq_true rfl) ?_
  show AW G m_House_isAllOnceDone 3 0 0 _ 0 [(0, .ref ad.1), (1, .int (nI c))] [] (nx, h) 0 0
  refine aw_iconst (v := 0) d_House_isAllOnceDone_0 (by decide) ?_
  refine aw_istore_n (i := 2) (lv2 := [(0, _), (1, _), (2, _)]) d_House_isAllOnceDone_1 rfl (by decide) rfl ?_
  refine upto (σ := Nat) (fun i => AW G m_House_isAllOnceDone 3 0 0 _ 2 [(0, .ref ad.1), (1, .int (nI c)), (2, .int (nI i))] [] (nx, h) 0 0) (fun i s => s = i ∧ ∀ j, j < i → (hs.2.1.getD j sz0).1 = 2 → wdj hs c j = true) hs.2.1.length ?_ 0 0 (Nat.zero_le _) ⟨rfl, fun j hj => absurd hj (Nat.not_lt_zero _)⟩
  intro i s0 hi hI ih
  obtain ⟨rfl, hI⟩ := hI
  refine aw_iload_n (i := 2) d_House_isAllOnceDone_2 rfl rfl ?_
  refine aw_aload_n (i := 0) d_House_isAllOnceDone_3 rfl rfl ?_
  apply aw_get d_House_isAllOnceDone_4 fl_House_18; assumption; rfl
  apply aw_callv_p (l_size z3) d_House_isAllOnceDone_7 cl_House_46; exact z3.ob.choose_spec; rfl; rfl; rfl; rfl; decide; exact Nat.le_of_ble_eq_true rfl; exact (Nat.le_refl _); exact (Nat.le_refl _)
  rw [z6]
  refine aw_icmp_ge d_House_isAllOnceDone_10 (fun br10_ => ?_) (fun br10_ => ?_)
  · skip
    have hei : s0 = hs.2.1.length := by
      have := (nI_leI (by omega) (by omega)).mp br10_
      omega
    have hr_ : bI (aod hs c) = 1 := by
      have : aod hs c = true := List.all_eq_true.mpr (fun j hj => by
        have hj2 := List.mem_range.mp hj
        by_cases e9 : (hs.2.1.getD j sz0).1 = 2
        · rw [hI j (by omega) e9, Bool.or_true]
        · rw [beq_eq_false_iff_ne.mpr e9]; rfl)
      rw [this]; rfl
    refine aw_iconst (v := 1) d_House_isAllOnceDone_57 (by decide) ?_
    refine aw_zret d_House_isAllOnceDone_58 rfl rfl (Nat.le_refl _) (Nat.le_refl _) ?_
    exact ⟨by rw [hr_], rfl⟩
  · skip
    have hlt := paB (by omega) (by omega) br10_
    obtain ⟨na, ga, k1, k2, k3⟩ := z7 s0 hlt
    have hkd := (hv.s hlt).1
    refine aw_aload_n (i := 0) d_House_isAllOnceDone_13 rfl rfl ?_
    apply aw_get d_House_isAllOnceDone_14 fl_House_18; assumption; rfl
    refine aw_iload_n (i := 2) d_House_isAllOnceDone_17 rfl rfl ?_
    apply aw_callv_p (l_get z3 s0 (by omega)) d_House_isAllOnceDone_18 cl_House_50; exact z3.ob.choose_spec; rfl; rfl; rfl; rfl; decide; exact Nat.le_of_ble_eq_true rfl; exact (Nat.le_refl _); exact (Nat.le_refl _)
    rw [getD_len (by omega)]
    apply aw_cast d_House_isAllOnceDone_21; exact k1; rfl; exact cc_House_62
    apply aw_get d_House_isAllOnceDone_24 fl_House_74; exact k1; rfl
    refine aw_iconst (v := 2) d_House_isAllOnceDone_27 (by decide) ?_
    refine aw_icmp_ne d_House_isAllOnceDone_28 (fun br28_ => ?_) (fun br28_ => ?_)
    · skip
      have hok : (hs.2.1.getD s0 sz0).1 = 2 → wdj hs c s0 = true := fun e9 => absurd (by rw [e9]; rfl) br28_
      refine aw_iinc (v := _ + 1) (lv2 := [(0, _), (1, _), (2, _)]) d_House_isAllOnceDone_51 (by decide) rfl rfl rfl ?_
      refine aw_goto d_House_isAllOnceDone_54 ?_
      rw [nI_1]
      refine ih hlt (s0 + 1) ⟨rfl, fun j hj => ?_⟩
      by_cases e9 : j = s0
      · subst e9; exact hok
      · exact hI j (by omega)
    · skip
      refine aw_aload_n (i := 0) d_House_isAllOnceDone_31 rfl rfl ?_
      apply aw_get d_House_isAllOnceDone_32 fl_House_18; assumption; rfl
      refine aw_iload_n (i := 2) d_House_isAllOnceDone_35 rfl rfl ?_
      apply aw_callv_p (l_get z3 s0 (by omega)) d_House_isAllOnceDone_36 cl_House_50; exact z3.ob.choose_spec; rfl; rfl; rfl; rfl; decide; exact Nat.le_of_ble_eq_true rfl; exact (Nat.le_refl _); exact (Nat.le_refl _)
      rw [getD_len (by omega)]
      apply aw_cast d_House_isAllOnceDone_39; exact k1; rfl; exact cc_House_62
      refine aw_iload_n (i := 1) d_House_isAllOnceDone_42 rfl rfl ?_
      apply aw_callv_p (s_done hH0 hv hlt hc) d_House_isAllOnceDone_43 cl_House_139; exact k1; rfl; rfl; rfl; rfl; decide; exact Nat.le_of_ble_eq_true rfl; exact (Nat.le_refl _); exact (Nat.le_refl _)
      refine aw_if_ne d_House_isAllOnceDone_46 (fun br46_ => ?_) (fun br46_ => ?_)
      · skip
        have hok : (hs.2.1.getD s0 sz0).1 = 2 → wdj hs c s0 = true := fun _ => bI_1.mp br46_
        refine aw_iinc (v := _ + 1) (lv2 := [(0, _), (1, _), (2, _)]) d_House_isAllOnceDone_51 (by decide) rfl rfl rfl ?_
        refine aw_goto d_House_isAllOnceDone_54 ?_
        rw [nI_1]
        refine ih hlt (s0 + 1) ⟨rfl, fun j hj => ?_⟩
        by_cases e9 : j = s0
        · subst e9; exact hok
        · exact hI j (by omega)
      · skip
        have hr_ : bI (aod hs c) = 0 := bI_0.mpr (by
          apply Bool.eq_false_iff.mpr
          intro e9
          have := List.all_eq_true.mp e9 s0 (List.mem_range.mpr hlt)
          rw [bI_0.mp br46_, (nI_eq (b := 2) (by omega) (by decide)).mp br28_] at this
          exact absurd this (by decide))
        refine aw_iconst (v := 0) d_House_isAllOnceDone_49 (by decide) ?_
        refine aw_zret d_House_isAllOnceDone_50 rfl rfl (Nat.le_refl _) (Nat.le_refl _) ?_
        exact ⟨by rw [hr_], rfl⟩

set_option maxHeartbeats 4000000 in
set_option maxRecDepth 20000 in
theorem c_House_canDo {G : aG} {nx : Nat} {h : Nat → Option aC} {hs : HSt} {ad : AD} {start : Nat} (hH : HoA h hs ad start) (hv : VH hs) {c j b : Nat} (hc : c < 2 ^ 31) (hj : j < hs.2.1.length) (hb : b ≤ 9) : AMet G m_House_canDo 4 0 0 [.ref ad.1, .int (nI c), .ref (ad.2.2.2.2.2.getD j 0), .int (nI b)] (nx, h) (RV (.int (bI (cdo hs c j b))) (nx, h)) := by
  have hH0 := hH
  obtain ⟨z1, z2, z3, z4, z5, z6, z7⟩ := hH
  have hlp : ad.2.2.2.2.1.length = hs.1.length := z5.1
  have hp12 := hv.1.1
  have hs24 := hv.2.1
  have hall2 := hv.2.2.2.2.2.2.2
  obtain ⟨na, ga, k1, k2, k3⟩ := z7 j hj
  have hvs := hv.s hj
  have hwt := swt_le hv j
  have hvk : (hs.2.1.getD j sz0).1 ≤ 3 := hvs.1
  have hvh : (hs.2.1.getD j sz0).2.1 ≤ 9 := hvs.2.2.1
  have hvn : (hs.2.1.getD j sz0).2.2.2.2.1.length ≤ 4 := hvs.2.2.2.2.2.2.1
  refine amet_of pf_House_canDo (Nat.le_of_ble_eq_true rfl) ?_
  show AW G m_House_canDo 4 0 0 _ 0 [(0, .ref ad.1), (1, .int (nI c)), (2, .ref (ad.2.2.2.2.2.getD j 0)), (3, .int (nI b))] [] (nx, h) 0 0
  refine aw_iload_n (i := 3) d_House_canDo_0 rfl rfl ?_
  refine aw_aload_n (i := 2) d_House_canDo_1 rfl rfl ?_
  apply aw_get d_House_canDo_2 fl_House_138; exact k1; rfl
  refine aw_icmp_lt d_House_canDo_5 (fun br5_ => ?_) (fun br5_ => ?_)
  · skip
    have hr_ : bI (cdo hs c j b) = 0 := bI_0.mpr (by
      have : ¬ (hs.2.1.getD j sz0).2.1 ≤ b := fun q => absurd br5_ (Int32.not_lt.mpr ((nI_leI (by omega) (by omega)).mpr q))
      unfold cdo; rw [decide_eq_false this]; rfl)
    refine aw_iconst (v := 0) d_House_canDo_16 (by decide) ?_
    refine aw_zret d_House_canDo_17 rfl rfl (Nat.le_refl _) (Nat.le_refl _) ?_
    exact ⟨by rw [hr_], rfl⟩
  · skip
    have hA : decide ((hs.2.1.getD j sz0).2.1 ≤ b) = true := decide_eq_true ((nI_leI (by omega) (by omega)).mp (Int32.not_lt.mp br5_))
    refine aw_aload_n (i := 2) d_House_canDo_8 rfl rfl ?_
    refine aw_iload_n (i := 1) d_House_canDo_9 rfl rfl ?_
    apply aw_callv_p (s_done hH0 hv hj hc) d_House_canDo_10 cl_House_139; exact k1; rfl; rfl; rfl; rfl; decide; exact Nat.le_of_ble_eq_true rfl; exact (Nat.le_refl _); exact (Nat.le_refl _)
    refine aw_if_eq d_House_canDo_13 (fun br13_ => ?_) (fun br13_ => ?_)
    · skip
      have hW := bI_0.mp br13_
      refine aw_aload_n (i := 2) d_House_canDo_18 rfl rfl ?_
      apply aw_get d_House_canDo_19 fl_House_74; exact k1; rfl
      refine aw_iconst (v := 1) d_House_canDo_22 (by decide) ?_
      refine aw_icmp_ne d_House_canDo_23 (fun br23_ => ?_) (fun br23_ => ?_)
      · skip
        have hk1 : ¬ (hs.2.1.getD j sz0).1 = 1 := fun e9 => br23_ (by rw [e9]; rfl)
        refine aw_aload_n (i := 2) d_House_canDo_53 rfl rfl ?_
        apply aw_get d_House_canDo_54 fl_House_142; exact k1; rfl
        refine aw_iload_n (i := 1) d_House_canDo_57 rfl rfl ?_
        apply aw_callv_p (c_Pairs_areAll z5 hv.1 k2 hvs.2.2.2.2.2.2.2.1 hc) d_House_canDo_58 cl_House_85; exact k2.ob.choose_spec; rfl; rfl; rfl; rfl; decide; exact Nat.le_of_ble_eq_true rfl; exact (Nat.le_refl _); exact (Nat.le_refl _)
        refine aw_if_eq d_House_canDo_61 (fun br61_ => ?_) (fun br61_ => ?_)
        · skip
          have hr_ : bI (cdo hs c j b) = 0 := by
            unfold cdo nds; rw [hA, hW, if_neg hk1, bI_0.mp br61_]; rfl
          refine aw_iconst (v := 0) d_House_canDo_84 (by decide) ?_
          refine aw_zret d_House_canDo_85 rfl rfl (Nat.le_refl _) (Nat.le_refl _) ?_
          exact ⟨by rw [hr_], rfl⟩
        · skip
          refine aw_aload_n (i := 2) d_House_canDo_64 rfl rfl ?_
          apply aw_get d_House_canDo_65 fl_House_74; exact k1; rfl
          refine aw_iconst (v := 3) d_House_canDo_68 (by decide) ?_
          refine aw_icmp_ne d_House_canDo_69 (fun br69_ => ?_) (fun br69_ => ?_)
          · skip
            have hk3 : ((hs.2.1.getD j sz0).1 == 3) = false := beq_eq_false_iff_ne.mpr (fun e9 => br69_ (by rw [e9]; rfl))
            have hr_ : bI (cdo hs c j b) = 1 := by
              unfold cdo nds; rw [hA, hW, if_neg hk1, bI_1.mp br61_, hk3]; rfl
            refine aw_iconst (v := 1) d_House_canDo_80 (by decide) ?_
            refine aw_goto d_House_canDo_81 ?_
            refine aw_zret d_House_canDo_85 rfl rfl (Nat.le_refl _) (Nat.le_refl _) ?_
            exact ⟨by rw [hr_], rfl⟩
          · skip
            have hk3 : ((hs.2.1.getD j sz0).1 == 3) = true := by
              rw [(nI_eq (b := 3) (by omega) (by decide)).mp br69_]; rfl
            refine aw_aload_n (i := 0) d_House_canDo_72 rfl rfl ?_
            refine aw_iload_n (i := 1) d_House_canDo_73 rfl rfl ?_
            apply aw_callv_p (c_House_isAllOnceDone hH0 hv hc) d_House_canDo_74 cl_House_149; exact z1; rfl; rfl; rfl; rfl; decide; exact Nat.le_of_ble_eq_true rfl; exact (Nat.le_refl _); exact (Nat.le_refl _)
            refine aw_if_eq d_House_canDo_77 (fun br77_ => ?_) (fun br77_ => ?_)
            · skip
              have hr_ : bI (cdo hs c j b) = 0 := by
                unfold cdo nds; rw [hA, hW, if_neg hk1, bI_1.mp br61_, hk3, bI_0.mp br77_]; rfl
              refine aw_iconst (v := 0) d_House_canDo_84 (by decide) ?_
              refine aw_zret d_House_canDo_85 rfl rfl (Nat.le_refl _) (Nat.le_refl _) ?_
              exact ⟨by rw [hr_], rfl⟩
            · skip
              have hr_ : bI (cdo hs c j b) = 1 := by
                unfold cdo nds; rw [hA, hW, if_neg hk1, bI_1.mp br61_, hk3, bI_1.mp br77_]; rfl
              refine aw_iconst (v := 1) d_House_canDo_80 (by decide) ?_
              refine aw_goto d_House_canDo_81 ?_
              refine aw_zret d_House_canDo_85 rfl rfl (Nat.le_refl _) (Nat.le_refl _) ?_
              exact ⟨by rw [hr_], rfl⟩
      · skip
        have hk1 : (hs.2.1.getD j sz0).1 = 1 := (nI_eq (b := 1) (by omega) (by decide)).mp br23_
        have hk3 : ((hs.2.1.getD j sz0).1 == 3) = false := by rw [hk1]; rfl
        refine aw_aload_n (i := 2) d_House_canDo_26 rfl rfl ?_
        apply aw_get d_House_canDo_27 fl_House_142; exact k1; rfl
        apply aw_callv_p (c_Pairs_size k2) d_House_canDo_30 cl_House_145; exact k2.ob.choose_spec; rfl; rfl; rfl; rfl; decide; exact Nat.le_of_ble_eq_true rfl; exact (Nat.le_refl _); exact (Nat.le_refl _)
        refine aw_if_eq d_House_canDo_33 (fun br33_ => ?_) (fun br33_ => ?_)
        · skip
          have hem : (hs.2.1.getD j sz0).2.2.2.2.1.isEmpty = true := by
            have h9 : (hs.2.1.getD j sz0).2.2.2.2.1.length = 0 := (nI_eq (b := 0) (by omega) (by decide)).mp br33_
            exact List.isEmpty_iff.mpr (List.eq_nil_of_length_eq_zero h9)
          have hr_ : bI (cdo hs c j b) = 1 := by
            unfold cdo nds; rw [hA, hW, if_pos hk1, hem, hk3]; rfl
          refine aw_iconst (v := 1) d_House_canDo_47 (by decide) ?_
          refine aw_goto d_House_canDo_48 ?_
          refine aw_zret d_House_canDo_52 rfl rfl (Nat.le_refl _) (Nat.le_refl _) ?_
          exact ⟨by rw [hr_], rfl⟩
        · skip
          have hem : (hs.2.1.getD j sz0).2.2.2.2.1.isEmpty = false := by
            apply Bool.eq_false_iff.mpr; intro e9; exact br33_ (by rw [List.isEmpty_iff.mp e9]; rfl)
          refine aw_aload_n (i := 2) d_House_canDo_36 rfl rfl ?_
          apply aw_get d_House_canDo_37 fl_House_142; exact k1; rfl
          refine aw_iload_n (i := 1) d_House_canDo_40 rfl rfl ?_
          apply aw_callv_p (c_Pairs_isAny z5 hv.1 k2 hvs.2.2.2.2.2.2.2.1 hc) d_House_canDo_41 cl_House_146; exact k2.ob.choose_spec; rfl; rfl; rfl; rfl; decide; exact Nat.le_of_ble_eq_true rfl; exact (Nat.le_refl _); exact (Nat.le_refl _)
          refine aw_if_eq d_House_canDo_44 (fun br44_ => ?_) (fun br44_ => ?_)
          · skip
            have hr_ : bI (cdo hs c j b) = 0 := by
              unfold cdo nds; rw [hA, hW, if_pos hk1, hem, hk3, bI_0.mp br44_]; rfl
            refine aw_iconst (v := 0) d_House_canDo_51 (by decide) ?_
            refine aw_zret d_House_canDo_52 rfl rfl (Nat.le_refl _) (Nat.le_refl _) ?_
            exact ⟨by rw [hr_], rfl⟩
          · skip
            have hr_ : bI (cdo hs c j b) = 1 := by
              unfold cdo nds; rw [hA, hW, if_pos hk1, hem, hk3, bI_1.mp br44_]; rfl
            refine aw_iconst (v := 1) d_House_canDo_47 (by decide) ?_
            refine aw_goto d_House_canDo_48 ?_
            refine aw_zret d_House_canDo_52 rfl rfl (Nat.le_refl _) (Nat.le_refl _) ?_
            exact ⟨by rw [hr_], rfl⟩
    · skip
      have hr_ : bI (cdo hs c j b) = 0 := bI_0.mpr (by unfold cdo; rw [hA, bI_1.mp br13_]; rfl)
      refine aw_iconst (v := 0) d_House_canDo_16 (by decide) ?_
      refine aw_zret d_House_canDo_17 rfl rfl (Nat.le_refl _) (Nat.le_refl _) ?_
      exact ⟨by rw [hr_], rfl⟩

