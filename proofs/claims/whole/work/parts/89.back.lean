/-! back: the least that nobody leans on -/
theorem rlS_eq {hs : HSt} {c S p : Nat} (hx : VX hs) (hv : VH hs) (hp : p < hs.1.length) : (hs.1.getD p pz).2.2.1 = -1 ∧ (∀ T, rlS hs c T p = true) ∨ ∃ y s, y < hs.1.length ∧ y ≠ p ∧ s < (hs.1.getD y pz).1 ∧ (hs.1.getD p pz).2.2.1 = nI y ∧ ∀ T, rlS hs c T p = decide (dgS hs c T y = s) := by
  rcases (hx p hp).1 with q | ⟨y, s, h1, h2, h3, h4, h5⟩
  · exact Or.inl ⟨q, fun T => by unfold rlS; rw [decide_eq_true q]; rfl⟩
  · refine Or.inr ⟨y, s, h1, h2, h3, h4, fun T => ?_⟩
    have hp12 := hv.1.1
    have hky := hv.1.k h1
    have hdl := dg_lt c y (by rw [pk_len]; exact h1) hv.1.pos
    rw [pk_at h1] at hdl
    unfold rlS
    rw [decide_eq_false (fun z => nI_nm1 (n := y) (by omega) (by rw [← h4]; exact z)), h4, h5, xN_nI (by omega), Bool.false_or]
    refine decide_eq_decide.mpr (nI_eq ?_ (by omega))
    unfold dgS frs; split <;> omega
theorem dgS_or {hs : HSt} {c S p y : Nat} (h : y ≠ p) : dgS hs c (S ||| 2 ^ p) y = dgS hs c S y := by
  unfold dgS
  rw [Nat.testBit_or, Nat.testBit_two_pow_of_ne (fun z => h z.symm), Bool.or_false]
theorem dgS_in {hs : HSt} {c S p : Nat} (h : S.testBit p = true) : dgS hs c S p = frs hs p := by unfold dgS; rw [h]; rfl
theorem dgS_out {hs : HSt} {c S p : Nat} (h : S.testBit p = false) : dgS hs c S p = dg (pks hs.1) c p := by unfold dgS; rw [h]; rfl
theorem or_bit_ne {S p q : Nat} (h : q ≠ p) : (S ||| 2 ^ p).testBit q = S.testBit q := by rw [Nat.testBit_or, Nat.testBit_two_pow_of_ne (fun z => h z.symm), Bool.or_false]
theorem or_bit_eq {S p : Nat} : (S ||| 2 ^ p).testBit p = true := by rw [Nat.testBit_or, Nat.testBit_two_pow_self, Bool.or_true]
theorem or_up {S p q : Nat} (h : S.testBit q = true) : (S ||| 2 ^ p).testBit q = true := by rw [Nat.testBit_or, h]; rfl
theorem ord_mem {hs : HSt} {c p : Nat} (hp : p < hs.1.length) (ha : awy hs c p = true) : ∀ {ps : List Nat} {S : Nat}, OrdB hs c S ps → S.testBit p = false → p ∈ ps ∧ ∃ T, (∀ q, S.testBit q = true → T.testBit q = true) ∧ rlS hs c T p = true
  | [], S, h, hs2 => by
    have : S.testBit p = true := by rw [show S = awm hs c from h, awm_bit, decide_eq_true hp, ha]; rfl
    rw [hs2] at this; cases this
  | r :: t, S, h, hs2 => by
    by_cases e : r = p
    · subst e; exact ⟨List.mem_cons_self, S, fun _ h => h, h.2.2.2.1⟩
    · obtain ⟨h1, T, h2, h3⟩ := ord_mem hp ha h.2.2.2.2 (by rw [or_bit_ne (fun z => e z.symm)]; exact hs2)
      exact ⟨List.mem_cons_of_mem _ h1, T, fun q hq => h2 q (or_up hq), h3⟩
/-- what nobody leans on may go first -/
theorem ord_front {hs : HSt} (hv : VH hs) (hx : VX hs) {c p : Nat} : ∀ {ps : List Nat} {S : Nat}, OrdB hs c S ps → S.testBit p = false → p ∈ ps → (∀ r, r < hs.1.length → awy hs c r = true → S.testBit r = false → (hs.1.getD r pz).2.2.1 = nI p → rlS hs c S r = false) → p < hs.1.length → OrdB hs c (S ||| 2 ^ p) (ps.erase p)
  | [], S, _, _, hm, _, _ => absurd hm List.not_mem_nil
  | r :: t, S, h, hS, hm, hl, hp => by
    have hp12 := hv.1.1
    by_cases e : r = p
    · subst e; rw [List.erase_cons_head]; exact h.2.2.2.2
    · have hm2 : p ∈ t := (List.mem_cons.mp hm).resolve_left (fun z => e z.symm)
      rw [List.erase_cons_tail (by simpa using e)]
      have ih := ord_front hv hx (S := S ||| 2 ^ r) h.2.2.2.2 (by rw [or_bit_ne (fun z => e z.symm)]; exact hS) hm2 (fun q h1 h2 h3 h4 => by
        have hqr : q ≠ r := fun z => by rw [z, or_bit_eq] at h3; cases h3
        rw [or_bit_ne hqr] at h3
        have := hl q h1 h2 h3 h4
        rcases rlS_eq (c := c) (S := S) hx hv h1 with q1 | ⟨y, s, y1, y2, y3, y4, y5⟩
        · rw [q1.1] at h4
          exact absurd h4.symm (nI_nm1 (by omega))
        · have ey : y = p := (nI_eq (by omega) (by omega)).mp (y4.symm.trans h4)
          rw [y5] at this ⊢
          rw [dgS_or (fun z => e (by rw [← z, ey]))]; exact this) hp
      refine ⟨h.1, h.2.1, ?_, ?_, ?_⟩
      · rw [or_bit_ne e]; exact h.2.2.1
      · have h4 := h.2.2.2.1
        rcases rlS_eq (c := c) (S := S) hx hv h.1 with q1 | ⟨y, s, y1, y2, y3, y4, y5⟩
        · exact q1.2 _
        · by_cases ey : y = p
          · rw [hl r h.1 h.2.1 h.2.2.1 (by rw [y4, ey])] at h4; cases h4
          · rw [y5] at h4 ⊢; rw [dgS_or ey]; exact h4
      · rw [Nat.or_assoc, Nat.or_comm (2 ^ p), ← Nat.or_assoc]; exact ih
def lnS (hs : HSt) (c S p : Nat) : Bool := (List.range hs.1.length).any (fun q => decide ((hs.1.getD q pz).2.2.1 = nI p) && (awy hs c q && !S.testBit q) && rlS hs c S q)
theorem cnd_eq {hs : HSt} (hv : VH hs) (hx : VX hs) {c S p : Nat} (hw : wkb hs c S = true) (hp : p < hs.1.length) : cnd hs c S p = (awy hs c p && !S.testBit p && rlS hs c S p && !lnS hs c S p) := by
  have hp12 := hv.1.1
  unfold cnd
  cases ha : awy hs c p
  · rfl
  cases hS : S.testBit p
  · cases hr : rlS hs c S p
    · rfl
    · show wkb hs c (S ||| 2 ^ p) = !lnS hs c S p
      obtain ⟨ps, hps⟩ := wkb_iff.mp hw
      cases hl : lnS hs c S p
      · refine wkb_iff.mpr ⟨ps.erase p, ord_front hv hx hps hS (ord_mem hp ha hps hS).1 (fun r h1 h2 h3 h4 => ?_) hp⟩
        cases e : rlS hs c S r
        · rfl
        · have : lnS hs c S p = true := List.any_eq_true.mpr ⟨r, List.mem_range.mpr h1, by rw [decide_eq_true h4, h2, h3, e]; rfl⟩
          rw [hl] at this; cases this
      · obtain ⟨q, q1, q2⟩ := List.any_eq_true.mp hl
        simp only [Bool.and_eq_true, decide_eq_true_eq, Bool.not_eq_true'] at q2
        obtain ⟨⟨q3, q4, q5⟩, q6⟩ := q2
        have hql := List.mem_range.mp q1
        refine wkb_f (fun ⟨ps2, h2⟩ => ?_)
        rcases rlS_eq (c := c) (S := S) hx hv hql with z | ⟨y, s, y1, y2, y3, y4, y5⟩
        · rw [z.1] at q3; exact absurd q3.symm (nI_nm1 (by omega))
        · have ey : y = p := (nI_eq (by omega) (by omega)).mp (y4.symm.trans q3)
          subst ey
          obtain ⟨-, T, t1, t2⟩ := ord_mem hql q4 h2 (by rw [or_bit_ne (fun z => y2 z.symm)]; exact q5)
          rw [y5] at q6 t2
          have e1 := of_decide_eq_true q6
          have e2 := of_decide_eq_true t2
          rw [dgS_out hS] at e1
          rw [dgS_in (t1 _ or_bit_eq)] at e2
          unfold awy at ha
          simp only [Bool.not_eq_true', decide_eq_false_iff_not] at ha
          exact ha (e1.trans e2.symm)
  · rfl
/-- the code in which the props of S are put back -/
def Zr (hs : HSt) (c S z : Nat) : Prop := z < hall hs ∧ ∀ q, q < hs.1.length → dg (pks hs.1) z q = dgS hs c S q
theorem zr_awy {hs : HSt} {c S z p : Nat} (h : Zr hs c S z) (hp : p < hs.1.length) : awy hs z p = (awy hs c p && !S.testBit p) := by
  show (!decide (dg (pks hs.1) z p = frs hs p)) = _
  rw [h.2 p hp]
  cases e : S.testBit p
  · rw [dgS_out e]; show _ = ((!decide (dg (pks hs.1) c p = frs hs p)) && true); rw [Bool.and_true]
  · rw [dgS_in e]; simp
theorem zr_rlc {hs : HSt} (hv : VH hs) (hx : VX hs) {c S z p : Nat} (h : Zr hs c S z) (hp : p < hs.1.length) : rlc hs z p = rlS hs c S p := by
  have hp12 := hv.1.1
  show (decide _ || decide _) = (decide _ || decide _)
  rcases (hx p hp).1 with q | ⟨y, s, h1, h2, h3, h4, h5⟩
  · rw [decide_eq_true q]; rfl
  · rw [h4, xN_nI (by omega), h.2 y h1]
theorem zr_gcz {hs : HSt} (hv : VH hs) (hx : VX hs) {c S z p : Nat} (h : Zr hs c S z) (hp : p < hs.1.length) : gcz hs z p = (awy hs c p && !S.testBit p && rlS hs c S p && !lnS hs c S p) := by
  show (_ && _ && !lnd hs z p) = _
  rw [zr_awy h hp, zr_rlc hv hx h hp]
  congr 2
  show (List.range hs.1.length).any (lnp hs z p) = (List.range hs.1.length).any _
  rw [Bool.eq_iff_iff, List.any_eq_true, List.any_eq_true]
  refine exists_congr (fun q => and_congr_right (fun hq => ?_))
  rw [← Bool.eq_iff_iff]
  have hql := List.mem_range.mp hq
  show (_ && _ && _) = _
  rw [zr_awy h hql, zr_rlc hv hx h hql]
theorem zr_step {hs : HSt} (hv : VH hs) {c S z p : Nat} (h : Zr hs c S z) (hp : p < hs.1.length) : Zr hs c (S ||| 2 ^ p) (sd (pks hs.1) z p (frs hs p)) := by
  have hk := hv.1.k hp
  refine ⟨sd_bd hv.vt hv.1 hp hk.2.2 h.1, fun q hq => ?_⟩
  rw [dg_sd _ _ _ _ (by rw [pk_len]; exact hp) hv.1.pos (by rw [pk_at hp]; exact hk.2.2)]
  by_cases e : q = p
  · subst e; rw [if_pos rfl, dgS_in or_bit_eq]
  · rw [if_neg e, dgS_or e]; exact h.2 q hq
theorem wkb_or {hs : HSt} {c S p : Nat} (hp : p < hs.1.length) (h1 : awy hs c p = true) (h2 : S.testBit p = false) (h3 : rlS hs c S p = true) (h : wkb hs c (S ||| 2 ^ p) = true) : wkb hs c S = true := by
  obtain ⟨ps, hps⟩ := wkb_iff.mp h
  exact wkb_iff.mpr ⟨p :: ps, hp, h1, h2, h3, hps⟩
theorem find_congr {p q : Nat → Bool} : ∀ {l : List Nat}, (∀ x ∈ l, p x = q x) → l.find? p = l.find? q
  | [], _ => rfl
  | x :: t, h => by
    rw [List.find?_cons, List.find?_cons, h x List.mem_cons_self, find_congr (fun y hy => h y (List.mem_cons_of_mem _ hy))]
set_option maxHeartbeats 4000000 in
set_option maxRecDepth 20000 in
theorem c_House_orderBack {G : aG} {nx : Nat} {h : Nat → Option aC} {hs : HSt} {ad : AD} {sta : Nat} (ho : HoA h hs ad sta) (hv : VH hs) (hx : VX hs) {c b : Nat} {f : Nat → Int32} (hc : c < hall hs) (hb : h b = some (cI 24 12 f)) : AMet G m_House_orderBack 7 0 0 [.ref ad.1, .int (nI c), .ref b] (nx, h) (fun r w => r = some (.int (if wkb hs c 0 then nI (bkF hs c 4096 0).length else -2)) ∧ ∃ h2 f2, w = (nx, h2) ∧ HoA h2 hs ad sta ∧ h2 b = some (cI 24 12 f2) ∧ Fr [24] h h2 ∧ (wkb hs c 0 = true → (∀ j (hj : j < (bkF hs c 4096 0).length), f2 j = nI (bkF hs c 4096 0)[j]) ∧ (bkF hs c 4096 0).length ≤ 12)) := by
  have hp12 := hv.1.1
  have hs24 := hv.2.1
  have hall2 := hv.2.2.2.2.2.2.2
  refine amet_of pf_House_orderBack (Nat.le_of_ble_eq_true rfl) ?_
  show AW G m_House_orderBack 7 0 0 _ 0 [(0, .ref ad.1), (1, .int (nI c)), (2, .ref b)] [] (nx, h) 0 0
  refine aw_iload_n (i := 1) d_House_orderBack_0 rfl rfl ?_
  refine aw_istore_n (i := 3) (lv2 := [(0, _), (1, _), (2, _), (3, _)]) d_House_orderBack_1 rfl (by decide) rfl ?_
  refine aw_iconst (v := nI 0) d_House_orderBack_2 (by decide) ?_
  refine aw_istore (lv2 := [(0, _), (1, _), (2, _), (3, _), (4, _)]) d_House_orderBack_3 (by decide) rfl ?_
  refine aw_iconst (v := nI 0) d_House_orderBack_5 (by decide) ?_
  refine aw_istore (lv2 := [(0, _), (1, _), (2, _), (3, _), (4, _), (5, _)]) d_House_orderBack_6 (by decide) rfl ?_
  refine Nat.strongRecOn (motive := fun m => ∀ (h1 : Nat → Option aC) (f : Nat → Int32) (S z : Nat) (pre : List Nat), (HoA h1 hs ad sta ∧ h1 b = some (cI 24 12 f) ∧ Fr [24] h h1 ∧ Zr hs c S z ∧ (∀ q, S.testBit q = true → (awm hs c).testBit q = true) ∧ (∀ q, S.testBit q = true ↔ q ∈ pre) ∧ pre.Nodup ∧ (∀ p ∈ pre, p < hs.1.length) ∧ wkb hs c S = wkb hs c 0 ∧ (wkb hs c 0 = true → ∃ fu, bkF hs c 4096 0 = pre ++ bkF hs c fu S ∧ 4096 ≤ fu + S) ∧ (∀ j (hj : j < pre.length), f j = nI pre[j]) ∧ S < 4096 ∧ m = hs.1.length - pre.length) → AW G m_House_orderBack 7 0 0 _ 8 [(0, .ref ad.1), (1, .int (nI c)), (2, .ref b), (3, .int (nI z)), (4, .int (nI pre.length)), (5, .int (nI pre.length))] [] (nx, h1) 0 0) (hs.1.length - 0) (fun m ih => ?_) _ f 0 c [] ⟨ho, hb, Fr.rf, ⟨hc, fun q _ => by rw [dgS_out (Nat.zero_testBit _)]⟩, fun q hq => (by rw [Nat.zero_testBit] at hq; cases hq), fun q => (by rw [Nat.zero_testBit]; simp), by simp, fun p hp => absurd hp List.not_mem_nil, rfl, fun _ => ⟨4096, rfl, Nat.le_refl _⟩, fun j hj => absurd hj (Nat.not_lt_zero _), by decide, rfl⟩
  intro h1 f S z pre hI
  obtain ⟨ho, hb, frb, hZ, hsub, hSp, hnd, hpl9, hws, hfu, hfj, hS, hme⟩ := hI
  have hzl := hZ.1
  have hprl := nd_len hnd hpl9
  refine aw_iload d_House_orderBack_8 rfl ?_
  refine aw_aload_n (i := 0) d_House_orderBack_10 rfl rfl ?_
  apply aw_get d_House_orderBack_11 fl_House_12; exact ho.1; rfl
  apply aw_callv_p (ho_np ho) d_House_orderBack_14 cl_House_46; exact (ho_pl ho).choose_spec; rfl; rfl; rfl; rfl; decide; exact Nat.le_of_ble_eq_true rfl; exact (Nat.le_refl _); exact (Nat.le_refl _)
  refine aw_icmpN_ge d_House_orderBack_17 (by omega) (by omega) (fun br17_ => ?_) (fun br17_ => ?_)
  · skip
    have hSw : wkb hs c 0 = true ↔ S = awm hs c := by
      rw [← hws]
      constructor
      · intro hw
        apply Nat.eq_of_testBit_eq
        intro q
        cases e : S.testBit q
        · cases e2 : (awm hs c).testBit q
          · rfl
          · exfalso
            rw [awm_bit] at e2
            simp only [Bool.and_eq_true, decide_eq_true_eq] at e2
            have hnp : q ∉ pre := fun z => by rw [(hSp q).mpr z] at e; cases e
            have := nd_len (L := q :: pre) (n := hs.1.length) (List.nodup_cons.mpr ⟨hnp, hnd⟩) (fun d hd => by
              rcases List.mem_cons.mp hd with rfl | z
              · exact e2.1
              · exact hpl9 d z)
            simp only [List.length_cons] at this
            omega
        · exact (hsub q e).symm
      · intro e; exact wkb_iff.mpr ⟨[], e⟩
    refine aw_drop (lv2 := [(0, _), (1, _), (2, _), (3, _), (4, _)]) [0, 1, 2, 3, 4] rfl ?_
    refine aw_iconst (v := nI 0) d_House_orderBack_90 (by decide) ?_
    refine aw_istore (lv2 := [(0, _), (1, _), (2, _), (3, _), (4, _), (5, _)]) d_House_orderBack_91 (by decide) rfl ?_
    refine upto (σ := Nat) (fun i => AW G m_House_orderBack 7 0 0 _ 93 [(0, .ref ad.1), (1, .int (nI c)), (2, .ref b), (3, .int (nI z)), (4, .int (nI pre.length)), (5, .int (nI i))] [] (nx, h1) 0 0) (fun i s => i = s ∧ ∀ k, k < i → awy hs z k = false) (hs.1.length) ?_ 0 0 (Nat.zero_le _) ⟨rfl, fun k hk => absurd hk (Nat.not_lt_zero _)⟩
    intro i s9 hi_i hI_i ih_i
    obtain ⟨rfl, hI_i⟩ := hI_i
    refine aw_iload d_House_orderBack_93 rfl ?_
    refine aw_aload_n (i := 0) d_House_orderBack_95 rfl rfl ?_
    apply aw_get d_House_orderBack_96 fl_House_12; exact ho.1; rfl
    apply aw_callv_p (ho_np ho) d_House_orderBack_99 cl_House_46; exact (ho_pl ho).choose_spec; rfl; rfl; rfl; rfl; decide; exact Nat.le_of_ble_eq_true rfl; exact (Nat.le_refl _); exact (Nat.le_refl _)
    refine aw_icmpN_ge d_House_orderBack_102 (by omega) (by omega) (fun br102_ => ?_) (fun br102_ => ?_)
    · skip
      have ei : i = hs.1.length := by omega
      subst ei
      have hSa : S = awm hs c := by
        apply Nat.eq_of_testBit_eq
        intro q
        cases e : S.testBit q
        · cases e2 : (awm hs c).testBit q
          · rfl
          · exfalso
            rw [awm_bit] at e2
            simp only [Bool.and_eq_true, decide_eq_true_eq] at e2
            have := hI_i q e2.1
            rw [zr_awy hZ e2.1, e2.2, e] at this; cases this
        · exact (hsub q e).symm
      have hw0 := hSw.mpr hSa
      have hbk : bkF hs c 4096 0 = pre := by
        obtain ⟨fu, q1, -⟩ := hfu hw0
        rw [q1, hSa, bkF_e, List.append_nil]
      refine aw_iload d_House_orderBack_133 rfl ?_
      refine aw_iret d_House_orderBack_135 rfl (Nat.le_refl _) (Nat.le_refl _) ?_
      exact ⟨by rw [hw0, hbk]; rfl, _, f, rfl, ho, hb, frb, fun _ => by rw [hbk]; exact ⟨hfj, by omega⟩⟩
    · skip
      refine aw_aload_n (i := 0) d_House_orderBack_105 rfl rfl ?_
      apply aw_get d_House_orderBack_106 fl_House_12; exact ho.1; rfl
      refine aw_iload d_House_orderBack_109 rfl ?_
      apply aw_callv_p (ho_gp ho (j := i) br102_) d_House_orderBack_111 cl_House_50; exact (ho_pl ho).choose_spec; rfl; rfl; rfl; rfl; decide; exact Nat.le_of_ble_eq_true rfl; exact (Nat.le_refl _); exact (Nat.le_refl _)
      apply aw_cast d_House_orderBack_114; exact ho_pc ho br102_; rfl; exact cc_House_54
      refine aw_iload_n (i := 3) d_House_orderBack_117 rfl rfl ?_
      apply aw_callv_p (p_isMoved ho hv br102_ (c := z) (by omega)) d_House_orderBack_118 cl_House_117; exact ho_pc ho br102_; rfl; rfl; rfl; rfl; decide; exact Nat.le_of_ble_eq_true rfl; exact (Nat.le_refl _); exact (Nat.le_refl _)
      refine aw_ifB_eq d_House_orderBack_121 (fun br121_ => ?_) (fun br121_ => ?_)
      · skip
        refine aw_iincN (lv2 := [(0, _), (1, _), (2, _), (3, _), (4, _), (5, _)]) d_House_orderBack_127 (by decide) rfl rfl ?_
        refine aw_goto d_House_orderBack_130 ?_
        exact ih_i br102_ (i + 1) ⟨rfl, fun k hk => by
          by_cases e : k = i
          · subst e; exact br121_
          · exact hI_i k (by omega)⟩
      · skip
        have hw0 : wkb hs c 0 = false := by
          cases e : wkb hs c 0
          · rfl
          · exfalso
            have hSa := hSw.mp e
            rw [zr_awy hZ br102_] at br121_
            simp only [Bool.and_eq_true, Bool.not_eq_true'] at br121_
            have h9 := br121_.2
            rw [hSa, awm_bit, decide_eq_true br102_, br121_.1] at h9; cases h9
        refine aw_bipush (v := -2) d_House_orderBack_124 (by decide) ?_
        refine aw_iret d_House_orderBack_126 rfl (Nat.le_refl _) (Nat.le_refl _) ?_
        exact ⟨by rw [hw0]; rfl, _, f, rfl, ho, hb, frb, fun q => by rw [hw0] at q; cases q⟩
  · skip
    refine aw_aload_n (i := 0) d_House_orderBack_20 rfl rfl ?_
    refine aw_iload_n (i := 3) d_House_orderBack_21 rfl rfl ?_
    apply aw_callv_p (c_House_nextBack ho hv hx (z := z) hzl) d_House_orderBack_22 cl_House_111; exact ho.1; rfl; rfl; rfl; rfl; decide; exact Nat.le_of_ble_eq_true rfl; exact (Nat.le_refl _); exact (Nat.le_refl _)
    refine aw_istore (lv2 := [(0, _), (1, _), (2, _), (3, _), (4, _), (5, _), (6, _)]) d_House_orderBack_25 (by decide) rfl ?_
    refine aw_iload d_House_orderBack_27 rfl ?_
    refine aw_iconst (v := -1) d_House_orderBack_29 (by decide) ?_
    refine aw_icmp_eq d_House_orderBack_30 (fun br30_ => ?_) (fun br30_ => ?_)
    · skip
      have hSw : wkb hs c 0 = true ↔ S = awm hs c := by
        rw [← hws]
        constructor
        · intro hw
          refine Classical.byContradiction (fun hne => ?_)
          have h9 := wkq_all hw
          unfold wkq at h9
          rw [decide_eq_false hne, Bool.false_or] at h9
          obtain ⟨p, q1, q2⟩ := List.any_eq_true.mp h9
          have hpl := List.mem_range.mp q1
          rw [cnd_eq hv hx hw hpl, ← zr_gcz hv hx hZ hpl] at q2
          rw [(fsI_m1 (by omega)).mp br30_ p hpl] at q2; cases q2
        · intro e; exact wkb_iff.mpr ⟨[], e⟩
      refine aw_drop (lv2 := [(0, _), (1, _), (2, _), (3, _), (4, _)]) [0, 1, 2, 3, 4] rfl ?_
      refine aw_iconst (v := nI 0) d_House_orderBack_90 (by decide) ?_
      refine aw_istore (lv2 := [(0, _), (1, _), (2, _), (3, _), (4, _), (5, _)]) d_House_orderBack_91 (by decide) rfl ?_
      refine upto (σ := Nat) (fun i => AW G m_House_orderBack 7 0 0 _ 93 [(0, .ref ad.1), (1, .int (nI c)), (2, .ref b), (3, .int (nI z)), (4, .int (nI pre.length)), (5, .int (nI i))] [] (nx, h1) 0 0) (fun i s => i = s ∧ ∀ k, k < i → awy hs z k = false) (hs.1.length) ?_ 0 0 (Nat.zero_le _) ⟨rfl, fun k hk => absurd hk (Nat.not_lt_zero _)⟩
      intro i s9 hi_i hI_i ih_i
      obtain ⟨rfl, hI_i⟩ := hI_i
      refine aw_iload d_House_orderBack_93 rfl ?_
      refine aw_aload_n (i := 0) d_House_orderBack_95 rfl rfl ?_
      apply aw_get d_House_orderBack_96 fl_House_12; exact ho.1; rfl
      apply aw_callv_p (ho_np ho) d_House_orderBack_99 cl_House_46; exact (ho_pl ho).choose_spec; rfl; rfl; rfl; rfl; decide; exact Nat.le_of_ble_eq_true rfl; exact (Nat.le_refl _); exact (Nat.le_refl _)
      refine aw_icmpN_ge d_House_orderBack_102 (by omega) (by omega) (fun br102_ => ?_) (fun br102_ => ?_)
      · skip
        have ei : i = hs.1.length := by omega
        subst ei
        have hSa : S = awm hs c := by
          apply Nat.eq_of_testBit_eq
          intro q
          cases e : S.testBit q
          · cases e2 : (awm hs c).testBit q
            · rfl
            · exfalso
              rw [awm_bit] at e2
              simp only [Bool.and_eq_true, decide_eq_true_eq] at e2
              have := hI_i q e2.1
              rw [zr_awy hZ e2.1, e2.2, e] at this; cases this
          · exact (hsub q e).symm
        have hw0 := hSw.mpr hSa
        have hbk : bkF hs c 4096 0 = pre := by
          obtain ⟨fu, q1, -⟩ := hfu hw0
          rw [q1, hSa, bkF_e, List.append_nil]
        refine aw_iload d_House_orderBack_133 rfl ?_
        refine aw_iret d_House_orderBack_135 rfl (Nat.le_refl _) (Nat.le_refl _) ?_
        exact ⟨by rw [hw0, hbk]; rfl, _, f, rfl, ho, hb, frb, fun _ => by rw [hbk]; exact ⟨hfj, by omega⟩⟩
      · skip
        refine aw_aload_n (i := 0) d_House_orderBack_105 rfl rfl ?_
        apply aw_get d_House_orderBack_106 fl_House_12; exact ho.1; rfl
        refine aw_iload d_House_orderBack_109 rfl ?_
        apply aw_callv_p (ho_gp ho (j := i) br102_) d_House_orderBack_111 cl_House_50; exact (ho_pl ho).choose_spec; rfl; rfl; rfl; rfl; decide; exact Nat.le_of_ble_eq_true rfl; exact (Nat.le_refl _); exact (Nat.le_refl _)
        apply aw_cast d_House_orderBack_114; exact ho_pc ho br102_; rfl; exact cc_House_54
        refine aw_iload_n (i := 3) d_House_orderBack_117 rfl rfl ?_
        apply aw_callv_p (p_isMoved ho hv br102_ (c := z) (by omega)) d_House_orderBack_118 cl_House_117; exact ho_pc ho br102_; rfl; rfl; rfl; rfl; decide; exact Nat.le_of_ble_eq_true rfl; exact (Nat.le_refl _); exact (Nat.le_refl _)
        refine aw_ifB_eq d_House_orderBack_121 (fun br121_ => ?_) (fun br121_ => ?_)
        · skip
          refine aw_iincN (lv2 := [(0, _), (1, _), (2, _), (3, _), (4, _), (5, _)]) d_House_orderBack_127 (by decide) rfl rfl ?_
          refine aw_goto d_House_orderBack_130 ?_
          exact ih_i br102_ (i + 1) ⟨rfl, fun k hk => by
            by_cases e : k = i
            · subst e; exact br121_
            · exact hI_i k (by omega)⟩
        · skip
          have hw0 : wkb hs c 0 = false := by
            cases e : wkb hs c 0
            · rfl
            · exfalso
              have hSa := hSw.mp e
              rw [zr_awy hZ br102_] at br121_
              simp only [Bool.and_eq_true, Bool.not_eq_true'] at br121_
              have h9 := br121_.2
              rw [hSa, awm_bit, decide_eq_true br102_, br121_.1] at h9; cases h9
          refine aw_bipush (v := -2) d_House_orderBack_124 (by decide) ?_
          refine aw_iret d_House_orderBack_126 rfl (Nat.le_refl _) (Nat.le_refl _) ?_
          exact ⟨by rw [hw0]; rfl, _, f, rfl, ho, hb, frb, fun q => by rw [hw0] at q; cases q⟩
    · skip
      obtain ⟨p, hpf⟩ : ∃ p, (List.range hs.1.length).find? (gcz hs z) = some p := by
        cases e : (List.range hs.1.length).find? (gcz hs z) with
        | some p => exact ⟨p, rfl⟩
        | none => exact absurd (by unfold fsI; rw [e]) br30_
      have hpl := List.mem_range.mp (List.mem_of_find?_eq_some hpf)
      have hgp := List.find?_some hpf
      have hfe : fsI (gcz hs z) hs.1.length = nI p := by unfold fsI; rw [hpf]
      rw [hfe]
      have hkp := hv.1.k hpl
      rw [zr_gcz hv hx hZ hpl] at hgp
      simp only [Bool.and_eq_true, Bool.not_eq_true'] at hgp
      obtain ⟨⟨⟨g1, g2⟩, g3⟩, g4⟩ := hgp
      have hpn : p ∉ pre := fun q => by rw [(hSp p).mpr q] at g2; cases g2
      refine aw_iload d_House_orderBack_33 rfl ?_
      refine aw_aload_n (i := 2) d_House_orderBack_35 rfl rfl ?_
      apply aw_alen d_House_orderBack_36; exact hb; decide
      refine aw_icmp_lt d_House_orderBack_37 (fun br37_ => ?_) (fun br37_ => absurd (nI_lt (show pre.length < 12 by omega) (by decide)) br37_)
      refine aw_aload_n (i := 2) d_House_orderBack_43 rfl rfl ?_
      refine aw_iload d_House_orderBack_44 rfl ?_
      refine aw_iload d_House_orderBack_46 rfl ?_
      apply ci_st d_House_orderBack_48; exact hb; omega; omega; intro h1_ e1_ f1_ o1_
      have ho := ho.fr hv f1_ (fun x hx9 => by unfold HT at hx9; simp only [List.mem_singleton]; omega)
      have hb := e1_
      have frb2 := frb.tr f1_
      refine aw_iincN (lv2 := [(0, _), (1, _), (2, _), (3, _), (4, _), (5, _), (6, _)]) d_House_orderBack_49 (by decide) rfl rfl ?_
      refine aw_aload_n (i := 0) d_House_orderBack_52 rfl rfl ?_
      apply aw_get d_House_orderBack_53 fl_House_12; exact ho.1; rfl
      refine aw_iload d_House_orderBack_56 rfl ?_
      apply aw_callv_p (ho_gp ho (j := p) hpl) d_House_orderBack_58 cl_House_50; exact (ho_pl ho).choose_spec; rfl; rfl; rfl; rfl; decide; exact Nat.le_of_ble_eq_true rfl; exact (Nat.le_refl _); exact (Nat.le_refl _)
      apply aw_cast d_House_orderBack_61; exact ho_pc ho hpl; rfl; exact cc_House_54
      refine aw_iload_n (i := 3) d_House_orderBack_64 rfl rfl ?_
      refine aw_aload_n (i := 0) d_House_orderBack_65 rfl rfl ?_
      apply aw_get d_House_orderBack_66 fl_House_12; exact ho.1; rfl
      refine aw_iload d_House_orderBack_69 rfl ?_
      apply aw_callv_p (ho_gp ho (j := p) hpl) d_House_orderBack_71 cl_House_50; exact (ho_pl ho).choose_spec; rfl; rfl; rfl; rfl; decide; exact Nat.le_of_ble_eq_true rfl; exact (Nat.le_refl _); exact (Nat.le_refl _)
      apply aw_cast d_House_orderBack_74; exact ho_pc ho hpl; rfl; exact cc_House_54
      apply aw_get d_House_orderBack_77 fl_House_114; exact ho_pc ho hpl; rfl
      apply aw_callv_p (p_codeWith ho.2.2.2.2.1 hv.1 hpl (c := z) (by omega) (frs hs p)) d_House_orderBack_80 cl_House_104; exact ho_pc ho hpl; rfl; rfl; rfl; rfl; decide; exact Nat.le_of_ble_eq_true rfl; exact (Nat.le_refl _); exact (Nat.le_refl _)
      refine aw_istore_n (i := 3) (lv2 := [(0, _), (1, _), (2, _), (3, _), (4, _), (5, _), (6, _)]) d_House_orderBack_83 rfl (by decide) rfl ?_
      refine aw_iincN (lv2 := [(0, _), (1, _), (2, _), (3, _), (4, _), (5, _), (6, _)]) d_House_orderBack_84 (by decide) rfl rfl ?_
      refine aw_goto d_House_orderBack_87 ?_
      refine aw_drop (lv2 := [(0, _), (1, _), (2, _), (3, _), (4, _), (5, _)]) [0, 1, 2, 3, 4, 5] rfl ?_
      have hws2 : wkb hs c (S ||| 2 ^ p) = wkb hs c 0 := by
        rw [← hws]
        cases e : wkb hs c S
        · cases e2 : wkb hs c (S ||| 2 ^ p)
          · rfl
          · rw [wkb_or hpl g1 g2 g3 e2] at e; cases e
        · have h9 := cnd_eq hv hx e hpl
          unfold cnd at h9
          rw [g1, g2, g3, g4] at h9
          cases e2 : wkb hs c (S ||| 2 ^ p)
          · rw [e2] at h9; exact absurd h9 (by decide)
          · rfl
      have hgt := or_gt g2
      have k9 := ih _ (by simp; omega) _ _ (S ||| 2 ^ p) (sd (pks hs.1) z p (frs hs p)) (pre ++ [p]) ⟨ho, hb, frb2, zr_step hv hZ hpl, fun q hq => ?_, fun q => ?_, ?_, fun x hx9 => ?_, hws2, fun hw => ?_, fun j hj => ?_, or_bd hS (by omega), rfl⟩
      · rw [List.length_append] at k9; exact k9
      · by_cases e : q = p
        · rw [e, awm_bit, decide_eq_true hpl, g1]; rfl
        · rw [or_bit_ne e] at hq; exact hsub q hq
      · rw [List.mem_append, List.mem_singleton, ← hSp q]
        by_cases e : q = p
        · rw [e]; simp [or_bit_eq]
        · rw [or_bit_ne e]; simp [e]
      · rw [List.nodup_append]
        refine ⟨hnd, by simp, fun x hx9 y hy e => ?_⟩
        rw [List.mem_singleton.mp hy] at e
        subst e; exact hpn hx9
      · rcases List.mem_append.mp hx9 with q | q
        · exact hpl9 x q
        · rw [List.mem_singleton.mp q]; exact hpl
      · obtain ⟨fu, q1, q2⟩ := hfu hw
        have hwS : wkb hs c S = true := hws.trans hw
        have hne : S ≠ awm hs c := fun e => by
          rw [e, awm_bit, decide_eq_true hpl, g1] at g2; cases g2
        have hfd : (List.range hs.1.length).find? (cnd hs c S) = some p := by
          rw [← hpf]
          refine find_congr (fun q hq => ?_)
          have hql := List.mem_range.mp hq
          rw [cnd_eq hv hx hwS hql, zr_gcz hv hx hZ hql]
        obtain ⟨f9, rfl⟩ : ∃ k, fu = k + 1 := ⟨fu - 1, by omega⟩
        exact ⟨f9, by rw [q1, bkF_s hne hfd]; simp, by omega⟩
      · simp only [List.length_append, List.length_singleton] at hj
        by_cases e : j < pre.length
        · rw [List.getElem_append_left e, pk_un (by omega)]; exact hfj j e
        · have ej : j = pre.length := by omega
          subst ej; rw [pk_us]; simp

