def bI (b : Bool) : Int32 := if b then 1 else 0
theorem bI_nz (b : Bool) : narrow .boolean (.int (bI b)) = .int (bI b) := by cases b <;> rfl
theorem bI_0 {b : Bool} : bI b = 0 ↔ b = false := by cases b <;> decide
theorem bI_1 {b : Bool} : ¬ bI b = 0 ↔ b = true := by cases b <;> decide
theorem dg_app : ∀ {a : List Nat} (b : List Nat) (c i : Nat), i < a.length → dg (a ++ b) c i = dg a c i
  | [], _, _, _, h => absurd h (Nat.not_lt_zero _)
  | k :: t, b, c, 0, _ => rfl
  | k :: t, b, c, i + 1, h => dg_app (a := t) b (c / k) i (by simpa using h)
theorem sd_app : ∀ {a : List Nat} (b : List Nat) (c i s : Nat), i < a.length → sd (a ++ b) c i s = sd a c i s
  | [], _, _, _, _, h => absurd h (Nat.not_lt_zero _)
  | k :: t, b, c, 0, s, _ => rfl
  | k :: t, b, c, i + 1, s, h => by
    have := sd_app (a := t) b (c / k) i s (by simpa using h)
    simp only [List.cons_append, sd, this]
theorem sds_app2 {a : List Nat} (b : List Nat) : ∀ (prs : Prs) (c : Nat), (∀ p ∈ prs, p.1 < a.length) → sds (a ++ b) c prs = sds a c prs
  | [], _, _ => rfl
  | p :: t, c, h => by
    simp only [sds]
    rw [sd_app b c p.1 p.2 (h p List.mem_cons_self), sds_app2 b t _ (fun q hq => h q (List.mem_cons_of_mem _ hq))]
/-- a tail of the radix -/
def VT (ps : List PSt) (tl : List Nat) : Prop := (∀ k ∈ tl, 0 < k) ∧ prd (pks ps ++ tl) ≤ 20000
theorem VT.pos {ps : List PSt} {tl : List Nat} (ht : VT ps tl) (hv : VP ps) : ∀ k ∈ pks ps ++ tl, 0 < k := fun k hk => (List.mem_append.mp hk).elim (hv.pos k) (ht.1 k)
theorem sd_bd {ps : List PSt} {tl : List Nat} (ht : VT ps tl) (hv : VP ps) {c i s : Nat} (hi : i < ps.length) (hs : s < (ps.getD i pz).1) (hc : c < prd (pks ps ++ tl)) : sd (pks ps) c i s < prd (pks ps ++ tl) := by
  rw [← sd_app tl c i s (by rw [pk_len]; exact hi)]
  refine sd_lt c i s (by rw [List.length_append, pk_len]; omega) (ht.pos hv) ?_ hc
  rw [List.getElem_append_left (by rw [pk_len]; exact hi), pk_at hi]
  exact hs
theorem sds_bd {ps : List PSt} {tl : List Nat} (ht : VT ps tl) (hv : VP ps) : ∀ (prs : Prs) {c : Nat}, VPr ps prs → c < prd (pks ps ++ tl) → sds (pks ps) c prs < prd (pks ps ++ tl)
  | [], _, _, hc => hc
  | p :: t, c, hr, hc => sds_bd ht hv t (fun q hq => hr q (List.mem_cons_of_mem _ hq)) (sd_bd ht hv (hr p List.mem_cons_self).1 (hr p List.mem_cons_self).2 hc)
theorem VPr.take {ps : List PSt} {prs : Prs} (hr : VPr ps prs) (i : Nat) : VPr ps (prs.take i) := fun p hp => hr p (List.mem_of_mem_take hp)
set_option maxHeartbeats 4000000 in
set_option maxRecDepth 20000 in
theorem c_Pairs_codeWith {G : aG} {nx : Nat} {h : Nat → Option aC} {ps : List PSt} {pas : List Nat} {b a most : Nat} {prs : Prs} (hp : PrS h ps pas) (hv : VP ps) (hq : PaA b h a most prs pas) (hr : VPr ps prs) {tl : List Nat} (ht : VT ps tl) {c : Nat} (hc : c < prd (pks ps ++ tl)) : AMet G m_Pairs_codeWith 3 0 0 [.ref a, .int (nI c)] (nx, h) (RV (.int (nI (sds (pks ps) c prs))) (nx, h)) := by
  obtain ⟨l, pl, q1, q2, q3, q4, q5, q6⟩ := hq
  have hlen : prs.length ≤ 6 := by omega
  refine amet_of pf_Pairs_codeWith (Nat.le_of_ble_eq_true rfl) ?_
  show AW G m_Pairs_codeWith 3 0 0 _ 0 [(0, .ref a), (1, .int (nI c))] [] (nx, h) 0 0
  refine aw_iload_n (i := 1) d_Pairs_codeWith_0 rfl rfl ?_
  refine aw_istore_n (i := 2) (lv2 := [(0, _), (1, _), (2, _)]) d_Pairs_codeWith_1 rfl (by decide) rfl ?_
  refine aw_iconst (v := 0) d_Pairs_codeWith_2 (by decide) ?_
  refine aw_istore_n (i := 3) (lv2 := [(0, _), (1, _), (2, _), (3, _)]) d_Pairs_codeWith_3 rfl (by decide) rfl ?_
  have hT0 : AW G m_Pairs_codeWith 3 0 0 (FQ G 0 0 (RV (.int (nI (sds (pks ps) c prs))) (nx, h))) 4 [(0, .ref a), (1, .int (nI c)), (2, .int (nI (sds (pks ps) c (prs.take 0)))), (3, .int (nI 0))] [] (nx, h) 0 0 := ?_
  · exact hT0
  refine upto (σ := Nat) (fun i => AW G m_Pairs_codeWith 3 0 0 _ 4 [(0, .ref a), (1, .int (nI c)), (2, .int (nI (sds (pks ps) c (prs.take i)))), (3, .int (nI i))] [] (nx, h) 0 0) (fun i s => s = i) prs.length ?_ 0 0 (Nat.zero_le _) rfl
  intro i s0 hi hI ih
  subst hI
  have hbd := sds_bd ht hv (prs.take s0) (hr.take s0) hc
  have h2k := ht.2
  refine aw_iload_n (i := 3) d_Pairs_codeWith_4 rfl rfl ?_
  refine aw_aload_n (i := 0) d_Pairs_codeWith_5 rfl rfl ?_
  apply aw_get d_Pairs_codeWith_6 fl_Pairs_10; exact q1; rfl
  apply aw_callv_p (l_size q2) d_Pairs_codeWith_9 cl_Pairs_20; exact q2.ob.choose_spec; rfl; rfl; rfl; rfl; decide; exact Nat.le_of_ble_eq_true rfl; exact (Nat.le_refl _); exact (Nat.le_refl _)
  rw [q3]
  refine aw_icmp_ge d_Pairs_codeWith_12 (fun br12_ => ?_) (fun br12_ => ?_)
  · skip
    have hei : s0 = prs.length := by
      have := (nI_leI (by omega) (by omega)).mp br12_
      omega
    subst hei
    rw [List.take_length]
    refine aw_iload_n (i := 2) d_Pairs_codeWith_49 rfl rfl ?_
    refine aw_iret d_Pairs_codeWith_50 rfl (Nat.le_refl _) (Nat.le_refl _) ?_
    exact ⟨rfl, rfl⟩
  · skip
    have hlt := paB (by omega) (by omega) br12_
    have hpr := hr _ (List.getElem_mem hlt)
    refine aw_aload_n (i := 0) d_Pairs_codeWith_15 rfl rfl ?_
    apply aw_get d_Pairs_codeWith_16 fl_Pairs_10; exact q1; rfl
    refine aw_iload_n (i := 3) d_Pairs_codeWith_19 rfl rfl ?_
    apply aw_callv_p (l_get q2 s0 (by omega)) d_Pairs_codeWith_20 cl_Pairs_36; exact q2.ob.choose_spec; rfl; rfl; rfl; rfl; decide; exact Nat.le_of_ble_eq_true rfl; exact (Nat.le_refl _); exact (Nat.le_refl _)
    rw [getD_len (by omega)]
    apply aw_cast d_Pairs_codeWith_23; exact q6 s0 hlt; rfl; exact cc_Pairs_24
    refine aw_astore (lv2 := [(0, _), (1, _), (2, _), (3, _), (4, _)]) d_Pairs_codeWith_26 (by decide) rfl ?_
    refine aw_aload d_Pairs_codeWith_28 rfl ?_
    apply aw_get d_Pairs_codeWith_30 fl_Pairs_40; exact q6 s0 hlt; rfl
    refine aw_iload_n (i := 2) d_Pairs_codeWith_33 rfl rfl ?_
    refine aw_aload d_Pairs_codeWith_34 rfl ?_
    apply aw_get d_Pairs_codeWith_36 fl_Pairs_53; exact q6 s0 hlt; rfl
    apply aw_callv_p (p_codeWith hp hv hpr.1 (c := sds (pks ps) c (prs.take s0)) (by omega) prs[s0].2) d_Pairs_codeWith_39 cl_Pairs_56; exact hp.2 _ hpr.1; rfl; rfl; rfl; rfl; decide; exact Nat.le_of_ble_eq_true rfl; exact (Nat.le_refl _); exact (Nat.le_refl _)
    rw [← sds_take (pks ps) c prs s0 hlt]
    refine aw_istore_n (i := 2) (lv2 := [(0, _), (1, _), (2, _), (3, _), (4, _)]) d_Pairs_codeWith_42 rfl (by decide) rfl ?_
    refine aw_iinc (v := _ + 1) (lv2 := [(0, _), (1, _), (2, _), (3, _), (4, _)]) d_Pairs_codeWith_43 (by decide) rfl rfl rfl ?_
    refine aw_goto d_Pairs_codeWith_46 ?_
    rw [nI_1]
    refine aw_drop (lv2 := [(0, _), (1, _), (2, _), (3, _)]) [0, 1, 2, 3] rfl ?_
    exact ih hlt _ rfl

def vpd (ps : List PSt) (prs : Prs) : Nat := prd (prs.map (fun p => (ps.getD p.1 pz).1))
theorem vpd_take {ps : List PSt} {prs : Prs} {i : Nat} (hi : i < prs.length) : vpd ps (prs.take (i + 1)) = vpd ps (prs.take i) * (ps.getD prs[i].1 pz).1 := by
  unfold vpd
  rw [List.take_succ_eq_append_getElem hi, List.map_append, prd_app]
  simp [prd]
def vst (ps : List PSt) (c v : Nat) : Prs → Nat × Nat
  | [] => (c, v)
  | p :: t => vst ps (sd (pks ps) c p.1 (v % (ps.getD p.1 pz).1)) (v / (ps.getD p.1 pz).1) t
theorem vst_app (ps : List PSt) : ∀ (a b : Prs) (c v : Nat), vst ps c v (a ++ b) = vst ps (vst ps c v a).1 (vst ps c v a).2 b
  | [], _, _, _ => rfl
  | p :: t, b, c, v => vst_app ps t b _ _
theorem vst_take (ps : List PSt) (c v : Nat) (prs : Prs) (i : Nat) (hi : i < prs.length) : vst ps c v (prs.take (i + 1)) = (sd (pks ps) (vst ps c v (prs.take i)).1 prs[i].1 ((vst ps c v (prs.take i)).2 % (ps.getD prs[i].1 pz).1), (vst ps c v (prs.take i)).2 / (ps.getD prs[i].1 pz).1) := by
  rw [List.take_succ_eq_append_getElem hi, vst_app]
  rfl
theorem vst_bd {ps : List PSt} {tl : List Nat} (ht : VT ps tl) (hv : VP ps) : ∀ (prs : Prs) {c v : Nat}, VPr ps prs → c < prd (pks ps ++ tl) → (vst ps c v prs).1 < prd (pks ps ++ tl) ∧ (vst ps c v prs).2 ≤ v
  | [], c, v, _, hc => ⟨hc, Nat.le_refl v⟩
  | p :: t, c, v, hr, hc => by
    have hp := hr p List.mem_cons_self
    have hk := hv.k hp.1
    have := vst_bd ht hv t (c := sd (pks ps) c p.1 (v % (ps.getD p.1 pz).1)) (v := v / (ps.getD p.1 pz).1) (fun q hq => hr q (List.mem_cons_of_mem _ hq)) (sd_bd ht hv hp.1 (Nat.mod_lt _ (by omega)) hc)
    exact ⟨this.1, Nat.le_trans this.2 (Nat.div_le_self _ _)⟩
set_option maxHeartbeats 4000000 in
set_option maxRecDepth 20000 in
theorem c_Pairs_variants {G : aG} {nx : Nat} {h : Nat → Option aC} {ps : List PSt} {pas : List Nat} {b a most : Nat} {prs : Prs} (hp : PrS h ps pas) (hv : VP ps) (hq : PaA b h a most prs pas) (hr : VPr ps prs) : AMet G m_Pairs_variants 3 0 0 [.ref a] (nx, h) (RV (.int (nI (vpd ps prs))) (nx, h)) := by
  obtain ⟨l, pl, q1, q2, q3, q4, q5, q6⟩ := hq
  have hlen : prs.length ≤ 6 := by omega
  refine amet_of pf_Pairs_variants (Nat.le_of_ble_eq_true rfl) ?_
  show AW G m_Pairs_variants 3 0 0 _ 0 [(0, .ref a)] [] (nx, h) 0 0
  refine aw_iconst (v := 1) d_Pairs_variants_0 (by decide) ?_
  refine aw_istore_n (i := 1) (lv2 := [(0, _), (1, _)]) d_Pairs_variants_1 rfl (by decide) rfl ?_
  refine aw_iconst (v := 0) d_Pairs_variants_2 (by decide) ?_
  refine aw_istore_n (i := 2) (lv2 := [(0, _), (1, _), (2, _)]) d_Pairs_variants_3 rfl (by decide) rfl ?_
  have hT0 : AW G m_Pairs_variants 3 0 0 (FQ G 0 0 (RV (.int (nI (vpd ps prs))) (nx, h))) 4 [(0, .ref a), (1, .int (nI (vpd ps (prs.take 0)))), (2, .int (nI 0))] [] (nx, h) 0 0 := ?_
  · exact hT0
  refine upto (σ := Nat) (fun i => AW G m_Pairs_variants 3 0 0 _ 4 [(0, .ref a), (1, .int (nI (vpd ps (prs.take i)))), (2, .int (nI i))] [] (nx, h) 0 0) (fun i s => s = i) prs.length ?_ 0 0 (Nat.zero_le _) rfl
  intro i s0 hi hI ih
  subst hI
  refine aw_iload_n (i := 2) d_Pairs_variants_4 rfl rfl ?_
  refine aw_aload_n (i := 0) d_Pairs_variants_5 rfl rfl ?_
  apply aw_get d_Pairs_variants_6 fl_Pairs_10; exact q1; rfl
  apply aw_callv_p (l_size q2) d_Pairs_variants_9 cl_Pairs_20; exact q2.ob.choose_spec; rfl; rfl; rfl; rfl; decide; exact Nat.le_of_ble_eq_true rfl; exact (Nat.le_refl _); exact (Nat.le_refl _)
  rw [q3]
  refine aw_icmp_ge d_Pairs_variants_12 (fun br12_ => ?_) (fun br12_ => ?_)
  · skip
    have hei : s0 = prs.length := by
      have := (nI_leI (by omega) (by omega)).mp br12_
      omega
    subst hei
    rw [List.take_length]
    refine aw_iload_n (i := 1) d_Pairs_variants_41 rfl rfl ?_
    refine aw_iret d_Pairs_variants_42 rfl (Nat.le_refl _) (Nat.le_refl _) ?_
    exact ⟨rfl, rfl⟩
  · skip
    have hlt := paB (by omega) (by omega) br12_
    have hpr := hr _ (List.getElem_mem hlt)
    refine aw_iload_n (i := 1) d_Pairs_variants_15 rfl rfl ?_
    refine aw_aload_n (i := 0) d_Pairs_variants_16 rfl rfl ?_
    apply aw_get d_Pairs_variants_17 fl_Pairs_10; exact q1; rfl
    refine aw_iload_n (i := 2) d_Pairs_variants_20 rfl rfl ?_
    apply aw_callv_p (l_get q2 s0 (by omega)) d_Pairs_variants_21 cl_Pairs_36; exact q2.ob.choose_spec; rfl; rfl; rfl; rfl; decide; exact Nat.le_of_ble_eq_true rfl; exact (Nat.le_refl _); exact (Nat.le_refl _)
    rw [getD_len (by omega)]
    apply aw_cast d_Pairs_variants_24; exact q6 s0 hlt; rfl; exact cc_Pairs_24
    apply aw_get d_Pairs_variants_27 fl_Pairs_40; exact q6 s0 hlt; rfl
    apply aw_get d_Pairs_variants_30 fl_Pairs_60; exact hp.2 _ hpr.1; rfl
    refine aw_imul d_Pairs_variants_33 ?_
    rw [pk_mul, ← vpd_take hlt]
    refine aw_istore_n (i := 1) (lv2 := [(0, _), (1, _), (2, _)]) d_Pairs_variants_34 rfl (by decide) rfl ?_
    refine aw_iinc (v := _ + 1) (lv2 := [(0, _), (1, _), (2, _)]) d_Pairs_variants_35 (by decide) rfl rfl rfl ?_
    refine aw_goto d_Pairs_variants_38 ?_
    rw [nI_1]
    exact ih hlt _ rfl

set_option maxHeartbeats 4000000 in
set_option maxRecDepth 20000 in
theorem c_Pairs_codeOfVariant {G : aG} {nx : Nat} {h : Nat → Option aC} {ps : List PSt} {pas : List Nat} {b a most : Nat} {prs : Prs} (hp : PrS h ps pas) (hv : VP ps) (hq : PaA b h a most prs pas) (hr : VPr ps prs) {tl : List Nat} (ht : VT ps tl) {c v : Nat} (hc : c < prd (pks ps ++ tl)) (hv2 : v < 2 ^ 31) : AMet G m_Pairs_codeOfVariant 3 0 0 [.ref a, .int (nI c), .int (nI v)] (nx, h) (RV (.int (nI (vst ps c v prs).1)) (nx, h)) := by
  obtain ⟨l, pl, q1, q2, q3, q4, q5, q6⟩ := hq
  have hlen : prs.length ≤ 6 := by omega
  refine amet_of pf_Pairs_codeOfVariant (Nat.le_of_ble_eq_true rfl) ?_
  show AW G m_Pairs_codeOfVariant 3 0 0 _ 0 [(0, .ref a), (1, .int (nI c)), (2, .int (nI v))] [] (nx, h) 0 0
  refine aw_iload_n (i := 1) d_Pairs_codeOfVariant_0 rfl rfl ?_
  refine aw_istore_n (i := 3) (lv2 := [(0, _), (1, _), (2, _), (3, _)]) d_Pairs_codeOfVariant_1 rfl (by decide) rfl ?_
  refine aw_iload_n (i := 2) d_Pairs_codeOfVariant_2 rfl rfl ?_
  refine aw_istore (lv2 := [(0, _), (1, _), (2, _), (3, _), (4, _)]) d_Pairs_codeOfVariant_3 (by decide) rfl ?_
  refine aw_iconst (v := 0) d_Pairs_codeOfVariant_5 (by decide) ?_
  refine aw_istore (lv2 := [(0, _), (1, _), (2, _), (3, _), (4, _), (5, _)]) d_Pairs_codeOfVariant_6 (by decide) rfl ?_
  have hT0 : AW G m_Pairs_codeOfVariant 3 0 0 (FQ G 0 0 (RV (.int (nI (vst ps c v prs).1)) (nx, h))) 8 [(0, .ref a), (1, .int (nI c)), (2, .int (nI v)), (3, .int (nI (vst ps c v (prs.take 0)).1)), (4, .int (nI (vst ps c v (prs.take 0)).2)), (5, .int (nI 0))] [] (nx, h) 0 0 := ?_
  · exact hT0
  refine upto (σ := Nat) (fun i => AW G m_Pairs_codeOfVariant 3 0 0 _ 8 [(0, .ref a), (1, .int (nI c)), (2, .int (nI v)), (3, .int (nI (vst ps c v (prs.take i)).1)), (4, .int (nI (vst ps c v (prs.take i)).2)), (5, .int (nI i))] [] (nx, h) 0 0) (fun i s => s = i) prs.length ?_ 0 0 (Nat.zero_le _) rfl
  intro i s0 hi hI ih
  subst hI
  have hbd := vst_bd ht hv (prs.take s0) (v := v) (hr.take s0) hc
  have h2k := ht.2
  refine aw_iload d_Pairs_codeOfVariant_8 rfl ?_
  refine aw_aload_n (i := 0) d_Pairs_codeOfVariant_10 rfl rfl ?_
  apply aw_get d_Pairs_codeOfVariant_11 fl_Pairs_10; exact q1; rfl
  apply aw_callv_p (l_size q2) d_Pairs_codeOfVariant_14 cl_Pairs_20; exact q2.ob.choose_spec; rfl; rfl; rfl; rfl; decide; exact Nat.le_of_ble_eq_true rfl; exact (Nat.le_refl _); exact (Nat.le_refl _)
  rw [q3]
  refine aw_icmp_ge d_Pairs_codeOfVariant_17 (fun br17_ => ?_) (fun br17_ => ?_)
  · skip
    have hei : s0 = prs.length := by
      have := (nI_leI (by omega) (by omega)).mp br17_
      omega
    subst hei
    rw [List.take_length]
    refine aw_iload_n (i := 3) d_Pairs_codeOfVariant_68 rfl rfl ?_
    refine aw_iret d_Pairs_codeOfVariant_69 rfl (Nat.le_refl _) (Nat.le_refl _) ?_
    exact ⟨rfl, rfl⟩
  · skip
    have hlt := paB (by omega) (by omega) br17_
    have hpr := hr _ (List.getElem_mem hlt)
    have hk9 := hv.k hpr.1
    have hst := vst_take ps c v prs s0 hlt
    refine aw_aload_n (i := 0) d_Pairs_codeOfVariant_20 rfl rfl ?_
    apply aw_get d_Pairs_codeOfVariant_21 fl_Pairs_10; exact q1; rfl
    refine aw_iload d_Pairs_codeOfVariant_24 rfl ?_
    apply aw_callv_p (l_get q2 s0 (by omega)) d_Pairs_codeOfVariant_26 cl_Pairs_36; exact q2.ob.choose_spec; rfl; rfl; rfl; rfl; decide; exact Nat.le_of_ble_eq_true rfl; exact (Nat.le_refl _); exact (Nat.le_refl _)
    rw [getD_len (by omega)]
    apply aw_cast d_Pairs_codeOfVariant_29; exact q6 s0 hlt; rfl; exact cc_Pairs_24
    apply aw_get d_Pairs_codeOfVariant_32 fl_Pairs_40; exact q6 s0 hlt; rfl
    refine aw_astore (lv2 := [(0, _), (1, _), (2, _), (3, _), (4, _), (5, _), (6, _)]) d_Pairs_codeOfVariant_35 (by decide) rfl ?_
    refine aw_aload d_Pairs_codeOfVariant_37 rfl ?_
    refine aw_iload_n (i := 3) d_Pairs_codeOfVariant_39 rfl rfl ?_
    refine aw_iload d_Pairs_codeOfVariant_40 rfl ?_
    refine aw_aload d_Pairs_codeOfVariant_42 rfl ?_
    apply aw_get d_Pairs_codeOfVariant_44 fl_Pairs_60; exact hp.2 _ hpr.1; rfl
    refine aw_irem d_Pairs_codeOfVariant_47 (nI_ne0 (by omega) (by omega)) ?_
    rw [pk_rem (by omega) (by omega) (by omega)]
    apply aw_callv_p (p_codeWith hp hv hpr.1 (c := (vst ps c v (prs.take s0)).1) (by omega) ((vst ps c v (prs.take s0)).2 % (ps.getD prs[s0].1 pz).1)) d_Pairs_codeOfVariant_48 cl_Pairs_56; exact hp.2 _ hpr.1; rfl; rfl; rfl; rfl; decide; exact Nat.le_of_ble_eq_true rfl; exact (Nat.le_refl _); exact (Nat.le_refl _)
    refine aw_istore_n (i := 3) (lv2 := [(0, _), (1, _), (2, _), (3, _), (4, _), (5, _), (6, _)]) d_Pairs_codeOfVariant_51 rfl (by decide) rfl ?_
    refine aw_iload d_Pairs_codeOfVariant_52 rfl ?_
    refine aw_aload d_Pairs_codeOfVariant_54 rfl ?_
    apply aw_get d_Pairs_codeOfVariant_56 fl_Pairs_60; exact hp.2 _ hpr.1; rfl
    refine aw_idiv d_Pairs_codeOfVariant_59 (nI_ne0 (by omega) (by omega)) ?_
    rw [pk_div (by omega) (by omega) (by omega)]
    refine aw_istore (lv2 := [(0, _), (1, _), (2, _), (3, _), (4, _), (5, _), (6, _)]) d_Pairs_codeOfVariant_60 (by decide) rfl ?_
    refine aw_iinc (v := _ + 1) (lv2 := [(0, _), (1, _), (2, _), (3, _), (4, _), (5, _), (6, _)]) d_Pairs_codeOfVariant_62 (by decide) rfl rfl rfl ?_
    refine aw_goto d_Pairs_codeOfVariant_65 ?_
    rw [nI_1]
    refine aw_drop (lv2 := [(0, _), (1, _), (2, _), (3, _), (4, _), (5, _)]) [0, 1, 2, 3, 4, 5] rfl ?_
    have k9 := ih hlt (s0 + 1) rfl
    rw [hst] at k9
    exact k9

def wdn (wt c : Nat) : Bool := decide (0 < wt) && decide (c / wt % 2 = 1)
set_option maxHeartbeats 4000000 in
set_option maxRecDepth 20000 in
theorem c_Step_wasDone {G : aG} {nx : Nat} {h : Nat → Option aC} {t a na ga : Nat} {v0 v1 v2 v3 : Value} {wt : Nat} (hs : h a = some (ob t 8 [v0, v1, v2, v3, .ref na, .ref ga, .int (nI wt)])) (hw : wt < 2 ^ 31) {c : Nat} (hc : c < 2 ^ 31) : AMet G m_Step_wasDone 0 0 0 [.ref a, .int (nI c)] (nx, h) (RV (.int (bI (wdn wt c))) (nx, h)) := by
  refine amet_of pf_Step_wasDone (Nat.le_of_ble_eq_true rfl) ?_
  show AW G m_Step_wasDone 0 0 0 _ 0 [(0, .ref a), (1, .int (nI c))] [] (nx, h) 0 0
  refine aw_aload_n (i := 0) d_Step_wasDone_0 rfl rfl ?_
  apply aw_get d_Step_wasDone_1 fl_Step_36; assumption; rfl
  refine aw_if_le d_Step_wasDone_4 (fun br4_ => ?_) (fun br4_ => ?_)
  · skip
    have hw0 : wt = 0 := by
      rcases Nat.eq_zero_or_pos wt with e9 | e9
      · exact e9
      · exact absurd br4_ (nI_nle e9 hw)
    have hr_ : bI (wdn wt c) = 0 := by rw [hw0]; rfl
    refine aw_iconst (v := 0) d_Step_wasDone_23 (by decide) ?_
    refine aw_zret d_Step_wasDone_24 rfl rfl (Nat.le_refl _) (Nat.le_refl _) ?_
    exact ⟨by rw [hr_], rfl⟩
  · skip
    have hwp : 0 < wt := Nat.pos_of_ne_zero (fun e9 => br4_ (by rw [e9]; exact Int32.le_refl _))
    refine aw_iload_n (i := 1) d_Step_wasDone_7 rfl rfl ?_
    refine aw_aload_n (i := 0) d_Step_wasDone_8 rfl rfl ?_
    apply aw_get d_Step_wasDone_9 fl_Step_36; assumption; rfl
    refine aw_idiv d_Step_wasDone_12 (nI_ne0 hwp hw) ?_
    rw [pk_div hc hwp hw]
    refine aw_iconst (v := 2) d_Step_wasDone_13 (by decide) ?_
    refine aw_irem d_Step_wasDone_14 (by decide) ?_
    rw [show (2 : Int32) = nI 2 from rfl, pk_rem (Nat.lt_of_le_of_lt (Nat.div_le_self _ _) hc) (by decide) (by decide)]
    refine aw_iconst (v := 1) d_Step_wasDone_15 (by decide) ?_
    refine aw_icmp_ne d_Step_wasDone_16 (fun br16_ => ?_) (fun br16_ => ?_)
    · skip
      have hr_ : bI (wdn wt c) = 0 := by
        have : ¬ c / wt % 2 = 1 := fun e9 => br16_ (by rw [e9]; rfl)
        simp [bI, wdn, this]
      refine aw_iconst (v := 0) d_Step_wasDone_23 (by decide) ?_
      refine aw_zret d_Step_wasDone_24 rfl rfl (Nat.le_refl _) (Nat.le_refl _) ?_
      exact ⟨by rw [hr_], rfl⟩
    · skip
      have hr_ : bI (wdn wt c) = 1 := by
        have : c / wt % 2 = 1 := (nI_eq (b := 1) (by omega) (by decide)).mp br16_
        simp [bI, wdn, this, hwp]
      refine aw_iconst (v := 1) d_Step_wasDone_19 (by decide) ?_
      refine aw_goto d_Step_wasDone_20 ?_
      refine aw_zret d_Step_wasDone_24 rfl rfl (Nat.le_refl _) (Nat.le_refl _) ?_
      exact ⟨by rw [hr_], rfl⟩

