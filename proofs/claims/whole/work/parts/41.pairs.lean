/-! props of the house -/
abbrev PSt : Type := Nat × Nat × Int32 × Int32 × Int32 × Int32
abbrev pz : PSt := (2, 0, 0, 0, 0, 0)
def pks (ps : List PSt) : List Nat := ps.map (fun p => p.1)
def pfl (ps : List PSt) (i : Nat) : List Value := [.int (nI i), .int (nI (ps.getD i pz).1), .int (nI (ps.getD i pz).2.1), .int (nI (prd ((pks ps).take i))), .int (ps.getD i pz).2.2.1, .int (ps.getD i pz).2.2.2.1, .int (ps.getD i pz).2.2.2.2.1, .int (ps.getD i pz).2.2.2.2.2]
def VP (ps : List PSt) : Prop := ps.length ≤ 12 ∧ prd (pks ps) ≤ 20000 ∧ ∀ p ∈ ps, 2 ≤ p.1 ∧ p.1 ≤ 4 ∧ p.2.1 < p.1
def PrS (h : Nat → Option aC) (ps : List PSt) (pas : List Nat) : Prop := pas.length = ps.length ∧ ∀ i, i < ps.length → h (pas.getD i 0) = some (ob (200 + i) 6 (pfl ps i))
theorem PrS.fr {h h2 : Nat → Option aC} {ps : List PSt} {pas : List Nat} {T : List Nat} (hp : PrS h ps pas) (hf : Fr T h h2) (hv : ps.length ≤ 12) (ht : ∀ i, i < 12 → 200 + i ∉ T) : PrS h2 ps pas := ⟨hp.1, fun i hi => hf _ _ (hp.2 i hi) (ht i (by omega))⟩
theorem pk_len (ps : List PSt) : (pks ps).length = ps.length := by simp [pks]
theorem pk_at {ps : List PSt} {i : Nat} (hi : i < ps.length) : (pks ps)[i]'(by rw [pk_len]; exact hi) = (ps.getD i pz).1 := by simp [pks, List.getD_eq_getElem?_getD, List.getElem?_eq_getElem hi]
theorem VP.k {ps : List PSt} (hv : VP ps) {i : Nat} (hi : i < ps.length) : 2 ≤ (ps.getD i pz).1 ∧ (ps.getD i pz).1 ≤ 4 ∧ (ps.getD i pz).2.1 < (ps.getD i pz).1 := by
  have e : ps.getD i pz = ps[i] := by simp [List.getD_eq_getElem?_getD, List.getElem?_eq_getElem hi]
  rw [e]
  exact hv.2.2 _ (List.getElem_mem hi)
theorem VP.pos {ps : List PSt} (hv : VP ps) : ∀ k ∈ pks ps, 0 < k := by
  intro k hk
  obtain ⟨p, hp, rfl⟩ := List.mem_map.mp hk
  have := (hv.2.2 p hp).1
  omega
theorem prd_take_le {ks : List Nat} (hp : ∀ k ∈ ks, 0 < k) (i : Nat) : prd (ks.take i) ≤ prd ks ∧ 0 < prd (ks.take i) := by
  have e := prd_app (ks.take i) (ks.drop i)
  rw [List.take_append_drop] at e
  have h1 := prd_pos (ks := ks.take i) (fun k hk => hp k (List.mem_of_mem_take hk))
  have h2 := prd_pos (ks := ks.drop i) (fun k hk => hp k (List.mem_of_mem_drop hk))
  refine ⟨?_, h1⟩
  rw [e]
  exact Nat.le_mul_of_pos_right _ h2
theorem VP.w {ps : List PSt} (hv : VP ps) (i : Nat) : prd ((pks ps).take i) ≤ 20000 ∧ 0 < prd ((pks ps).take i) := by
  have := prd_take_le hv.pos i
  have h2 := hv.2.1
  exact ⟨by omega, this.2⟩
theorem st_math {ps : List PSt} (hv : VP ps) {i : Nat} (hi : i < ps.length) {c : Nat} (hc : c < 2 ^ 31) : nI c / nI (prd ((pks ps).take i)) - nI c / nI (prd ((pks ps).take i)) / nI (ps.getD i pz).1 * nI (ps.getD i pz).1 = nI (dg (pks ps) c i) := by
  have hw := hv.w i
  have hk := hv.k hi
  rw [pk_div hc hw.2 (by omega), pk_rem (Nat.lt_of_le_of_lt (Nat.div_le_self _ _) hc) (by omega) (by omega), dg_eq c i (by rw [pk_len]; exact hi), pk_at hi]
theorem p_stateIn {G : aG} {nx : Nat} {h : Nat → Option aC} {ps : List PSt} {pas : List Nat} (hp : PrS h ps pas) (hv : VP ps) {i : Nat} (hi : i < ps.length) {c : Nat} (hc : c < 2 ^ 31) : AMet G m_Prop_stateIn 0 0 0 [.ref (pas.getD i 0), .int (nI c)] (nx, h) (RV (.int (nI (dg (pks ps) c i))) (nx, h)) := by
  have := c_Prop_stateIn (G := G) (nx := nx) (hp.2 i hi) (nI c) (nI_ne0 (hv.w i).2 (by have := (hv.w i).1; omega)) (nI_ne0 (by have := hv.k hi; omega) (by have := hv.k hi; omega))
  rwa [st_math hv hi hc] at this
theorem sd_math {ks : List Nat} {c i s : Nat} (hi : i < ks.length) : nI c + (nI s - nI (dg ks c i)) * nI (prd (ks.take i)) = nI (sd ks c i s) := by
  have e := sd_eq c i s hi
  have e2 : sd ks c i s + dg ks c i * prd (ks.take i) = c + s * prd (ks.take i) := by
    have : ((sd ks c i s + dg ks c i * prd (ks.take i) : Nat) : Int) = ((c + s * prd (ks.take i) : Nat) : Int) := by
      rw [Int.natCast_add, Int.natCast_mul, e, Int.sub_mul, Int.natCast_add, Int.natCast_mul]
      omega
    exact Int.ofNat_inj.mp this
  have e3 := congrArg nI e2
  rw [← nI_add, ← pk_mul, ← nI_add, ← pk_mul] at e3
  grind
theorem p_codeWith {G : aG} {nx : Nat} {h : Nat → Option aC} {ps : List PSt} {pas : List Nat} (hp : PrS h ps pas) (hv : VP ps) {i : Nat} (hi : i < ps.length) {c : Nat} (hc : c < 2 ^ 31) (s : Nat) : AMet G m_Prop_codeWith 0 0 0 [.ref (pas.getD i 0), .int (nI c), .int (nI s)] (nx, h) (RV (.int (nI (sd (pks ps) c i s))) (nx, h)) := by
  have := c_Prop_codeWith (G := G) (nx := nx) (hp.2 i hi) (nI c) (nI s) (nI_ne0 (hv.w i).2 (by have := (hv.w i).1; omega)) (nI_ne0 (by have := hv.k hi; omega) (by have := hv.k hi; omega))
  rwa [st_math hv hi hc, sd_math (by rw [pk_len]; exact hi)] at this
/-! pairs -/
abbrev Prs : Type := List (Nat × Nat)
def VPr (ps : List PSt) (prs : Prs) : Prop := ∀ p ∈ prs, p.1 < ps.length ∧ p.2 < (ps.getD p.1 pz).1
def PaA (b : Nat) (h : Nat → Option aC) (a most : Nat) (prs : Prs) (pas : List Nat) : Prop := ∃ (l : Nat) (pl : List Nat), h a = some (ob b 5 [.ref l, .int (nI most)]) ∧ Lsx (b + 1) (b + 2) h l pl ∧ pl.length = prs.length ∧ prs.length ≤ most ∧ most ≤ 6 ∧ ∀ (j : Nat) (hj : j < prs.length), h (pl.getD j 0) = some (ob (b + 3) 13 [.ref (pas.getD prs[j].1 0), .int (nI prs[j].2)])
theorem PaA.fr {b : Nat} {h h2 : Nat → Option aC} {a most : Nat} {prs : Prs} {pas : List Nat} {T : List Nat} (hp : PaA b h a most prs pas) (hf : Fr T h h2) (ht : ∀ x, x < 4 → b + x ∉ T) : PaA b h2 a most prs pas := by
  obtain ⟨l, pl, h1, h3, h4, h5, h6, h7⟩ := hp
  exact ⟨l, pl, hf _ _ h1 (ht 0 (by omega)), h3.fr hf (ht 1 (by omega)) (ht 2 (by omega)), h4, h5, h6, fun j hj => hf _ _ (h7 j hj) (ht 3 (by omega))⟩
theorem PaA.ob {b : Nat} {h : Nat → Option aC} {a most : Nat} {prs : Prs} {pas : List Nat} (hp : PaA b h a most prs pas) : ∃ fs, h a = some (b, .inr (5, fs)) := by
  obtain ⟨l, pl, h1, _⟩ := hp
  exact ⟨_, h1⟩
theorem getD_len {l : List Nat} {j : Nat} (h : j < l.length) : l[j] = l.getD j 0 := by simp [List.getD_eq_getElem?_getD, List.getElem?_eq_getElem h]
theorem paB {a : Nat} {b : Nat} (ha : a < 2 ^ 31) (hb : b < 2 ^ 31) (h : ¬ nI b ≤ nI a) : a < b := Nat.not_le.mp fun q => h ((nI_leI hb ha).mpr q)
set_option maxHeartbeats 4000000 in
set_option maxRecDepth 20000 in
theorem c_Pairs_size {G : aG} {nx : Nat} {h : Nat → Option aC} {b a most : Nat} {prs : Prs} {pas : List Nat} (hq : PaA b h a most prs pas) : AMet G m_Pairs_size 1 0 0 [.ref a] (nx, h) (RV (.int (nI prs.length)) (nx, h)) := by
  obtain ⟨l, pl, q1, q2, q3, q4, q5, q6⟩ := hq
  have hlen : prs.length ≤ 6 := by omega
  refine amet_of pf_Pairs_size (Nat.le_of_ble_eq_true rfl) ?_
  show AW G m_Pairs_size 1 0 0 _ 0 [(0, .ref a)] [] (nx, h) 0 0
  refine aw_aload_n (i := 0) d_Pairs_size_0 rfl rfl ?_
  apply aw_get d_Pairs_size_1 fl_Pairs_10; exact q1; rfl
  apply aw_callv_p (l_size q2) d_Pairs_size_4 cl_Pairs_20; exact q2.ob.choose_spec; rfl; rfl; rfl; rfl; decide; exact Nat.le_of_ble_eq_true rfl; exact (Nat.le_refl _); exact (Nat.le_refl _)
  rw [q3]
  refine aw_iret d_Pairs_size_7 rfl (Nat.le_refl _) (Nat.le_refl _) ?_
  exact ⟨rfl, rfl⟩

set_option maxHeartbeats 4000000 in
set_option maxRecDepth 20000 in
theorem c_Pairs_areAll {G : aG} {nx : Nat} {h : Nat → Option aC} {ps : List PSt} {pas : List Nat} {b a most : Nat} {prs : Prs} (hp : PrS h ps pas) (hv : VP ps) (hq : PaA b h a most prs pas) (hr : VPr ps prs) {c : Nat} (hc : c < 2 ^ 31) : AMet G m_Pairs_areAll 3 0 0 [.ref a, .int (nI c)] (nx, h) (RV (.int (if prs.all (fun p => dg (pks ps) c p.1 == p.2) then 1 else 0)) (nx, h)) := by
  obtain ⟨l, pl, q1, q2, q3, q4, q5, q6⟩ := hq
  have hlen : prs.length ≤ 6 := by omega
  refine amet_of pf_Pairs_areAll (Nat.le_of_ble_eq_true rfl) ?_
  show AW G m_Pairs_areAll 3 0 0 _ 0 [(0, .ref a), (1, .int (nI c))] [] (nx, h) 0 0
  refine aw_iconst (v := 0) d_Pairs_areAll_0 (by decide) ?_
  refine aw_istore_n (i := 2) (lv2 := [(0, _), (1, _), (2, _)]) d_Pairs_areAll_1 rfl (by decide) rfl ?_
  refine upto (σ := Nat) (fun i => AW G m_Pairs_areAll 3 0 0 _ 2 [(0, .ref a), (1, .int (nI c)), (2, .int (nI i))] [] (nx, h) 0 0) (fun i s => s = i ∧ ∀ (j : Nat) (hj : j < prs.length), j < i → dg (pks ps) c prs[j].1 = prs[j].2) prs.length ?_ 0 0 (Nat.zero_le _) ⟨rfl, fun j _ hj => absurd hj (Nat.not_lt_zero _)⟩
  intro i s0 hi hI ih
  obtain ⟨rfl, hI⟩ := hI
  refine aw_iload_n (i := 2) d_Pairs_areAll_2 rfl rfl ?_
  refine aw_aload_n (i := 0) d_Pairs_areAll_3 rfl rfl ?_
  apply aw_get d_Pairs_areAll_4 fl_Pairs_10; exact q1; rfl
  apply aw_callv_p (l_size q2) d_Pairs_areAll_7 cl_Pairs_20; exact q2.ob.choose_spec; rfl; rfl; rfl; rfl; decide; exact Nat.le_of_ble_eq_true rfl; exact (Nat.le_refl _); exact (Nat.le_refl _)
  rw [q3]
  refine aw_icmp_ge d_Pairs_areAll_10 (fun br10_ => ?_) (fun br10_ => ?_)
  · skip
    have hei : s0 = prs.length := by
      have := (nI_leI (by omega) (by omega)).mp br10_
      omega
    have hr_ : (if prs.all (fun p => dg (pks ps) c p.1 == p.2) then (1 : Int32) else 0) = 1 := if_pos (List.all_eq_true.mpr (fun p hp9 => by
      obtain ⟨j, hj, rfl⟩ := List.getElem_of_mem hp9
      simpa using hI j hj (by omega)))
    refine aw_iconst (v := 1) d_Pairs_areAll_48 (by decide) ?_
    refine aw_zret d_Pairs_areAll_49 rfl rfl (Nat.le_refl _) (Nat.le_refl _) ?_
    exact ⟨by rw [hr_], rfl⟩
  · skip
    have hlt := paB (by omega) (by omega) br10_
    have hpr := hr _ (List.getElem_mem hlt)
    refine aw_aload_n (i := 0) d_Pairs_areAll_13 rfl rfl ?_
    apply aw_get d_Pairs_areAll_14 fl_Pairs_10; exact q1; rfl
    refine aw_iload_n (i := 2) d_Pairs_areAll_17 rfl rfl ?_
    apply aw_callv_p (l_get q2 s0 (by omega)) d_Pairs_areAll_18 cl_Pairs_36; exact q2.ob.choose_spec; rfl; rfl; rfl; rfl; decide; exact Nat.le_of_ble_eq_true rfl; exact (Nat.le_refl _); exact (Nat.le_refl _)
    rw [getD_len (by omega)]
    apply aw_cast d_Pairs_areAll_21; exact q6 s0 hlt; rfl; exact cc_Pairs_24
    refine aw_astore_n (i := 3) (lv2 := [(0, _), (1, _), (2, _), (3, _)]) d_Pairs_areAll_24 rfl (by decide) rfl ?_
    refine aw_aload_n (i := 3) d_Pairs_areAll_25 rfl rfl ?_
    apply aw_get d_Pairs_areAll_26 fl_Pairs_40; exact q6 s0 hlt; rfl
    refine aw_iload_n (i := 1) d_Pairs_areAll_29 rfl rfl ?_
    apply aw_callv_p (p_stateIn hp hv hpr.1 hc) d_Pairs_areAll_30 cl_Pairs_49; exact hp.2 _ hpr.1; rfl; rfl; rfl; rfl; decide; exact Nat.le_of_ble_eq_true rfl; exact (Nat.le_refl _); exact (Nat.le_refl _)
    refine aw_aload_n (i := 3) d_Pairs_areAll_33 rfl rfl ?_
    apply aw_get d_Pairs_areAll_34 fl_Pairs_53; exact q6 s0 hlt; rfl
    refine aw_icmp_eq d_Pairs_areAll_37 (fun br37_ => ?_) (fun br37_ => ?_)
    · skip
      have hdl := dg_lt (ks := pks ps) c prs[s0].1 (by rw [pk_len]; exact hpr.1) hv.pos
      rw [pk_at hpr.1] at hdl
      have hk9 := hv.k hpr.1
      have hcmp := (nI_eq (by omega) (by omega)).mp br37_
      refine aw_iinc (v := _ + 1) (lv2 := [(0, _), (1, _), (2, _), (3, _)]) d_Pairs_areAll_42 (by decide) rfl rfl rfl ?_
      refine aw_goto d_Pairs_areAll_45 ?_
      rw [nI_1]
      refine aw_drop (lv2 := [(0, _), (1, _), (2, _)]) [0, 1, 2] rfl ?_
      refine ih hlt (s0 + 1) ⟨rfl, fun j hj hji => ?_⟩
      by_cases e9 : j = s0
      · subst e9; exact hcmp
      · exact hI j hj (by omega)
    · skip
      have hdl := dg_lt (ks := pks ps) c prs[s0].1 (by rw [pk_len]; exact hpr.1) hv.pos
      rw [pk_at hpr.1] at hdl
      have hk9 := hv.k hpr.1
      have hr_ : (if prs.all (fun p => dg (pks ps) c p.1 == p.2) then (1 : Int32) else 0) = 0 := if_neg (fun z => br37_ (congrArg nI (by simpa using (List.all_eq_true.mp z) _ (List.getElem_mem hlt))))
      refine aw_iconst (v := 0) d_Pairs_areAll_40 (by decide) ?_
      refine aw_zret d_Pairs_areAll_41 rfl rfl (Nat.le_refl _) (Nat.le_refl _) ?_
      exact ⟨by rw [hr_], rfl⟩

set_option maxHeartbeats 4000000 in
set_option maxRecDepth 20000 in
theorem c_Pairs_isAny {G : aG} {nx : Nat} {h : Nat → Option aC} {ps : List PSt} {pas : List Nat} {b a most : Nat} {prs : Prs} (hp : PrS h ps pas) (hv : VP ps) (hq : PaA b h a most prs pas) (hr : VPr ps prs) {c : Nat} (hc : c < 2 ^ 31) : AMet G m_Pairs_isAny 3 0 0 [.ref a, .int (nI c)] (nx, h) (RV (.int (if prs.any (fun p => dg (pks ps) c p.1 == p.2) then 1 else 0)) (nx, h)) := by
  obtain ⟨l, pl, q1, q2, q3, q4, q5, q6⟩ := hq
  have hlen : prs.length ≤ 6 := by omega
  refine amet_of pf_Pairs_isAny (Nat.le_of_ble_eq_true rfl) ?_
  show AW G m_Pairs_isAny 3 0 0 _ 0 [(0, .ref a), (1, .int (nI c))] [] (nx, h) 0 0
  refine aw_iconst (v := 0) d_Pairs_isAny_0 (by decide) ?_
  refine aw_istore_n (i := 2) (lv2 := [(0, _), (1, _), (2, _)]) d_Pairs_isAny_1 rfl (by decide) rfl ?_
  refine upto (σ := Nat) (fun i => AW G m_Pairs_isAny 3 0 0 _ 2 [(0, .ref a), (1, .int (nI c)), (2, .int (nI i))] [] (nx, h) 0 0) (fun i s => s = i ∧ ∀ (j : Nat) (hj : j < prs.length), j < i → ¬ dg (pks ps) c prs[j].1 = prs[j].2) prs.length ?_ 0 0 (Nat.zero_le _) ⟨rfl, fun j _ hj => absurd hj (Nat.not_lt_zero _)⟩
  intro i s0 hi hI ih
  obtain ⟨rfl, hI⟩ := hI
  refine aw_iload_n (i := 2) d_Pairs_isAny_2 rfl rfl ?_
  refine aw_aload_n (i := 0) d_Pairs_isAny_3 rfl rfl ?_
  apply aw_get d_Pairs_isAny_4 fl_Pairs_10; exact q1; rfl
  apply aw_callv_p (l_size q2) d_Pairs_isAny_7 cl_Pairs_20; exact q2.ob.choose_spec; rfl; rfl; rfl; rfl; decide; exact Nat.le_of_ble_eq_true rfl; exact (Nat.le_refl _); exact (Nat.le_refl _)
  rw [q3]
  refine aw_icmp_ge d_Pairs_isAny_10 (fun br10_ => ?_) (fun br10_ => ?_)
  · skip
    have hei : s0 = prs.length := by
      have := (nI_leI (by omega) (by omega)).mp br10_
      omega
    have hr_ : (if prs.any (fun p => dg (pks ps) c p.1 == p.2) then (1 : Int32) else 0) = 0 := if_neg (fun z => by
      obtain ⟨p, hp9, hz⟩ := List.any_eq_true.mp z
      obtain ⟨j, hj, rfl⟩ := List.getElem_of_mem hp9
      exact hI j hj (by omega) (by simpa using hz))
    refine aw_iconst (v := 0) d_Pairs_isAny_48 (by decide) ?_
    refine aw_zret d_Pairs_isAny_49 rfl rfl (Nat.le_refl _) (Nat.le_refl _) ?_
    exact ⟨by rw [hr_], rfl⟩
  · skip
    have hlt := paB (by omega) (by omega) br10_
    have hpr := hr _ (List.getElem_mem hlt)
    refine aw_aload_n (i := 0) d_Pairs_isAny_13 rfl rfl ?_
    apply aw_get d_Pairs_isAny_14 fl_Pairs_10; exact q1; rfl
    refine aw_iload_n (i := 2) d_Pairs_isAny_17 rfl rfl ?_
    apply aw_callv_p (l_get q2 s0 (by omega)) d_Pairs_isAny_18 cl_Pairs_36; exact q2.ob.choose_spec; rfl; rfl; rfl; rfl; decide; exact Nat.le_of_ble_eq_true rfl; exact (Nat.le_refl _); exact (Nat.le_refl _)
    rw [getD_len (by omega)]
    apply aw_cast d_Pairs_isAny_21; exact q6 s0 hlt; rfl; exact cc_Pairs_24
    refine aw_astore_n (i := 3) (lv2 := [(0, _), (1, _), (2, _), (3, _)]) d_Pairs_isAny_24 rfl (by decide) rfl ?_
    refine aw_aload_n (i := 3) d_Pairs_isAny_25 rfl rfl ?_
    apply aw_get d_Pairs_isAny_26 fl_Pairs_40; exact q6 s0 hlt; rfl
    refine aw_iload_n (i := 1) d_Pairs_isAny_29 rfl rfl ?_
    apply aw_callv_p (p_stateIn hp hv hpr.1 hc) d_Pairs_isAny_30 cl_Pairs_49; exact hp.2 _ hpr.1; rfl; rfl; rfl; rfl; decide; exact Nat.le_of_ble_eq_true rfl; exact (Nat.le_refl _); exact (Nat.le_refl _)
    refine aw_aload_n (i := 3) d_Pairs_isAny_33 rfl rfl ?_
    apply aw_get d_Pairs_isAny_34 fl_Pairs_53; exact q6 s0 hlt; rfl
    refine aw_icmp_ne d_Pairs_isAny_37 (fun br37_ => ?_) (fun br37_ => ?_)
    · skip
      have hdl := dg_lt (ks := pks ps) c prs[s0].1 (by rw [pk_len]; exact hpr.1) hv.pos
      rw [pk_at hpr.1] at hdl
      have hk9 := hv.k hpr.1
      have hcmp : ¬ dg (pks ps) c prs[s0].1 = prs[s0].2 := fun z => br37_ (congrArg nI z)
      refine aw_iinc (v := _ + 1) (lv2 := [(0, _), (1, _), (2, _), (3, _)]) d_Pairs_isAny_42 (by decide) rfl rfl rfl ?_
      refine aw_goto d_Pairs_isAny_45 ?_
      rw [nI_1]
      refine aw_drop (lv2 := [(0, _), (1, _), (2, _)]) [0, 1, 2] rfl ?_
      refine ih hlt (s0 + 1) ⟨rfl, fun j hj hji => ?_⟩
      by_cases e9 : j = s0
      · subst e9; exact hcmp
      · exact hI j hj (by omega)
    · skip
      have hdl := dg_lt (ks := pks ps) c prs[s0].1 (by rw [pk_len]; exact hpr.1) hv.pos
      rw [pk_at hpr.1] at hdl
      have hk9 := hv.k hpr.1
      have hr_ : (if prs.any (fun p => dg (pks ps) c p.1 == p.2) then (1 : Int32) else 0) = 1 := if_pos (List.any_eq_true.mpr ⟨_, List.getElem_mem hlt, by simpa using (nI_eq (by omega) (by omega)).mp br37_⟩)
      refine aw_iconst (v := 1) d_Pairs_isAny_40 (by decide) ?_
      refine aw_zret d_Pairs_isAny_41 rfl rfl (Nat.le_refl _) (Nat.le_refl _) ?_
      exact ⟨by rw [hr_], rfl⟩

set_option maxHeartbeats 4000000 in
set_option maxRecDepth 20000 in
theorem c_Pairs_names {G : aG} {nx : Nat} {h : Nat → Option aC} {ps : List PSt} {pas : List Nat} {b a most : Nat} {prs : Prs} (hp : PrS h ps pas) (hv : VP ps) (hq : PaA b h a most prs pas) (hr : VPr ps prs) (x : Int32) : AMet G m_Pairs_names 3 0 0 [.ref a, .int x] (nx, h) (RV (.int (if prs.any (fun p => nI p.1 == x) then 1 else 0)) (nx, h)) := by
  obtain ⟨l, pl, q1, q2, q3, q4, q5, q6⟩ := hq
  have hlen : prs.length ≤ 6 := by omega
  refine amet_of pf_Pairs_names (Nat.le_of_ble_eq_true rfl) ?_
  show AW G m_Pairs_names 3 0 0 _ 0 [(0, .ref a), (1, .int x)] [] (nx, h) 0 0
  refine aw_iconst (v := 0) d_Pairs_names_0 (by decide) ?_
  refine aw_istore_n (i := 2) (lv2 := [(0, _), (1, _), (2, _)]) d_Pairs_names_1 rfl (by decide) rfl ?_
  refine upto (σ := Nat) (fun i => AW G m_Pairs_names 3 0 0 _ 2 [(0, .ref a), (1, .int x), (2, .int (nI i))] [] (nx, h) 0 0) (fun i s => s = i ∧ ∀ (j : Nat) (hj : j < prs.length), j < i → ¬ nI prs[j].1 = x) prs.length ?_ 0 0 (Nat.zero_le _) ⟨rfl, fun j _ hj => absurd hj (Nat.not_lt_zero _)⟩
  intro i s0 hi hI ih
  obtain ⟨rfl, hI⟩ := hI
  refine aw_iload_n (i := 2) d_Pairs_names_2 rfl rfl ?_
  refine aw_aload_n (i := 0) d_Pairs_names_3 rfl rfl ?_
  apply aw_get d_Pairs_names_4 fl_Pairs_10; exact q1; rfl
  apply aw_callv_p (l_size q2) d_Pairs_names_7 cl_Pairs_20; exact q2.ob.choose_spec; rfl; rfl; rfl; rfl; decide; exact Nat.le_of_ble_eq_true rfl; exact (Nat.le_refl _); exact (Nat.le_refl _)
  rw [q3]
  refine aw_icmp_ge d_Pairs_names_10 (fun br10_ => ?_) (fun br10_ => ?_)
  · skip
    have hei : s0 = prs.length := by
      have := (nI_leI (by omega) (by omega)).mp br10_
      omega
    have hr_ : (if prs.any (fun p => nI p.1 == x) then (1 : Int32) else 0) = 0 := if_neg (fun z => by
      obtain ⟨p, hp9, hz⟩ := List.any_eq_true.mp z
      obtain ⟨j, hj, rfl⟩ := List.getElem_of_mem hp9
      exact hI j hj (by omega) (by simpa using hz))
    refine aw_iconst (v := 0) d_Pairs_names_42 (by decide) ?_
    refine aw_zret d_Pairs_names_43 rfl rfl (Nat.le_refl _) (Nat.le_refl _) ?_
    exact ⟨by rw [hr_], rfl⟩
  · skip
    have hlt := paB (by omega) (by omega) br10_
    have hpr := hr _ (List.getElem_mem hlt)
    refine aw_aload_n (i := 0) d_Pairs_names_13 rfl rfl ?_
    apply aw_get d_Pairs_names_14 fl_Pairs_10; exact q1; rfl
    refine aw_iload_n (i := 2) d_Pairs_names_17 rfl rfl ?_
    apply aw_callv_p (l_get q2 s0 (by omega)) d_Pairs_names_18 cl_Pairs_36; exact q2.ob.choose_spec; rfl; rfl; rfl; rfl; decide; exact Nat.le_of_ble_eq_true rfl; exact (Nat.le_refl _); exact (Nat.le_refl _)
    rw [getD_len (by omega)]
    apply aw_cast d_Pairs_names_21; exact q6 s0 hlt; rfl; exact cc_Pairs_24
    apply aw_get d_Pairs_names_24 fl_Pairs_40; exact q6 s0 hlt; rfl
    apply aw_get d_Pairs_names_27 fl_Pairs_44; exact hp.2 _ hpr.1; rfl
    refine aw_iload_n (i := 1) d_Pairs_names_30 rfl rfl ?_
    refine aw_icmp_ne d_Pairs_names_31 (fun br31_ => ?_) (fun br31_ => ?_)
    · skip
      refine aw_iinc (v := _ + 1) (lv2 := [(0, _), (1, _), (2, _)]) d_Pairs_names_36 (by decide) rfl rfl rfl ?_
      refine aw_goto d_Pairs_names_39 ?_
      rw [nI_1]
      refine ih hlt (s0 + 1) ⟨rfl, fun j hj hji => ?_⟩
      by_cases e9 : j = s0
      · subst e9; exact br31_
      · exact hI j hj (by omega)
    · skip
      have hr_ : (if prs.any (fun p => nI p.1 == x) then (1 : Int32) else 0) = 1 := if_pos (List.any_eq_true.mpr ⟨_, List.getElem_mem hlt, by simpa using br31_⟩)
      refine aw_iconst (v := 1) d_Pairs_names_34 (by decide) ?_
      refine aw_zret d_Pairs_names_35 rfl rfl (Nat.le_refl _) (Nat.le_refl _) ?_
      exact ⟨by rw [hr_], rfl⟩

def sds (ks : List Nat) (c : Nat) : Prs → Nat
  | [] => c
  | p :: t => sds ks (sd ks c p.1 p.2) t
theorem sds_app (ks : List Nat) : ∀ (c : Nat) (a b : Prs), sds ks c (a ++ b) = sds ks (sds ks c a) b
  | _, [], _ => rfl
  | c, p :: t, b => sds_app ks (sd ks c p.1 p.2) t b
theorem sds_take (ks : List Nat) (c : Nat) (prs : Prs) (i : Nat) (hi : i < prs.length) : sds ks c (prs.take (i + 1)) = sd ks (sds ks c (prs.take i)) prs[i].1 prs[i].2 := by
  rw [List.take_succ_eq_append_getElem hi, sds_app]
  rfl
theorem sds_lt {ks : List Nat} (hp : ∀ k ∈ ks, 0 < k) : ∀ (prs : Prs) (c : Nat), (∀ p ∈ prs, ∃ h : p.1 < ks.length, p.2 < ks[p.1]) → c < prd ks → sds ks c prs < prd ks
  | [], _, _, hc => hc
  | p :: t, c, h, hc => by
    obtain ⟨h1, h2⟩ := h p List.mem_cons_self
    exact sds_lt hp t _ (fun q hq => h q (List.mem_cons_of_mem _ hq)) (sd_lt c p.1 p.2 h1 hp h2 hc)
