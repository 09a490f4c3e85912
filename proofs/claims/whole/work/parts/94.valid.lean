/-! what is valid stays valid -/
theorem pks_addP {hs : HSt} {k f : Nat} : pks (addP hs k f).1 = pks hs.1 ++ [k] := by simp [pks, addP, Function.comp_def]
theorem len_addP {hs : HSt} {k f : Nat} : (addP hs k f).1.length = hs.1.length + 1 := by simp [addP]
theorem gd_addP {hs : HSt} {k f i : Nat} (hi : i < hs.1.length) : (addP hs k f).1.getD i pz = ((hs.1.getD i pz).1, (hs.1.getD i pz).2.1, (hs.1.getD i pz).2.2.1, (hs.1.getD i pz).2.2.2.1, (hs.1.getD i pz).2.2.2.2.1, -1) := by
  show (hs.1.map _ ++ [_]).getD i pz = _
  rw [gd_snoc (by rw [List.length_map]; omega), List.length_map, if_pos hi, gd_map _ (d := pz) hi]
theorem gd_addPl {hs : HSt} {k f : Nat} : (addP hs k f).1.getD hs.1.length pz = (k, f, -1, -1, -1, -1) := by
  show (hs.1.map _ ++ [_]).getD hs.1.length pz = _
  rw [gd_snoc (by rw [List.length_map]; omega), List.length_map, if_neg (Nat.lt_irrefl _)]
theorem vpr_addP {hs : HSt} {k f : Nat} {prs : Prs} (h : VPr hs.1 prs) : VPr (addP hs k f).1 prs := fun p hp => ⟨by rw [len_addP]; have := (h p hp).1; omega, by rw [gd_addP (h p hp).1]; exact (h p hp).2⟩
theorem hall_addP {hs : HSt} {k f : Nat} : hall (addP hs k f) = hall hs * k := by
  show prd (pks (addP hs k f).1 ++ htl hs.2.1) = prd (pks hs.1 ++ htl hs.2.1) * k
  rw [pks_addP, prd_app, prd_app, prd_app]
  have e : prd [k] = k := by simp [prd]
  rw [e, Nat.mul_right_comm]
theorem swt_addP {hs : HSt} {k f j : Nat} : swt (addP hs k f).1 hs.2.1 j = swt hs.1 hs.2.1 j * k := by
  unfold swt
  by_cases e : 2 ≤ (hs.2.1.getD j sz0).1
  · rw [if_pos e, if_pos e, pks_addP, prd_app, prd_app, prd_app]
    have e : prd [k] = k := by simp [prd]
    rw [e, Nat.mul_right_comm]
  · rw [if_neg e, if_neg e, Nat.zero_mul]
theorem vs_addP {hs : HSt} {k f : Nat} {s : SSt} (h : VS hs.1 s) : VS (addP hs k f).1 s := by
  obtain ⟨a1, a2, a3, a4, a5, a6, a7, a8, a9, a10, a11⟩ := h
  exact ⟨a1, a2, a3, a4, a5, a6, a7, vpr_addP a8, a9, vpr_addP a10, a11⟩
theorem prd_hall {hs : HSt} : prd (pks hs.1) ≤ hall hs := prd_app_le (htl_pos _)
theorem vh_addP {hs : HSt} {k f : Nat} (hv : VH hs) (h1 : 2 ≤ k) (h2 : k ≤ 4) (h3 : f < k) (h4 : hs.1.length < 12) (h5 : hall hs * k ≤ 20000) : VH (addP hs k f) := by
  obtain ⟨⟨b1, b2, b3⟩, a2, a3, a4, a5, a6, a7, a8⟩ := hv
  refine ⟨⟨by rw [len_addP]; omega, ?_, ?_⟩, a2, fun s hs => vs_addP (a3 s hs), vpr_addP a4, a5, a6, a7, by rw [hall_addP]; exact h5⟩
  · have e : prd [k] = k := by simp [prd]
    rw [pks_addP, prd_app, e]
    exact Nat.le_trans (Nat.mul_le_mul_right _ prd_hall) h5
  · intro p hp
    rcases List.mem_append.mp hp with q | q
    · obtain ⟨p0, q1, rfl⟩ := List.mem_map.mp q
      exact b3 p0 q1
    · rw [List.mem_singleton.mp q]; exact ⟨h1, h2, h3⟩
theorem vx_addP {hs : HSt} {k f : Nat} (hx : VX hs) : VX (addP hs k f) := by
  intro i hi
  rw [len_addP] at hi
  by_cases e : i < hs.1.length
  · rw [gd_addP e]
    obtain ⟨a1, a2, a3⟩ := hx i e
    refine ⟨?_, a2, Or.inl rfl⟩
    rcases a1 with q | ⟨x, s, q1, q2, q3, q4, q5⟩
    · exact Or.inl q
    · exact Or.inr ⟨x, s, by rw [len_addP]; omega, q2, by rw [gd_addP q1]; exact q3, q4, q5⟩
  · have e2 : i = hs.1.length := by omega
    subst e2
    rw [gd_addPl]
    exact ⟨Or.inl rfl, Or.inl rfl, Or.inl rfl⟩
theorem stc_addP {hs : HSt} {k f : Nat} : ∀ i, i ≤ hs.1.length → stc (addP hs k f).1 i = stc hs.1 i
  | 0, _ => rfl
  | i + 1, hi => by
    show stc (addP hs k f).1 i + ((addP hs k f).1.getD i pz).2.1 * prd ((pks (addP hs k f).1).take i) = stc hs.1 i + (hs.1.getD i pz).2.1 * prd ((pks hs.1).take i)
    rw [stc_addP i (by omega), gd_addP (by omega), pks_addP, List.take_append_of_le_length (by rw [pk_len]; omega)]
theorem hsta_addP {hs : HSt} {k f : Nat} : hsta (addP hs k f) = hsta hs + f * prd (pks hs.1) := by
  show stc (addP hs k f).1 (addP hs k f).1.length = stc hs.1 hs.1.length + _
  rw [len_addP]
  show stc (addP hs k f).1 hs.1.length + ((addP hs k f).1.getD hs.1.length pz).2.1 * prd ((pks (addP hs k f).1).take hs.1.length) = _
  rw [stc_addP _ (Nat.le_refl _), gd_addPl, pks_addP, List.take_append_of_le_length (by rw [pk_len]; omega), List.take_of_length_le (by rw [pk_len]; omega)]
theorem pfl_addP {hs : HSt} {k f i : Nat} (hi : i < hs.1.length) : pfl (addP hs k f).1 i = [.int (nI i), .int (nI (hs.1.getD i pz).1), .int (nI (hs.1.getD i pz).2.1), .int (nI (prd ((pks hs.1).take i))), .int (hs.1.getD i pz).2.2.1, .int (hs.1.getD i pz).2.2.2.1, .int (hs.1.getD i pz).2.2.2.2.1, .int (-1)] := by
  unfold pfl
  rw [gd_addP hi, pks_addP, List.take_append_of_le_length (by rw [pk_len]; omega)]
theorem pfl_addPl {hs : HSt} {k f : Nat} : pfl (addP hs k f).1 hs.1.length = [.int (nI hs.1.length), .int (nI k), .int (nI f), .int (nI (prd (pks hs.1))), .int (-1), .int (-1), .int (-1), .int (-1)] := by
  unfold pfl
  rw [gd_addPl, pks_addP, List.take_append_of_le_length (by rw [pk_len]; omega), List.take_of_length_le (by rw [pk_len]; omega)]
/-! steps -/
def kds (ss : List SSt) : List Nat := ss.map (fun s => s.1)
theorem ocn_k (ss : List SSt) : ocn ss = ((kds ss).filter (fun k => decide (2 ≤ k))).length := by
  unfold ocn kds
  rw [List.filter_map, List.length_map]; rfl
theorem htl_k {ss tt : List SSt} (h : kds ss = kds tt) : htl ss = htl tt := by unfold htl; rw [ocn_k, ocn_k, h]
theorem kd_k (ss : List SSt) (j : Nat) : (ss.getD j sz0).1 = (kds ss).getD j 0 := by
  unfold kds
  by_cases e : j < ss.length
  · rw [gd_map _ (d := sz0) e]
  · simp [List.getD_eq_getElem?_getD, List.getElem?_eq_none (Nat.le_of_not_lt e)]
theorem kds_take {ss tt : List SSt} (h : kds ss = kds tt) (j : Nat) : kds (ss.take j) = kds (tt.take j) := by
  unfold kds at *
  rw [List.map_take, List.map_take, h]
theorem swt_k {ps : List PSt} {ss tt : List SSt} (h : kds ss = kds tt) (j : Nat) : swt ps ss j = swt ps tt j := by
  unfold swt
  rw [kd_k, kd_k tt, h, htl_k (kds_take h j)]
theorem kds_set {ss : List SSt} {j : Nat} {g : SSt → SSt} (hg : ∀ q, (g q).1 = q.1) (hj : j < ss.length) : kds (ss.set j (g (ss.getD j sz0))) = kds ss := by
  unfold kds
  rw [List.map_set, hg]
  have : (ss.map (fun p => p.1))[j]? = some (ss.getD j sz0).1 := by simp [List.getD_eq_getElem?_getD, List.getElem?_eq_getElem hj]
  apply List.ext_getElem?
  intro n
  by_cases e : n = j
  · subst e; rw [List.getElem?_set_self (by simpa using hj), this]
  · rw [List.getElem?_set_ne (fun q => e q.symm)]
theorem hall_setS {hs : HSt} {j : Nat} {g : SSt → SSt} (hg : ∀ q, (g q).1 = q.1) (hj : j < hs.2.1.length) : hall (setS hs j g) = hall hs := by
  show prd (pks hs.1 ++ htl (hs.2.1.set j (g (hs.2.1.getD j sz0)))) = _
  rw [htl_k (kds_set hg hj)]; rfl
theorem vh_setS {hs : HSt} {j : Nat} {g : SSt → SSt} (hv : VH hs) (hg : ∀ q, (g q).1 = q.1) (hj : j < hs.2.1.length) (hn : VS hs.1 (g (hs.2.1.getD j sz0))) : VH (setS hs j g) := by
  obtain ⟨a1, a2, a3, a4, a5, a6, a7, a8⟩ := hv
  refine ⟨a1, by show (hs.2.1.set j _).length ≤ 24; rw [List.length_set]; exact a2, ?_, a4, a5, a6, a7, by rw [hall_setS hg hj]; exact a8⟩
  intro s hs9
  rcases List.mem_or_eq_of_mem_set hs9 with q | q
  · exact a3 s q
  · rw [q]; exact hn
theorem vs_at {hs : HSt} (hv : VH hs) {j : Nat} (hj : j < hs.2.1.length) : VS hs.1 (hs.2.1.getD j sz0) := by
  have e : hs.2.1.getD j sz0 = hs.2.1[j] := by simp [List.getD_eq_getElem?_getD, List.getElem?_eq_getElem hj]
  rw [e]; exact hv.2.2.1 _ (List.getElem_mem hj)
theorem vpr_snoc {ps : List PSt} {prs : Prs} {p s : Nat} (h : VPr ps prs) (hp : p < ps.length) (hs : s < (ps.getD p pz).1) : VPr ps (prs ++ [(p, s)]) := by
  intro q hq
  rcases List.mem_append.mp hq with e | e
  · exact h q e
  · rw [List.mem_singleton.mp e]; exact ⟨hp, hs⟩
theorem vh_addN {hs : HSt} {j p s : Nat} (hv : VH hs) (hj : j < hs.2.1.length) (hp : p < hs.1.length) (hs9 : s < (hs.1.getD p pz).1) (hl : (hs.2.1.getD j sz0).2.2.2.2.1.length < 4) : VH (addN hs j p s) := by
  obtain ⟨a1, a2, a3, a4, a5, a6, a7, a8, a9, a10, a11⟩ := vs_at hv hj
  exact vh_setS hv (fun _ => rfl) hj ⟨a1, a2, a3, a4, a5, a6, by simp only [List.length_append, List.length_singleton]; omega, vpr_snoc a8 hp hs9, a9, a10, a11⟩
theorem vh_addV {hs : HSt} {j p s : Nat} (hv : VH hs) (hj : j < hs.2.1.length) (hp : p < hs.1.length) (hs9 : s < (hs.1.getD p pz).1) (hl : (hs.2.1.getD j sz0).2.2.2.2.2.length < 4) (hn : ∀ q ∈ (hs.2.1.getD j sz0).2.2.2.2.2, q.1 ≠ p) : VH (addV hs j p s) := by
  obtain ⟨a1, a2, a3, a4, a5, a6, a7, a8, a9, a10, a11⟩ := vs_at hv hj
  refine vh_setS hv (fun _ => rfl) hj ⟨a1, a2, a3, a4, a5, a6, a7, a8, by simp only [List.length_append, List.length_singleton]; omega, vpr_snoc a10 hp hs9, ?_⟩
  rw [List.map_append]
  refine List.nodup_append.mpr ⟨a11, by simp, ?_⟩
  intro x hx y hy e
  obtain ⟨q, hq, rfl⟩ := List.mem_map.mp hx
  have ey : y = p := by simpa using hy
  exact hn q hq (by rw [← ey]; exact e)
theorem vh_addG {hs : HSt} {p s : Nat} (hv : VH hs) (hp : p < hs.1.length) (hs9 : s < (hs.1.getD p pz).1) (hl : hs.2.2.1.length < 6) : VH (addG hs p s) := by
  obtain ⟨a1, a2, a3, a4, a5, a6, a7, a8⟩ := hv
  exact ⟨a1, a2, a3, vpr_snoc a4 hp hs9, by show (hs.2.2.1 ++ _).length ≤ 6; rw [List.length_append, List.length_singleton]; omega, a6, a7, a8⟩
theorem vh_setH {hs : HSt} {n : Nat} (hv : VH hs) (h1 : 1 ≤ n) (h2 : n ≤ 9) : VH (setH hs n) := by
  obtain ⟨a1, a2, a3, a4, a5, a6, a7, a8⟩ := hv
  exact ⟨a1, a2, a3, a4, a5, h1, h2, a8⟩
theorem ocn_snoc {ss : List SSt} {s : SSt} : ocn (ss ++ [s]) = ocn ss + (if 2 ≤ s.1 then 1 else 0) := by
  unfold ocn
  rw [List.filter_append, List.length_append]
  by_cases h : 2 ≤ s.1 <;> simp [h]
theorem hall_addS {hs : HSt} {kd a b c : Nat} : hall (addS hs kd a b c) = hall hs * (if 2 ≤ kd then 2 else 1) := by
  show prd (pks hs.1 ++ List.replicate (ocn (hs.2.1 ++ [_])) 2) = prd (pks hs.1 ++ htl hs.2.1) * _
  rw [ocn_snoc, prd_app, prd_app, Nat.mul_assoc]
  unfold htl
  by_cases h : 2 ≤ kd
  · rw [if_pos h, if_pos h, ← List.replicate_append_replicate, prd_app]; simp [prd]
  · rw [if_neg h, if_neg h]; simp
theorem swt_addS {hs : HSt} {kd a b c j : Nat} (hj : j < hs.2.1.length) : swt hs.1 (addS hs kd a b c).2.1 j = swt hs.1 hs.2.1 j := by
  unfold swt
  show (if 2 ≤ ((hs.2.1 ++ [_]).getD j sz0).1 then prd (pks hs.1 ++ htl ((hs.2.1 ++ [_]).take j)) else 0) = _
  rw [gd_snoc (by omega), if_pos hj, List.take_append_of_le_length (by omega)]
theorem swt_addSl {hs : HSt} {kd a b c : Nat} : swt hs.1 (addS hs kd a b c).2.1 hs.2.1.length = if 2 ≤ kd then hall hs else 0 := by
  unfold swt
  show (if 2 ≤ ((hs.2.1 ++ [_]).getD hs.2.1.length sz0).1 then prd (pks hs.1 ++ htl ((hs.2.1 ++ [_]).take hs.2.1.length)) else 0) = _
  rw [gd_snoc (by omega), if_neg (Nat.lt_irrefl _), List.take_append_of_le_length (by omega), List.take_of_length_le (by omega)]; rfl
theorem vh_addS {hs : HSt} {kd a b c : Nat} (hv : VH hs) (h1 : kd ≤ 3) (h2 : 1 ≤ a ∧ a ≤ 9) (h3 : 1 ≤ b ∧ b ≤ 100) (h4 : c ≤ 7) (h5 : hs.2.1.length < 24) (h6 : 2 ≤ kd → hall hs * 2 ≤ 20000) : VH (addS hs kd a b c) := by
  obtain ⟨a1, a2, a3, a4, a5, a6, a7, a8⟩ := hv
  refine ⟨a1, by show (hs.2.1 ++ [_]).length ≤ 24; rw [List.length_append, List.length_singleton]; omega, ?_, a4, a5, a6, a7, ?_⟩
  · intro s hs9
    rcases List.mem_append.mp hs9 with q | q
    · exact a3 s q
    · rw [List.mem_singleton.mp q]
      exact ⟨h1, h2.1, h2.2, h3.1, h3.2, h4, Nat.zero_le _, fun p hp => absurd hp List.not_mem_nil, Nat.zero_le _, fun p hp => absurd hp List.not_mem_nil, List.nodup_nil⟩
  · rw [hall_addS]
    by_cases e : 2 ≤ kd
    · rw [if_pos e]; exact h6 e
    · rw [if_neg e, Nat.mul_one]; exact a8
/-! rules, exits, readings -/
theorem hall_setP {hs : HSt} {i : Nat} {g : PSt → PSt} (hg : ∀ q, (g q).1 = q.1) (hi : i < hs.1.length) : hall (setP hs i g) = hall hs := by
  show prd (pks (hs.1.set i (g (hs.1.getD i pz))) ++ htl hs.2.1) = _
  rw [pk_setP hg hi]; rfl
theorem gd_setP {hs : HSt} {i j : Nat} {g : PSt → PSt} (hi : i < hs.1.length) : (setP hs i g).1.getD j pz = if j = i then g (hs.1.getD i pz) else hs.1.getD j pz := gd_set hi
theorem gd_setP1 {hs : HSt} {i j : Nat} {g : PSt → PSt} (hg : ∀ q, (g q).1 = q.1) (hi : i < hs.1.length) : ((setP hs i g).1.getD j pz).1 = (hs.1.getD j pz).1 := by
  rw [gd_setP hi]
  by_cases e : j = i
  · rw [if_pos e, hg, e]
  · rw [if_neg e]
theorem vpr_setP {hs : HSt} {i : Nat} {g : PSt → PSt} (hg : ∀ q, (g q).1 = q.1) (hi : i < hs.1.length) {prs : Prs} (h : VPr hs.1 prs) : VPr (setP hs i g).1 prs := fun p hp => ⟨by show p.1 < (hs.1.set i _).length; rw [List.length_set]; exact (h p hp).1, by rw [gd_setP1 hg hi]; exact (h p hp).2⟩
theorem vh_setP {hs : HSt} {i : Nat} {g : PSt → PSt} (hv : VH hs) (hg : ∀ q, (g q).1 = q.1 ∧ (g q).2.1 = q.2.1) (hi : i < hs.1.length) : VH (setP hs i g) := by
  have hg1 : ∀ q, (g q).1 = q.1 := fun q => (hg q).1
  have hk := hv.1.k hi
  obtain ⟨⟨b1, b2, b3⟩, a2, a3, a4, a5, a6, a7, a8⟩ := hv
  refine ⟨⟨by show (hs.1.set i _).length ≤ 12; rw [List.length_set]; exact b1, by show prd (pks (hs.1.set i _)) ≤ _; rw [pk_setP hg1 hi]; exact b2, ?_⟩, a2, ?_, vpr_setP hg1 hi a4, a5, a6, a7, by rw [hall_setP hg1 hi]; exact a8⟩
  · intro p hp
    rcases List.mem_or_eq_of_mem_set hp with q | q
    · exact b3 p q
    · rw [q, (hg _).1, (hg _).2]; exact hk
  · intro s hs9
    obtain ⟨c1, c2, c3, c4, c5, c6, c7, c8, c9, c10, c11⟩ := a3 s hs9
    exact ⟨c1, c2, c3, c4, c5, c6, c7, vpr_setP hg1 hi c8, c9, vpr_setP hg1 hi c10, c11⟩
theorem vx_setP {hs : HSt} {i : Nat} {g : PSt → PSt} (hx : VX hs) (hg : ∀ q, (g q).1 = q.1 ∧ (g q).2.1 = q.2.1) (hi : i < hs.1.length) (hn : PX hs.1 i (hs.1.getD i pz) → PX hs.1 i (g (hs.1.getD i pz))) : VX (setP hs i g) := by
  have hg1 : ∀ q, (g q).1 = q.1 := fun q => (hg q).1
  have hlen : (setP hs i g).1.length = hs.1.length := List.length_set
  have up : ∀ j p, PX hs.1 j p → PX (setP hs i g).1 j p := by
    intro j p ⟨a1, a2, a3⟩
    refine ⟨?_, a2, a3⟩
    rcases a1 with q | ⟨x, s, q1, q2, q3, q4, q5⟩
    · exact Or.inl q
    · exact Or.inr ⟨x, s, by rw [hlen]; exact q1, q2, by rw [gd_setP1 hg1 hi]; exact q3, q4, q5⟩
  intro j hj
  rw [hlen] at hj
  rw [gd_setP hi]
  by_cases e : j = i
  · subst e; rw [if_pos rfl]; exact up _ _ (hn (hx _ hj))
  · rw [if_neg e]; exact up _ _ (hx j hj)
theorem vx_setR {hs : HSt} {i x s : Nat} (hx : VX hs) (hi : i < hs.1.length) (h1 : x < hs.1.length) (h2 : x ≠ i) (h3 : s < (hs.1.getD x pz).1) : VX (setR hs i (nI x) (nI s)) := vx_setP hx (fun _ => ⟨rfl, rfl⟩) hi (fun h => ⟨Or.inr ⟨x, s, h1, h2, h3, rfl, rfl⟩, h.2.1, h.2.2⟩)
theorem vx_setE {hs : HSt} {i s : Nat} (hx : VX hs) (hi : i < hs.1.length) (h3 : s < (hs.1.getD i pz).1) : VX (setE hs i (nI s)) := vx_setP hx (fun _ => ⟨rfl, rfl⟩) hi (fun h => ⟨h.1, Or.inr ⟨s, h3, rfl⟩, h.2.2⟩)
theorem vx_setD {hs : HSt} {i s : Nat} (hx : VX hs) (hi : i < hs.1.length) (h3 : s < (hs.1.getD i pz).1) : VX (setD hs i (nI s)) := vx_setP hx (fun _ => ⟨rfl, rfl⟩) hi (fun h => ⟨h.1, h.2.1, Or.inr ⟨s, h3, rfl⟩⟩)
theorem vx_setDn {hs : HSt} {i : Nat} (hx : VX hs) (hi : i < hs.1.length) : VX (setD hs i (-1)) := vx_setP hx (fun _ => ⟨rfl, rfl⟩) hi (fun h => ⟨h.1, h.2.1, Or.inl rfl⟩)
theorem vh_C : VH hsC := ⟨⟨by decide, by decide, fun p hp => absurd hp List.not_mem_nil⟩, by decide, fun s h => absurd h List.not_mem_nil, fun p hp => absurd hp List.not_mem_nil, by decide, by decide, by decide, by decide⟩
theorem vx_C : VX hsC := fun i hi => absurd hi (Nat.not_lt_zero _)
