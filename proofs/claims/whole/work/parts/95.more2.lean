/-! a prop more, a step more -/
def HTs : List Nat := List.range' 2 9 ++ (List.range' 200 12 ++ List.range' 300 480)
theorem mem_HTs {x : Nat} : x ∈ HTs ↔ HT x := by
  simp only [HTs, List.mem_append, List.mem_range'_1, HT]; omega
def HoR (h : Nat → Option aC) (hs : HSt) (ad : AD) : Prop := Lsx 3 4 h ad.2.1 ad.2.2.2.2.1 ∧ Lsx 5 6 h ad.2.2.1 ad.2.2.2.2.2 ∧ PaA 7 h ad.2.2.2.1 6 hs.2.2.1 ad.2.2.2.2.1 ∧ PrS h hs.1 ad.2.2.2.2.1 ∧ StS h hs.1 hs.2.1 ad.2.2.2.2.1 ad.2.2.2.2.2
def HRl (hs : HSt) (x : Nat) : Prop := (3 ≤ x ∧ x ≤ 10) ∨ (200 ≤ x ∧ x < 200 + hs.1.length) ∨ (300 ≤ x ∧ x < 300 + 20 * hs.2.1.length)
theorem StS.fr {h h2 : Nat → Option aC} {ps : List PSt} {ss : List SSt} {pas sas : List Nat} {T : List Nat} (hs : StS h ps ss pas sas) (hf : Fr T h h2) (ht : ∀ x, 300 ≤ x → x < 300 + 20 * ss.length → x ∉ T) : StS h2 ps ss pas sas := by
  refine ⟨hs.1, fun j hj => ?_⟩
  obtain ⟨na, ga, k1, k2, k3⟩ := hs.2 j hj
  exact ⟨na, ga, hf _ _ k1 (ht (300 + 20 * j) (by omega) (by omega)), k2.fr hf (fun x hx => ht _ (by omega) (by omega)), k3.fr hf (fun x hx => ht _ (by omega) (by omega))⟩
theorem HoR.fr {h h2 : Nat → Option aC} {hs : HSt} {ad : AD} {T : List Nat} (ho : HoR h hs ad) (hf : Fr T h h2) (ht : ∀ x, HRl hs x → x ∉ T) : HoR h2 hs ad :=
  ⟨ho.1.fr hf (ht 3 (Or.inl (by omega))) (ht 4 (Or.inl (by omega))), ho.2.1.fr hf (ht 5 (Or.inl (by omega))) (ht 6 (Or.inl (by omega))), ho.2.2.1.fr hf (fun x hx => ht _ (Or.inl (by omega))), ⟨ho.2.2.2.1.1, fun i hi => hf _ _ (ho.2.2.2.1.2 i hi) (ht (200 + i) (Or.inr (Or.inl (by omega))))⟩, ho.2.2.2.2.fr hf (fun x h1 h2 => ht x (Or.inr (Or.inr ⟨h1, h2⟩)))⟩
theorem HoA.frs {h h2 : Nat → Option aC} {hs : HSt} {ad : AD} {sta : Nat} {T : List Nat} (ho : HoA h hs ad sta) (hf : Fr T h h2) (ht : ∀ x, x = 2 ∨ HRl hs x → x ∉ T) : HoA h2 hs ad sta :=
  ⟨hf _ _ ho.1 (ht 2 (Or.inl rfl)), HoR.fr (ad := ad) (hs := hs) ho.2 hf (fun x hx => ht x (Or.inr hx))⟩
theorem PaA.more {b : Nat} {h : Nat → Option aC} {a most : Nat} {prs : Prs} {pas : List Nat} (x : Nat) (hp : PaA b h a most prs pas) (hl : ∀ p ∈ prs, p.1 < pas.length) : PaA b h a most prs (pas ++ [x]) := by
  obtain ⟨l, pl, g1, g2, g3, g4, g5, g6⟩ := hp
  refine ⟨l, pl, g1, g2, g3, g4, g5, fun j hj => ?_⟩
  have h9 := hl prs[j] (List.getElem_mem hj)
  rw [gd_snoc (by omega), if_pos h9]
  exact g6 j hj
theorem l_gd {G : aG} {nx : Nat} {h : Nat → Option aC} {t te a : Nat} {xs : List Nat} (hl : Lsx t te h a xs) (j : Nat) (hj : j < xs.length) : AMet G m_AL_get 2 0 0 [.ref a, .int (nI j)] (nx, h) (RV (.ref (xs.getD j 0)) (nx, h)) := by
  have := l_get (G := G) (nx := nx) hl j hj
  have e : xs.getD j 0 = xs[j] := by simp [List.getD_eq_getElem?_getD, List.getElem?_eq_getElem hj]
  rw [e]; exact this
theorem mem_gd {xs : List Nat} {y : Nat} (h : y ∈ xs) : ∃ j, j < xs.length ∧ y = xs.getD j 0 := by
  obtain ⟨j, hj, e⟩ := List.getElem_of_mem h
  exact ⟨j, hj, by rw [← e]; simp [List.getD_eq_getElem?_getD, List.getElem?_eq_getElem hj]⟩
theorem sts_el {h : Nat → Option aC} {ps : List PSt} {ss : List SSt} {pas sas : List Nat} (hs : StS h ps ss pas sas) : ∀ y ∈ sas, ∃ tt fs, h y = some (tt, .inr (8, fs)) := by
  intro y hy
  obtain ⟨j, hj, rfl⟩ := mem_gd hy
  obtain ⟨na, ga, k1, _⟩ := hs.2 j (by rw [← hs.1]; exact hj)
  exact ⟨_, _, k1⟩
theorem ho_addS {h : Nat → Option aC} {hs : HSt} {ad : AD} {sta b na ga kd hn tk rm : Nat} (g1 : h ad.1 = some (ob 2 3 [.ref ad.2.1, .ref ad.2.2.1, .ref ad.2.2.2.1, .int (nI hs.2.2.2), .int (nI (hall hs * (if 2 ≤ kd then 2 else 1))), .int (nI sta)])) (g2 : Lsx 3 4 h ad.2.1 ad.2.2.2.2.1) (g3 : Lsx 5 6 h ad.2.2.1 (ad.2.2.2.2.2 ++ [b])) (g4 : PaA 7 h ad.2.2.2.1 6 hs.2.2.1 ad.2.2.2.2.1) (g5 : PrS h hs.1 ad.2.2.2.2.1) (g6 : StS h hs.1 hs.2.1 ad.2.2.2.2.1 ad.2.2.2.2.2) (hb : h b = some (ob (300 + 20 * hs.2.1.length) 8 [.int (nI kd), .int (nI hn), .int (nI tk), .int (nI rm), .ref na, .ref ga, .int (nI (if 2 ≤ kd then hall hs else 0))])) (hP : PaA (301 + 20 * hs.2.1.length) h na 4 [] ad.2.2.2.2.1) (hQ : PaA (306 + 20 * hs.2.1.length) h ga 4 [] ad.2.2.2.2.1) : HoA h (addS hs kd hn tk rm) (ad.1, ad.2.1, ad.2.2.1, ad.2.2.2.1, ad.2.2.2.2.1, ad.2.2.2.2.2 ++ [b]) sta := by
  refine ⟨?_, g2, g3, g4, g5, ?_, ?_⟩
  · rw [hall_addS]; exact g1
  · show (ad.2.2.2.2.2 ++ [b]).length = (hs.2.1 ++ [_]).length
    rw [List.length_append, List.length_append, g6.1]; rfl
  · intro j hj
    have hj2 : j < hs.2.1.length + 1 := by
      have : j < (hs.2.1 ++ [(kd, hn, tk, rm, [], [])]).length := hj
      rw [List.length_append] at this; exact this
    show ∃ na ga : Nat, h ((ad.2.2.2.2.2 ++ [b]).getD j 0) = some (ob (300 + 20 * j) 8 [.int (nI ((hs.2.1 ++ [(kd, hn, tk, rm, [], [])]).getD j sz0).1), .int (nI ((hs.2.1 ++ [(kd, hn, tk, rm, [], [])]).getD j sz0).2.1), .int (nI ((hs.2.1 ++ [(kd, hn, tk, rm, [], [])]).getD j sz0).2.2.1), .int (nI ((hs.2.1 ++ [(kd, hn, tk, rm, [], [])]).getD j sz0).2.2.2.1), .ref na, .ref ga, .int (nI (swt hs.1 (addS hs kd hn tk rm).2.1 j))]) ∧ PaA (301 + 20 * j) h na 4 ((hs.2.1 ++ [(kd, hn, tk, rm, [], [])]).getD j sz0).2.2.2.2.1 ad.2.2.2.2.1 ∧ PaA (306 + 20 * j) h ga 4 ((hs.2.1 ++ [(kd, hn, tk, rm, [], [])]).getD j sz0).2.2.2.2.2 ad.2.2.2.2.1
    rw [gd_snoc (l := ad.2.2.2.2.2) (by rw [g6.1]; exact hj2), gd_snoc (l := hs.2.1) hj2, g6.1]
    by_cases e : j < hs.2.1.length
    · rw [if_pos e, if_pos e, swt_addS e]; exact g6.2 j e
    · have e2 : j = hs.2.1.length := by omega
      subst e2
      rw [if_neg e, if_neg e, swt_addSl]
      exact ⟨na, ga, hb, hP, hQ⟩
set_option maxHeartbeats 4000000 in
set_option maxRecDepth 20000 in
theorem c_House_addStep {G : aG} {nx : Nat} {h : Nat → Option aC} {hs : HSt} {ad : AD} {sta b na ga kd hn tk rm : Nat} (ho : HoA h hs ad sta) (hv : VH hs) (hb : h b = some (ob (300 + 20 * hs.2.1.length) 8 [.int (nI kd), .int (nI hn), .int (nI tk), .int (nI rm), .ref na, .ref ga, .int 0])) (hP : PaA (301 + 20 * hs.2.1.length) h na 4 [] ad.2.2.2.2.1) (hQ : PaA (306 + 20 * hs.2.1.length) h ga 4 [] ad.2.2.2.2.1) (hl : hs.2.1.length < 24) (hk : kd ≤ 3) (hd : Dom nx h) : AMet G m_House_addStep 7 1 60 [.ref ad.1, .ref b] (nx, h) (fun r w => r = some (.int (nI hs.2.1.length)) ∧ ∃ n2 h2, w = (n2, h2) ∧ nx ≤ n2 ∧ n2 ≤ nx + 1 ∧ Dom n2 h2 ∧ HoA h2 (addS hs kd hn tk rm) (ad.1, ad.2.1, ad.2.2.1, ad.2.2.2.1, ad.2.2.2.2.1, ad.2.2.2.2.2 ++ [b]) sta ∧ Fr HTs h h2) := by
  have hp12 := hv.1.1
  have hall2 := hv.2.2.2.2.2.2.2
  obtain ⟨g1, g2, g3, g4, g5, g6⟩ := ho
  refine amet_of pf_House_addStep (Nat.le_of_ble_eq_true rfl) ?_
  show AW G m_House_addStep 7 1 60 _ 0 [(0, .ref ad.1), (1, .ref b)] [] (nx, h) 0 0
  refine aw_aload_n (i := 1) d_House_addStep_0 rfl rfl ?_
  apply aw_get d_House_addStep_1 fl_House_74; exact hb; rfl
  refine aw_iconst (v := nI 2) d_House_addStep_4 (by decide) ?_
  refine aw_icmpN_lt d_House_addStep_5 (by omega) (by decide) (fun br5_ => ?_) (fun br5_ => ?_)
  · skip
    have ek : ¬ 2 ≤ kd := by omega
    have g1 : h ad.1 = some (ob 2 3 [.ref ad.2.1, .ref ad.2.2.1, .ref ad.2.2.2.1, .int (nI hs.2.2.2), .int (nI (hall hs * (if 2 ≤ kd then 2 else 1))), .int (nI sta)]) := by rw [if_neg ek, Nat.mul_one]; exact g1
    have hb : h b = some (ob (300 + 20 * hs.2.1.length) 8 [.int (nI kd), .int (nI hn), .int (nI tk), .int (nI rm), .ref na, .ref ga, .int (nI (if 2 ≤ kd then hall hs else 0))]) := by rw [if_neg ek]; exact hb
    have FR : Fr HTs h h := Fr.rf
    obtain ⟨hh, eh⟩ : ∃ hh, hh = h := ⟨h, rfl⟩
    rw [← eh] at g1 g2 g3 g4 g5 g6 hb hP hQ hd ⊢
    rw [← eh] at FR
    refine aw_aload_n (i := 0) d_House_addStep_26 rfl rfl ?_
    apply aw_get d_House_addStep_27 fl_House_18; exact g1; rfl
    refine aw_aload_n (i := 1) d_House_addStep_30 rfl rfl ?_
    apply aw_callv d_House_addStep_31 cl_House_70 (c_AL_add1 6 g3 (by rw [g6.1]; omega) hd (by decide) hb rfl (by decide +kernel) (sts_el g6)); exact g3.ob.choose_spec; rfl; rfl; rfl; rfl; decide; exact (by omega); exact (by omega); exact Nat.le_of_ble_eq_true rfl
    rintro _ _ ⟨rfl, n2, h2, rfl, hn2, hd, g3, f1, hn3⟩
    have g1 := f1 _ _ g1 (by simp)
    have g2 := g2.fr f1 (by decide) (by decide)
    have g4 := g4.fr f1 (fun x hx => by simp; omega)
    have g5 : PrS h2 hs.1 ad.2.2.2.2.1 := ⟨g5.1, fun i hi => f1 _ _ (g5.2 i hi) (by simp; omega)⟩
    have g6 := g6.fr f1 (fun x h1 h2 => by simp; omega)
    have hb := f1 _ _ hb (by simp; omega)
    have hP := hP.fr f1 (fun x hx => by simp; omega)
    have hQ := hQ.fr f1 (fun x hx => by simp; omega)
    have FR := FR.tr (f1.up (fun x hx => mem_HTs.mpr (by simp only [List.mem_cons, List.not_mem_nil, or_false] at hx; unfold HT; omega)))
    refine aw_pop d_House_addStep_34 rfl ?_
    refine aw_aload_n (i := 0) d_House_addStep_35 rfl rfl ?_
    apply aw_get d_House_addStep_36 fl_House_18; exact g1; rfl
    apply aw_callv_p (l_size g3) d_House_addStep_39 cl_House_46; exact g3.ob.choose_spec; rfl; rfl; rfl; rfl; decide; exact Nat.le_of_ble_eq_true rfl; exact (by omega); exact (by omega)
    rw [List.length_append, List.length_singleton, g6.1]
    refine aw_iconst (v := nI 1) d_House_addStep_42 (by decide) ?_
    refine aw_isubN d_House_addStep_43 (by omega) ?_
    refine aw_iret d_House_addStep_44 rfl (by omega) (by omega) ?_
    exact ⟨rfl, n2, h2, rfl, hn3, hn2, hd, ho_addS g1 g2 g3 g4 g5 g6 hb hP hQ, FR⟩
  · skip
    have ek : 2 ≤ kd := by omega
    refine aw_aload_n (i := 1) d_House_addStep_8 rfl rfl ?_
    refine aw_aload_n (i := 0) d_House_addStep_9 rfl rfl ?_
    apply aw_get d_House_addStep_10 fl_House_34; exact g1; rfl
    apply aw_put d_House_addStep_13 pl_House_64; exact hb; exact Nat.le_of_ble_eq_true rfl; rfl; rfl
    refine aw_nm hb ?_
    intro hh hb f1 o1
    have g1 := f1 _ _ g1 (by simp; omega)
    have hr := HoR.fr (hs := hs) (ad := ad) ⟨g2, g3, g4, g5, g6⟩ f1 (by intro x hx; unfold HRl at hx; simp only [List.mem_singleton]; omega)
    have hP := hP.fr f1 (fun x hx => by simp only [List.mem_singleton]; omega)
    have hQ := hQ.fr f1 (fun x hx => by simp only [List.mem_singleton]; omega)
    have FR : Fr HTs h hh := f1.up (fun x hx => mem_HTs.mpr (by rw [List.mem_singleton.mp hx]; show HT (300 + 20 * hs.2.1.length); unfold HT; omega))
    refine aw_aload_n (i := 0) d_House_addStep_16 rfl rfl ?_
    refine aw_dup d_House_addStep_17 rfl ?_
    apply aw_get d_House_addStep_18 fl_House_34; exact g1; rfl
    refine aw_iconst (v := nI 2) d_House_addStep_21 (by decide) ?_
    refine aw_imulN d_House_addStep_22 ?_
    apply aw_put d_House_addStep_23 pl_House_34; exact g1; exact Nat.le_of_ble_eq_true rfl; rfl; rfl
    refine aw_nm g1 ?_
    intro hh g1 f1 o1
    have hr := hr.fr f1 (by intro x hx; unfold HRl at hx; simp only [List.mem_singleton]; omega)
    have hb := f1 _ _ hb (by simp; omega)
    have hP := hP.fr f1 (fun x hx => by simp only [List.mem_singleton]; omega)
    have hQ := hQ.fr f1 (fun x hx => by simp only [List.mem_singleton]; omega)
    have FR := FR.tr (f1.up (fun x hx => mem_HTs.mpr (by rw [List.mem_singleton.mp hx]; show HT 2; exact Or.inl (by decide))))
    obtain ⟨g2, g3, g4, g5, g6⟩ := hr
    have g1 : hh ad.1 = some (ob 2 3 [.ref ad.2.1, .ref ad.2.2.1, .ref ad.2.2.2.1, .int (nI hs.2.2.2), .int (nI (hall hs * (if 2 ≤ kd then 2 else 1))), .int (nI sta)]) := by rw [if_pos ek]; exact g1
    have hb : hh b = some (ob (300 + 20 * hs.2.1.length) 8 [.int (nI kd), .int (nI hn), .int (nI tk), .int (nI rm), .ref na, .ref ga, .int (nI (if 2 ≤ kd then hall hs else 0))]) := by rw [if_pos ek]; exact hb
    refine aw_dom ?_
    intro hd
    refine aw_aload_n (i := 0) d_House_addStep_26 rfl rfl ?_
    apply aw_get d_House_addStep_27 fl_House_18; exact g1; rfl
    refine aw_aload_n (i := 1) d_House_addStep_30 rfl rfl ?_
    apply aw_callv d_House_addStep_31 cl_House_70 (c_AL_add1 6 g3 (by rw [g6.1]; omega) hd (by decide) hb rfl (by decide +kernel) (sts_el g6)); exact g3.ob.choose_spec; rfl; rfl; rfl; rfl; decide; exact (by omega); exact (by omega); exact Nat.le_of_ble_eq_true rfl
    rintro _ _ ⟨rfl, n2, h2, rfl, hn2, hd, g3, f1, hn3⟩
    have g1 := f1 _ _ g1 (by simp)
    have g2 := g2.fr f1 (by decide) (by decide)
    have g4 := g4.fr f1 (fun x hx => by simp; omega)
    have g5 : PrS h2 hs.1 ad.2.2.2.2.1 := ⟨g5.1, fun i hi => f1 _ _ (g5.2 i hi) (by simp; omega)⟩
    have g6 := g6.fr f1 (fun x h1 h2 => by simp; omega)
    have hb := f1 _ _ hb (by simp; omega)
    have hP := hP.fr f1 (fun x hx => by simp; omega)
    have hQ := hQ.fr f1 (fun x hx => by simp; omega)
    have FR := FR.tr (f1.up (fun x hx => mem_HTs.mpr (by simp only [List.mem_cons, List.not_mem_nil, or_false] at hx; unfold HT; omega)))
    refine aw_pop d_House_addStep_34 rfl ?_
    refine aw_aload_n (i := 0) d_House_addStep_35 rfl rfl ?_
    apply aw_get d_House_addStep_36 fl_House_18; exact g1; rfl
    apply aw_callv_p (l_size g3) d_House_addStep_39 cl_House_46; exact g3.ob.choose_spec; rfl; rfl; rfl; rfl; decide; exact Nat.le_of_ble_eq_true rfl; exact (by omega); exact (by omega)
    rw [List.length_append, List.length_singleton, g6.1]
    refine aw_iconst (v := nI 1) d_House_addStep_42 (by decide) ?_
    refine aw_isubN d_House_addStep_43 (by omega) ?_
    refine aw_iret d_House_addStep_44 rfl (by omega) (by omega) ?_
    exact ⟨rfl, n2, h2, rfl, hn3, hn2, hd, ho_addS g1 g2 g3 g4 g5 g6 hb hP hQ, FR⟩

def PrI (h : Nat → Option aC) (hs : HSt) (pas : List Nat) (i : Nat) : Prop := pas.length = hs.1.length ∧ ∀ j, j < hs.1.length → h (pas.getD j 0) = some (ob (200 + j) 6 [.int (nI j), .int (nI (hs.1.getD j pz).1), .int (nI (hs.1.getD j pz).2.1), .int (nI (prd ((pks hs.1).take j))), .int (hs.1.getD j pz).2.2.1, .int (hs.1.getD j pz).2.2.2.1, .int (hs.1.getD j pz).2.2.2.2.1, .int (if j < i then -1 else (hs.1.getD j pz).2.2.2.2.2)])
theorem PrI.z {h : Nat → Option aC} {hs : HSt} {pas : List Nat} (hp : PrS h hs.1 pas) : PrI h hs pas 0 := ⟨hp.1, fun j hj => by rw [if_neg (Nat.not_lt_zero _)]; exact hp.2 j hj⟩
theorem PrI.fr {h h2 : Nat → Option aC} {hs : HSt} {pas : List Nat} {i : Nat} {T : List Nat} (hp : PrI h hs pas i) (hf : Fr T h h2) (ht : ∀ j, j < hs.1.length → 200 + j ∉ T) : PrI h2 hs pas i := ⟨hp.1, fun j hj => hf _ _ (hp.2 j hj) (ht j hj)⟩
theorem PrI.s {h h2 : Nat → Option aC} {hs : HSt} {pas : List Nat} {i : Nat} (hp : PrI h hs pas i) (hf : Fr [200 + i] h h2) (hn : h2 (pas.getD i 0) = some (ob (200 + i) 6 [.int (nI i), .int (nI (hs.1.getD i pz).1), .int (nI (hs.1.getD i pz).2.1), .int (nI (prd ((pks hs.1).take i))), .int (hs.1.getD i pz).2.2.1, .int (hs.1.getD i pz).2.2.2.1, .int (hs.1.getD i pz).2.2.2.2.1, .int (-1)])) : PrI h2 hs pas (i + 1) := by
  refine ⟨hp.1, fun j hj => ?_⟩
  by_cases e : j = i
  · subst e; rw [if_pos (Nat.lt_succ_self _)]; exact hn
  · have := hf _ _ (hp.2 j hj) (by show 200 + j ∉ [200 + i]; rw [List.mem_singleton]; omega)
    have e2 : (if j < i + 1 then (-1 : Int32) else (hs.1.getD j pz).2.2.2.2.2) = if j < i then -1 else (hs.1.getD j pz).2.2.2.2.2 := by
      by_cases q : j < i
      · rw [if_pos q, if_pos (by omega)]
      · rw [if_neg q, if_neg (by omega)]
    rw [e2]; exact this
def StI (h : Nat → Option aC) (hs : HSt) (pas sas : List Nat) (k i : Nat) : Prop := sas.length = hs.2.1.length ∧ ∀ j, j < hs.2.1.length → ∃ na ga : Nat, h (sas.getD j 0) = some (ob (300 + 20 * j) 8 [.int (nI (hs.2.1.getD j sz0).1), .int (nI (hs.2.1.getD j sz0).2.1), .int (nI (hs.2.1.getD j sz0).2.2.1), .int (nI (hs.2.1.getD j sz0).2.2.2.1), .ref na, .ref ga, .int (nI (if j < i then swt hs.1 hs.2.1 j * k else swt hs.1 hs.2.1 j))]) ∧ PaA (301 + 20 * j) h na 4 (hs.2.1.getD j sz0).2.2.2.2.1 pas ∧ PaA (306 + 20 * j) h ga 4 (hs.2.1.getD j sz0).2.2.2.2.2 pas
theorem StI.z {h : Nat → Option aC} {hs : HSt} {pas sas : List Nat} {k : Nat} (hp : StS h hs.1 hs.2.1 pas sas) : StI h hs pas sas k 0 := ⟨hp.1, fun j hj => by rw [if_neg (Nat.not_lt_zero _)]; exact hp.2 j hj⟩
theorem StI.fr {h h2 : Nat → Option aC} {hs : HSt} {pas sas : List Nat} {k i : Nat} {T : List Nat} (hp : StI h hs pas sas k i) (hf : Fr T h h2) (ht : ∀ x, 300 ≤ x → x < 300 + 20 * hs.2.1.length → x ∉ T) : StI h2 hs pas sas k i := by
  refine ⟨hp.1, fun j hj => ?_⟩
  obtain ⟨na, ga, k1, k2, k3⟩ := hp.2 j hj
  exact ⟨na, ga, hf _ _ k1 (ht (300 + 20 * j) (by omega) (by omega)), k2.fr hf (fun x hx => ht _ (by omega) (by omega)), k3.fr hf (fun x hx => ht _ (by omega) (by omega))⟩
theorem StI.s {h h2 : Nat → Option aC} {hs : HSt} {pas sas : List Nat} {k i na ga : Nat} (hp : StI h hs pas sas k i) (hf : Fr [300 + 20 * i] h h2) (hn : h2 (sas.getD i 0) = some (ob (300 + 20 * i) 8 [.int (nI (hs.2.1.getD i sz0).1), .int (nI (hs.2.1.getD i sz0).2.1), .int (nI (hs.2.1.getD i sz0).2.2.1), .int (nI (hs.2.1.getD i sz0).2.2.2.1), .ref na, .ref ga, .int (nI (swt hs.1 hs.2.1 i * k))])) (p2 : PaA (301 + 20 * i) h na 4 (hs.2.1.getD i sz0).2.2.2.2.1 pas) (p3 : PaA (306 + 20 * i) h ga 4 (hs.2.1.getD i sz0).2.2.2.2.2 pas) : StI h2 hs pas sas k (i + 1) := by
  refine ⟨hp.1, fun j hj => ?_⟩
  by_cases e : j = i
  · subst e; rw [if_pos (Nat.lt_succ_self _)]
    exact ⟨na, ga, hn, p2.fr hf (fun x hx => by rw [List.mem_singleton]; omega), p3.fr hf (fun x hx => by rw [List.mem_singleton]; omega)⟩
  · obtain ⟨na, ga, k1, k2, k3⟩ := hp.2 j hj
    have := hf _ _ k1 (by show 300 + 20 * j ∉ [300 + 20 * i]; rw [List.mem_singleton]; omega)
    have e2 : (if j < i + 1 then swt hs.1 hs.2.1 j * k else swt hs.1 hs.2.1 j) = if j < i then swt hs.1 hs.2.1 j * k else swt hs.1 hs.2.1 j := by
      by_cases q : j < i
      · rw [if_pos q, if_pos (by omega)]
      · rw [if_neg q, if_neg (by omega)]
    rw [e2]
    exact ⟨na, ga, this, k2.fr hf (fun x hx => by rw [List.mem_singleton]; omega), k3.fr hf (fun x hx => by rw [List.mem_singleton]; omega)⟩
theorem ho_addP {h : Nat → Option aC} {hs : HSt} {ad : AD} {sta b k f : Nat} (hv : VH hs) (g1 : h ad.1 = some (ob 2 3 [.ref ad.2.1, .ref ad.2.2.1, .ref ad.2.2.2.1, .int (nI hs.2.2.2), .int (nI (hall hs * k)), .int (nI sta)])) (g2 : Lsx 3 4 h ad.2.1 (ad.2.2.2.2.1 ++ [b])) (g3 : Lsx 5 6 h ad.2.2.1 ad.2.2.2.2.2) (g4 : PaA 7 h ad.2.2.2.1 6 hs.2.2.1 ad.2.2.2.2.1) (gp : PrI h hs ad.2.2.2.2.1 hs.1.length) (gs : StI h hs ad.2.2.2.2.1 ad.2.2.2.2.2 k hs.2.1.length) (hb : h b = some (ob (200 + hs.1.length) 6 [.int (nI hs.1.length), .int (nI k), .int (nI f), .int (nI (prd (pks hs.1))), .int (-1), .int (-1), .int (-1), .int (-1)])) : HoA h (addP hs k f) (ad.1, ad.2.1, ad.2.2.1, ad.2.2.2.1, ad.2.2.2.2.1 ++ [b], ad.2.2.2.2.2) sta := by
  have more : ∀ {b9 : Nat} {a9 : Nat} {m9 : Nat} {prs : Prs}, VPr hs.1 prs → PaA b9 h a9 m9 prs ad.2.2.2.2.1 → PaA b9 h a9 m9 prs (ad.2.2.2.2.1 ++ [b]) := fun hp hq => hq.more b (fun p hp9 => by rw [gp.1]; exact (hp p hp9).1)
  refine ⟨?_, g2, g3, more hv.2.2.2.1 g4, ⟨?_, ?_⟩, gs.1, ?_⟩
  · rw [hall_addP]; exact g1
  · show (ad.2.2.2.2.1 ++ [b]).length = _
    rw [len_addP, List.length_append, gp.1]; rfl
  · intro i hi
    rw [len_addP] at hi
    show h ((ad.2.2.2.2.1 ++ [b]).getD i 0) = _
    rw [gd_snoc (by rw [gp.1]; exact hi), gp.1]
    by_cases e : i < hs.1.length
    · rw [if_pos e, pfl_addP e]
      have := gp.2 i e
      rw [if_pos e] at this; exact this
    · have e2 : i = hs.1.length := by omega
      subst e2
      rw [if_neg e, pfl_addPl]; exact hb
  · intro j hj9
    have hj : j < hs.2.1.length := hj9
    obtain ⟨na, ga, k1, k2, k3⟩ := gs.2 j hj
    have hvs := vs_at hv hj
    rw [if_pos hj] at k1
    refine ⟨na, ga, ?_, more hvs.2.2.2.2.2.2.2.1 k2, more hvs.2.2.2.2.2.2.2.2.2.1 k3⟩
    show h (ad.2.2.2.2.2.getD j 0) = some (ob (300 + 20 * j) 8 [.int (nI (hs.2.1.getD j sz0).1), .int (nI (hs.2.1.getD j sz0).2.1), .int (nI (hs.2.1.getD j sz0).2.2.1), .int (nI (hs.2.1.getD j sz0).2.2.2.1), .ref na, .ref ga, .int (nI (swt (addP hs k f).1 hs.2.1 j))])
    rw [swt_addP]; exact k1
theorem pri_el {h : Nat → Option aC} {hs : HSt} {pas : List Nat} {i : Nat} (hp : PrI h hs pas i) : ∀ y ∈ pas, ∃ tt fs, h y = some (tt, .inr (6, fs)) := by
  intro y hy
  obtain ⟨j, hj, rfl⟩ := mem_gd hy
  exact ⟨_, _, hp.2 j (by rw [← hp.1]; exact hj)⟩
set_option maxHeartbeats 4000000 in
set_option maxRecDepth 20000 in
theorem c_House_addProp {G : aG} {nx : Nat} {h : Nat → Option aC} {hs : HSt} {ad : AD} {k f : Nat} (ho : HoA h hs ad (hsta hs)) (hv : VH hs) (h1 : 2 ≤ k) (h2 : k ≤ 4) (hf : f < k) (hl : hs.1.length < 12) : AMet G m_House_addProp 7 2 68 [.ref ad.1, .int (nI k), .int (nI f)] (nx, h) (fun r w => r = some (.int (nI hs.1.length)) ∧ ∃ n2 h2 b, w = (n2, h2) ∧ nx ≤ n2 ∧ n2 ≤ nx + 2 ∧ Dom n2 h2 ∧ HoA h2 (addP hs k f) (ad.1, ad.2.1, ad.2.2.1, ad.2.2.2.1, ad.2.2.2.2.1 ++ [b], ad.2.2.2.2.2) (hsta (addP hs k f)) ∧ Fr HTs h h2) := by
  have hp12 := hv.1.1
  have hs24 := hv.2.1
  have hall2 := hv.2.2.2.2.2.2.2
  have hw1 : 1 ≤ prd (pks hs.1) := prd_pos hv.1.pos
  have hw2 : prd (pks hs.1) ≤ 20000 := hv.1.2.1
  obtain ⟨g1, g2, g3, g4, g5, g6⟩ := ho
  refine amet_of pf_House_addProp (Nat.le_of_ble_eq_true rfl) ?_
  show AW G m_House_addProp 7 2 68 _ 0 [(0, .ref ad.1), (1, .int (nI k)), (2, .int (nI f))] [] (nx, h) 0 0
  refine aw_iconst (v := nI 1) d_House_addProp_0 (by decide) ?_
  refine aw_istore_n (i := 3) (lv2 := [(0, _), (1, _), (2, _), (3, _)]) d_House_addProp_1 rfl (by decide) rfl ?_
  refine aw_iconst (v := nI 0) d_House_addProp_2 (by decide) ?_
  refine aw_istore (lv2 := [(0, _), (1, _), (2, _), (3, _), (4, _)]) d_House_addProp_3 (by decide) rfl ?_
  refine Nat.strongRecOn (motive := fun m9 => ∀ (i : Nat) (hh : Nat → Option aC), (m9 = hs.1.length - i ∧ i ≤ hs.1.length ∧ hh ad.1 = some (ob 2 3 [.ref ad.2.1, .ref ad.2.2.1, .ref ad.2.2.2.1, .int (nI hs.2.2.2), .int (nI (hall hs)), .int (nI (hsta hs))]) ∧ Lsx 3 4 hh ad.2.1 ad.2.2.2.2.1 ∧ Lsx 5 6 hh ad.2.2.1 ad.2.2.2.2.2 ∧ PaA 7 hh ad.2.2.2.1 6 hs.2.2.1 ad.2.2.2.2.1 ∧ PrI hh hs ad.2.2.2.2.1 i ∧ StS hh hs.1 hs.2.1 ad.2.2.2.2.1 ad.2.2.2.2.2 ∧ Fr HTs h hh) → AW G m_House_addProp 7 2 68 _ 5 [(0, .ref ad.1), (1, .int (nI k)), (2, .int (nI f)), (3, .int (nI (prd ((pks hs.1).take i)))), (4, .int (nI i))] [] (nx, hh) 0 0) (hs.1.length - 0) (fun m9 ih => ?_) 0 h ⟨rfl, Nat.zero_le _, g1, g2, g3, g4, PrI.z g5, g6, Fr.rf⟩
  intro i hh hI
  obtain ⟨e9, hi, g1, g2, g3, g4, gp, g6, FR⟩ := hI
  refine aw_iload d_House_addProp_5 rfl ?_
  refine aw_aload_n (i := 0) d_House_addProp_7 rfl rfl ?_
  apply aw_get d_House_addProp_8 fl_House_12; exact g1; rfl
  apply aw_callv_p (l_size g2) d_House_addProp_11 cl_House_46; exact g2.ob.choose_spec; rfl; rfl; rfl; rfl; decide; exact Nat.le_of_ble_eq_true rfl; exact (by omega); exact (by omega)
  rw [gp.1]
  refine aw_icmpN_ge d_House_addProp_14 (by omega) (by omega) (fun br14_ => ?_) (fun br14_ => ?_)
  · skip
    have ei : i = hs.1.length := by omega
    subst ei
    rw [List.take_of_length_le (by rw [pk_len]; omega)]
    refine aw_iconst (v := nI 0) d_House_addProp_57 (by decide) ?_
    refine aw_istore (lv2 := [(0, _), (1, _), (2, _), (3, _), (4, _)]) d_House_addProp_58 (by decide) rfl ?_
    refine Nat.strongRecOn (motive := fun m9 => ∀ (i : Nat) (hh : Nat → Option aC), (m9 = hs.2.1.length - i ∧ i ≤ hs.2.1.length ∧ hh ad.1 = some (ob 2 3 [.ref ad.2.1, .ref ad.2.2.1, .ref ad.2.2.2.1, .int (nI hs.2.2.2), .int (nI (hall hs)), .int (nI (hsta hs))]) ∧ Lsx 3 4 hh ad.2.1 ad.2.2.2.2.1 ∧ Lsx 5 6 hh ad.2.2.1 ad.2.2.2.2.2 ∧ PaA 7 hh ad.2.2.2.1 6 hs.2.2.1 ad.2.2.2.2.1 ∧ PrI hh hs ad.2.2.2.2.1 hs.1.length ∧ StI hh hs ad.2.2.2.2.1 ad.2.2.2.2.2 k i ∧ Fr HTs h hh) → AW G m_House_addProp 7 2 68 _ 60 [(0, .ref ad.1), (1, .int (nI k)), (2, .int (nI f)), (3, .int (nI (prd (pks hs.1)))), (4, .int (nI i))] [] (nx, hh) 0 0) (hs.2.1.length - 0) (fun m9 ih => ?_) 0 hh ⟨rfl, Nat.zero_le _, g1, g2, g3, g4, gp, StI.z g6, FR⟩
    intro i hh hI
    obtain ⟨e9, hi, g1, g2, g3, g4, gp, gs, FR⟩ := hI
    refine aw_iload d_House_addProp_60 rfl ?_
    refine aw_aload_n (i := 0) d_House_addProp_62 rfl rfl ?_
    apply aw_get d_House_addProp_63 fl_House_18; exact g1; rfl
    apply aw_callv_p (l_size g3) d_House_addProp_66 cl_House_46; exact g3.ob.choose_spec; rfl; rfl; rfl; rfl; decide; exact Nat.le_of_ble_eq_true rfl; exact (by omega); exact (by omega)
    rw [gs.1]
    refine aw_icmpN_ge d_House_addProp_69 (by omega) (by omega) (fun br69_ => ?_) (fun br69_ => ?_)
    · skip
      have ei : i = hs.2.1.length := by omega
      subst ei
      refine aw_aload_n (i := 0) d_House_addProp_99 rfl rfl ?_
      apply aw_get d_House_addProp_100 fl_House_12; exact g1; rfl
      refine aw_dom ?_
      intro hd
      refine aw_new (200 + hs.1.length) (N := 8) d_House_addProp_103 nl_House_54 rfl (by omega) (by omega) ?_
      refine aw_nn hd ?_
      intro hh hb f1 o1 hd
      have g1 := f1 _ _ g1 List.not_mem_nil
      have g2 := g2.fr f1 List.not_mem_nil List.not_mem_nil
      have g3 := g3.fr f1 List.not_mem_nil List.not_mem_nil
      have g4 := g4.fr f1 (fun x hx => List.not_mem_nil)
      have gp := gp.fr f1 (fun j hj => List.not_mem_nil)
      have gs := gs.fr f1 (fun x h1 h2 => List.not_mem_nil)
      have FR := FR.tr (f1.up (fun _ z => absurd z List.not_mem_nil))
      refine aw_dup d_House_addProp_106 rfl ?_
      refine aw_aload_n (i := 0) d_House_addProp_107 rfl rfl ?_
      apply aw_get d_House_addProp_108 fl_House_12; exact g1; rfl
      apply aw_callv_p (l_size g2) d_House_addProp_111 cl_House_46; exact g2.ob.choose_spec; rfl; rfl; rfl; rfl; decide; exact Nat.le_of_ble_eq_true rfl; exact (by omega); exact (by omega)
      rw [gp.1]
      refine aw_iload_n (i := 1) d_House_addProp_114 rfl rfl ?_
      refine aw_iload_n (i := 2) d_House_addProp_115 rfl rfl ?_
      refine aw_iload_n (i := 3) d_House_addProp_116 rfl rfl ?_
      apply aw_calli d_House_addProp_117 cl_House_67 (c_Prop_init (200 + hs.1.length) (w := prd (pks hs.1)) h1 h2 hw1 hw2 hb hd); rfl; rfl; decide; exact (by omega); exact (by omega); exact Nat.le_of_ble_eq_true rfl
      rintro _ _ ⟨rfl, hh, rfl, hd, hb, f1⟩
      have g1 := f1 _ _ g1 (by simp only [List.mem_singleton]; omega)
      have g2 := g2.fr f1 (by simp only [List.mem_singleton]; omega) (by simp only [List.mem_singleton]; omega)
      have g3 := g3.fr f1 (by simp only [List.mem_singleton]; omega) (by simp only [List.mem_singleton]; omega)
      have g4 := g4.fr f1 (fun x hx => by simp only [List.mem_singleton]; omega)
      have gp := gp.fr f1 (fun j hj => by simp only [List.mem_singleton]; omega)
      have gs := gs.fr f1 (fun x h1 h2 => by simp only [List.mem_singleton]; omega)
      have FR := FR.tr (f1.up (fun x hx => mem_HTs.mpr (by rw [List.mem_singleton.mp hx]; show HT (200 + hs.1.length); unfold HT; omega)))
      apply aw_callv d_House_addProp_120 cl_House_70 (c_AL_add1 4 g2 (by rw [gp.1]; omega) hd (by decide) hb rfl (by decide +kernel) (pri_el gp)); exact g2.ob.choose_spec; rfl; rfl; rfl; rfl; decide; exact (by omega); exact (by omega); exact Nat.le_of_ble_eq_true rfl
      rintro _ _ ⟨rfl, n2, hh, rfl, hn2, hd, g2, f1, hn3⟩
      have g1 := f1 _ _ g1 (by simp)
      have g3 := g3.fr f1 (by simp) (by simp)
      have g4 := g4.fr f1 (fun x hx => by simp; omega)
      have gp := gp.fr f1 (fun j hj => by simp; omega)
      have gs := gs.fr f1 (fun x h1 h2 => by simp; omega)
      have hb := f1 _ _ hb (by simp; omega)
      have FR := FR.tr (f1.up (fun x hx => mem_HTs.mpr (by simp only [List.mem_cons, List.not_mem_nil, or_false] at hx; unfold HT; omega)))
      refine aw_pop d_House_addProp_123 rfl ?_
      refine aw_aload_n (i := 0) d_House_addProp_124 rfl rfl ?_
      refine aw_dup d_House_addProp_125 rfl ?_
      apply aw_get d_House_addProp_126 fl_House_37; exact g1; rfl
      refine aw_iload_n (i := 2) d_House_addProp_129 rfl rfl ?_
      refine aw_iload_n (i := 3) d_House_addProp_130 rfl rfl ?_
      refine aw_imulN d_House_addProp_131 ?_
      refine aw_iaddN d_House_addProp_132 ?_
      apply aw_put d_House_addProp_133 pl_House_37; exact g1; exact Nat.le_of_ble_eq_true rfl; rfl; rfl
      refine aw_nm g1 ?_
      intro hh g1 f1 o1
      have g2 := g2.fr f1 (by simp) (by simp)
      have g3 := g3.fr f1 (by simp) (by simp)
      have g4 := g4.fr f1 (fun x hx => by simp; omega)
      have gp := gp.fr f1 (fun j hj => by simp; omega)
      have gs := gs.fr f1 (fun x h1 h2 => by simp; omega)
      have hb := f1 _ _ hb (by simp; omega)
      have FR := FR.tr (f1.up (fun x hx => mem_HTs.mpr (by rw [List.mem_singleton.mp hx]; show HT 2; exact Or.inl (by decide))))
      refine aw_aload_n (i := 0) d_House_addProp_136 rfl rfl ?_
      refine aw_dup d_House_addProp_137 rfl ?_
      apply aw_get d_House_addProp_138 fl_House_34; exact g1; rfl
      refine aw_iload_n (i := 1) d_House_addProp_141 rfl rfl ?_
      refine aw_imulN d_House_addProp_142 ?_
      apply aw_put d_House_addProp_143 pl_House_34; exact g1; exact Nat.le_of_ble_eq_true rfl; rfl; rfl
      refine aw_nm g1 ?_
      intro hh g1 f1 o1
      have g2 := g2.fr f1 (by simp) (by simp)
      have g3 := g3.fr f1 (by simp) (by simp)
      have g4 := g4.fr f1 (fun x hx => by simp; omega)
      have gp := gp.fr f1 (fun j hj => by simp; omega)
      have gs := gs.fr f1 (fun x h1 h2 => by simp; omega)
      have hb := f1 _ _ hb (by simp; omega)
      have FR := FR.tr (f1.up (fun x hx => mem_HTs.mpr (by rw [List.mem_singleton.mp hx]; show HT 2; exact Or.inl (by decide))))
      refine aw_aload_n (i := 0) d_House_addProp_146 rfl rfl ?_
      apply aw_get d_House_addProp_147 fl_House_12; exact g1; rfl
      apply aw_callv_p (l_size g2) d_House_addProp_150 cl_House_46; exact g2.ob.choose_spec; rfl; rfl; rfl; rfl; decide; exact Nat.le_of_ble_eq_true rfl; exact (by omega); exact (by omega)
      rw [List.length_append, List.length_singleton, gp.1]
      refine aw_iconst (v := nI 1) d_House_addProp_153 (by decide) ?_
      refine aw_isubN d_House_addProp_154 (by omega) ?_
      refine aw_dom ?_
      intro hd
      refine aw_iret d_House_addProp_155 rfl (by omega) (by omega) ?_
      exact ⟨rfl, n2, hh, _, rfl, by omega, by omega, hd, by rw [hsta_addP]; exact ho_addP hv g1 g2 g3 g4 gp gs hb, FR⟩
    · skip
      obtain ⟨na, ga, s1, s2, s3⟩ := gs.2 i br69_
      rw [if_neg (Nat.lt_irrefl _)] at s1
      refine aw_aload_n (i := 0) d_House_addProp_72 rfl rfl ?_
      apply aw_get d_House_addProp_73 fl_House_18; exact g1; rfl
      refine aw_iload d_House_addProp_76 rfl ?_
      apply aw_callv_p (l_gd g3 i (by rw [gs.1]; exact br69_)) d_House_addProp_78 cl_House_50; exact g3.ob.choose_spec; rfl; rfl; rfl; rfl; decide; exact Nat.le_of_ble_eq_true rfl; exact (by omega); exact (by omega)
      apply aw_cast d_House_addProp_81; exact s1; rfl; exact cc_House_62
      refine aw_dup d_House_addProp_84 rfl ?_
      apply aw_get d_House_addProp_85 fl_House_64; exact s1; rfl
      refine aw_iload_n (i := 1) d_House_addProp_88 rfl rfl ?_
      refine aw_imulN d_House_addProp_89 ?_
      apply aw_put d_House_addProp_90 pl_House_64; exact s1; exact Nat.le_of_ble_eq_true rfl; rfl; rfl
      refine aw_nm s1 ?_
      intro hh gn f1 o1
      have g1 := f1 _ _ g1 (by simp only [List.mem_singleton]; omega)
      have g2 := g2.fr f1 (by simp only [List.mem_singleton]; omega) (by simp only [List.mem_singleton]; omega)
      have g3 := g3.fr f1 (by simp only [List.mem_singleton]; omega) (by simp only [List.mem_singleton]; omega)
      have g4 := g4.fr f1 (fun x hx => by simp only [List.mem_singleton]; omega)
      have gp := gp.fr f1 (fun j hj => by simp only [List.mem_singleton]; omega)
      have gs := gs.s f1 gn s2 s3
      have FR := FR.tr (f1.up (fun x hx => mem_HTs.mpr (by rw [List.mem_singleton.mp hx]; show HT (300 + 20 * i); unfold HT; omega)))
      refine aw_iincN (lv2 := [(0, _), (1, _), (2, _), (3, _), (4, _)]) d_House_addProp_93 (by decide) rfl rfl ?_
      refine aw_goto d_House_addProp_96 ?_
      exact ih (hs.2.1.length - (i + 1)) (by omega) (i + 1) hh ⟨rfl, by omega, g1, g2, g3, g4, gp, gs, FR⟩
  · skip
    refine aw_iload_n (i := 3) d_House_addProp_17 rfl rfl ?_
    refine aw_aload_n (i := 0) d_House_addProp_18 rfl rfl ?_
    apply aw_get d_House_addProp_19 fl_House_12; exact g1; rfl
    refine aw_iload d_House_addProp_22 rfl ?_
    apply aw_callv_p (l_gd g2 i (by rw [gp.1]; exact br14_)) d_House_addProp_24 cl_House_50; exact g2.ob.choose_spec; rfl; rfl; rfl; rfl; decide; exact Nat.le_of_ble_eq_true rfl; exact (by omega); exact (by omega)
    apply aw_cast d_House_addProp_27; exact gp.2 i br14_; rfl; exact cc_House_54
    apply aw_get d_House_addProp_30 fl_House_56; exact gp.2 i br14_; rfl
    refine aw_imulN d_House_addProp_33 ?_
    refine aw_istore_n (i := 3) (lv2 := [(0, _), (1, _), (2, _), (3, _), (4, _)]) d_House_addProp_34 rfl (by decide) rfl ?_
    refine aw_aload_n (i := 0) d_House_addProp_35 rfl rfl ?_
    apply aw_get d_House_addProp_36 fl_House_12; exact g1; rfl
    refine aw_iload d_House_addProp_39 rfl ?_
    apply aw_callv_p (l_gd g2 i (by rw [gp.1]; exact br14_)) d_House_addProp_41 cl_House_50; exact g2.ob.choose_spec; rfl; rfl; rfl; rfl; decide; exact Nat.le_of_ble_eq_true rfl; exact (by omega); exact (by omega)
    apply aw_cast d_House_addProp_44; exact gp.2 i br14_; rfl; exact cc_House_54
    refine aw_iconst (v := -1) d_House_addProp_47 (by decide) ?_
    apply aw_put d_House_addProp_48 pl_House_59; exact gp.2 i br14_; exact Nat.le_of_ble_eq_true rfl; rfl; rfl
    refine aw_nm (gp.2 i br14_) ?_
    intro hh gn f1 o1
    have g1 := f1 _ _ g1 (by simp only [List.mem_singleton]; omega)
    have g2 := g2.fr f1 (by simp only [List.mem_singleton]; omega) (by simp only [List.mem_singleton]; omega)
    have g3 := g3.fr f1 (by simp only [List.mem_singleton]; omega) (by simp only [List.mem_singleton]; omega)
    have g4 := g4.fr f1 (fun x hx => by simp only [List.mem_singleton]; omega)
    have gp := gp.s f1 gn
    have g6 := g6.fr f1 (fun x h1 h2 => by simp only [List.mem_singleton]; omega)
    have FR := FR.tr (f1.up (fun x hx => mem_HTs.mpr (by rw [List.mem_singleton.mp hx]; show HT (200 + i); unfold HT; omega)))
    refine aw_iincN (lv2 := [(0, _), (1, _), (2, _), (3, _), (4, _)]) d_House_addProp_51 (by decide) rfl rfl ?_
    refine aw_goto d_House_addProp_54 ?_
    have k9 := ih (hs.1.length - (i + 1)) (by omega) (i + 1) hh ⟨rfl, by omega, g1, g2, g3, g4, gp, g6, FR⟩
    rw [pks_take_s br14_] at k9
    exact k9

