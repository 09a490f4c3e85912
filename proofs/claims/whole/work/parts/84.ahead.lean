/-! the codes that have a code behind them -/
theorem dg_ext : ∀ {ks : List Nat} {c c2 : Nat}, (∀ k ∈ ks, 0 < k) → (∀ i, i < ks.length → dg ks c i = dg ks c2 i) → c / prd ks = c2 / prd ks → c = c2
  | [], c, c2, _, _, h => by simpa [prd] using h
  | k :: t, c, c2, hp, hd, h => by
    have hk := hp k List.mem_cons_self
    have h0 : c % k = c2 % k := by simpa [dg] using hd 0 (by simp)
    have ih : c / k = c2 / k := dg_ext (ks := t) (fun x hx => hp x (List.mem_cons_of_mem _ hx)) (fun i hi => by simpa [dg] using hd (i + 1) (by simpa using hi)) (by simpa [prd, Nat.div_div_eq_div_mul] using h)
    rw [← Nat.div_add_mod c k, ← Nat.div_add_mod c2 k, h0, ih]
theorem dg_addK : ∀ {ks : List Nat} (c u i : Nat), (∀ k ∈ ks, 0 < k) → i < ks.length → dg ks (c + prd ks * u) i = dg ks c i
  | [], _, _, _, _, hi => absurd hi (Nat.not_lt_zero _)
  | k :: t, c, u, 0, hp, _ => by
    simp only [dg, prd]
    rw [Nat.mul_assoc, Nat.add_mul_mod_self_left]
  | k :: t, c, u, i + 1, hp, hi => by
    have hk := hp k List.mem_cons_self
    simp only [dg, prd]
    rw [Nat.mul_assoc, Nat.add_mul_div_left _ _ hk]
    exact dg_addK (ks := t) (c / k) u i (fun x hx => hp x (List.mem_cons_of_mem _ hx)) (by simpa using hi)
theorem dg_sds_in {ps : List PSt} (hv : VP ps) : ∀ (prs : Prs) (c : Nat), VPr ps prs → (prs.map (fun p => p.1)).Nodup → ∀ q ∈ prs, dg (pks ps) (sds (pks ps) c prs) q.1 = q.2
  | [], _, _, _, q, hq => absurd hq List.not_mem_nil
  | p :: t, c, hr, hn, q, hq => by
    have h1 := hr p List.mem_cons_self
    have hn2 := List.nodup_cons.mp (show (p.1 :: t.map (fun p => p.1)).Nodup from hn)
    have hr2 : VPr ps t := fun x hx => hr x (List.mem_cons_of_mem _ hx)
    simp only [sds]
    rcases List.mem_cons.mp hq with rfl | hq2
    · rw [dg_sds_ne hv t _ hr2 (fun z hz e => hn2.1 (by rw [← e]; exact List.mem_map_of_mem hz)), dg_sd _ _ _ _ (by rw [pk_len]; exact h1.1) hv.pos (by rw [pk_at h1.1]; exact h1.2), if_pos rfl]
    · exact dg_sds_in hv t _ hr2 hn2.2 q hq2
theorem vst_hi {ps : List PSt} (hv : VP ps) : ∀ (prs : Prs) (c v : Nat), VPr ps prs → (vst ps c v prs).1 / prd (pks ps) = c / prd (pks ps)
  | [], _, _, _ => rfl
  | p :: t, c, v, hr => by
    have h1 := hr p List.mem_cons_self
    have hk := hv.k h1.1
    simp only [vst]
    rw [vst_hi hv t _ _ (fun x hx => hr x (List.mem_cons_of_mem _ hx)), sd_hi c p.1 _ (by rw [pk_len]; exact h1.1) hv.pos (by rw [pk_at h1.1]; exact Nat.mod_lt _ (by omega))]
theorem vst_ne {ps : List PSt} (hv : VP ps) {p : Nat} : ∀ (prs : Prs) (c v : Nat), VPr ps prs → (∀ q ∈ prs, q.1 ≠ p) → dg (pks ps) (vst ps c v prs).1 p = dg (pks ps) c p
  | [], _, _, _, _ => rfl
  | q :: t, c, v, hr, hne => by
    have h1 := hr q List.mem_cons_self
    have hk := hv.k h1.1
    simp only [vst]
    rw [vst_ne hv t _ _ (fun x hx => hr x (List.mem_cons_of_mem _ hx)) (fun x hx => hne x (List.mem_cons_of_mem _ hx)), dg_sd _ _ _ _ (by rw [pk_len]; exact h1.1) hv.pos (by rw [pk_at h1.1]; exact Nat.mod_lt _ (by omega)), if_neg (fun e => hne q List.mem_cons_self e.symm)]
/-- put back what the gives say: the code itself -/
theorem sds_vst {ps : List PSt} (hv : VP ps) {prs : Prs} {c v : Nat} (hr : VPr ps prs) (hn : (prs.map (fun p => p.1)).Nodup) (hall9 : ∀ q ∈ prs, dg (pks ps) c q.1 = q.2) : sds (pks ps) (vst ps c v prs).1 prs = c := by
  refine dg_ext hv.pos (fun i hi => ?_) (by rw [sds_hi hv _ _ hr, vst_hi hv _ _ _ hr])
  by_cases e : ∃ q ∈ prs, q.1 = i
  · obtain ⟨q, hq, rfl⟩ := e
    rw [dg_sds_in hv prs _ hr hn q hq, hall9 q hq]
  · have hne : ∀ q ∈ prs, q.1 ≠ i := fun q hq h => e ⟨q, hq, h⟩
    rw [dg_sds_ne hv prs _ hr hne, vst_ne hv prs _ _ hr hne]
/-- the number that spells a code's states of these props -/
def enc (ps : List PSt) (b : Nat) : Prs → Nat
  | [] => 0
  | p :: t => dg (pks ps) b p.1 + (ps.getD p.1 pz).1 * enc ps b t
theorem enc_lt {ps : List PSt} (hv : VP ps) (b : Nat) : ∀ (prs : Prs), VPr ps prs → enc ps b prs < vpd ps prs
  | [], _ => by simp [enc, vpd, prd]
  | p :: t, hr => by
    have h1 := hr p List.mem_cons_self
    have ih := enc_lt hv b t (fun x hx => hr x (List.mem_cons_of_mem _ hx))
    have hdl := dg_lt b p.1 (by rw [pk_len]; exact h1.1) hv.pos
    rw [pk_at h1.1] at hdl
    show _ + _ < (ps.getD p.1 pz).1 * vpd ps t
    calc _ < (ps.getD p.1 pz).1 + (ps.getD p.1 pz).1 * enc ps b t := by omega
      _ = (ps.getD p.1 pz).1 * (enc ps b t + 1) := by rw [Nat.mul_add, Nat.mul_one, Nat.add_comm]
      _ ≤ _ := Nat.mul_le_mul_left _ ih
theorem vst_enc {ps : List PSt} (hv : VP ps) (b : Nat) : ∀ (prs : Prs) (c : Nat), VPr ps prs → (vst ps c (enc ps b prs) prs).1 = sds (pks ps) c (prs.map (fun p => (p.1, dg (pks ps) b p.1)))
  | [], _, _ => rfl
  | p :: t, c, hr => by
    have h1 := hr p List.mem_cons_self
    have hk := hv.k h1.1
    have hdl := dg_lt b p.1 (by rw [pk_len]; exact h1.1) hv.pos
    rw [pk_at h1.1] at hdl
    simp only [vst, enc, List.map_cons, sds]
    rw [Nat.add_mul_mod_self_left, Nat.mod_eq_of_lt hdl, Nat.add_mul_div_left _ _ (by omega), Nat.div_eq_of_lt hdl, Nat.zero_add]
    exact vst_enc hv b t _ (fun x hx => hr x (List.mem_cons_of_mem _ hx))
theorem mapD_ok {ps : List PSt} (hv : VP ps) (b : Nat) {prs : Prs} (hr : VPr ps prs) : VPr ps (prs.map (fun p => (p.1, dg (pks ps) b p.1))) := by
  intro q hq
  obtain ⟨p, hp, rfl⟩ := List.mem_map.mp hq
  have h1 := hr p hp
  have hdl := dg_lt b p.1 (by rw [pk_len]; exact h1.1) hv.pos
  rw [pk_at h1.1] at hdl
  exact ⟨h1.1, hdl⟩
def gvs (hs : HSt) (j : Nat) : Prs := (hs.2.1.getD j sz0).2.2.2.2.2
def led (hs : HSt) (x j : Nat) : Bool := (gvs hs j).all (fun p => dg (pks hs.1) x p.1 == p.2) && (decide (swt hs.1 hs.2.1 j = 0) || wdj hs x j)
def ahd (hs : HSt) (x j v : Nat) : Nat := (vst hs.1 x v (gvs hs j)).1 - swt hs.1 hs.2.1 j
/-- a step's weight is a number of whole houses of props -/
theorem swt_K {hs : HSt} (j : Nat) : ∃ u, swt hs.1 hs.2.1 j = prd (pks hs.1) * u := by
  by_cases h : 2 ≤ (hs.2.1.getD j sz0).1
  · exact ⟨_, swt_eq h⟩
  · exact ⟨0, by unfold swt; rw [if_neg h]; simp⟩
theorem wdj_ge {hs : HSt} {x j : Nat} (h : wdj hs x j = true) : swt hs.1 hs.2.1 j ≤ x := by
  unfold wdj wdn at h
  simp only [Bool.and_eq_true, decide_eq_true_eq] at h
  refine Nat.not_lt.mp (fun q => ?_)
  rw [Nat.div_eq_of_lt q] at h; simp at h
theorem dvd_wd {K u y z : Nat} (hK : 0 < K) (h : y / K = z / K) : y / (K * u) = z / (K * u) := by
  rw [← Nat.div_div_eq_div_mul, ← Nat.div_div_eq_div_mul, h]
theorem led_ge {hs : HSt} (hv : VH hs) {x j v : Nat} (hj : j < hs.2.1.length) (h : led hs x j = true) : swt hs.1 hs.2.1 j ≤ (vst hs.1 x v (gvs hs j)).1 := by
  have hr := (hv.s hj).2.2.2.2.2.2.2.2.2.1
  unfold led at h
  simp only [Bool.and_eq_true, Bool.or_eq_true, decide_eq_true_eq] at h
  rcases h.2 with q | q
  · omega
  · have hK : 0 < prd (pks hs.1) := prd_pos hv.1.pos
    obtain ⟨u, hu⟩ := swt_K (hs := hs) j
    have e := vst_hi hv.1 (gvs hs j) x v hr
    have hd := dvd_wd (u := u) hK e
    rw [← hu] at hd
    unfold wdj wdn at q
    simp only [Bool.and_eq_true, decide_eq_true_eq] at q
    refine Nat.not_lt.mp (fun z => ?_)
    rw [Nat.div_eq_of_lt z] at hd
    rw [← hd] at q; simp at q
theorem ahd_lt {hs : HSt} (hv : VH hs) {x j v : Nat} (hx : x < hall hs) (hj : j < hs.2.1.length) : ahd hs x j v < hall hs := by
  have hr := (hv.s hj).2.2.2.2.2.2.2.2.2.1
  have := (vst_bd hv.vt hv.1 (gvs hs j) (v := v) hr hx).1
  unfold ahd hall
  omega
theorem sds_addK {ps : List PSt} (hv : VP ps) {prs : Prs} (hr : VPr ps prs) (hn : (prs.map (fun p => p.1)).Nodup) (c u : Nat) : sds (pks ps) (c + prd (pks ps) * u) prs = sds (pks ps) c prs + prd (pks ps) * u := by
  have hK : 0 < prd (pks ps) := prd_pos hv.pos
  refine dg_ext hv.pos (fun i hi => ?_) ?_
  · rw [dg_addK _ _ _ hv.pos hi]
    by_cases e : ∃ q ∈ prs, q.1 = i
    · obtain ⟨q, hq, rfl⟩ := e
      rw [dg_sds_in hv prs _ hr hn q hq, dg_sds_in hv prs _ hr hn q hq]
    · have hne : ∀ q ∈ prs, q.1 ≠ i := fun q hq h => e ⟨q, hq, h⟩
      rw [dg_sds_ne hv prs _ hr hne, dg_sds_ne hv prs _ hr hne, dg_addK _ _ _ hv.pos hi]
  · rw [sds_hi hv _ _ hr, Nat.add_mul_div_left _ _ hK, Nat.add_mul_div_left _ _ hK, sds_hi hv _ _ hr]
/-- by an open step from one of them to the code -/
theorem ahd_aft {hs : HSt} (hv : VH hs) {x j v : Nat} (hj : j < hs.2.1.length) (h : led hs x j = true) (ho : opn hs (ahd hs x j v) j = true) : aft hs (ahd hs x j v) j = x := by
  have hr : VPr hs.1 (gvs hs j) := (hv.s hj).2.2.2.2.2.2.2.2.2.1
  have hn : ((gvs hs j).map (fun p => p.1)).Nodup := (hv.s hj).2.2.2.2.2.2.2.2.2.2
  have hge := led_ge hv (v := v) hj h
  have hwd : wdj hs (ahd hs x j v) j = false := by
    unfold opn cdo at ho
    simp only [Bool.and_eq_true, Bool.not_eq_true'] at ho
    exact ho.2.1.1.2
  have hal : ∀ q ∈ gvs hs j, dg (pks hs.1) x q.1 = q.2 := by
    unfold led at h
    simp only [Bool.and_eq_true] at h
    intro q hq
    exact beq_iff_eq.mp (List.all_eq_true.mp h.1 q hq)
  have e1 := sds_vst hv.1 (v := v) hr hn hal
  unfold aft
  rw [hwd, if_neg (by decide)]
  show sds (pks hs.1) (ahd hs x j v) (gvs hs j) + _ = x
  obtain ⟨u, hu⟩ := swt_K (hs := hs) j
  have e2 : (vst hs.1 x v (gvs hs j)).1 = ahd hs x j v + prd (pks hs.1) * u := by unfold ahd; rw [← hu]; omega
  rw [e2, sds_addK hv.1 hr hn] at e1
  rw [hu]; exact e1
/-- and there is no other -/
theorem aft_ahd {hs : HSt} (hv : VH hs) {b x j : Nat} (hb : b < hall hs) (hj : j < hs.2.1.length) (ho : opn hs b j = true) (ha : aft hs b j = x) : led hs x j = true ∧ ∃ v, v < vpd hs.1 (gvs hs j) ∧ ahd hs x j v = b := by
  have hr : VPr hs.1 (gvs hs j) := (hv.s hj).2.2.2.2.2.2.2.2.2.1
  have hn : ((gvs hs j).map (fun p => p.1)).Nodup := (hv.s hj).2.2.2.2.2.2.2.2.2.2
  have hK : 0 < prd (pks hs.1) := prd_pos hv.1.pos
  have hwd : wdj hs b j = false := by
    unfold opn cdo at ho
    simp only [Bool.and_eq_true, Bool.not_eq_true'] at ho
    exact ho.2.1.1.2
  obtain ⟨u, hu⟩ := swt_K (hs := hs) j
  have ea : x = sds (pks hs.1) b (gvs hs j) + prd (pks hs.1) * u := by
    rw [← ha, ← hu]; unfold aft; rw [hwd, if_neg (by decide)]; rfl
  have hal : ∀ q ∈ gvs hs j, dg (pks hs.1) x q.1 = q.2 := by
    intro q hq
    rw [ea, dg_addK _ _ _ hv.1.pos (by rw [pk_len]; exact (hr q hq).1)]
    exact dg_sds_in hv.1 _ _ hr hn q hq
  refine ⟨?_, enc hs.1 b (gvs hs j), enc_lt hv.1 b _ hr, ?_⟩
  · unfold led
    simp only [Bool.and_eq_true, Bool.or_eq_true, decide_eq_true_eq]
    refine ⟨List.all_eq_true.mpr (fun q hq => beq_iff_eq.mpr (hal q hq)), ?_⟩
    by_cases hw : swt hs.1 hs.2.1 j = 0
    · exact Or.inl hw
    · right
      have hwp : 0 < swt hs.1 hs.2.1 j := by omega
      have e1 : sds (pks hs.1) b (gvs hs j) / swt hs.1 hs.2.1 j = b / swt hs.1 hs.2.1 j := by
        rw [hu]; exact dvd_wd hK (sds_hi hv.1 _ _ hr)
      have h0 : b / swt hs.1 hs.2.1 j % 2 = 0 := by
        unfold wdj wdn at hwd
        rw [decide_eq_true hwp, Bool.true_and] at hwd
        have := of_decide_eq_false hwd
        omega
      unfold wdj wdn
      rw [decide_eq_true hwp, Bool.true_and]
      refine decide_eq_true ?_
      rw [ea, ← hu, Nat.add_div_right _ hwp, e1]
      omega
  · unfold ahd
    rw [vst_enc hv.1 b _ _ hr]
    have hr2 := mapD_ok hv.1 b hr
    have hn2 : (((gvs hs j).map (fun p => (p.1, dg (pks hs.1) b p.1))).map (fun p => p.1)).Nodup := by
      rw [List.map_map]; exact hn
    have e3 : sds (pks hs.1) x ((gvs hs j).map (fun p => (p.1, dg (pks hs.1) b p.1))) = b + prd (pks hs.1) * u := by
      rw [ea, sds_addK hv.1 hr2 hn2]
      congr 1
      refine dg_ext hv.1.pos (fun i hi => ?_) (by rw [sds_hi hv.1 _ _ hr2, sds_hi hv.1 _ _ hr])
      by_cases e : ∃ q ∈ gvs hs j, q.1 = i
      · obtain ⟨q, hq, rfl⟩ := e
        exact dg_sds_in hv.1 _ _ hr2 hn2 (q.1, dg (pks hs.1) b q.1) (List.mem_map_of_mem (f := fun p : Nat × Nat => (p.1, dg (pks hs.1) b p.1)) hq)
      · have hne : ∀ q ∈ gvs hs j, q.1 ≠ i := fun q hq h => e ⟨q, hq, h⟩
        rw [dg_sds_ne hv.1 _ _ hr2 (fun q hq => by obtain ⟨z, hz, rfl⟩ := List.mem_map.mp hq; exact hne z hz), dg_sds_ne hv.1 _ _ hr hne]
    rw [e3, ← hu]; omega
theorem Dij.ext {hs : HSt} {key key2 : Nat → Nat} {Q : Nat → Prop} {SL : List Nat} {x : Nat} {dn : Nat → Nat → Prop} (h : Dij hs key Q SL x dn) (e : ∀ c, c < hall hs → key2 c = key c) : Dij hs key2 Q SL x dn := by
  obtain ⟨h1, h2, h3, h4, h5⟩ := h
  refine ⟨fun c hc => by rw [e c hc]; exact h1 c hc, h2, h3, fun s hs2 q hq => by rw [e s (h3.2 s hs2), e q (h2 q hq).1]; exact h4 s hs2 q hq, fun y hy b j hb hj ho ha hyx => by rw [e b hb, e y (h3.2 y hy)]; exact h5 y hy b j hb hj ho ha hyx⟩
def kyi (hs : HSt) (i c : Nat) : Nat := if c < i then key0 hs c else FAR
theorem kyi_t {hs : HSt} {i : Nat} (he : isE hs i = true) : updn (kyi hs i) i 0 = kyi hs (i + 1) := by
  funext c
  unfold kyi
  by_cases e : c = i
  · subst e; rw [un_s, if_pos (by omega), k0t he]
  · rw [un_n e]
    by_cases e2 : c < i
    · rw [if_pos e2, if_pos (by omega)]
    · rw [if_neg e2, if_neg (by omega)]
theorem kyi_f {hs : HSt} {i : Nat} (he : isE hs i = false) : kyi hs i = kyi hs (i + 1) := by
  funext c
  unfold kyi
  by_cases e : c = i
  · subst e; rw [if_neg (by omega), if_pos (by omega), k0f he]
  · by_cases e2 : c < i
    · rw [if_pos e2, if_pos (by omega)]
    · rw [if_neg e2, if_neg (by omega)]
theorem kyi_i {hs : HSt} {i : Nat} : kyi hs i i = FAR := by unfold kyi; rw [if_neg (by omega)]
theorem kyi_le {hs : HSt} {i c : Nat} : kyi hs i c ≤ FAR := by
  unfold kyi; split
  · exact key0_le hs c
  · exact Nat.le_refl _
theorem kyi_C {hs : HSt} {i c : Nat} (h : c < i ∧ isE hs c = true) : kyi hs i c < FAR := by unfold kyi; rw [if_pos h.1, k0t h.2]; decide
theorem iE_s {hs : HSt} {i : Nat} (he : isE hs i = true) (c : Nat) : (c < i + 1 ∧ isE hs c = true) ↔ (c = i ∨ (c < i ∧ isE hs c = true)) := by
  constructor
  · rintro ⟨q1, q2⟩
    by_cases e : c = i
    · exact Or.inl e
    · exact Or.inr ⟨by omega, q2⟩
  · rintro (rfl | ⟨q1, q2⟩)
    · exact ⟨by omega, he⟩
    · exact ⟨by omega, q2⟩
theorem iE_n {hs : HSt} {i : Nat} (he : isE hs i = false) (c : Nat) : (c < i + 1 ∧ isE hs c = true) ↔ (c < i ∧ isE hs c = true) := by
  constructor
  · rintro ⟨q1, q2⟩
    by_cases e : c = i
    · subst e; rw [he] at q2; cases q2
    · exact ⟨by omega, q2⟩
  · rintro ⟨q1, q2⟩; exact ⟨by omega, q2⟩
/-- all are taken: nothing is left -/
theorem Dij.full {hs : HSt} {key : Nat → Nat} {Q : Nat → Prop} {SL : List Nat} {x : Nat} {dn : Nat → Nat → Prop} (h : Dij hs key Q SL x dn) (hl : hall hs ≤ SL.length) (c : Nat) : ¬ Q c := by
  intro hq
  have h1 := h.2.1 c hq
  have := nd_len (L := c :: SL) (n := hall hs) (List.nodup_cons.mpr ⟨h1.2, h.2.2.1.1⟩) (fun d hd => by
    rcases List.mem_cons.mp hd with rfl | q
    · exact h1.1
    · exact h.2.2.1.2 d q)
  simp only [List.length_cons] at this
  omega
theorem lsI_of {hs : HSt} {c k : Nat} (h : LstR hs c (if k < FAR then some k else none)) (hk : k ≤ FAR) : (if k < FAR then nI k else -2) = lsI hs c := by
  unfold lsI isO
  rw [far_eq h hk]
  by_cases e : k < FAR
  · rw [if_pos e, decide_eq_true e]; rfl
  · rw [if_neg e, decide_eq_false e]; rfl
