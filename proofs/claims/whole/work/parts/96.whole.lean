/-! the class as a whole -/
abbrev LB : Type := Nat × Nat × Nat × Nat
def CTs : List Nat := List.range' 1 43 ++ (List.range' 200 12 ++ List.range' 300 480)
theorem mem_CTs {x : Nat} : x ∈ CTs ↔ (1 ≤ x ∧ x ≤ 43) ∨ (200 ≤ x ∧ x ≤ 211) ∨ (300 ≤ x ∧ x ≤ 779) := by
  simp only [CTs, List.mem_append, List.mem_range'_1]; omega
theorem ct_up {T : List Nat} {h h2 : Nat → Option aC} (f : Fr T h h2) (ht : ∀ x ∈ T, 1 ≤ x ∧ x ≤ 43) : Fr CTs h h2 := f.up (fun x hx => mem_CTs.mpr (Or.inl (ht x hx)))
def GCe (h : Nat → Option aC) (a g : Nat) (q : GSt) : Prop := ∃ v1 v2 v3 v4 v5 : Int32, h a = some (ob (20 + g) 1 [.int (bI q.1), .int v1, .int v2, .int v3, .int v4, .int v5]) ∧ (q.1 = true → v1 = nI q.2.1 ∧ v2 = nI q.2.2.1 ∧ v3 = q.2.2.2.1 ∧ v4 = q.2.2.2.2.1 ∧ v5 = q.2.2.2.2.2)
def GrA (h : Nat → Option aC) (a : Nat) (gs : List GSt) : Prop := ∃ gal : List Nat, Lsx 17 18 h a gal ∧ gal.length = 4 ∧ ∀ g, g < 4 → GCe h (gal.getD g 0) g (gs.getD g gz0)
theorem GrA.fr {h h2 : Nat → Option aC} {a : Nat} {gs : List GSt} {T : List Nat} (hg : GrA h a gs) (f : Fr T h h2) (ht : ∀ y, 17 ≤ y → y ≤ 23 → y ∉ T) : GrA h2 a gs := by
  obtain ⟨gal, g1, g2, g3⟩ := hg
  refine ⟨gal, g1.fr f (ht _ (by omega) (by omega)) (ht _ (by omega) (by omega)), g2, fun g hg => ?_⟩
  obtain ⟨v1, v2, v3, v4, v5, k1, k2⟩ := g3 g hg
  exact ⟨v1, v2, v3, v4, v5, f _ _ k1 (ht (20 + g) (by omega) (by omega)), k2⟩
def CLp (h : Nat → Option aC) (x : Nat) (B : LB) (a1 a0 : Nat) (gs : List GSt) (lg : Lg) (xs : List Int32) (cap : Nat) : Prop := h x = some (ob 1 10 [.ref a1, .ref B.1, .ref B.2.1, .ref B.2.2.1, .ref B.2.2.2, .ref a0]) ∧ RoA h B.1 cap xs ∧ DiA h B.2.1 lg ∧ GrA h B.2.2.1 gs ∧ ∃ f, h B.2.2.2 = some (cI 24 12 f)
theorem CLp.fr {h h2 : Nat → Option aC} {x : Nat} {B : LB} {a1 a0 : Nat} {gs : List GSt} {lg : Lg} {xs : List Int32} {cap : Nat} {T : List Nat} (hc : CLp h x B a1 a0 gs lg xs cap) (f : Fr T h h2) (ht : ∀ y, y = 1 ∨ (11 ≤ y ∧ y ≤ 24) → y ∉ T) : CLp h2 x B a1 a0 gs lg xs cap := by
  obtain ⟨c1, c2, c3, c4, fo, c5⟩ := hc
  exact ⟨f _ _ c1 (ht 1 (Or.inl rfl)), c2.fr f (ht 11 (by omega)) (ht 12 (by omega)), c3.fr f (fun y h1 h2 => ht y (by omega)), c4.fr f (fun y h1 h2 => ht y (by omega)), fo, f _ _ c5 (ht 24 (by omega))⟩
def CL (h : Nat → Option aC) (x : Nat) (B : LB) (hs : HSt) (ad : AD) (A : Nat → Nat) (most : Nat) (fl : WFl) (L L2 : List Nat) (ar : Nat → Nat → Int32) (n : Nat) (gs : List GSt) (lg : Lg) (xs : List Int32) (cap : Nat) : Prop := CLp h x B ad.1 (A 0) gs lg xs cap ∧ HoA h hs ad (hsta hs) ∧ A 2 = ad.1 ∧ WaS h A most fl L L2 ar n ∧ WIv hs most fl L ar
section CLX
variable {h h2 : Nat → Option aC} {x : Nat} {B : LB} {hs : HSt} {ad : AD} {A : Nat → Nat} {most : Nat} {fl : WFl} {L L2 : List Nat} {ar : Nat → Nat → Int32} {n : Nat} {gs : List GSt} {lg : Lg} {xs : List Int32} {cap : Nat}
theorem CL.wk (hc : CL h x B hs ad A most fl L L2 ar n gs lg xs cap) : WkF h h hs ad A most fl L L2 ar n := ⟨hc.2.1, hc.2.2.1, hc.2.2.2.1, Fr.rf⟩
theorem CL.walk {fl9 : WFl} {L9 L29 : List Nat} {ar9 : Nat → Nat → Int32} {n9 : Nat} (hc : CL h x B hs ad A most fl L L2 ar n gs lg xs cap) (hw : WkF h h2 hs ad A most fl9 L9 L29 ar9 n9) (hi : WIv hs most fl9 L9 ar9) : CL h2 x B hs ad A most fl9 L9 L29 ar9 n9 gs lg xs cap :=
  ⟨hc.1.fr hw.2.2.2 (fun y hy => by simp only [WTg, List.mem_cons, List.not_mem_nil, or_false]; omega), hw.1, hw.2.1, hw.2.2.1, hi⟩
/-- what lies beside the house and the walk -/
theorem CL.side {T : List Nat} {gs9 : List GSt} {lg9 : Lg} {xs9 : List Int32} {cap9 : Nat} (hc : CL h x B hs ad A most fl L L2 ar n gs lg xs cap) (hv : VH hs) (hp : CLp h2 x B ad.1 (A 0) gs9 lg9 xs9 cap9) (f : Fr T h h2) (ht : ∀ y ∈ T, 11 ≤ y ∧ y ≤ 24) : CL h2 x B hs ad A most fl L L2 ar n gs9 lg9 xs9 cap9 :=
  ⟨hp, hc.2.1.fr hv f (fun y hy hm => by have := ht y hm; unfold HT at hy; omega), hc.2.2.1, hc.2.2.2.1.fr f (fun y hy hm => by have := ht y hm; simp only [WTg, List.mem_cons, List.not_mem_nil, or_false] at hy; omega), hc.2.2.2.2⟩
theorem CL.told {xs9 : List Int32} {cap9 : Nat} (hc : CL h x B hs ad A most fl L L2 ar n gs lg xs cap) (hv : VH hs) (hr : RoA h2 B.1 cap9 xs9) (f : Fr [11, 12] h h2) : CL h2 x B hs ad A most fl L L2 ar n gs lg xs9 cap9 := by
  obtain ⟨c1, c2, c3, c4, fo, c5⟩ := hc.1
  exact hc.side hv ⟨f _ _ c1 (by simp), hr, c3.fr f (fun y h1 h2 => by simp; omega), c4.fr f (fun y h1 h2 => by simp; omega), fo, f _ _ c5 (by simp)⟩ f (fun y hy => by simp at hy; omega)
theorem CL.diar {lg9 : Lg} (hc : CL h x B hs ad A most fl L L2 ar n gs lg xs cap) (hv : VH hs) (hr : DiA h2 B.2.1 lg9) (f : Fr [13, 14, 15, 16] h h2) : CL h2 x B hs ad A most fl L L2 ar n gs lg9 xs cap := by
  obtain ⟨c1, c2, c3, c4, fo, c5⟩ := hc.1
  exact hc.side hv ⟨f _ _ c1 (by simp), c2.fr f (by simp) (by simp), hr, c4.fr f (fun y h1 h2 => by simp; omega), fo, f _ _ c5 (by simp)⟩ f (fun y hy => by simp at hy; omega)
theorem CL.grp {gs9 : List GSt} (hc : CL h x B hs ad A most fl L L2 ar n gs lg xs cap) (hv : VH hs) (hr : GrA h2 B.2.2.1 gs9) (f : Fr [20, 21, 22, 23] h h2) : CL h2 x B hs ad A most fl L L2 ar n gs9 lg xs cap := by
  obtain ⟨c1, c2, c3, c4, fo, c5⟩ := hc.1
  exact hc.side hv ⟨f _ _ c1 (by simp), c2.fr f (by simp) (by simp), c3.fr f (fun y h1 h2 => by simp; omega), hr, fo, f _ _ c5 (by simp)⟩ f (fun y hy => by simp at hy; omega)
theorem CL.ord {g : Nat → Int32} (hc : CL h x B hs ad A most fl L L2 ar n gs lg xs cap) (hv : VH hs) (hr : h2 B.2.2.2 = some (cI 24 12 g)) (f : Fr [24] h h2) : CL h2 x B hs ad A most fl L L2 ar n gs lg xs cap := by
  obtain ⟨c1, c2, c3, c4, fo, c5⟩ := hc.1
  exact hc.side hv ⟨f _ _ c1 (by simp), c2.fr f (by simp) (by simp), c3.fr f (fun y h1 h2 => by simp; omega), c4.fr f (fun y h1 h2 => by simp; omega), g, hr⟩ f (fun y hy => by simp at hy; omega)
/-- another house: the walk knows nothing of it -/
theorem CL.hou {hs9 : HSt} {ad9 : AD} {T : List Nat} (hc : CL h x B hs ad A most fl L L2 ar n gs lg xs cap) (hfl : fl.1 = false ∧ fl.2.1 = false ∧ fl.2.2.1 = false) (ho : HoA h2 hs9 ad9 (hsta hs9)) (e : ad9.1 = ad.1) (f : Fr T h h2) (ht : ∀ y ∈ T, HT y) : CL h2 x B hs9 ad9 A most fl L L2 ar n gs lg xs cap := by
  refine ⟨?_, ho, by rw [e]; exact hc.2.2.1, hc.2.2.2.1.fr f (fun y hy hm => ?_), ?_⟩
  · rw [e]; exact hc.1.fr f (fun y hy hm => by have := ht y hm; unfold HT at this; omega)
  · have := ht y hm; unfold HT at this; simp only [WTg, List.mem_cons, List.not_mem_nil, or_false] at hy; omega
  · exact ⟨fun q => absurd (hfl.1.symm.trans q) (by decide), fun q => absurd (hfl.2.1.symm.trans q) (by decide), fun q => absurd (hfl.2.2.symm.trans q) (by decide)⟩
end CLX
def wdc (most : Nat) (hs : HSt) : Nat := if most < hall hs then 14 else 0
def wds (most : Nat) (hs : HSt) : Nat := if most < hall hs then 200022 else 0
def wdm (most : Nat) (hs : HSt) : Nat := if most < hall hs then 20000 else most
set_option maxHeartbeats 4000000 in
set_option maxRecDepth 20000 in
theorem c_LH_widenA {G : aG} {nx : Nat} {h : Nat → Option aC} {x : Nat} {B : LB} {hs : HSt} {ad : AD} {A : Nat → Nat} {most : Nat} {fl : WFl} {L L2 : List Nat} {ar : Nat → Nat → Int32} {n : Nat} {gs : List GSt} {lg : Lg} {xs : List Int32} {cap : Nat} (hc : CL h x B hs ad A most fl L L2 ar n gs lg xs cap) (hv : VH hs) (hw : hall hs ≤ most) : AMet G m_LH_widen 3 0 0 [.ref x] (nx, h) (R0 (nx, h)) := by
  have hp12 := hv.1.1
  have hs24 := hv.2.1
  have hall2 := hv.2.2.2.2.2.2.2
  have hmst := hc.wk.mst
  refine amet_of pf_LH_widen (Nat.le_of_ble_eq_true rfl) ?_
  show AW G m_LH_widen 3 0 0 _ 0 [(0, .ref x)] [] (nx, h) 0 0
  refine aw_aload_n (i := 0) d_LH_widen_0 rfl rfl ?_
  apply aw_get d_LH_widen_1 fl_LH_53; exact hc.1.1; rfl
  apply aw_get d_LH_widen_4 fl_LH_309; exact hc.2.2.2.1.1; rfl
  refine aw_aload_n (i := 0) d_LH_widen_7 rfl rfl ?_
  apply aw_get d_LH_widen_8 fl_LH_10; exact hc.1.1; rfl
  apply aw_get d_LH_widen_11 fl_LH_67; exact hc.2.1.1; rfl
  refine aw_icmp_ge d_LH_widen_14 (fun br14_ => ?_) (fun br14_ => absurd ((nI_leI (by omega) (by omega)).mpr hw) br14_)
  refine aw_vret d_LH_widen_35 rfl (by omega) (by omega) ?_
  exact ⟨rfl, rfl⟩

set_option maxHeartbeats 4000000 in
set_option maxRecDepth 20000 in
theorem c_LH_widenB {G : aG} {nx : Nat} {h : Nat → Option aC} {x : Nat} {B : LB} {hs : HSt} {ad : AD} {A : Nat → Nat} {most : Nat} {fl : WFl} {L L2 : List Nat} {ar : Nat → Nat → Int32} {n : Nat} {gs : List GSt} {lg : Lg} {xs : List Int32} {cap : Nat} (hc : CL h x B hs ad A most fl L L2 ar n gs lg xs cap) (hv : VH hs) (hw : most < hall hs) : AMet G m_LH_widen 3 14 200022 [.ref x] (nx, h) (fun r w => r = none ∧ ∃ h2 A9 fl9 L9 L29 ar9 n9, w = (nx + 14, h2) ∧ CL h2 x B hs ad A9 (20000) fl9 L9 L29 ar9 n9 gs lg xs cap ∧ Fr CTs h h2) := by
  have hp12 := hv.1.1
  have hs24 := hv.2.1
  have hall2 := hv.2.2.2.2.2.2.2
  have hmst := hc.wk.mst
  refine amet_of pf_LH_widen (Nat.le_of_ble_eq_true rfl) ?_
  show AW G m_LH_widen 3 14 200022 _ 0 [(0, .ref x)] [] (nx, h) 0 0
  refine aw_aload_n (i := 0) d_LH_widen_0 rfl rfl ?_
  apply aw_get d_LH_widen_1 fl_LH_53; exact hc.1.1; rfl
  apply aw_get d_LH_widen_4 fl_LH_309; exact hc.2.2.2.1.1; rfl
  refine aw_aload_n (i := 0) d_LH_widen_7 rfl rfl ?_
  apply aw_get d_LH_widen_8 fl_LH_10; exact hc.1.1; rfl
  apply aw_get d_LH_widen_11 fl_LH_67; exact hc.2.1.1; rfl
  refine aw_icmp_ge d_LH_widen_14 (fun br14_ => absurd ((nI_leI (by omega) (by omega)).mp br14_) (by omega)) (fun br14_ => ?_)
  refine aw_aload_n (i := 0) d_LH_widen_17 rfl rfl ?_
  refine aw_dom ?_
  intro hd
  obtain ⟨hp, ho, _, _, _⟩ := hc
  refine aw_new 30 (N := 12) d_LH_widen_18 nl_LH_48 rfl (by omega) (by omega) ?_
  refine aw_nn hd ?_
  intro h1 hn f1 o1 hd
  have FR : Fr CTs h h1 := f1.up (fun _ z => absurd z List.not_mem_nil)
  have hp := hp.fr f1 (fun y hy => List.not_mem_nil)
  have ho := ho.fr hv f1 (fun y hy => List.not_mem_nil)
  refine aw_dup d_LH_widen_21 rfl ?_
  refine aw_aload_n (i := 0) d_LH_widen_22 rfl rfl ?_
  apply aw_get d_LH_widen_23 fl_LH_10; exact hp.1; rfl
  refine aw_sipush (v := nI 20000) d_LH_widen_26 (by decide) ?_
  apply aw_calli d_LH_widen_29 cl_LH_50 (c_Walk_init (b := ad.1) (M := 20000) (by decide) hn hd); rfl; rfl; decide; exact (by omega); exact (by omega); exact Nat.le_of_ble_eq_true rfl
  rintro _ _ ⟨rfl, h1, rfl, hd, ⟨A9, ar9, e0, e2, hw9⟩, f1⟩
  have FR := FR.tr (ct_up f1 (fun y hy => by simp at hy; omega))
  have hp := hp.fr f1 (fun y hy => by simp; omega)
  have ho := ho.fr hv f1 (ht_w (by decide))
  apply aw_put d_LH_widen_32 pl_LH_53; exact hp.1; exact Nat.le_of_ble_eq_true rfl; rfl; rfl
  refine aw_nm hp.1 ?_
  intro h2 hx f1 o1
  have FR := FR.tr (ct_up f1 (fun y hy => by rw [List.mem_singleton.mp hy]; show 1 ≤ 1 ∧ 1 ≤ 43; decide))
  have ho := ho.fr hv f1 (fun y hy => by rw [List.mem_singleton]; unfold HT at hy; show ¬ y = 1; omega)
  have hw9 := hw9.fr f1 (fun y hy => by rw [List.mem_singleton]; show ¬ y = 1; simp only [WTg, List.mem_cons, List.not_mem_nil, or_false] at hy; omega)
  obtain ⟨c1, c2, c3, c4, fo, c5⟩ := hp
  refine aw_vret d_LH_widen_35 rfl (by omega) (by omega) ?_
  exact ⟨rfl, h2, A9, (false, false, false, 0), [], [], ar9, 0, rfl, ⟨⟨by rw [e0]; exact hx, c2.fr f1 (by simp) (by simp), c3.fr f1 (fun y h1 h2 => by simp; omega), c4.fr f1 (fun y h1 h2 => by simp; omega), fo, f1 _ _ c5 (by simp)⟩, ho, e2, hw9, ⟨fun q => absurd q (by decide), fun q => absurd q (by decide), fun q => absurd q (by decide)⟩⟩, FR⟩

theorem c_LH_widen {G : aG} {nx : Nat} {h : Nat → Option aC} {x : Nat} {B : LB} {hs : HSt} {ad : AD} {A : Nat → Nat} {most : Nat} {fl : WFl} {L L2 : List Nat} {ar : Nat → Nat → Int32} {n : Nat} {gs : List GSt} {lg : Lg} {xs : List Int32} {cap : Nat} (hc : CL h x B hs ad A most fl L L2 ar n gs lg xs cap) (hv : VH hs) : AMet G m_LH_widen 3 (wdc most hs) (wds most hs) [.ref x] (nx, h) (fun r w => r = none ∧ ∃ h2 A9 fl9 L9 L29 ar9 n9, w = (nx + wdc most hs, h2) ∧ CL h2 x B hs ad A9 (wdm most hs) fl9 L9 L29 ar9 n9 gs lg xs cap ∧ Fr CTs h h2) := by
  by_cases e : most < hall hs
  · simp only [wdc, wds, wdm, if_pos e]; exact c_LH_widenB hc hv e
  · simp only [wdc, wds, wdm, if_neg e]
    refine (c_LH_widenA hc hv (by omega)).mono (fun r w hq => ?_)
    obtain ⟨rfl, rfl⟩ := hq
    exact ⟨rfl, h, A, fl, L, L2, ar, n, rfl, hc, Fr.rf⟩
theorem wdm_le {most : Nat} {hs : HSt} (hv : VH hs) : hall hs ≤ wdm most hs := by
  unfold wdm; have := hv.2.2.2.2.2.2.2
  by_cases e : most < hall hs
  · rw [if_pos e]; exact this
  · rw [if_neg e]; omega
theorem w_chart {G : aG} {nx : Nat} {h0 h : Nat → Option aC} {hs : HSt} {ad : AD} {A : Nat → Nat} {most : Nat} {fl : WFl} {L L2 : List Nat} {ar : Nat → Nat → Int32} {n : Nat} (hm : WkF h0 h hs ad A most fl L L2 ar n) (hv : VH hs) (hi : WIv hs most fl L ar) (hal2 : hall hs ≤ most) : AMet G m_Walk_chart 6 0 0 [.ref (A 0)] (nx, h) (fun r w => r = none ∧ ∃ h2 fl9 L9 ar9, w = (nx, h2) ∧ WkF h0 h2 hs ad A most fl9 L9 L2 ar9 n ∧ WIv hs most fl9 L9 ar9 ∧ fl9.1 = true) := by
  cases e : fl.1 with
  | true =>
    refine (c_Walk_chartA hm hv e).mono (fun r w hq => ?_)
    obtain ⟨rfl, rfl⟩ := hq
    exact ⟨rfl, h, fl, L, ar, rfl, hm, hi, e⟩
  | false =>
    refine (c_Walk_chartB hm hv hal2 e).mono (fun r w hq => ?_)
    obtain ⟨rfl, h2, L9, ar9, rfl, hm, hC, _⟩ := hq
    refine ⟨rfl, h2, _, L9, ar9, rfl, hm, ⟨fun _ => ⟨hal2, hC⟩, fun q => ?_, fun q => ?_⟩, rfl⟩
    · exact absurd ((hi.2.1 q).1.symm.trans e) (by decide)
    · exact absurd ((hi.2.2 q).1.symm.trans e) (by decide)
theorem w_measure {G : aG} {nx : Nat} {h0 h : Nat → Option aC} {hs : HSt} {ad : AD} {A : Nat → Nat} {most : Nat} {fl : WFl} {L L2 : List Nat} {ar : Nat → Nat → Int32} {n : Nat} (hm : WkF h0 h hs ad A most fl L L2 ar n) (hv : VH hs) (hi : WIv hs most fl L ar) (hf : fl.1 = true) : AMet G m_Walk_measure 6 0 0 [.ref (A 0)] (nx, h) (fun r w => r = none ∧ ∃ h2 fl9 ar9 n9, w = (nx, h2) ∧ WkF h0 h2 hs ad A most fl9 L L2 ar9 n9 ∧ WIv hs most fl9 L ar9 ∧ fl9.1 = true ∧ fl9.2.1 = true) := by
  obtain ⟨hal2, hC⟩ := hi.1 hf
  cases e : fl.2.1 with
  | true =>
    refine (c_Walk_measureA hm hv e).mono (fun r w hq => ?_)
    obtain ⟨rfl, rfl⟩ := hq
    exact ⟨rfl, h, fl, ar, n, rfl, hm, hi, hf, e⟩
  | false =>
    refine (c_Walk_measureB hm hv hal2 e hC).mono (fun r w hq => ?_)
    obtain ⟨rfl, h2, ar9, n9, rfl, hm, hS, h0, _, _⟩ := hq
    exact ⟨rfl, h2, _, ar9, n9, rfl, hm, ⟨fun _ => ⟨hal2, hC.1, hC.2.1, h0⟩, fun _ => ⟨hf, hS⟩, fun q => hi.2.2 q⟩, hf, rfl⟩
set_option maxHeartbeats 4000000 in
set_option maxRecDepth 20000 in
theorem c_LH_walked {G : aG} {nx : Nat} {h : Nat → Option aC} {x : Nat} {B : LB} {hs : HSt} {ad : AD} {A : Nat → Nat} {most : Nat} {fl : WFl} {L L2 : List Nat} {ar : Nat → Nat → Int32} {n : Nat} {gs : List GSt} {lg : Lg} {xs : List Int32} {cap : Nat} (hc : CL h x B hs ad A most fl L L2 ar n gs lg xs cap) (hv : VH hs)  : AMet G m_LH_walked 7 (wdc most hs) (wds most hs) [.ref x] (nx, h) (fun r w => ∃ A9 : Nat → Nat, r = some (.ref (A9 0)) ∧ ∃ h2 fl9 L9 L29 ar9 n9, w = (nx + wdc most hs, h2) ∧ CL h2 x B hs ad A9 (wdm most hs) fl9 L9 L29 ar9 n9 gs lg xs cap ∧ fl9.1 = true ∧ Fr CTs h h2) := by
  have hp12 := hv.1.1
  have hs24 := hv.2.1
  have hall2 := hv.2.2.2.2.2.2.2
  have hmst := hc.wk.mst
  refine amet_of pf_LH_walked (Nat.le_of_ble_eq_true rfl) ?_
  show AW G m_LH_walked 7 (wdc most hs) (wds most hs) _ 0 [(0, .ref x)] [] (nx, h) 0 0
  refine aw_aload_n (i := 0) d_LH_walked_0 rfl rfl ?_
  apply aw_callv d_LH_walked_1 cl_LH_300 (c_LH_widen hc hv); exact hc.1.1; rfl; rfl; rfl; rfl; decide; exact (by omega); exact (by omega); exact Nat.le_of_ble_eq_true rfl
  rintro _ _ ⟨rfl, h1, A9, fl9, L9, L29, ar9, n9, rfl, hc, FR⟩
  have hal9 := wdm_le (most := most) hv
  refine aw_aload_n (i := 0) d_LH_walked_4 rfl rfl ?_
  apply aw_get d_LH_walked_5 fl_LH_53; exact hc.1.1; rfl
  apply aw_callv d_LH_walked_8 cl_LH_303 (w_chart hc.wk hv hc.2.2.2.2 hal9); exact hc.2.2.2.1.1; rfl; rfl; rfl; rfl; decide; exact (by omega); exact (by omega); exact Nat.le_of_ble_eq_true rfl
  rintro _ _ ⟨rfl, h1, fl9, L9, ar9, rfl, hw9, hi9, hf9⟩
  have hc := hc.walk hw9 hi9
  have FR := FR.tr (ct_up hw9.2.2.2 (fun y hy => by simp only [WTg, List.mem_cons, List.not_mem_nil, or_false] at hy; omega))
  refine aw_aload_n (i := 0) d_LH_walked_11 rfl rfl ?_
  apply aw_get d_LH_walked_12 fl_LH_53; exact hc.1.1; rfl
  refine aw_aret d_LH_walked_15 rfl (Or.inl ⟨_, rfl⟩) (Or.inr ⟨_, rfl⟩) (by omega) (by omega) ?_
  exact ⟨A9, rfl, h1, fl9, L9, L29, ar9, n9, rfl, hc, hf9, FR⟩

set_option maxHeartbeats 4000000 in
set_option maxRecDepth 20000 in
theorem c_LH_measured {G : aG} {nx : Nat} {h : Nat → Option aC} {x : Nat} {B : LB} {hs : HSt} {ad : AD} {A : Nat → Nat} {most : Nat} {fl : WFl} {L L2 : List Nat} {ar : Nat → Nat → Int32} {n : Nat} {gs : List GSt} {lg : Lg} {xs : List Int32} {cap : Nat} (hc : CL h x B hs ad A most fl L L2 ar n gs lg xs cap) (hv : VH hs)  : AMet G m_LH_measured 7 (wdc most hs) (wds most hs) [.ref x] (nx, h) (fun r w => ∃ A9 : Nat → Nat, r = some (.ref (A9 0)) ∧ ∃ h2 fl9 L9 L29 ar9 n9, w = (nx + wdc most hs, h2) ∧ CL h2 x B hs ad A9 (wdm most hs) fl9 L9 L29 ar9 n9 gs lg xs cap ∧ fl9.1 = true ∧ fl9.2.1 = true ∧ Fr CTs h h2) := by
  have hp12 := hv.1.1
  have hs24 := hv.2.1
  have hall2 := hv.2.2.2.2.2.2.2
  have hmst := hc.wk.mst
  refine amet_of pf_LH_measured (Nat.le_of_ble_eq_true rfl) ?_
  show AW G m_LH_measured 7 (wdc most hs) (wds most hs) _ 0 [(0, .ref x)] [] (nx, h) 0 0
  refine aw_aload_n (i := 0) d_LH_measured_0 rfl rfl ?_
  apply aw_callv d_LH_measured_1 cl_LH_300 (c_LH_widen hc hv); exact hc.1.1; rfl; rfl; rfl; rfl; decide; exact (by omega); exact (by omega); exact Nat.le_of_ble_eq_true rfl
  rintro _ _ ⟨rfl, h1, A9, fl9, L9, L29, ar9, n9, rfl, hc, FR⟩
  have hal9 := wdm_le (most := most) hv
  refine aw_aload_n (i := 0) d_LH_measured_4 rfl rfl ?_
  apply aw_get d_LH_measured_5 fl_LH_53; exact hc.1.1; rfl
  apply aw_callv d_LH_measured_8 cl_LH_303 (w_chart hc.wk hv hc.2.2.2.2 hal9); exact hc.2.2.2.1.1; rfl; rfl; rfl; rfl; decide; exact (by omega); exact (by omega); exact Nat.le_of_ble_eq_true rfl
  rintro _ _ ⟨rfl, h1, fl9, L9, ar9, rfl, hw9, hi9, hf9⟩
  have hc := hc.walk hw9 hi9
  have FR := FR.tr (ct_up hw9.2.2.2 (fun y hy => by simp only [WTg, List.mem_cons, List.not_mem_nil, or_false] at hy; omega))
  refine aw_aload_n (i := 0) d_LH_measured_11 rfl rfl ?_
  apply aw_get d_LH_measured_12 fl_LH_53; exact hc.1.1; rfl
  apply aw_callv d_LH_measured_15 cl_LH_306 (w_measure hc.wk hv hc.2.2.2.2 hf9); exact hc.2.2.2.1.1; rfl; rfl; rfl; rfl; decide; exact (by omega); exact (by omega); exact Nat.le_of_ble_eq_true rfl
  rintro _ _ ⟨rfl, h1, fl9, ar9, n9, rfl, hw9, hi9, hf9, hf8⟩
  have hc := hc.walk hw9 hi9
  have FR := FR.tr (ct_up hw9.2.2.2 (fun y hy => by simp only [WTg, List.mem_cons, List.not_mem_nil, or_false] at hy; omega))
  refine aw_aload_n (i := 0) d_LH_measured_18 rfl rfl ?_
  apply aw_get d_LH_measured_19 fl_LH_53; exact hc.1.1; rfl
  refine aw_aret d_LH_measured_22 rfl (Or.inl ⟨_, rfl⟩) (Or.inr ⟨_, rfl⟩) (by omega) (by omega) ?_
  exact ⟨A9, rfl, h1, fl9, L9, L29, ar9, n9, rfl, hc, hf9, hf8, FR⟩

