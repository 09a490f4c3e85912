/-! what every call keeps -/
def VA (hs : HSt) (gs : List GSt) : Prop := VH hs ∧ VX hs ∧ VG hs gs
theorem vg_np {hs hs2 : HSt} {gs : List GSt} (hg : VG hs gs) (h : anyP gs = false) : VG hs2 gs := by
  refine ⟨hg.1, fun g hg9 hp => ?_⟩
  have hgl : g < gs.length := by rw [hg.1]; exact hg9
  have hm : gs.getD g gz0 ∈ gs := by
    rw [List.getD_eq_getElem?_getD, List.getElem?_eq_getElem hgl]; exact List.getElem_mem hgl
  have : anyP gs = true := List.any_eq_true.mpr ⟨_, hm, hp⟩
  rw [h] at this; cases this
theorem np_of {b : Bool} {gs : List GSt} (h : (!anyP gs && b) = true) : anyP gs = false ∧ b = true := by
  cases q : anyP gs with
  | true => rw [q] at h; simp at h
  | false => rw [q] at h; simpa using h
theorem vv_P {hs : HSt} {gs : List GSt} (hv : VA hs gs) (k f : Int32) : VA (if okP hs gs k f then addP hs (xN k) (xN f) else hs) gs := by
  by_cases q : okP hs gs k f = true
  · rw [if_pos q]
    simp only [okP, Bool.and_eq_true, Bool.not_eq_true', decide_eq_true_eq] at q
    obtain ⟨⟨⟨⟨q1, q2⟩, q3⟩, q4⟩, q5⟩ := q
    obtain ⟨k, h1, h2, rfl⟩ := rng_of q2 (by decide) (by decide)
    obtain ⟨f, h3, rfl⟩ := dec_ix (decide_eq_true q3) (by omega)
    rw [xN_nI (by omega)] at q5
    rw [xN_nI (by omega), xN_nI (by omega)]
    exact ⟨vh_addP hv.1 h1 h2 h3 q4 q5, vx_addP hv.2.1, vg_np hv.2.2 q1⟩
  · rw [if_neg q]; exact hv
theorem vv_S {hs : HSt} {gs : List GSt} (hv : VA hs gs) (kd hd tk rm : Int32) : VA (if okS hs gs kd hd tk rm then addS hs (xN kd) (xN hd) (xN tk) (xN rm) else hs) gs := by
  by_cases q : okS hs gs kd hd tk rm = true
  · rw [if_pos q]
    simp only [okS, Bool.and_eq_true, Bool.not_eq_true', decide_eq_true_eq, Bool.or_eq_true] at q
    obtain ⟨⟨⟨q1, ⟨⟨q2, q3⟩, q4⟩, q5⟩, q6⟩, q7⟩ := q
    obtain ⟨a, a1, a2, rfl⟩ := rng_of q2 (by decide) (by decide)
    obtain ⟨b, b1, b2, rfl⟩ := rng_of q3 (by decide) (by decide)
    obtain ⟨c, c1, c2, rfl⟩ := rng_of q4 (by decide) (by decide)
    obtain ⟨d, d1, d2, rfl⟩ := rng_of q5 (by decide) (by decide)
    rw [xN_nI (by omega), xN_nI (by omega), xN_nI (by omega), xN_nI (by omega)]
    refine ⟨vh_addS hv.1 a2 ⟨b1, b2⟩ ⟨c1, c2⟩ d2 q6 (fun h => ?_), hv.2.1, vg_np hv.2.2 q1⟩
    rcases q7 with q | q
    · have : (2 : Int32) ≤ nI a := (nI_leI (a := 2) (by omega) (by omega)).mpr h
      simp [this] at q
    · exact q
  · rw [if_neg q]; exact hv
theorem vv_N {hs : HSt} {gs : List GSt} (hv : VA hs gs) (j p s : Int32) : VA (if okN hs gs j p s then addN hs (xN j) (xN p) (xN s) else hs) gs := by
  by_cases q : okN hs gs j p s = true
  · rw [if_pos q]
    have hs24 := hv.1.2.1
    simp only [okN, Bool.and_eq_true, Bool.not_eq_true', decide_eq_true_eq] at q
    obtain ⟨⟨⟨q1, q2⟩, q3⟩, q4⟩ := q
    obtain ⟨j, hj, rfl⟩ := dec_ix q2 (by omega)
    obtain ⟨p, s, hp, hs9, rfl, rfl⟩ := prOK_ex q3 hv.1
    have hp12 := hv.1.1.1
    have hk := hv.1.1.k hp
    rw [xN_nI (by omega)] at q4
    rw [xN_nI (by omega), xN_nI (by omega), xN_nI (by omega)]
    exact ⟨vh_addN hv.1 hj hp hs9 q4, hv.2.1, vg_np hv.2.2 q1⟩
  · rw [if_neg q]; exact hv
theorem vv_V {hs : HSt} {gs : List GSt} (hv : VA hs gs) (j p s : Int32) : VA (if okV hs gs j p s then addV hs (xN j) (xN p) (xN s) else hs) gs := by
  by_cases q : okV hs gs j p s = true
  · rw [if_pos q]
    have hs24 := hv.1.2.1
    simp only [okV, Bool.and_eq_true, Bool.not_eq_true', decide_eq_true_eq] at q
    obtain ⟨⟨⟨⟨q1, q2⟩, q3⟩, q4⟩, q5⟩ := q
    obtain ⟨j, hj, rfl⟩ := dec_ix q2 (by omega)
    obtain ⟨p, s, hp, hs9, rfl, rfl⟩ := prOK_ex q3 hv.1
    have hp12 := hv.1.1.1
    have hk := hv.1.1.k hp
    rw [xN_nI (by omega)] at q4 q5
    rw [xN_nI (by omega), xN_nI (by omega), xN_nI (by omega)]
    refine ⟨vh_addV hv.1 hj hp hs9 q4 (fun z hz e => ?_), hv.2.1, vg_np hv.2.2 q1⟩
    have : ((hs.2.1.getD j sz0).2.2.2.2.2.any (fun q => nI q.1 == nI p)) = true := List.any_eq_true.mpr ⟨z, hz, by rw [e]; exact beq_self_eq_true _⟩
    rw [q5] at this; cases this
  · rw [if_neg q]; exact hv
theorem vv_G {hs : HSt} {gs : List GSt} (hv : VA hs gs) (p s : Int32) : VA (if okG hs gs p s then addG hs (xN p) (xN s) else hs) gs := by
  by_cases q : okG hs gs p s = true
  · rw [if_pos q]
    simp only [okG, Bool.and_eq_true, Bool.not_eq_true', decide_eq_true_eq] at q
    obtain ⟨⟨q1, q3⟩, q4⟩ := q
    obtain ⟨p, s, hp, hs9, rfl, rfl⟩ := prOK_ex q3 hv.1
    have hp12 := hv.1.1.1
    have hk := hv.1.1.k hp
    rw [xN_nI (by omega), xN_nI (by omega)]
    exact ⟨vh_addG hv.1 hp hs9 q4, hv.2.1, vg_np hv.2.2 q1⟩
  · rw [if_neg q]; exact hv
theorem vv_H {hs : HSt} {gs : List GSt} (hv : VA hs gs) (n : Int32) : VA (if okH gs n then setH hs (xN n) else hs) gs := by
  by_cases q : okH gs n = true
  · rw [if_pos q]
    obtain ⟨q1, q2⟩ := np_of q
    obtain ⟨n, h1, h2, rfl⟩ := rng_of q2 (by decide) (by decide)
    rw [xN_nI (by omega)]
    exact ⟨vh_setH hv.1 h1 h2, hv.2.1, vg_np hv.2.2 q1⟩
  · rw [if_neg q]; exact hv
theorem vv_R {hs : HSt} {gs : List GSt} (hv : VA hs gs) (p x y : Int32) : VA (if okR hs gs p x y then setR hs (xN p) x y else hs) gs := by
  by_cases q : okR hs gs p x y = true
  · rw [if_pos q]
    have hp12 := hv.1.1.1
    simp only [okR, Bool.and_eq_true, Bool.not_eq_true'] at q
    obtain ⟨⟨⟨q1, q2⟩, q3⟩, q4⟩ := q
    obtain ⟨i, hi, rfl⟩ := dec_ix q2 (by omega)
    obtain ⟨x, s, hx, hs9, rfl, rfl⟩ := prOK_ex q4 hv.1
    rw [xN_nI (by omega)]
    refine ⟨vh_setP hv.1 (fun _ => ⟨rfl, rfl⟩) hi, vx_setR hv.2.1 hi hx (fun e => ?_) hs9, vg_np hv.2.2 q1⟩
    rw [e] at q3; simp at q3
  · rw [if_neg q]; exact hv
theorem vv_E {hs : HSt} {gs : List GSt} (hv : VA hs gs) (p s : Int32) : VA (if okE hs gs p s then setE hs (xN p) s else hs) gs := by
  by_cases q : okE hs gs p s = true
  · rw [if_pos q]
    have hp12 := hv.1.1.1
    obtain ⟨q1, q2⟩ := np_of q
    obtain ⟨i, s, hi, hs9, rfl, rfl⟩ := prOK_ex q2 hv.1
    rw [xN_nI (by omega)]
    exact ⟨vh_setP hv.1 (fun _ => ⟨rfl, rfl⟩) hi, vx_setE hv.2.1 hi hs9, vg_np hv.2.2 q1⟩
  · rw [if_neg q]; exact hv
theorem vv_D {hs : HSt} {gs : List GSt} (hv : VA hs gs) (p s : Int32) : VA (if okD hs p s then setD hs (xN p) s else hs) gs := by
  by_cases q : okD hs p s = true
  · rw [if_pos q]
    have hp12 := hv.1.1.1
    simp only [okD, Bool.and_eq_true, Bool.or_eq_true] at q
    obtain ⟨q2, q3⟩ := q
    obtain ⟨i, hi, rfl⟩ := dec_ix q2 (by omega)
    rw [xN_nI (by omega)]
    have hG : VG (setD hs i s) gs := ⟨hv.2.2.1, fun g hg hp => by rw [show hall (setD hs i s) = hall hs from hall_setP (fun _ => rfl) hi]; exact hv.2.2.2 g hg hp⟩
    refine ⟨vh_setP hv.1 (fun _ => ⟨rfl, rfl⟩) hi, ?_, hG⟩
    rcases q3 with q3 | q3
    · rw [eq_of_beq q3]; exact vx_setDn hv.2.1 hi
    · obtain ⟨i2, s, hi2, hs9, e1, rfl⟩ := prOK_ex q3 hv.1
      have e2 : i = i2 := by rw [← xN_nI (n := i) (by omega), e1, xN_nI (by omega)]
      subst e2
      exact vx_setD hv.2.1 hi hs9
  · rw [if_neg q]; exact hv
theorem vg_set {hs : HSt} {gs : List GSt} (hv : VG hs gs) {g0 : Nat} {q : GSt} (h : q.1 = true → q.2.1 < hall hs ∧ 1 ≤ q.2.2.1 ∧ q.2.2.1 ≤ 9) : VG hs (gs.set g0 q) := by
  refine ⟨by rw [List.length_set]; exact hv.1, fun g hg hp => ?_⟩
  by_cases hl : g0 < gs.length
  · rw [gd_set hl] at hp ⊢
    by_cases e : g = g0
    · rw [if_pos e] at hp ⊢; exact h hp
    · rw [if_neg e] at hp ⊢; exact hv.2 g hg hp
  · rw [List.set_eq_of_length_le (by omega)] at hp ⊢; exact hv.2 g hg hp
theorem vv_I {hs : HSt} {gs : List GSt} (hv : VA hs gs) (x : Int32) : VA hs (if okI gs x then gsI hs gs x else gs) := by
  by_cases q : okI gs x = true
  · rw [if_pos q]
    simp only [okI, Bool.and_eq_true] at q
    obtain ⟨k, h1, h2, rfl⟩ := rng_of q.1 (by decide) (by decide)
    refine ⟨hv.1, hv.2.1, vg_set hv.2.2 (fun _ => ⟨hsta_lt hv.1, ?_⟩)⟩
    show 1 ≤ xN (nI k) ∧ xN (nI k) ≤ 9
    rw [xN_nI (by omega)]; exact ⟨h1, h2⟩
  · rw [if_neg q]; exact hv
theorem vv_A {hs : HSt} {gs : List GSt} (hv : VA hs gs) (g s : Int32) : VA hs (if acO hs gs g s then gsA hs gs g s else gs) := by
  by_cases q : acO hs gs g s = true
  · rw [if_pos q]
    have hs24 := hv.1.2.1
    simp only [acO, acA, Bool.and_eq_true] at q
    obtain ⟨⟨⟨q1, q2⟩, q3⟩, q4⟩ := q
    obtain ⟨g, hg, rfl, hp, eq⟩ := isG_ex q1
    obtain ⟨j, hj, rfl⟩ := dec_ix q2 (by omega)
    have hh := hv.2.2.2 g hg hp
    refine ⟨hv.1, hv.2.1, vg_set hv.2.2 (fun _ => ?_)⟩
    show aft hs (gAt gs (nI g)).2.1 (xN (nI j)) < hall hs ∧ 1 ≤ (gAt gs (nI g)).2.2.1 ∧ (gAt gs (nI g)).2.2.1 ≤ 9
    rw [eq, xN_nI (by omega)]
    exact ⟨aft_lt hv.1 hh.1 hj, hh.2⟩
  · rw [if_neg q]; exact hv
theorem vv_L {hs : HSt} {gs : List GSt} (hv : VA hs gs) (g : Int32) : VA hs (if isG gs g then gsL gs g else gs) := by
  by_cases q : isG gs g = true
  · rw [if_pos q]; exact ⟨hv.1, hv.2.1, vg_set hv.2.2 (fun h => absurd (show false = true from h) (by decide))⟩
  · rw [if_neg q]; exact hv
theorem vg_C {hs hs2 : HSt} {gs : List GSt} (hv : VG hs gs) : VG hs2 (gsC gs) := by
  refine ⟨by unfold gsC; rw [List.length_map]; exact hv.1, fun g hg hp => ?_⟩
  exfalso
  unfold gsC at hp
  rw [List.getD_eq_getElem?_getD, List.getElem?_map] at hp
  cases q : gs[g]? with
  | none => rw [q] at hp; exact absurd hp (by decide)
  | some z => rw [q] at hp; exact absurd (show false = true from hp) (by decide)
theorem vv_C {hs : HSt} {gs : List GSt} (hv : VA hs gs) : VA hs (gsC gs) := ⟨hv.1, hv.2.1, vg_C hv.2.2⟩
theorem vv_CC {hs : HSt} {gs : List GSt} (hv : VA hs gs) : VA hsC (gsC gs) := ⟨vh_C, vx_C, vg_C hv.2.2⟩
theorem vv_Z : VA hsC gsZ := ⟨vh_C, vx_C, rfl, fun g hg hp => absurd hp (by rw [gsz_at hg]; decide)⟩
theorem lg_A {hs : HSt} {gs : List GSt} {lg : Lg} {j : Nat} (h : lg.length ≤ j) (g s : Int32) : (if acO hs gs g s then lgA hs gs lg g s else lg).length ≤ j + 1 := by
  by_cases q : acO hs gs g s = true
  · rw [if_pos q]; unfold lgA; rw [List.length_append]; simp; exact h
  · rw [if_neg q]; omega
/-- room -/
def KB (k n j most cap : Nat) : Prop := (most = 256 ∨ most = 20000) ∧ (cap = 256 ∨ cap = 20000) ∧ k ≤ 82 + 8 * j + (if most = 256 then 0 else 14) + (if cap = 256 then 0 else 1) ∧ n ≤ 1650000 + 87 * j + (if most = 256 then 0 else 200022) + (if cap = 256 then 0 else 20000)
theorem KB.le {k n j most cap : Nat} (h : KB k n j most cap) (hj : j ≤ 512) : k ≤ 61024 ∧ n ≤ 8913034 := by
  obtain ⟨h1, h2, h3, h4⟩ := h
  rcases h1 with rfl | rfl <;> rcases h2 with rfl | rfl <;> simp at h3 h4 <;> omega
theorem KB.cap {k n j most cap : Nat} (h : KB k n j most cap) : 256 ≤ cap := by rcases h.2.1 with e | e <;> omega
theorem KB.c {k n j most cap : Nat} (h : KB k n j most cap) (c s : Nat) (hc : c ≤ 8) (hs : s ≤ 87) : KB (k + c) (n + s) (j + 1) most cap := by
  obtain ⟨h1, h2, h3, h4⟩ := h
  exact ⟨h1, h2, by omega, by omega⟩
theorem KB.w {k n j most cap : Nat} {hs : HSt} (h : KB k n j most cap) (hv : VH hs) : KB (k + wdc most hs) (n + wds most hs) (j + 1) (wdm most hs) cap := by
  obtain ⟨h1, h2, h3, h4⟩ := h
  have hall2 := hv.2.2.2.2.2.2.2
  unfold wdc wds wdm
  by_cases e : most < hall hs
  · rcases h1 with rfl | rfl
    · simp only [if_pos e]
      simp only [if_true] at h3 h4
      exact ⟨Or.inr rfl, h2, by simp only [show ¬ (20000 : Nat) = 256 by decide, if_false]; omega, by simp only [show ¬ (20000 : Nat) = 256 by decide, if_false]; omega⟩
    · omega
  · simp only [if_neg e]
    exact ⟨h1, h2, by omega, by omega⟩
theorem KB.b {k n j most cap : Nat} {hs : HSt} (b : Bool) (h : KB k n j most cap) (hv : VH hs) : KB (k + wc b most hs) (n + ws b most hs) (j + 1) (wm b most hs) cap := by
  cases b with
  | true => exact h.w hv
  | false => exact h.c 0 0 (by decide) (by decide)
theorem KB.y {k n j most cap : Nat} {hs : HSt} (v : Int32) (h : KB k n j most cap) (hv : VH hs) : KB (k + wyc most cap hs v) (n + wys most cap hs v) (j + 1) (wm (isC hs v) most hs) (wym cap hs v) := by
  obtain ⟨h1, h2, h3, h4⟩ := h.b (isC hs v) hv
  have hall2 := hv.2.2.2.2.2.2.2
  unfold wyc wys wym
  by_cases e : wyb hs v = true
  · simp only [if_pos e]
    unfold rbc rbs rbm
    by_cases e2 : cap < hall hs
    · rcases h2 with rfl | rfl
      · simp only [if_pos e2]
        simp only [if_true] at h3 h4
        exact ⟨h1, Or.inr rfl, by simp only [show ¬ (20000 : Nat) = 256 by decide, if_false]; omega, by simp only [show ¬ (20000 : Nat) = 256 by decide, if_false]; omega⟩
      · omega
    · simp only [if_neg e2, Nat.add_zero]
      exact ⟨h1, h2, h3, h4⟩
  · simp only [if_neg e, Nat.add_zero]
    exact ⟨h1, h2, h3, h4⟩
/-- the two heaps apart -/
theorem MoS.frC {h h2 : Nat → Option aC} {a : Nat} {A : Nat → Nat} {sc : Nat → Int32} {ar : Nat → Nat → Int32} {T : List Nat} (hm : MoS h a A sc ar) (f : Fr T h h2) (ht : ∀ y, 50 ≤ y → y ≤ 119 → y ∉ T) : MoS h2 a A sc ar := by
  obtain ⟨m1, m2, m3, m4⟩ := hm
  refine ⟨f _ _ m1 (ht 50 (by decide) (by decide)), fun q hq => f _ _ (m2 q hq) (ht (60 + q) (by omega) ?_), fun q hq => f _ _ (m3 q hq) (ht (60 + q) (by omega) ?_), f _ _ m4 (ht 94 (by decide) (by decide))⟩
  · have h2 : q ∈ mial := by simpa [mia] using hq
    have := (by decide : ∀ z ∈ mial, z ≤ 53) q h2
    omega
  · have h2 : q ∈ [29, 42, 44] := by simpa [miz] using hq
    have := (by decide : ∀ z ∈ [29, 42, 44], z ≤ 53) q h2
    omega
theorem cts_far {y : Nat} (h1 : 50 ≤ y) (h2 : y ≤ 120) : y ∉ CTs := fun h => by
  have := mem_CTs.mp h; omega
theorem CL.frM {h h2 : Nat → Option aC} {x : Nat} {B : LB} {hs : HSt} {ad : AD} {A : Nat → Nat} {most : Nat} {fl : WFl} {L L2 : List Nat} {ar : Nat → Nat → Int32} {n : Nat} {gs : List GSt} {lg : Lg} {xs : List Int32} {cap : Nat} {T : List Nat} (hc : CL h x B hs ad A most fl L L2 ar n gs lg xs cap) (hv : VH hs) (f : Fr T h h2) (ht : ∀ y ∈ T, 50 ≤ y ∧ y ≤ 120) : CL h2 x B hs ad A most fl L L2 ar n gs lg xs cap :=
  ⟨hc.1.fr f (fun y hy hm => by have := ht y hm; omega), hc.2.1.fr hv f (fun y hy hm => by have := ht y hm; unfold HT at hy; omega), hc.2.2.1, hc.2.2.2.1.fr f (fun y hy hm => by have := ht y hm; simp only [WTg, List.mem_cons, List.not_mem_nil, or_false] at hy; omega), hc.2.2.2.2⟩
theorem mt_far : ∀ y ∈ MT, 50 ≤ y ∧ y ≤ 120 := by decide
theorem mt_120 : 120 ∉ MT := by decide
