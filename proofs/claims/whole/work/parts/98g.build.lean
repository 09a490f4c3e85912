/-! building -/
theorem ht_ct {h h2 : Nat → Option aC} (f : Fr HTs h h2) : Fr CTs h h2 := f.up (fun x hx => mem_CTs.mpr (by have := mem_HTs.mp hx; unfold HT at this; omega))
theorem wi_no {hs : HSt} {most : Nat} {e : Int32} {L : List Nat} {ar : Nat → Nat → Int32} : WIv hs most (false, false, false, e) L ar := ⟨fun q => absurd (show false = true from q) (by decide), fun q => absurd (show false = true from q) (by decide), fun q => absurd (show false = true from q) (by decide)⟩
set_option maxHeartbeats 4000000 in
set_option maxRecDepth 20000 in
theorem c_LH_prop {G : aG} {nx : Nat} {h : Nat → Option aC} {x : Nat} {B : LB} {hs : HSt} {ad : AD} {A : Nat → Nat} {most : Nat} {fl : WFl} {L L2 : List Nat} {ar : Nat → Nat → Int32} {n : Nat} {gs : List GSt} {lg : Lg} {xs : List Int32} {cap : Nat} (hc : CL h x B hs ad A most fl L L2 ar n gs lg xs cap) (hv : VH hs) (hg : gs.length = 4) (k f : Int32) : AMet G m_LH_prop 8 2 68 [.ref x, .int k, .int f] (nx, h) (LR h x B (.int (if okP hs gs k f then nI hs.1.length else -1)) (if okP hs gs k f then addP hs (xN k) (xN f) else hs) (gs) (lg) (xs) (most) (cap)) := by
  have hp12 := hv.1.1
  have hs24 := hv.2.1
  have hall2 := hv.2.2.2.2.2.2.2
  have hmst := hc.wk.mst
  refine amet_of pf_LH_prop (Nat.le_of_ble_eq_true rfl) ?_
  show AW G m_LH_prop 8 2 68 _ 0 [(0, .ref x), (1, .int k), (2, .int f)] [] (nx, h) 0 0
  refine aw_aload_n (i := 0) d_LH_prop_0 rfl rfl ?_
  apply aw_callv_p (c_LH_playing hc hv hg) d_LH_prop_1 cl_LH_57; exact hc.1.1; rfl; rfl; rfl; rfl; decide; exact Nat.le_of_ble_eq_true rfl; exact (by omega); exact (by omega)
  refine aw_ifN_gt d_LH_prop_4 (by have := cnt_le (fun g : GSt => g.1) gs; omega) (fun br4_ => ?_) (fun br4_ => ?_)
  · skip
    have hp9 : anyP gs = true := by rw [any_cnt]; exact decide_eq_true br4_
    have ok : okP hs gs k f = false := by unfold okP; rw [hp9]; rfl
    refine aw_iconst (v := -1) d_LH_prop_26 (by decide) ?_
    refine aw_iret d_LH_prop_27 rfl (by omega) (by omega) ?_
    exact ⟨(by rw [ok]; rfl), _, h, _, _, _, _, _, _, _, rfl, (by rw [ok]; exact hc), Fr.rf⟩
  · skip
    have hp9 : anyP gs = false := by rw [any_cnt]; exact decide_eq_false (by omega)
    refine aw_iload_n (i := 1) d_LH_prop_7 rfl rfl ?_
    refine aw_iconst (v := nI 2) d_LH_prop_8 (by decide) ?_
    refine aw_icmp_lt d_LH_prop_9 (fun br9_ => ?_) (fun br9_ => ?_)
    · skip
      have ok : okP hs gs k f = false := by unfold okP; rw [hp9, show rng 2 4 k = false from decide_eq_false (fun q => absurd (Int32.lt_of_lt_of_le br9_ q.1) Int32.lt_irrefl)]; rfl
      refine aw_iconst (v := -1) d_LH_prop_26 (by decide) ?_
      refine aw_iret d_LH_prop_27 rfl (by omega) (by omega) ?_
      exact ⟨(by rw [ok]; rfl), _, h, _, _, _, _, _, _, _, rfl, (by rw [ok]; exact hc), Fr.rf⟩
    · skip
      refine aw_iload_n (i := 1) d_LH_prop_12 rfl rfl ?_
      refine aw_iconst (v := nI 4) d_LH_prop_13 (by decide) ?_
      refine aw_icmp_gt d_LH_prop_14 (fun br14_ => ?_) (fun br14_ => ?_)
      · skip
        have ok : okP hs gs k f = false := by unfold okP; rw [hp9, show rng 2 4 k = false from decide_eq_false (fun q => absurd (Int32.lt_of_lt_of_le br14_ q.2) Int32.lt_irrefl)]; rfl
        refine aw_iconst (v := -1) d_LH_prop_26 (by decide) ?_
        refine aw_iret d_LH_prop_27 rfl (by omega) (by omega) ?_
        exact ⟨(by rw [ok]; rfl), _, h, _, _, _, _, _, _, _, rfl, (by rw [ok]; exact hc), Fr.rf⟩
      · skip
        have hr9 : rng 2 4 k = true := decide_eq_true ⟨Int32.not_lt.mp br9_, Int32.not_lt.mp br14_⟩
        refine aw_iload_n (i := 2) d_LH_prop_17 rfl rfl ?_
        refine aw_if_lt d_LH_prop_18 (fun br18_ => ?_) (fun br18_ => ?_)
        · skip
          have ok : okP hs gs k f = false := by unfold okP; rw [hp9, hr9, show decide (0 ≤ f ∧ f < k) = false from decide_eq_false (fun q => absurd br18_ (Int32.not_lt.mpr q.1))]; rfl
          refine aw_iconst (v := -1) d_LH_prop_26 (by decide) ?_
          refine aw_iret d_LH_prop_27 rfl (by omega) (by omega) ?_
          exact ⟨(by rw [ok]; rfl), _, h, _, _, _, _, _, _, _, rfl, (by rw [ok]; exact hc), Fr.rf⟩
        · skip
          refine aw_iload_n (i := 2) d_LH_prop_21 rfl rfl ?_
          refine aw_iload_n (i := 1) d_LH_prop_22 rfl rfl ?_
          refine aw_icmp_lt d_LH_prop_23 (fun br23_ => ?_) (fun br23_ => ?_)
          · skip
            have hd9 : decide (0 ≤ f ∧ f < k) = true := decide_eq_true ⟨Int32.not_lt.mp br18_, br23_⟩
            obtain ⟨k0, hk1, hk2, rfl⟩ := rng_of hr9 (by decide) (by decide)
            obtain ⟨f0, hf9, rfl⟩ := dec_ix hd9 (by omega)
            have ek : xN (nI k0) = k0 := xN_nI (by omega)
            have ef : xN (nI f0) = f0 := xN_nI (by omega)
            have hml : hall hs * k0 ≤ 20000 * 4 := Nat.mul_le_mul hall2 hk2
            refine aw_aload_n (i := 0) d_LH_prop_28 rfl rfl ?_
            apply aw_get d_LH_prop_29 fl_LH_10; exact hc.1.1; rfl
            apply aw_get d_LH_prop_32 fl_LH_61; exact hc.2.1.1; rfl
            apply aw_callv_p (ho_np hc.2.1) d_LH_prop_35 cl_LH_64; exact (ho_pl hc.2.1).choose_spec; rfl; rfl; rfl; rfl; decide; exact Nat.le_of_ble_eq_true rfl; exact (by omega); exact (by omega)
            refine aw_bipush (v := nI 12) d_LH_prop_38 (by decide) ?_
            refine aw_icmpN_ge d_LH_prop_40 (by omega) (by omega) (fun br40_ => ?_) (fun br40_ => ?_)
            · skip
              have ok : okP hs gs (nI k0) (nI f0) = false := by unfold okP; rw [hp9, hr9, hd9, decide_eq_false (show ¬ hs.1.length < 12 by omega)]; rfl
              refine aw_iconst (v := -1) d_LH_prop_58 (by decide) ?_
              refine aw_iret d_LH_prop_59 rfl (by omega) (by omega) ?_
              exact ⟨(by rw [ok]; rfl), _, h, _, _, _, _, _, _, _, rfl, (by rw [ok]; exact hc), Fr.rf⟩
            · skip
              refine aw_aload_n (i := 0) d_LH_prop_43 rfl rfl ?_
              apply aw_get d_LH_prop_44 fl_LH_10; exact hc.1.1; rfl
              apply aw_get d_LH_prop_47 fl_LH_67; exact hc.2.1.1; rfl
              refine aw_iload_n (i := 1) d_LH_prop_50 rfl rfl ?_
              refine aw_imulN d_LH_prop_51 ?_
              refine aw_sipush (v := nI 20000) d_LH_prop_52 (by decide) ?_
              refine aw_icmpN_le d_LH_prop_55 (by omega) (by omega) (fun br55_ => ?_) (fun br55_ => ?_)
              · skip
                have ok : okP hs gs (nI k0) (nI f0) = true := by unfold okP; rw [hp9, hr9, hd9, ek, decide_eq_true (show hs.1.length < 12 by omega), decide_eq_true br55_]; rfl
                refine aw_aload_n (i := 0) d_LH_prop_60 rfl rfl ?_
                apply aw_get d_LH_prop_61 fl_LH_53; exact hc.1.1; rfl
                apply aw_callv d_LH_prop_64 cl_LH_71 (c_Walk_forget hc.wk hv); exact hc.2.2.2.1.1; rfl; rfl; rfl; rfl; decide; exact (by omega); exact (by omega); exact Nat.le_of_ble_eq_true rfl
                rintro _ _ ⟨rfl, h1, rfl, hw9⟩
                have hc := hc.walk hw9 wi_no
                have FR : Fr CTs h h1 := ct_up hw9.2.2.2 (fun y hy => by simp only [WTg, List.mem_cons, List.not_mem_nil, or_false] at hy; omega)
                refine aw_aload_n (i := 0) d_LH_prop_67 rfl rfl ?_
                apply aw_get d_LH_prop_68 fl_LH_10; exact hc.1.1; rfl
                refine aw_iload_n (i := 1) d_LH_prop_71 rfl rfl ?_
                refine aw_iload_n (i := 2) d_LH_prop_72 rfl rfl ?_
                apply aw_callv d_LH_prop_73 cl_LH_74 (c_House_addProp hc.2.1 hv hk1 hk2 hf9 (by omega)); exact hc.2.1.1; rfl; rfl; rfl; rfl; decide; exact (by omega); exact (by omega); exact Nat.le_of_ble_eq_true rfl
                rintro _ _ ⟨rfl, n2, h2, b, rfl, hn1, hn2, hd, ho9, f9⟩
                have hc := hc.hou ⟨rfl, rfl, rfl⟩ ho9 rfl f9 (fun y hy => mem_HTs.mp hy)
                have FR := FR.tr (ht_ct f9)
                refine aw_iret d_LH_prop_76 rfl (by omega) (by omega) ?_
                exact ⟨(by rw [ok]; rfl), n2, h2, _, _, _, _, _, _, _, rfl, (by rw [ok]; show CL _ _ _ (addP hs (xN (nI k0)) (xN (nI f0))) _ _ _ _ _ _ _ _ _ _ _ _; rw [ek, ef]; exact hc), FR⟩
              · skip
                have ok : okP hs gs (nI k0) (nI f0) = false := by unfold okP; rw [hp9, hr9, hd9, ek, decide_eq_false (show ¬ hall hs * k0 ≤ 20000 by omega), Bool.and_false]
                refine aw_iconst (v := -1) d_LH_prop_58 (by decide) ?_
                refine aw_iret d_LH_prop_59 rfl (by omega) (by omega) ?_
                exact ⟨(by rw [ok]; rfl), _, h, _, _, _, _, _, _, _, rfl, (by rw [ok]; exact hc), Fr.rf⟩
          · skip
            have ok : okP hs gs k f = false := by unfold okP; rw [hp9, hr9, show decide (0 ≤ f ∧ f < k) = false from decide_eq_false (fun q => br23_ q.2)]; rfl
            refine aw_iconst (v := -1) d_LH_prop_26 (by decide) ?_
            refine aw_iret d_LH_prop_27 rfl (by omega) (by omega) ?_
            exact ⟨(by rw [ok]; rfl), _, h, _, _, _, _, _, _, _, rfl, (by rw [ok]; exact hc), Fr.rf⟩

set_option maxHeartbeats 4000000 in
set_option maxRecDepth 20000 in
theorem c_LH_hands {G : aG} {nx : Nat} {h : Nat → Option aC} {x : Nat} {B : LB} {hs : HSt} {ad : AD} {A : Nat → Nat} {most : Nat} {fl : WFl} {L L2 : List Nat} {ar : Nat → Nat → Int32} {n : Nat} {gs : List GSt} {lg : Lg} {xs : List Int32} {cap : Nat} (hc : CL h x B hs ad A most fl L L2 ar n gs lg xs cap) (hv : VH hs) (hg : gs.length = 4) (v : Int32) : AMet G m_LH_hands 4 0 0 [.ref x, .int v] (nx, h) (LR h x B (.int (if okH gs v then nI 1 else nI 0)) (if okH gs v then setH hs (xN v) else hs) (gs) (lg) (xs) (most) (cap)) := by
  have hp12 := hv.1.1
  have hs24 := hv.2.1
  have hall2 := hv.2.2.2.2.2.2.2
  have hmst := hc.wk.mst
  refine amet_of pf_LH_hands (Nat.le_of_ble_eq_true rfl) ?_
  show AW G m_LH_hands 4 0 0 _ 0 [(0, .ref x), (1, .int v)] [] (nx, h) 0 0
  refine aw_aload_n (i := 0) d_LH_hands_0 rfl rfl ?_
  apply aw_callv_p (c_LH_playing hc hv hg) d_LH_hands_1 cl_LH_57; exact hc.1.1; rfl; rfl; rfl; rfl; decide; exact Nat.le_of_ble_eq_true rfl; exact (by omega); exact (by omega)
  refine aw_ifN_gt d_LH_hands_4 (by have := cnt_le (fun g : GSt => g.1) gs; omega) (fun br4_ => ?_) (fun br4_ => ?_)
  · skip
    have hp9 : anyP gs = true := by rw [any_cnt]; exact decide_eq_true br4_
    have ok : okH gs v = false := by unfold okH; rw [hp9]; rfl
    refine aw_iconst (v := nI 0) d_LH_hands_14 (by decide) ?_
    refine aw_zret d_LH_hands_15 rfl rfl (by omega) (by omega) ?_
    exact ⟨(by rw [ok]; rfl), _, h, _, _, _, _, _, _, _, rfl, (by rw [ok]; exact hc), Fr.rf⟩
  · skip
    have hp9 : anyP gs = false := by rw [any_cnt]; exact decide_eq_false (by omega)
    refine aw_iload_n (i := 1) d_LH_hands_7 rfl rfl ?_
    apply aw_calls_p (c_LH_areHands v) d_LH_hands_8 cl_LH_78; rfl; rfl; decide; exact Nat.le_of_ble_eq_true rfl; exact (by omega); exact (by omega)
    refine aw_ifB_ne d_LH_hands_11 (fun br11_ => ?_) (fun br11_ => ?_)
    · skip
      have ok : okH gs v = true := by unfold okH; rw [hp9, br11_]; rfl
      obtain ⟨k0, hk1, hk2, rfl⟩ := rng_of br11_ (by decide) (by decide)
      have ek : xN (nI k0) = k0 := xN_nI (by omega)
      refine aw_aload_n (i := 0) d_LH_hands_16 rfl rfl ?_
      apply aw_get d_LH_hands_17 fl_LH_53; exact hc.1.1; rfl
      apply aw_callv d_LH_hands_20 cl_LH_71 (c_Walk_forget hc.wk hv); exact hc.2.2.2.1.1; rfl; rfl; rfl; rfl; decide; exact (by omega); exact (by omega); exact Nat.le_of_ble_eq_true rfl
      rintro _ _ ⟨rfl, h1, rfl, hw9⟩
      have hc := hc.walk hw9 wi_no
      have FR : Fr CTs h h1 := ct_up hw9.2.2.2 (fun y hy => by simp only [WTg, List.mem_cons, List.not_mem_nil, or_false] at hy; omega)
      refine aw_aload_n (i := 0) d_LH_hands_23 rfl rfl ?_
      apply aw_get d_LH_hands_24 fl_LH_10; exact hc.1.1; rfl
      refine aw_iload_n (i := 1) d_LH_hands_27 rfl rfl ?_
      apply aw_put d_LH_hands_28 pl_LH_125; exact hc.2.1.1; exact Nat.le_of_ble_eq_true rfl; rfl; rfl
      refine aw_nm hc.2.1.1 ?_
      intro h2 k3 f1 o1
      have ho9 : HoA h2 (setH hs k0) ad (hsta (setH hs k0)) := ⟨k3, HoR.fr (hs := hs) (ad := ad) hc.2.1.2 f1 (fun y hy => by unfold HRl at hy; rw [List.mem_singleton]; show ¬ y = 2; omega)⟩
      have hc := hc.hou ⟨rfl, rfl, rfl⟩ ho9 rfl f1 (fun y hy => by rw [List.mem_singleton.mp hy]; show HT 2; exact Or.inl (by decide))
      have FR := FR.tr (ct_up f1 (fun y hy => by rw [List.mem_singleton.mp hy]; show 1 ≤ 2 ∧ 2 ≤ 43; decide))
      refine aw_iconst (v := nI 1) d_LH_hands_31 (by decide) ?_
      refine aw_zret d_LH_hands_32 rfl rfl (by omega) (by omega) ?_
      exact ⟨(by rw [ok]; rfl), _, h2, _, _, _, _, _, _, _, rfl, (by rw [ok]; show CL _ _ _ (setH hs (xN (nI k0))) _ _ _ _ _ _ _ _ _ _ _ _; rw [ek]; exact hc), FR⟩
    · skip
      have ok : okH gs v = false := by unfold okH; rw [hp9, br11_]; rfl
      refine aw_iconst (v := nI 0) d_LH_hands_14 (by decide) ?_
      refine aw_zret d_LH_hands_15 rfl rfl (by omega) (by omega) ?_
      exact ⟨(by rw [ok]; rfl), _, h, _, _, _, _, _, _, _, rfl, (by rw [ok]; exact hc), Fr.rf⟩

set_option maxHeartbeats 4000000 in
set_option maxRecDepth 20000 in
theorem c_LH_step {G : aG} {nx : Nat} {h : Nat → Option aC} {x : Nat} {B : LB} {hs : HSt} {ad : AD} {A : Nat → Nat} {most : Nat} {fl : WFl} {L L2 : List Nat} {ar : Nat → Nat → Int32} {n : Nat} {gs : List GSt} {lg : Lg} {xs : List Int32} {cap : Nat} (hc : CL h x B hs ad A most fl L L2 ar n gs lg xs cap) (hv : VH hs) (hg : gs.length = 4) (kd hn tk rm : Int32) : AMet G m_LH_step 8 8 87 [.ref x, .int kd, .int hn, .int tk, .int rm] (nx, h) (LR h x B (.int (if okS hs gs kd hn tk rm then nI hs.2.1.length else -1)) (if okS hs gs kd hn tk rm then addS hs (xN kd) (xN hn) (xN tk) (xN rm) else hs) (gs) (lg) (xs) (most) (cap)) := by
  have hp12 := hv.1.1
  have hs24 := hv.2.1
  have hall2 := hv.2.2.2.2.2.2.2
  have hmst := hc.wk.mst
  refine amet_of pf_LH_step (Nat.le_of_ble_eq_true rfl) ?_
  show AW G m_LH_step 8 8 87 _ 0 [(0, .ref x), (1, .int kd), (2, .int hn), (3, .int tk), (4, .int rm)] [] (nx, h) 0 0
  refine aw_aload_n (i := 0) d_LH_step_0 rfl rfl ?_
  apply aw_callv_p (c_LH_playing hc hv hg) d_LH_step_1 cl_LH_57; exact hc.1.1; rfl; rfl; rfl; rfl; decide; exact Nat.le_of_ble_eq_true rfl; exact (by omega); exact (by omega)
  refine aw_ifN_gt d_LH_step_4 (by have := cnt_le (fun g : GSt => g.1) gs; omega) (fun br4_ => ?_) (fun br4_ => ?_)
  · skip
    have hp9 : anyP gs = true := by rw [any_cnt]; exact decide_eq_true br4_
    have ok : okS hs gs kd hn tk rm = false := by unfold okS; rw [hp9]; rfl
    refine aw_iconst (v := -1) d_LH_step_23 (by decide) ?_
    refine aw_iret d_LH_step_24 rfl (by omega) (by omega) ?_
    exact ⟨(by rw [ok]; rfl), _, h, _, _, _, _, _, _, _, rfl, (by rw [ok]; exact hc), Fr.rf⟩
  · skip
    have hp9 : anyP gs = false := by rw [any_cnt]; exact decide_eq_false (by omega)
    refine aw_iload_n (i := 1) d_LH_step_7 rfl rfl ?_
    refine aw_if_lt d_LH_step_8 (fun br8_ => ?_) (fun br8_ => ?_)
    · skip
      have ok : okS hs gs kd hn tk rm = false := by unfold okS; rw [hp9, show rng 0 3 kd = false from decide_eq_false (fun q => absurd br8_ (Int32.not_lt.mpr q.1))]; rfl
      refine aw_iconst (v := -1) d_LH_step_23 (by decide) ?_
      refine aw_iret d_LH_step_24 rfl (by omega) (by omega) ?_
      exact ⟨(by rw [ok]; rfl), _, h, _, _, _, _, _, _, _, rfl, (by rw [ok]; exact hc), Fr.rf⟩
    · skip
      refine aw_iload_n (i := 1) d_LH_step_11 rfl rfl ?_
      refine aw_iconst (v := nI 4) d_LH_step_12 (by decide) ?_
      refine aw_icmp_ge d_LH_step_13 (fun br13_ => ?_) (fun br13_ => ?_)
      · skip
        have ok : okS hs gs kd hn tk rm = false := by unfold okS; rw [hp9, show rng 0 3 kd = false from decide_eq_false (fun q => absurd (Int32.le_trans br13_ q.2) (by decide))]; rfl
        refine aw_iconst (v := -1) d_LH_step_23 (by decide) ?_
        refine aw_iret d_LH_step_24 rfl (by omega) (by omega) ?_
        exact ⟨(by rw [ok]; rfl), _, h, _, _, _, _, _, _, _, rfl, (by rw [ok]; exact hc), Fr.rf⟩
      · skip
        have r1 : rng 0 3 kd = true := by
          obtain ⟨j, hj, rfl⟩ := dec_ix (x := kd) (n := 4) (decide_eq_true ⟨Int32.not_lt.mp br8_, Int32.not_le.mp br13_⟩) (by decide)
          exact decide_eq_true ⟨Int32.not_lt.mp br8_, (nI_leI (by omega) (by decide)).mpr (by omega)⟩
        refine aw_iload_n (i := 2) d_LH_step_16 rfl rfl ?_
        apply aw_calls_p (c_LH_areHands hn) d_LH_step_17 cl_LH_78; rfl; rfl; decide; exact Nat.le_of_ble_eq_true rfl; exact (by omega); exact (by omega)
        refine aw_ifB_ne d_LH_step_20 (fun br20_ => ?_) (fun br20_ => ?_)
        · skip
          refine aw_iload_n (i := 3) d_LH_step_25 rfl rfl ?_
          refine aw_iconst (v := nI 1) d_LH_step_26 (by decide) ?_
          refine aw_icmp_lt d_LH_step_27 (fun br27_ => ?_) (fun br27_ => ?_)
          · skip
            have ok : okS hs gs kd hn tk rm = false := by unfold okS; rw [hp9, r1, br20_, show rng 1 100 tk = false from decide_eq_false (fun q => absurd (Int32.lt_of_lt_of_le br27_ q.1) Int32.lt_irrefl)]; rfl
            refine aw_iconst (v := -1) d_LH_step_48 (by decide) ?_
            refine aw_iret d_LH_step_49 rfl (by omega) (by omega) ?_
            exact ⟨(by rw [ok]; rfl), _, h, _, _, _, _, _, _, _, rfl, (by rw [ok]; exact hc), Fr.rf⟩
          · skip
            refine aw_iload_n (i := 3) d_LH_step_30 rfl rfl ?_
            refine aw_bipush (v := nI 100) d_LH_step_31 (by decide) ?_
            refine aw_icmp_gt d_LH_step_33 (fun br33_ => ?_) (fun br33_ => ?_)
            · skip
              have ok : okS hs gs kd hn tk rm = false := by unfold okS; rw [hp9, r1, br20_, show rng 1 100 tk = false from decide_eq_false (fun q => absurd (Int32.lt_of_lt_of_le br33_ q.2) Int32.lt_irrefl)]; rfl
              refine aw_iconst (v := -1) d_LH_step_48 (by decide) ?_
              refine aw_iret d_LH_step_49 rfl (by omega) (by omega) ?_
              exact ⟨(by rw [ok]; rfl), _, h, _, _, _, _, _, _, _, rfl, (by rw [ok]; exact hc), Fr.rf⟩
            · skip
              have r3 : rng 1 100 tk = true := decide_eq_true ⟨Int32.not_lt.mp br27_, Int32.not_lt.mp br33_⟩
              refine aw_iload d_LH_step_36 rfl ?_
              refine aw_if_lt d_LH_step_38 (fun br38_ => ?_) (fun br38_ => ?_)
              · skip
                have ok : okS hs gs kd hn tk rm = false := by unfold okS; rw [hp9, r1, br20_, r3, show rng 0 7 rm = false from decide_eq_false (fun q => absurd br38_ (Int32.not_lt.mpr q.1))]; rfl
                refine aw_iconst (v := -1) d_LH_step_48 (by decide) ?_
                refine aw_iret d_LH_step_49 rfl (by omega) (by omega) ?_
                exact ⟨(by rw [ok]; rfl), _, h, _, _, _, _, _, _, _, rfl, (by rw [ok]; exact hc), Fr.rf⟩
              · skip
                refine aw_iload d_LH_step_41 rfl ?_
                refine aw_bipush (v := nI 8) d_LH_step_43 (by decide) ?_
                refine aw_icmp_lt d_LH_step_45 (fun br45_ => ?_) (fun br45_ => ?_)
                · skip
                  have r4 : rng 0 7 rm = true := by
                    obtain ⟨j, hj, rfl⟩ := dec_ix (x := rm) (n := 8) (decide_eq_true ⟨Int32.not_lt.mp br38_, br45_⟩) (by decide)
                    exact decide_eq_true ⟨Int32.not_lt.mp br38_, (nI_leI (by omega) (by decide)).mpr (by omega)⟩
                  obtain ⟨k0, hk1, hk2, rfl⟩ := rng_of r1 (by decide) (by decide)
                  obtain ⟨h0, hh1, hh2, rfl⟩ := rng_of br20_ (by decide) (by decide)
                  obtain ⟨t0, ht1, ht2, rfl⟩ := rng_of r3 (by decide) (by decide)
                  obtain ⟨m0, hm1, hm2, rfl⟩ := rng_of r4 (by decide) (by decide)
                  refine aw_aload_n (i := 0) d_LH_step_50 rfl rfl ?_
                  apply aw_get d_LH_step_51 fl_LH_10; exact hc.1.1; rfl
                  apply aw_get d_LH_step_54 fl_LH_82; exact hc.2.1.1; rfl
                  apply aw_callv_p (ho_ns hc.2.1) d_LH_step_57 cl_LH_64; exact (ho_sl hc.2.1).choose_spec; rfl; rfl; rfl; rfl; decide; exact Nat.le_of_ble_eq_true rfl; exact (by omega); exact (by omega)
                  refine aw_bipush (v := nI 24) d_LH_step_60 (by decide) ?_
                  refine aw_icmpN_ge d_LH_step_62 (by omega) (by omega) (fun br62_ => ?_) (fun br62_ => ?_)
                  · skip
                    have ok : okS hs gs (nI k0) (nI h0) (nI t0) (nI m0) = false := by unfold okS; rw [hp9, r1, br20_, r3, r4, decide_eq_false (show ¬ hs.2.1.length < 24 by omega)]; rfl
                    refine aw_iconst (v := -1) d_LH_step_85 (by decide) ?_
                    refine aw_iret d_LH_step_86 rfl (by omega) (by omega) ?_
                    exact ⟨(by rw [ok]; rfl), _, h, _, _, _, _, _, _, _, rfl, (by rw [ok]; exact hc), Fr.rf⟩
                  · skip
                    refine aw_iload_n (i := 1) d_LH_step_65 rfl rfl ?_
                    refine aw_iconst (v := nI 2) d_LH_step_66 (by decide) ?_
                    refine aw_icmpN_lt d_LH_step_67 (by omega) (by omega) (fun br67_ => ?_) (fun br67_ => ?_)
                    · skip
                      have ok : okS hs gs (nI k0) (nI h0) (nI t0) (nI m0) = true := by unfold okS; rw [hp9, r1, br20_, r3, r4, decide_eq_true (show hs.2.1.length < 24 by omega), k2N (by omega), decide_eq_false (show ¬ 2 ≤ k0 by omega)]; rfl
                      refine aw_aload_n (i := 0) d_LH_step_87 rfl rfl ?_
                      apply aw_get d_LH_step_88 fl_LH_53; exact hc.1.1; rfl
                      apply aw_callv d_LH_step_91 cl_LH_71 (c_Walk_forget hc.wk hv); exact hc.2.2.2.1.1; rfl; rfl; rfl; rfl; decide; exact (by omega); exact (by omega); exact Nat.le_of_ble_eq_true rfl
                      rintro _ _ ⟨rfl, h1, rfl, hw9⟩
                      have hc := hc.walk hw9 wi_no
                      have FR : Fr CTs h h1 := ct_up hw9.2.2.2 (fun y hy => by simp only [WTg, List.mem_cons, List.not_mem_nil, or_false] at hy; omega)
                      refine aw_aload_n (i := 0) d_LH_step_94 rfl rfl ?_
                      apply aw_get d_LH_step_95 fl_LH_10; exact hc.1.1; rfl
                      refine aw_dom ?_
                      intro hd
                      refine aw_new (300 + 20 * hs.2.1.length) (N := 7) d_LH_step_98 nl_LH_85 rfl (by omega) (by omega) ?_
                      refine aw_nn hd ?_
                      intro h3 hb f3 o3 hd
                      obtain ⟨hp8, ho8, e8, hw8, hi8⟩ := hc
                      have FR := FR.tr (f3.up (fun _ z => absurd z List.not_mem_nil))
                      have hp8 := hp8.fr f3 (fun y hy => List.not_mem_nil)
                      have ho8 := ho8.fr hv f3 (fun y hy => List.not_mem_nil)
                      have hw8 := hw8.fr f3 (fun y hy => List.not_mem_nil)
                      refine aw_dup d_LH_step_101 rfl ?_
                      refine aw_iload_n (i := 1) d_LH_step_102 rfl rfl ?_
                      refine aw_iload_n (i := 2) d_LH_step_103 rfl rfl ?_
                      refine aw_iload_n (i := 3) d_LH_step_104 rfl rfl ?_
                      refine aw_iload d_LH_step_105 rfl ?_
                      apply aw_calli d_LH_step_107 cl_LH_87 (c_Step_init hs.2.1.length ad.2.2.2.2.1 hb hd); rfl; rfl; decide; exact (by omega); exact (by omega); exact Nat.le_of_ble_eq_true rfl
                      rintro _ _ ⟨rfl, h4, rfl, hd, ⟨na, ga, hb, hP, hQ⟩, f4⟩
                      have FR := FR.tr (f4.up (fun y hy => mem_CTs.mpr (by simp only [List.mem_cons, List.not_mem_nil, or_false] at hy; omega)))
                      have hp8 := hp8.fr f4 (fun y hy => by simp only [List.mem_cons, List.not_mem_nil, or_false]; omega)
                      have ho8 := ho8.frs f4 (fun y hy => by unfold HRl at hy; simp only [List.mem_cons, List.not_mem_nil, or_false]; omega)
                      have hw8 := hw8.fr f4 (fun y hy => by simp only [WTg, List.mem_cons, List.not_mem_nil, or_false] at hy; simp only [List.mem_cons, List.not_mem_nil, or_false]; omega)
                      have hc : CL h4 x B hs ad A most (false, false, false, fl.2.2.2) L L2 ar n gs lg xs cap := ⟨hp8, ho8, e8, hw8, wi_no⟩
                      apply aw_callv d_LH_step_110 cl_LH_90 (c_House_addStep hc.2.1 hv hb hP hQ (by omega) (by omega) hd); exact hc.2.1.1; rfl; rfl; rfl; rfl; decide; exact (by omega); exact (by omega); exact Nat.le_of_ble_eq_true rfl
                      rintro _ _ ⟨rfl, n2, h2, rfl, hn1, hn2, hd, ho9, f9⟩
                      have hc := hc.hou (hs9 := addS hs k0 h0 t0 m0) ⟨rfl, rfl, rfl⟩ ho9 rfl f9 (fun y hy => mem_HTs.mp hy)
                      have FR := FR.tr (ht_ct f9)
                      refine aw_iret d_LH_step_113 rfl (by omega) (by omega) ?_
                      exact ⟨(by rw [ok]; rfl), n2, h2, _, _, _, _, _, _, _, rfl, (by rw [ok]; show CL _ _ _ (addS hs (xN (nI k0)) (xN (nI h0)) (xN (nI t0)) (xN (nI m0))) _ _ _ _ _ _ _ _ _ _ _ _; rw [xN_nI (by omega), xN_nI (by omega), xN_nI (by omega), xN_nI (by omega)]; exact hc), FR⟩
                    · skip
                      refine aw_aload_n (i := 0) d_LH_step_70 rfl rfl ?_
                      apply aw_get d_LH_step_71 fl_LH_10; exact hc.1.1; rfl
                      apply aw_get d_LH_step_74 fl_LH_67; exact hc.2.1.1; rfl
                      refine aw_iconst (v := nI 2) d_LH_step_77 (by decide) ?_
                      refine aw_imulN d_LH_step_78 ?_
                      refine aw_sipush (v := nI 20000) d_LH_step_79 (by decide) ?_
                      refine aw_icmpN_le d_LH_step_82 (by omega) (by omega) (fun br82_ => ?_) (fun br82_ => ?_)
                      · skip
                        have ok : okS hs gs (nI k0) (nI h0) (nI t0) (nI m0) = true := by unfold okS; rw [hp9, r1, br20_, r3, r4, decide_eq_true (show hs.2.1.length < 24 by omega), k2N (by omega), decide_eq_true (show 2 ≤ k0 by omega), decide_eq_true br82_]; rfl
                        refine aw_aload_n (i := 0) d_LH_step_87 rfl rfl ?_
                        apply aw_get d_LH_step_88 fl_LH_53; exact hc.1.1; rfl
                        apply aw_callv d_LH_step_91 cl_LH_71 (c_Walk_forget hc.wk hv); exact hc.2.2.2.1.1; rfl; rfl; rfl; rfl; decide; exact (by omega); exact (by omega); exact Nat.le_of_ble_eq_true rfl
                        rintro _ _ ⟨rfl, h1, rfl, hw9⟩
                        have hc := hc.walk hw9 wi_no
                        have FR : Fr CTs h h1 := ct_up hw9.2.2.2 (fun y hy => by simp only [WTg, List.mem_cons, List.not_mem_nil, or_false] at hy; omega)
                        refine aw_aload_n (i := 0) d_LH_step_94 rfl rfl ?_
                        apply aw_get d_LH_step_95 fl_LH_10; exact hc.1.1; rfl
                        refine aw_dom ?_
                        intro hd
                        refine aw_new (300 + 20 * hs.2.1.length) (N := 7) d_LH_step_98 nl_LH_85 rfl (by omega) (by omega) ?_
                        refine aw_nn hd ?_
                        intro h3 hb f3 o3 hd
                        obtain ⟨hp8, ho8, e8, hw8, hi8⟩ := hc
                        have FR := FR.tr (f3.up (fun _ z => absurd z List.not_mem_nil))
                        have hp8 := hp8.fr f3 (fun y hy => List.not_mem_nil)
                        have ho8 := ho8.fr hv f3 (fun y hy => List.not_mem_nil)
                        have hw8 := hw8.fr f3 (fun y hy => List.not_mem_nil)
                        refine aw_dup d_LH_step_101 rfl ?_
                        refine aw_iload_n (i := 1) d_LH_step_102 rfl rfl ?_
                        refine aw_iload_n (i := 2) d_LH_step_103 rfl rfl ?_
                        refine aw_iload_n (i := 3) d_LH_step_104 rfl rfl ?_
                        refine aw_iload d_LH_step_105 rfl ?_
                        apply aw_calli d_LH_step_107 cl_LH_87 (c_Step_init hs.2.1.length ad.2.2.2.2.1 hb hd); rfl; rfl; decide; exact (by omega); exact (by omega); exact Nat.le_of_ble_eq_true rfl
                        rintro _ _ ⟨rfl, h4, rfl, hd, ⟨na, ga, hb, hP, hQ⟩, f4⟩
                        have FR := FR.tr (f4.up (fun y hy => mem_CTs.mpr (by simp only [List.mem_cons, List.not_mem_nil, or_false] at hy; omega)))
                        have hp8 := hp8.fr f4 (fun y hy => by simp only [List.mem_cons, List.not_mem_nil, or_false]; omega)
                        have ho8 := ho8.frs f4 (fun y hy => by unfold HRl at hy; simp only [List.mem_cons, List.not_mem_nil, or_false]; omega)
                        have hw8 := hw8.fr f4 (fun y hy => by simp only [WTg, List.mem_cons, List.not_mem_nil, or_false] at hy; simp only [List.mem_cons, List.not_mem_nil, or_false]; omega)
                        have hc : CL h4 x B hs ad A most (false, false, false, fl.2.2.2) L L2 ar n gs lg xs cap := ⟨hp8, ho8, e8, hw8, wi_no⟩
                        apply aw_callv d_LH_step_110 cl_LH_90 (c_House_addStep hc.2.1 hv hb hP hQ (by omega) (by omega) hd); exact hc.2.1.1; rfl; rfl; rfl; rfl; decide; exact (by omega); exact (by omega); exact Nat.le_of_ble_eq_true rfl
                        rintro _ _ ⟨rfl, n2, h2, rfl, hn1, hn2, hd, ho9, f9⟩
                        have hc := hc.hou (hs9 := addS hs k0 h0 t0 m0) ⟨rfl, rfl, rfl⟩ ho9 rfl f9 (fun y hy => mem_HTs.mp hy)
                        have FR := FR.tr (ht_ct f9)
                        refine aw_iret d_LH_step_113 rfl (by omega) (by omega) ?_
                        exact ⟨(by rw [ok]; rfl), n2, h2, _, _, _, _, _, _, _, rfl, (by rw [ok]; show CL _ _ _ (addS hs (xN (nI k0)) (xN (nI h0)) (xN (nI t0)) (xN (nI m0))) _ _ _ _ _ _ _ _ _ _ _ _; rw [xN_nI (by omega), xN_nI (by omega), xN_nI (by omega), xN_nI (by omega)]; exact hc), FR⟩
                      · skip
                        have ok : okS hs gs (nI k0) (nI h0) (nI t0) (nI m0) = false := by unfold okS; rw [hp9, r1, br20_, r3, r4, decide_eq_true (show hs.2.1.length < 24 by omega), k2N (by omega), decide_eq_true (show 2 ≤ k0 by omega), decide_eq_false (show ¬ hall hs * 2 ≤ 20000 by omega)]; rfl
                        refine aw_iconst (v := -1) d_LH_step_85 (by decide) ?_
                        refine aw_iret d_LH_step_86 rfl (by omega) (by omega) ?_
                        exact ⟨(by rw [ok]; rfl), _, h, _, _, _, _, _, _, _, rfl, (by rw [ok]; exact hc), Fr.rf⟩
                · skip
                  have ok : okS hs gs kd hn tk rm = false := by unfold okS; rw [hp9, r1, br20_, r3, show rng 0 7 rm = false from decide_eq_false (fun q => br45_ (Int32.lt_of_le_of_lt q.2 (by decide)))]; rfl
                  refine aw_iconst (v := -1) d_LH_step_48 (by decide) ?_
                  refine aw_iret d_LH_step_49 rfl (by omega) (by omega) ?_
                  exact ⟨(by rw [ok]; rfl), _, h, _, _, _, _, _, _, _, rfl, (by rw [ok]; exact hc), Fr.rf⟩
        · skip
          have ok : okS hs gs kd hn tk rm = false := by unfold okS; rw [hp9, r1, br20_]; rfl
          refine aw_iconst (v := -1) d_LH_step_23 (by decide) ?_
          refine aw_iret d_LH_step_24 rfl (by omega) (by omega) ?_
          exact ⟨(by rw [ok]; rfl), _, h, _, _, _, _, _, _, _, rfl, (by rw [ok]; exact hc), Fr.rf⟩

