/-- something is built: what was charted is stale -/
theorem MoA.build {sc sc2 : Nat → Int32} {ar ar2 : Nat → Nat → Int32} {hs hs2 : HSt} {gs : List GSt} {lg : List (Nat × Nat × Nat)} {xs : List Int32} {Ls La : List Nat} (hq : MoA sc ar hs gs lg xs) (hh : MoH sc2 ar2 hs2) (hk : Kp Ls La sc ar sc2 ar2) (hz : sc2 23 = nI 1) (h1 : ([39, 50].all fun x => !Ls.contains x) = true) (h2 : ([38, 44, 45, 46, 47, 48, 49, 51, 52, 53].all fun x => !La.contains x) = true) : MoA sc2 ar2 hs2 gs lg xs := by
  simp only [List.all_cons, List.all_nil, Bool.and_eq_true, Bool.not_eq_true'] at h1 h2
  obtain ⟨a1, a2, -⟩ := h1
  obtain ⟨b1, d1, d2, d3, d4, d5, d6, e1, e2, e3, -⟩ := h2
  refine ⟨hh, hq.2.1.kp hk ?_, hq.2.2.1.kp hk a2 ?_, hq.2.2.2.1.kp hk a1 b1, ⟨true, hz, fun q => by cases q⟩⟩
  · simp only [List.all_cons, List.all_nil, Bool.and_eq_true, Bool.not_eq_true']; exact ⟨d1, d2, d3, d4, d5, d6, trivial⟩
  · simp only [List.all_cons, List.all_nil, Bool.and_eq_true, Bool.not_eq_true']; exact ⟨e1, e2, e3, trivial⟩
/-- what does not touch the charts -/
theorem MoA.side {sc sc2 : Nat → Int32} {ar ar2 : Nat → Nat → Int32} {hs hs2 : HSt} {gs : List GSt} {lg : List (Nat × Nat × Nat)} {xs : List Int32} {Ls La : List Nat} (hq : MoA sc ar hs gs lg xs) (hh : MoH sc2 ar2 hs2) (hk : Kp Ls La sc ar sc2 ar2) (hc : MoC sc ar hs → MoC sc ar hs2) (h1 : ([23, 39, 50].all fun x => !Ls.contains x) = true) (h2 : ([28, 29, 30, 38, 44, 45, 46, 47, 48, 49, 51, 52, 53].all fun x => !La.contains x) = true) : MoA sc2 ar2 hs2 gs lg xs := by
  simp only [List.all_cons, List.all_nil, Bool.and_eq_true, Bool.not_eq_true'] at h1 h2
  obtain ⟨a0, a1, a2, -⟩ := h1
  obtain ⟨c1, c2, c3, b1, d1, d2, d3, d4, d5, d6, e1, e2, e3, -⟩ := h2
  refine ⟨hh, hq.2.1.kp hk ?_, hq.2.2.1.kp hk a2 ?_, hq.2.2.2.1.kp hk a1 b1, (hc hq.2.2.2.2).kp hk a0 ?_⟩
  · simp only [List.all_cons, List.all_nil, Bool.and_eq_true, Bool.not_eq_true']; exact ⟨d1, d2, d3, d4, d5, d6, trivial⟩
  · simp only [List.all_cons, List.all_nil, Bool.and_eq_true, Bool.not_eq_true']; exact ⟨e1, e2, e3, trivial⟩
  · simp only [List.all_cons, List.all_nil, Bool.and_eq_true, Bool.not_eq_true']; exact ⟨c1, c2, c3, trivial⟩
theorem prOK_ex {hs : HSt} {p s : Int32} (h : prOK hs p s = true) (hv : VH hs) : ∃ i j, i < hs.1.length ∧ j < (hs.1.getD i pz).1 ∧ p = nI i ∧ s = nI j := by
  unfold prOK at h
  simp only [Bool.and_eq_true] at h
  have hp12 := hv.1.1
  obtain ⟨i, hi, rfl⟩ := dec_ix h.1 (by omega)
  have hk := hv.1.k hi
  rw [show (nI i).toNatClampNeg = i from nI_clamp (by omega)] at h
  obtain ⟨j, hj, rfl⟩ := dec_ix h.2 (by omega)
  exact ⟨i, j, hi, hj, rfl, rfl⟩
theorem andF {a b : Bool} (h : b = false) : (a && b) = false := by rw [h, Bool.and_false]
set_option maxHeartbeats 4000000 in
set_option maxRecDepth 20000 in
theorem c_Mod_prop {G : aG} {nx : Nat} {h h0 : Nat → Option aC} {a : Nat} {A : Nat → Nat} {sc : Nat → Int32} {ar : Nat → Nat → Int32} (hm : MoF h0 h a A sc ar) {hs : HSt} {gs : List GSt} {lg : List (Nat × Nat × Nat)} {xs : List Int32} (hq : MoA sc ar hs gs lg xs) (hv : VH hs) (k f : Int32) : AMet G m_Mod_prop 2 0 0 [.ref a, .int k, .int f] (nx, h) (MR nx a h0 A (fun r sc2 ar2 => r = some (.int (if okP hs gs k f then nI hs.1.length else -1)) ∧ sc2 0 = 0 ∧ MoA sc2 ar2 (if okP hs gs k f then addP hs (xN k) (xN f) else hs) gs lg xs)) := by
  have hp12 := hv.1.1
  have hs24 := hv.2.1
  have hall2 := hv.2.2.2.2.2.2.2
  have hq0 := hq
  refine amet_of pf_Mod_prop (Nat.le_of_ble_eq_true rfl) ?_
  show AW G m_Mod_prop 2 0 0 _ 0 [(0, .ref a), (1, .int k), (2, .int f)] [] (nx, h) 0 0
  refine aw_aload_n (i := 0) d_Mod_prop_0 rfl rfl ?_
  refine aw_iconst (v := nI 0) d_Mod_prop_1 (by decide) ?_
  apply mo_put (f := 0) hm d_Mod_prop_2 pl_Mod_150 (ms_0 _ _ _) (by decide) rfl rfl; intro h hm
  have hq := hq0.kp (Kp.put (Ls := [0]) (La := []) (f := 0) (x := nI 0) rfl) rfl rfl rfl rfl
  have hh := hq.1
  have hg := hq.2.1
  have hr := hq.2.2.2.1
  refine aw_aload_n (i := 0) d_Mod_prop_5 rfl rfl ?_
  apply aw_callv_p (c_Mod_plays hm hg) d_Mod_prop_6 cl_Mod_170; exact hm.1.1; rfl; rfl; rfl; rfl; decide; exact Nat.le_of_ble_eq_true rfl; exact (Nat.le_refl _); exact (Nat.le_refl _)
  refine aw_ifB_ne d_Mod_prop_9 (fun br9_ => ?_) (fun br9_ => ?_)
  · skip
    have hr_ : okP hs gs k f = false := by unfold okP; rw [br9_]; rfl
    refine aw_iconst (v := -1) d_Mod_prop_60 (by decide) ?_
    refine aw_iret d_Mod_prop_61 rfl (Nat.le_refl _) (Nat.le_refl _) ?_
    exact ⟨_, _, _, rfl, hm, by rw [hr_]; rfl, rfl, by rw [hr_]; exact hq⟩
  · skip
    refine aw_iload_n (i := 1) d_Mod_prop_12 rfl rfl ?_
    refine aw_i2l d_Mod_prop_13 ?_
    refine aw_ldc2 d_Mod_prop_14 kc_Mod_174 ?_
    refine aw_ldc2 d_Mod_prop_17 kc_Mod_176 ?_
    apply aw_calls_p (c_Mod_in _ _ _) d_Mod_prop_20 cl_Mod_156; rfl; rfl; decide; exact Nat.le_of_ble_eq_true rfl; exact (Nat.le_refl _); exact (Nat.le_refl _)
    rw [show decide ((2 : Int64) ≤ k.toInt64 ∧ k.toInt64 ≤ 4) = rng 2 4 k from in_rng (lo := 2) (hi := 4)]
    refine aw_ifB_eq d_Mod_prop_23 (fun br23_ => ?_) (fun br23_ => ?_)
    · skip
      have hr_ : okP hs gs k f = false := by unfold okP; rw [br9_, br23_]; rfl
      refine aw_iconst (v := -1) d_Mod_prop_60 (by decide) ?_
      refine aw_iret d_Mod_prop_61 rfl (Nat.le_refl _) (Nat.le_refl _) ?_
      exact ⟨_, _, _, rfl, hm, by rw [hr_]; rfl, rfl, by rw [hr_]; exact hq⟩
    · skip
      obtain ⟨k0, hk1, hk2, rfl⟩ := rng_of br23_ (by decide) (by decide)
      refine aw_iload_n (i := 2) d_Mod_prop_26 rfl rfl ?_
      refine aw_i2l d_Mod_prop_27 ?_
      refine aw_lconst (v := 0) d_Mod_prop_28 (by decide) ?_
      refine aw_iload_n (i := 1) d_Mod_prop_29 rfl rfl ?_
      refine aw_iconst (v := 1) d_Mod_prop_30 (by decide) ?_
      refine aw_isub d_Mod_prop_31 ?_
      refine aw_i2l d_Mod_prop_32 ?_
      apply aw_calls_p (c_Mod_in _ _ _) d_Mod_prop_33 cl_Mod_156; rfl; rfl; decide; exact Nat.le_of_ble_eq_true rfl; exact (Nat.le_refl _); exact (Nat.le_refl _)
      rw [in_ixd (by omega)]
      refine aw_ifB_eq d_Mod_prop_36 (fun br36_ => ?_) (fun br36_ => ?_)
      · skip
        have hr_ : okP hs gs (nI k0) f = false := by unfold okP; rw [br9_, br23_, br36_]; rfl
        refine aw_iconst (v := -1) d_Mod_prop_60 (by decide) ?_
        refine aw_iret d_Mod_prop_61 rfl (Nat.le_refl _) (Nat.le_refl _) ?_
        exact ⟨_, _, _, rfl, hm, by rw [hr_]; rfl, rfl, by rw [hr_]; exact hq⟩
      · skip
        obtain ⟨f0, hf0, rfl⟩ := dec_ix br36_ (by omega)
        refine aw_aload_n (i := 0) d_Mod_prop_39 rfl rfl ?_
        apply mo_gets (f := 1) hm d_Mod_prop_40 fl_Mod_153 rfl; exact hh.1.1
        refine aw_bipush (v := nI 12) d_Mod_prop_43 (by decide) ?_
        refine aw_icmpN_eq d_Mod_prop_45 (by omega) (by omega) (fun br45_ => ?_) (fun br45_ => ?_)
        · skip
          have hr_ : okP hs gs (nI k0) (nI f0) = false := by unfold okP; rw [br9_, br23_, br36_, decide_eq_false (show ¬ hs.1.length < 12 by omega)]; rfl
          refine aw_iconst (v := -1) d_Mod_prop_60 (by decide) ?_
          refine aw_iret d_Mod_prop_61 rfl (Nat.le_refl _) (Nat.le_refl _) ?_
          exact ⟨_, _, _, rfl, hm, by rw [hr_]; rfl, rfl, by rw [hr_]; exact hq⟩
        · skip
          refine aw_aload_n (i := 0) d_Mod_prop_48 rfl rfl ?_
          apply aw_callv_p (c_Mod_allCodes hm hh hv) d_Mod_prop_49 cl_Mod_178; exact hm.1.1; rfl; rfl; rfl; rfl; decide; exact Nat.le_of_ble_eq_true rfl; exact (Nat.le_refl _); exact (Nat.le_refl _)
          refine aw_iload_n (i := 1) d_Mod_prop_52 rfl rfl ?_
          refine aw_imul d_Mod_prop_53 ?_
          rw [pk_mul]
          refine aw_sipush (v := nI 20000) d_Mod_prop_54 (by decide) ?_
          refine aw_icmp_le d_Mod_prop_57 (fun br57_ => ?_) (fun br57_ => ?_)
          · skip
            have hmul : hall hs * k0 ≤ 20000 * 4 := Nat.mul_le_mul hall2 hk2
            have hb9 : hall hs * k0 ≤ 20000 := (nI_leI (by omega) (by decide)).mp br57_
            have hlt : hs.1.length < 12 := by omega
            have hr_ : okP hs gs (nI k0) (nI f0) = true := by unfold okP; rw [br9_, br23_, br36_, xN_nI (by omega), decide_eq_true hb9, decide_eq_true hlt]; rfl
            refine aw_aload_n (i := 0) d_Mod_prop_62 rfl rfl ?_
            apply mo_gets (f := 1) hm d_Mod_prop_63 fl_Mod_153 rfl; exact hh.1.1
            refine aw_istore_n (i := 3) (lv2 := [(0, _), (1, _), (2, _), (3, _)]) d_Mod_prop_66 rfl (by decide) rfl ?_
            refine aw_aload_n (i := 0) d_Mod_prop_67 rfl rfl ?_
            refine aw_dup d_Mod_prop_68 rfl ?_
            apply mo_gets (f := 1) hm d_Mod_prop_69 fl_Mod_153 rfl; exact hh.1.1
            refine aw_iconst (v := nI 1) d_Mod_prop_72 (by decide) ?_
            refine aw_iaddN d_Mod_prop_73 ?_
            apply mo_put (f := 1) hm d_Mod_prop_74 pl_Mod_153 (ms_1 _ _ _) (by decide) rfl rfl; intro h hm
            refine aw_aload_n (i := 0) d_Mod_prop_77 rfl rfl ?_
            refine mo_get (f := 2) hm d_Mod_prop_78 fl_Mod_9 rfl ?_
            refine aw_iload_n (i := 3) d_Mod_prop_81 rfl rfl ?_
            refine aw_iload_n (i := 1) d_Mod_prop_82 rfl rfl ?_
            apply mo_st (f := 2) (N := 12) hm d_Mod_prop_83 rfl rfl (by decide); omega; intro h hm
            refine aw_aload_n (i := 0) d_Mod_prop_84 rfl rfl ?_
            refine mo_get (f := 3) hm d_Mod_prop_85 fl_Mod_13 rfl ?_
            refine aw_iload_n (i := 3) d_Mod_prop_88 rfl rfl ?_
            refine aw_iload_n (i := 2) d_Mod_prop_89 rfl rfl ?_
            apply mo_st (f := 3) (N := 12) hm d_Mod_prop_90 rfl rfl (by decide); omega; intro h hm
            refine aw_aload_n (i := 0) d_Mod_prop_91 rfl rfl ?_
            refine mo_get (f := 19) hm d_Mod_prop_92 fl_Mod_56 rfl ?_
            refine aw_iload_n (i := 3) d_Mod_prop_95 rfl rfl ?_
            refine aw_iconst (v := -1) d_Mod_prop_96 (by decide) ?_
            apply mo_st (f := 19) (N := 12) hm d_Mod_prop_97 rfl rfl (by decide); omega; intro h hm
            refine aw_aload_n (i := 0) d_Mod_prop_98 rfl rfl ?_
            refine mo_get (f := 21) hm d_Mod_prop_99 fl_Mod_62 rfl ?_
            refine aw_iload_n (i := 3) d_Mod_prop_102 rfl rfl ?_
            refine aw_iconst (v := -1) d_Mod_prop_103 (by decide) ?_
            apply mo_st (f := 21) (N := 12) hm d_Mod_prop_104 rfl rfl (by decide); omega; intro h hm
            obtain ⟨S_, B_, hm, hS_, hB_⟩ : ∃ S B, MoF h0 h a A S B ∧ S = _ ∧ B = _ := ⟨_, _, hm, rfl, rfl⟩
            refine aw_iconst (v := nI 0) d_Mod_prop_105 (by decide) ?_
            refine aw_istore (lv2 := [(0, _), (1, _), (2, _), (3, _), (4, _)]) d_Mod_prop_106 (by decide) rfl ?_
            refine mloop (h0 := h0) (a := a) (A := A) (12) (fun i h sc1 ar1 => AW G m_Mod_prop 2 0 0 _ 108 [(0, .ref a), (1, .int (nI k0)), (2, .int (nI f0)), (3, .int (nI hs.1.length)), (4, .int (nI i))] [] (nx, h) 0 0) (fun i sc1 ar1 => Kp [] [22] S_ B_ sc1 ar1 ∧ ∀ q, q < i → ar1 22 q = -1) ?_ 0 _ _ _ (Nat.zero_le _) hm ⟨Kp.rf, fun q hq => absurd hq (Nat.not_lt_zero _)⟩
            intro i h sc1 ar1 hi_i hm hI ih
            refine aw_iload d_Mod_prop_108 rfl ?_
            refine aw_bipush (v := nI 12) d_Mod_prop_110 (by decide) ?_
            refine aw_icmpN_ge d_Mod_prop_112 (by omega) (by omega) (fun br112_ => ?_) (fun br112_ => ?_)
            · skip
              have ei : i = 12 := by omega
              subst ei
              refine aw_aload_n (i := 0) d_Mod_prop_129 rfl rfl ?_
              refine aw_iconst (v := nI 1) d_Mod_prop_130 (by decide) ?_
              apply mo_put (f := 23) hm d_Mod_prop_131 pl_Mod_68 (ms_23 _ _ _) (by decide) rfl rfl; intro h hm
              refine aw_iload_n (i := 3) d_Mod_prop_134 rfl rfl ?_
              refine aw_iret d_Mod_prop_135 rfl (Nat.le_refl _) (Nat.le_refl _) ?_
              have hx := hI.1
              rw [hS_, hB_] at hx
              have hmo := mh_addP (sc2 := upd sc1 23 (nI 1)) (ar2 := ar1) (k := k0) (f := f0) hq0.1 hlt (hx.1 1 rfl) (hx.1 4 rfl) (hx.1 15 rfl) (hx.1 18 rfl) (hx.2 2 rfl) (hx.2 3 rfl) (hx.2 19 rfl) (hx.2 20 rfl) (hx.2 21 rfl) hI.2 (fun g q1 q2 => (hx.2 g (by rcases (show g = 5 ∨ g = 6 ∨ g = 7 ∨ g = 8 ∨ g = 9 ∨ g = 10 ∨ g = 11 ∨ g = 12 ∨ g = 13 ∨ g = 14 ∨ g = 15 ∨ g = 16 ∨ g = 17 by omega) with q | q | q | q | q | q | q | q | q | q | q | q | q <;> subst q <;> rfl)).trans (by rcases (show g = 5 ∨ g = 6 ∨ g = 7 ∨ g = 8 ∨ g = 9 ∨ g = 10 ∨ g = 11 ∨ g = 12 ∨ g = 13 ∨ g = 14 ∨ g = 15 ∨ g = 16 ∨ g = 17 by omega) with q | q | q | q | q | q | q | q | q | q | q | q | q <;> subst q <;> rfl))
              have hkk : Kp [0, 1, 23] [2, 3, 19, 21, 22] sc ar (upd sc1 23 (nI 1)) ar1 := ((((((Kp.put (f := 0) rfl).tr (Kp.put (f := 1) rfl)).tr (Kp.st (f := 2) rfl)).tr (Kp.st (f := 3) rfl)).tr (Kp.st (f := 19) rfl)).tr (Kp.st (f := 21) rfl)).tr ((hx.up (fun x hx => absurd hx List.not_mem_nil) (by decide)).tr (Kp.put (f := 23) rfl))
              exact ⟨_, _, _, rfl, hm, by rw [hr_]; rfl, (hx.1 0 rfl).trans rfl, by rw [hr_, xN_nI (by omega), xN_nI (by omega)]; exact hq0.build hmo hkk rfl rfl rfl⟩
            · skip
              refine aw_aload_n (i := 0) d_Mod_prop_115 rfl rfl ?_
              refine mo_get (f := 22) hm d_Mod_prop_116 fl_Mod_65 rfl ?_
              refine aw_iload d_Mod_prop_119 rfl ?_
              refine aw_iconst (v := -1) d_Mod_prop_121 (by decide) ?_
              apply mo_st (f := 22) (N := 12) hm d_Mod_prop_122 rfl rfl (by decide); omega; intro h hm
              refine aw_iincN (lv2 := [(0, _), (1, _), (2, _), (3, _), (4, _)]) d_Mod_prop_123 (by decide) rfl rfl ?_
              refine aw_goto d_Mod_prop_126 ?_
              refine ih br112_ _ _ _ hm ⟨hI.1.tr (Kp.st rfl), fun q hq => ?_⟩
              show upd (ar1 22) i _ q = _
              by_cases e : q = i
              · subst e; rw [pk_us]
              · rw [pk_un e]; exact hI.2 q (by omega)
          · skip
            have hb9 : ¬ hall hs * k0 ≤ 20000 := fun q => br57_ (nI_le q (by decide))
            have hr_ : okP hs gs (nI k0) (nI f0) = false := by unfold okP; rw [xN_nI (by omega), decide_eq_false hb9, Bool.and_false]
            refine aw_iconst (v := -1) d_Mod_prop_60 (by decide) ?_
            refine aw_iret d_Mod_prop_61 rfl (Nat.le_refl _) (Nat.le_refl _) ?_
            exact ⟨_, _, _, rfl, hm, by rw [hr_]; rfl, rfl, by rw [hr_]; exact hq⟩

set_option maxHeartbeats 4000000 in
set_option maxRecDepth 20000 in
theorem c_Mod_step {G : aG} {nx : Nat} {h h0 : Nat → Option aC} {a : Nat} {A : Nat → Nat} {sc : Nat → Int32} {ar : Nat → Nat → Int32} (hm : MoF h0 h a A sc ar) {hs : HSt} {gs : List GSt} {lg : List (Nat × Nat × Nat)} {xs : List Int32} (hq : MoA sc ar hs gs lg xs) (hv : VH hs) (kd hd tk rm : Int32) : AMet G m_Mod_step 2 0 0 [.ref a, .int kd, .int hd, .int tk, .int rm] (nx, h) (MR nx a h0 A (fun r sc2 ar2 => r = some (.int (if okS hs gs kd hd tk rm then nI hs.2.1.length else -1)) ∧ sc2 0 = 0 ∧ MoA sc2 ar2 (if okS hs gs kd hd tk rm then addS hs (xN kd) (xN hd) (xN tk) (xN rm) else hs) gs lg xs)) := by
  have hp12 := hv.1.1
  have hs24 := hv.2.1
  have hall2 := hv.2.2.2.2.2.2.2
  have hq0 := hq
  refine amet_of pf_Mod_step (Nat.le_of_ble_eq_true rfl) ?_
  show AW G m_Mod_step 2 0 0 _ 0 [(0, .ref a), (1, .int kd), (2, .int hd), (3, .int tk), (4, .int rm)] [] (nx, h) 0 0
  refine aw_aload_n (i := 0) d_Mod_step_0 rfl rfl ?_
  refine aw_iconst (v := nI 0) d_Mod_step_1 (by decide) ?_
  apply mo_put (f := 0) hm d_Mod_step_2 pl_Mod_150 (ms_0 _ _ _) (by decide) rfl rfl; intro h hm
  have hq := hq0.kp (Kp.put (Ls := [0]) (La := []) (f := 0) (x := nI 0) rfl) rfl rfl rfl rfl
  have hh := hq.1
  have hg := hq.2.1
  have hr := hq.2.2.2.1
  refine aw_iload_n (i := 1) d_Mod_step_5 rfl rfl ?_
  refine aw_i2l d_Mod_step_6 ?_
  refine aw_lconst (v := 0) d_Mod_step_7 (by decide) ?_
  refine aw_ldc2 d_Mod_step_8 kc_Mod_182 ?_
  apply aw_calls_p (c_Mod_in _ _ _) d_Mod_step_11 cl_Mod_156; rfl; rfl; decide; exact Nat.le_of_ble_eq_true rfl; exact (Nat.le_refl _); exact (Nat.le_refl _)
  rw [show decide ((0 : Int64) ≤ kd.toInt64 ∧ kd.toInt64 ≤ 3) = rng 0 3 kd from in_rng (lo := 0) (hi := 3)]
  refine aw_ifB_eq d_Mod_step_14 (fun br14_ => ?_) (fun br14_ => ?_)
  · skip
    have hfi : (rng 0 3 kd && rng 1 9 hd && rng 1 100 tk && rng 0 7 rm) = false := by rw [br14_]; rfl
    refine aw_iconst (v := nI 0) d_Mod_step_58 (by decide) ?_
    refine aw_istore (lv2 := [(0, _), (1, _), (2, _), (3, _), (4, _), (5, _)]) d_Mod_step_59 (by decide) rfl ?_
    refine aw_drop (lv2 := [(0, .ref a), (1, .int kd), (2, .int hd), (3, .int tk), (4, .int rm), (5, .int (bI (rng 0 3 kd && rng 1 9 hd && rng 1 100 tk && rng 0 7 rm)))]) [0, 1, 2, 3, 4, 5] (by rw [hfi]; rfl) ?_
    refine aw_aload_n (i := 0) d_Mod_step_61 rfl rfl ?_
    apply aw_callv_p (c_Mod_plays hm hg) d_Mod_step_62 cl_Mod_170; exact hm.1.1; rfl; rfl; rfl; rfl; decide; exact Nat.le_of_ble_eq_true rfl; exact (Nat.le_refl _); exact (Nat.le_refl _)
    refine aw_ifB_ne d_Mod_step_65 (fun br65_ => ?_) (fun br65_ => ?_)
    · skip
      have hr_ : okS hs gs kd hd tk rm = false := by unfold okS; rw [br65_]; rfl
      refine aw_iconst (v := -1) d_Mod_step_101 (by decide) ?_
      refine aw_iret d_Mod_step_102 rfl (Nat.le_refl _) (Nat.le_refl _) ?_
      exact ⟨_, _, _, rfl, hm, by rw [hr_]; rfl, rfl, by rw [hr_]; exact hq⟩
    · skip
      refine aw_iload d_Mod_step_68 rfl ?_
      refine aw_if_eq d_Mod_step_70 (fun br70_ => ?_) (fun br70_ => absurd (show bI _ = 0 by rw [hfi]; rfl) br70_)
      have hr_ : okS hs gs kd hd tk rm = false := by unfold okS; rw [hfi]; simp
      refine aw_iconst (v := -1) d_Mod_step_101 (by decide) ?_
      refine aw_iret d_Mod_step_102 rfl (Nat.le_refl _) (Nat.le_refl _) ?_
      exact ⟨_, _, _, rfl, hm, by rw [hr_]; rfl, rfl, by rw [hr_]; exact hq⟩
  · skip
    refine aw_iload_n (i := 2) d_Mod_step_17 rfl rfl ?_
    refine aw_i2l d_Mod_step_18 ?_
    refine aw_lconst (v := 1) d_Mod_step_19 (by decide) ?_
    refine aw_ldc2 d_Mod_step_20 kc_Mod_184 ?_
    apply aw_calls_p (c_Mod_in _ _ _) d_Mod_step_23 cl_Mod_156; rfl; rfl; decide; exact Nat.le_of_ble_eq_true rfl; exact (Nat.le_refl _); exact (Nat.le_refl _)
    rw [show decide ((1 : Int64) ≤ hd.toInt64 ∧ hd.toInt64 ≤ 9) = rng 1 9 hd from in_rng (lo := 1) (hi := 9)]
    refine aw_ifB_eq d_Mod_step_26 (fun br26_ => ?_) (fun br26_ => ?_)
    · skip
      have hfi : (rng 0 3 kd && rng 1 9 hd && rng 1 100 tk && rng 0 7 rm) = false := by rw [br14_, br26_]; rfl
      refine aw_iconst (v := nI 0) d_Mod_step_58 (by decide) ?_
      refine aw_istore (lv2 := [(0, _), (1, _), (2, _), (3, _), (4, _), (5, _)]) d_Mod_step_59 (by decide) rfl ?_
      refine aw_drop (lv2 := [(0, .ref a), (1, .int kd), (2, .int hd), (3, .int tk), (4, .int rm), (5, .int (bI (rng 0 3 kd && rng 1 9 hd && rng 1 100 tk && rng 0 7 rm)))]) [0, 1, 2, 3, 4, 5] (by rw [hfi]; rfl) ?_
      refine aw_aload_n (i := 0) d_Mod_step_61 rfl rfl ?_
      apply aw_callv_p (c_Mod_plays hm hg) d_Mod_step_62 cl_Mod_170; exact hm.1.1; rfl; rfl; rfl; rfl; decide; exact Nat.le_of_ble_eq_true rfl; exact (Nat.le_refl _); exact (Nat.le_refl _)
      refine aw_ifB_ne d_Mod_step_65 (fun br65_ => ?_) (fun br65_ => ?_)
      · skip
        have hr_ : okS hs gs kd hd tk rm = false := by unfold okS; rw [br65_]; rfl
        refine aw_iconst (v := -1) d_Mod_step_101 (by decide) ?_
        refine aw_iret d_Mod_step_102 rfl (Nat.le_refl _) (Nat.le_refl _) ?_
        exact ⟨_, _, _, rfl, hm, by rw [hr_]; rfl, rfl, by rw [hr_]; exact hq⟩
      · skip
        refine aw_iload d_Mod_step_68 rfl ?_
        refine aw_if_eq d_Mod_step_70 (fun br70_ => ?_) (fun br70_ => absurd (show bI _ = 0 by rw [hfi]; rfl) br70_)
        have hr_ : okS hs gs kd hd tk rm = false := by unfold okS; rw [hfi]; simp
        refine aw_iconst (v := -1) d_Mod_step_101 (by decide) ?_
        refine aw_iret d_Mod_step_102 rfl (Nat.le_refl _) (Nat.le_refl _) ?_
        exact ⟨_, _, _, rfl, hm, by rw [hr_]; rfl, rfl, by rw [hr_]; exact hq⟩
    · skip
      refine aw_iload_n (i := 3) d_Mod_step_29 rfl rfl ?_
      refine aw_i2l d_Mod_step_30 ?_
      refine aw_lconst (v := 1) d_Mod_step_31 (by decide) ?_
      refine aw_ldc2 d_Mod_step_32 kc_Mod_186 ?_
      apply aw_calls_p (c_Mod_in _ _ _) d_Mod_step_35 cl_Mod_156; rfl; rfl; decide; exact Nat.le_of_ble_eq_true rfl; exact (Nat.le_refl _); exact (Nat.le_refl _)
      rw [show decide ((1 : Int64) ≤ tk.toInt64 ∧ tk.toInt64 ≤ 100) = rng 1 100 tk from in_rng (lo := 1) (hi := 100)]
      refine aw_ifB_eq d_Mod_step_38 (fun br38_ => ?_) (fun br38_ => ?_)
      · skip
        have hfi : (rng 0 3 kd && rng 1 9 hd && rng 1 100 tk && rng 0 7 rm) = false := by rw [br14_, br26_, br38_]; rfl
        refine aw_iconst (v := nI 0) d_Mod_step_58 (by decide) ?_
        refine aw_istore (lv2 := [(0, _), (1, _), (2, _), (3, _), (4, _), (5, _)]) d_Mod_step_59 (by decide) rfl ?_
        refine aw_drop (lv2 := [(0, .ref a), (1, .int kd), (2, .int hd), (3, .int tk), (4, .int rm), (5, .int (bI (rng 0 3 kd && rng 1 9 hd && rng 1 100 tk && rng 0 7 rm)))]) [0, 1, 2, 3, 4, 5] (by rw [hfi]; rfl) ?_
        refine aw_aload_n (i := 0) d_Mod_step_61 rfl rfl ?_
        apply aw_callv_p (c_Mod_plays hm hg) d_Mod_step_62 cl_Mod_170; exact hm.1.1; rfl; rfl; rfl; rfl; decide; exact Nat.le_of_ble_eq_true rfl; exact (Nat.le_refl _); exact (Nat.le_refl _)
        refine aw_ifB_ne d_Mod_step_65 (fun br65_ => ?_) (fun br65_ => ?_)
        · skip
          have hr_ : okS hs gs kd hd tk rm = false := by unfold okS; rw [br65_]; rfl
          refine aw_iconst (v := -1) d_Mod_step_101 (by decide) ?_
          refine aw_iret d_Mod_step_102 rfl (Nat.le_refl _) (Nat.le_refl _) ?_
          exact ⟨_, _, _, rfl, hm, by rw [hr_]; rfl, rfl, by rw [hr_]; exact hq⟩
        · skip
          refine aw_iload d_Mod_step_68 rfl ?_
          refine aw_if_eq d_Mod_step_70 (fun br70_ => ?_) (fun br70_ => absurd (show bI _ = 0 by rw [hfi]; rfl) br70_)
          have hr_ : okS hs gs kd hd tk rm = false := by unfold okS; rw [hfi]; simp
          refine aw_iconst (v := -1) d_Mod_step_101 (by decide) ?_
          refine aw_iret d_Mod_step_102 rfl (Nat.le_refl _) (Nat.le_refl _) ?_
          exact ⟨_, _, _, rfl, hm, by rw [hr_]; rfl, rfl, by rw [hr_]; exact hq⟩
      · skip
        refine aw_iload d_Mod_step_41 rfl ?_
        refine aw_i2l d_Mod_step_43 ?_
        refine aw_lconst (v := 0) d_Mod_step_44 (by decide) ?_
        refine aw_ldc2 d_Mod_step_45 kc_Mod_188 ?_
        apply aw_calls_p (c_Mod_in _ _ _) d_Mod_step_48 cl_Mod_156; rfl; rfl; decide; exact Nat.le_of_ble_eq_true rfl; exact (Nat.le_refl _); exact (Nat.le_refl _)
        rw [show decide ((0 : Int64) ≤ rm.toInt64 ∧ rm.toInt64 ≤ 7) = rng 0 7 rm from in_rng (lo := 0) (hi := 7)]
        refine aw_ifB_eq d_Mod_step_51 (fun br51_ => ?_) (fun br51_ => ?_)
        · skip
          have hfi : (rng 0 3 kd && rng 1 9 hd && rng 1 100 tk && rng 0 7 rm) = false := by rw [br14_, br26_, br38_, br51_]; rfl
          refine aw_iconst (v := nI 0) d_Mod_step_58 (by decide) ?_
          refine aw_istore (lv2 := [(0, _), (1, _), (2, _), (3, _), (4, _), (5, _)]) d_Mod_step_59 (by decide) rfl ?_
          refine aw_drop (lv2 := [(0, .ref a), (1, .int kd), (2, .int hd), (3, .int tk), (4, .int rm), (5, .int (bI (rng 0 3 kd && rng 1 9 hd && rng 1 100 tk && rng 0 7 rm)))]) [0, 1, 2, 3, 4, 5] (by rw [hfi]; rfl) ?_
          refine aw_aload_n (i := 0) d_Mod_step_61 rfl rfl ?_
          apply aw_callv_p (c_Mod_plays hm hg) d_Mod_step_62 cl_Mod_170; exact hm.1.1; rfl; rfl; rfl; rfl; decide; exact Nat.le_of_ble_eq_true rfl; exact (Nat.le_refl _); exact (Nat.le_refl _)
          refine aw_ifB_ne d_Mod_step_65 (fun br65_ => ?_) (fun br65_ => ?_)
          · skip
            have hr_ : okS hs gs kd hd tk rm = false := by unfold okS; rw [br65_]; rfl
            refine aw_iconst (v := -1) d_Mod_step_101 (by decide) ?_
            refine aw_iret d_Mod_step_102 rfl (Nat.le_refl _) (Nat.le_refl _) ?_
            exact ⟨_, _, _, rfl, hm, by rw [hr_]; rfl, rfl, by rw [hr_]; exact hq⟩
          · skip
            refine aw_iload d_Mod_step_68 rfl ?_
            refine aw_if_eq d_Mod_step_70 (fun br70_ => ?_) (fun br70_ => absurd (show bI _ = 0 by rw [hfi]; rfl) br70_)
            have hr_ : okS hs gs kd hd tk rm = false := by unfold okS; rw [hfi]; simp
            refine aw_iconst (v := -1) d_Mod_step_101 (by decide) ?_
            refine aw_iret d_Mod_step_102 rfl (Nat.le_refl _) (Nat.le_refl _) ?_
            exact ⟨_, _, _, rfl, hm, by rw [hr_]; rfl, rfl, by rw [hr_]; exact hq⟩
        · skip
          have hfi : (rng 0 3 kd && rng 1 9 hd && rng 1 100 tk && rng 0 7 rm) = true := by rw [br14_, br26_, br38_, br51_]; rfl
          refine aw_iconst (v := nI 1) d_Mod_step_54 (by decide) ?_
          refine aw_goto d_Mod_step_55 ?_
          refine aw_istore (lv2 := [(0, _), (1, _), (2, _), (3, _), (4, _), (5, _)]) d_Mod_step_59 (by decide) rfl ?_
          refine aw_drop (lv2 := [(0, .ref a), (1, .int kd), (2, .int hd), (3, .int tk), (4, .int rm), (5, .int (bI (rng 0 3 kd && rng 1 9 hd && rng 1 100 tk && rng 0 7 rm)))]) [0, 1, 2, 3, 4, 5] (by rw [hfi]; rfl) ?_
          refine aw_aload_n (i := 0) d_Mod_step_61 rfl rfl ?_
          apply aw_callv_p (c_Mod_plays hm hg) d_Mod_step_62 cl_Mod_170; exact hm.1.1; rfl; rfl; rfl; rfl; decide; exact Nat.le_of_ble_eq_true rfl; exact (Nat.le_refl _); exact (Nat.le_refl _)
          refine aw_ifB_ne d_Mod_step_65 (fun br65_ => ?_) (fun br65_ => ?_)
          · skip
            have hr_ : okS hs gs kd hd tk rm = false := by unfold okS; rw [br65_]; rfl
            refine aw_iconst (v := -1) d_Mod_step_101 (by decide) ?_
            refine aw_iret d_Mod_step_102 rfl (Nat.le_refl _) (Nat.le_refl _) ?_
            exact ⟨_, _, _, rfl, hm, by rw [hr_]; rfl, rfl, by rw [hr_]; exact hq⟩
          · skip
            refine aw_iload d_Mod_step_68 rfl ?_
            refine aw_if_eq d_Mod_step_70 (fun br70_ => absurd br70_ (by rw [hfi]; decide)) (fun br70_ => ?_)
            refine aw_aload_n (i := 0) d_Mod_step_73 rfl rfl ?_
            apply mo_gets (f := 4) hm d_Mod_step_74 fl_Mod_164 rfl; exact hh.1.2.1
            refine aw_bipush (v := nI 24) d_Mod_step_77 (by decide) ?_
            refine aw_icmpN_eq d_Mod_step_79 (by omega) (by omega) (fun br79_ => ?_) (fun br79_ => ?_)
            · skip
              have hr_ : okS hs gs kd hd tk rm = false := by unfold okS; rw [hfi, decide_eq_false (show ¬ hs.2.1.length < 24 by omega)]; simp
              refine aw_iconst (v := -1) d_Mod_step_101 (by decide) ?_
              refine aw_iret d_Mod_step_102 rfl (Nat.le_refl _) (Nat.le_refl _) ?_
              exact ⟨_, _, _, rfl, hm, by rw [hr_]; rfl, rfl, by rw [hr_]; exact hq⟩
            · skip
              obtain ⟨k0, hk1, hk2, rfl⟩ := rng_of br14_ (by decide) (by decide)
              obtain ⟨d0, hd1, hd2, rfl⟩ := rng_of br26_ (by decide) (by decide)
              obtain ⟨t0, ht1, ht2, rfl⟩ := rng_of br38_ (by decide) (by decide)
              obtain ⟨r0, hr1, hr2, rfl⟩ := rng_of br51_ (by decide) (by decide)
              have hlt : hs.2.1.length < 24 := by omega
              refine aw_iload_n (i := 1) d_Mod_step_82 rfl rfl ?_
              apply aw_calls_p (c_Mod_isOnce _) d_Mod_step_83 cl_Mod_167; rfl; rfl; decide; exact Nat.le_of_ble_eq_true rfl; exact (Nat.le_refl _); exact (Nat.le_refl _)
              refine aw_ifB_eq d_Mod_step_86 (fun br86_ => ?_) (fun br86_ => ?_)
              · skip
                have hr_ : okS hs gs (nI k0) (nI d0) (nI t0) (nI r0) = true := by unfold okS; rw [br65_, hfi, decide_eq_true hlt, br86_]; rfl
                refine aw_aload_n (i := 0) d_Mod_step_103 rfl rfl ?_
                apply mo_gets (f := 4) hm d_Mod_step_104 fl_Mod_164 rfl; exact hh.1.2.1
                refine aw_istore (lv2 := [(0, _), (1, _), (2, _), (3, _), (4, _), (5, _), (6, _)]) d_Mod_step_107 (by decide) rfl ?_
                refine aw_aload_n (i := 0) d_Mod_step_109 rfl rfl ?_
                refine aw_dup d_Mod_step_110 rfl ?_
                apply mo_gets (f := 4) hm d_Mod_step_111 fl_Mod_164 rfl; exact hh.1.2.1
                refine aw_iconst (v := nI 1) d_Mod_step_114 (by decide) ?_
                refine aw_iaddN d_Mod_step_115 ?_
                apply mo_put (f := 4) hm d_Mod_step_116 pl_Mod_164 (ms_4 _ _ _) (by decide) rfl rfl; intro h hm
                refine aw_aload_n (i := 0) d_Mod_step_119 rfl rfl ?_
                refine mo_get (f := 5) hm d_Mod_step_120 fl_Mod_16 rfl ?_
                refine aw_iload d_Mod_step_123 rfl ?_
                refine aw_iload_n (i := 1) d_Mod_step_125 rfl rfl ?_
                apply mo_st (f := 5) (N := 24) hm d_Mod_step_126 rfl rfl (by decide); omega; intro h hm
                refine aw_aload_n (i := 0) d_Mod_step_127 rfl rfl ?_
                refine mo_get (f := 6) hm d_Mod_step_128 fl_Mod_19 rfl ?_
                refine aw_iload d_Mod_step_131 rfl ?_
                refine aw_iload_n (i := 2) d_Mod_step_133 rfl rfl ?_
                apply mo_st (f := 6) (N := 24) hm d_Mod_step_134 rfl rfl (by decide); omega; intro h hm
                refine aw_aload_n (i := 0) d_Mod_step_135 rfl rfl ?_
                refine mo_get (f := 7) hm d_Mod_step_136 fl_Mod_22 rfl ?_
                refine aw_iload d_Mod_step_139 rfl ?_
                refine aw_iload_n (i := 3) d_Mod_step_141 rfl rfl ?_
                apply mo_st (f := 7) (N := 24) hm d_Mod_step_142 rfl rfl (by decide); omega; intro h hm
                refine aw_aload_n (i := 0) d_Mod_step_143 rfl rfl ?_
                refine mo_get (f := 8) hm d_Mod_step_144 fl_Mod_25 rfl ?_
                refine aw_iload d_Mod_step_147 rfl ?_
                refine aw_iload d_Mod_step_149 rfl ?_
                apply mo_st (f := 8) (N := 24) hm d_Mod_step_151 rfl rfl (by decide); omega; intro h hm
                refine aw_aload_n (i := 0) d_Mod_step_152 rfl rfl ?_
                refine mo_get (f := 9) hm d_Mod_step_153 fl_Mod_28 rfl ?_
                refine aw_iload d_Mod_step_156 rfl ?_
                refine aw_iconst (v := nI 0) d_Mod_step_158 (by decide) ?_
                apply mo_st (f := 9) (N := 24) hm d_Mod_step_159 rfl rfl (by decide); omega; intro h hm
                refine aw_aload_n (i := 0) d_Mod_step_160 rfl rfl ?_
                refine mo_get (f := 12) hm d_Mod_step_161 fl_Mod_37 rfl ?_
                refine aw_iload d_Mod_step_164 rfl ?_
                refine aw_iconst (v := nI 0) d_Mod_step_166 (by decide) ?_
                apply mo_st (f := 12) (N := 24) hm d_Mod_step_167 rfl rfl (by decide); omega; intro h hm
                refine aw_aload_n (i := 0) d_Mod_step_168 rfl rfl ?_
                refine aw_iconst (v := nI 1) d_Mod_step_169 (by decide) ?_
                apply mo_put (f := 23) hm d_Mod_step_170 pl_Mod_68 (ms_23 _ _ _) (by decide) rfl rfl; intro h hm
                refine aw_iload d_Mod_step_173 rfl ?_
                refine aw_iret d_Mod_step_175 rfl (Nat.le_refl _) (Nat.le_refl _) ?_
                refine ⟨_, _, _, rfl, hm, by rw [hr_]; rfl, rfl, ?_⟩
                rw [hr_, xN_nI (by omega), xN_nI (by omega), xN_nI (by omega), xN_nI (by omega)]
                refine hq0.build (mh_addS hq0.1 rfl rfl rfl rfl (fun g q => ?_) rfl rfl rfl rfl rfl rfl (fun g q => ?_)) (Ls := [0, 4, 23]) (La := [5, 6, 7, 8, 9, 12]) (((Kp.put (f := 0) rfl).tr (Kp.put (f := 4) rfl)).tr (((((((Kp.st (f := 5) rfl).tr (Kp.st (f := 6) rfl)).tr (Kp.st (f := 7) rfl)).tr (Kp.st (f := 8) rfl)).tr (Kp.st (f := 9) rfl)).tr (Kp.st (f := 12) rfl)).tr (Kp.put (f := 23) rfl))) rfl rfl rfl
                · rw [ups_n (by omega), ups_n (by omega), ups_n (by omega), ups_n (by omega), ups_n (by omega), ups_n (by omega)]
                · rw [ups_n (by omega), ups_n (by omega), ups_n (by omega), ups_n (by omega), ups_n (by omega), ups_n (by omega)]
              · skip
                refine aw_aload_n (i := 0) d_Mod_step_89 rfl rfl ?_
                apply aw_callv_p (c_Mod_allCodes hm hh hv) d_Mod_step_90 cl_Mod_178; exact hm.1.1; rfl; rfl; rfl; rfl; decide; exact Nat.le_of_ble_eq_true rfl; exact (Nat.le_refl _); exact (Nat.le_refl _)
                refine aw_iconst (v := nI 2) d_Mod_step_93 (by decide) ?_
                refine aw_imulN d_Mod_step_94 ?_
                refine aw_sipush (v := nI 20000) d_Mod_step_95 (by decide) ?_
                refine aw_icmpN_le d_Mod_step_98 (by omega) (by omega) (fun br98_ => ?_) (fun br98_ => ?_)
                · skip
                  have hr_ : okS hs gs (nI k0) (nI d0) (nI t0) (nI r0) = true := by unfold okS; rw [br65_, hfi, decide_eq_true hlt, decide_eq_true br98_, Bool.or_true]; rfl
                  refine aw_aload_n (i := 0) d_Mod_step_103 rfl rfl ?_
                  apply mo_gets (f := 4) hm d_Mod_step_104 fl_Mod_164 rfl; exact hh.1.2.1
                  refine aw_istore (lv2 := [(0, _), (1, _), (2, _), (3, _), (4, _), (5, _), (6, _)]) d_Mod_step_107 (by decide) rfl ?_
                  refine aw_aload_n (i := 0) d_Mod_step_109 rfl rfl ?_
                  refine aw_dup d_Mod_step_110 rfl ?_
                  apply mo_gets (f := 4) hm d_Mod_step_111 fl_Mod_164 rfl; exact hh.1.2.1
                  refine aw_iconst (v := nI 1) d_Mod_step_114 (by decide) ?_
                  refine aw_iaddN d_Mod_step_115 ?_
                  apply mo_put (f := 4) hm d_Mod_step_116 pl_Mod_164 (ms_4 _ _ _) (by decide) rfl rfl; intro h hm
                  refine aw_aload_n (i := 0) d_Mod_step_119 rfl rfl ?_
                  refine mo_get (f := 5) hm d_Mod_step_120 fl_Mod_16 rfl ?_
                  refine aw_iload d_Mod_step_123 rfl ?_
                  refine aw_iload_n (i := 1) d_Mod_step_125 rfl rfl ?_
                  apply mo_st (f := 5) (N := 24) hm d_Mod_step_126 rfl rfl (by decide); omega; intro h hm
                  refine aw_aload_n (i := 0) d_Mod_step_127 rfl rfl ?_
                  refine mo_get (f := 6) hm d_Mod_step_128 fl_Mod_19 rfl ?_
                  refine aw_iload d_Mod_step_131 rfl ?_
                  refine aw_iload_n (i := 2) d_Mod_step_133 rfl rfl ?_
                  apply mo_st (f := 6) (N := 24) hm d_Mod_step_134 rfl rfl (by decide); omega; intro h hm
                  refine aw_aload_n (i := 0) d_Mod_step_135 rfl rfl ?_
                  refine mo_get (f := 7) hm d_Mod_step_136 fl_Mod_22 rfl ?_
                  refine aw_iload d_Mod_step_139 rfl ?_
                  refine aw_iload_n (i := 3) d_Mod_step_141 rfl rfl ?_
                  apply mo_st (f := 7) (N := 24) hm d_Mod_step_142 rfl rfl (by decide); omega; intro h hm
                  refine aw_aload_n (i := 0) d_Mod_step_143 rfl rfl ?_
                  refine mo_get (f := 8) hm d_Mod_step_144 fl_Mod_25 rfl ?_
                  refine aw_iload d_Mod_step_147 rfl ?_
                  refine aw_iload d_Mod_step_149 rfl ?_
                  apply mo_st (f := 8) (N := 24) hm d_Mod_step_151 rfl rfl (by decide); omega; intro h hm
                  refine aw_aload_n (i := 0) d_Mod_step_152 rfl rfl ?_
                  refine mo_get (f := 9) hm d_Mod_step_153 fl_Mod_28 rfl ?_
                  refine aw_iload d_Mod_step_156 rfl ?_
                  refine aw_iconst (v := nI 0) d_Mod_step_158 (by decide) ?_
                  apply mo_st (f := 9) (N := 24) hm d_Mod_step_159 rfl rfl (by decide); omega; intro h hm
                  refine aw_aload_n (i := 0) d_Mod_step_160 rfl rfl ?_
                  refine mo_get (f := 12) hm d_Mod_step_161 fl_Mod_37 rfl ?_
                  refine aw_iload d_Mod_step_164 rfl ?_
                  refine aw_iconst (v := nI 0) d_Mod_step_166 (by decide) ?_
                  apply mo_st (f := 12) (N := 24) hm d_Mod_step_167 rfl rfl (by decide); omega; intro h hm
                  refine aw_aload_n (i := 0) d_Mod_step_168 rfl rfl ?_
                  refine aw_iconst (v := nI 1) d_Mod_step_169 (by decide) ?_
                  apply mo_put (f := 23) hm d_Mod_step_170 pl_Mod_68 (ms_23 _ _ _) (by decide) rfl rfl; intro h hm
                  refine aw_iload d_Mod_step_173 rfl ?_
                  refine aw_iret d_Mod_step_175 rfl (Nat.le_refl _) (Nat.le_refl _) ?_
                  refine ⟨_, _, _, rfl, hm, by rw [hr_]; rfl, rfl, ?_⟩
                  rw [hr_, xN_nI (by omega), xN_nI (by omega), xN_nI (by omega), xN_nI (by omega)]
                  refine hq0.build (mh_addS hq0.1 rfl rfl rfl rfl (fun g q => ?_) rfl rfl rfl rfl rfl rfl (fun g q => ?_)) (Ls := [0, 4, 23]) (La := [5, 6, 7, 8, 9, 12]) (((Kp.put (f := 0) rfl).tr (Kp.put (f := 4) rfl)).tr (((((((Kp.st (f := 5) rfl).tr (Kp.st (f := 6) rfl)).tr (Kp.st (f := 7) rfl)).tr (Kp.st (f := 8) rfl)).tr (Kp.st (f := 9) rfl)).tr (Kp.st (f := 12) rfl)).tr (Kp.put (f := 23) rfl))) rfl rfl rfl
                  · rw [ups_n (by omega), ups_n (by omega), ups_n (by omega), ups_n (by omega), ups_n (by omega), ups_n (by omega)]
                  · rw [ups_n (by omega), ups_n (by omega), ups_n (by omega), ups_n (by omega), ups_n (by omega), ups_n (by omega)]
                · skip
                  have hr_ : okS hs gs (nI k0) (nI d0) (nI t0) (nI r0) = false := by unfold okS; rw [decide_eq_false (show ¬ hall hs * 2 ≤ 20000 by omega), br86_]; simp
                  refine aw_iconst (v := -1) d_Mod_step_101 (by decide) ?_
                  refine aw_iret d_Mod_step_102 rfl (Nat.le_refl _) (Nat.le_refl _) ?_
                  exact ⟨_, _, _, rfl, hm, by rw [hr_]; rfl, rfl, by rw [hr_]; exact hq⟩

set_option maxHeartbeats 4000000 in
set_option maxRecDepth 20000 in
theorem c_Mod_need {G : aG} {nx : Nat} {h h0 : Nat → Option aC} {a : Nat} {A : Nat → Nat} {sc : Nat → Int32} {ar : Nat → Nat → Int32} (hm : MoF h0 h a A sc ar) {hs : HSt} {gs : List GSt} {lg : List (Nat × Nat × Nat)} {xs : List Int32} (hq : MoA sc ar hs gs lg xs) (hv : VH hs) (j p s : Int32) : AMet G m_Mod_need 3 0 0 [.ref a, .int j, .int p, .int s] (nx, h) (MR nx a h0 A (fun r sc2 ar2 => r = some (.int (if okN hs gs j p s then nI 1 else nI 0)) ∧ sc2 0 = 0 ∧ MoA sc2 ar2 (if okN hs gs j p s then addN hs (xN j) (xN p) (xN s) else hs) gs lg xs)) := by
  have hp12 := hv.1.1
  have hs24 := hv.2.1
  have hall2 := hv.2.2.2.2.2.2.2
  have hq0 := hq
  refine amet_of pf_Mod_need (Nat.le_of_ble_eq_true rfl) ?_
  show AW G m_Mod_need 3 0 0 _ 0 [(0, .ref a), (1, .int j), (2, .int p), (3, .int s)] [] (nx, h) 0 0
  refine aw_aload_n (i := 0) d_Mod_need_0 rfl rfl ?_
  refine aw_iconst (v := nI 0) d_Mod_need_1 (by decide) ?_
  apply mo_put (f := 0) hm d_Mod_need_2 pl_Mod_150 (ms_0 _ _ _) (by decide) rfl rfl; intro h hm
  have hq := hq0.kp (Kp.put (Ls := [0]) (La := []) (f := 0) (x := nI 0) rfl) rfl rfl rfl rfl
  have hh := hq.1
  have hg := hq.2.1
  have hr := hq.2.2.2.1
  refine aw_aload_n (i := 0) d_Mod_need_5 rfl rfl ?_
  apply aw_callv_p (c_Mod_plays hm hg) d_Mod_need_6 cl_Mod_170; exact hm.1.1; rfl; rfl; rfl; rfl; decide; exact Nat.le_of_ble_eq_true rfl; exact (Nat.le_refl _); exact (Nat.le_refl _)
  refine aw_ifB_ne d_Mod_need_9 (fun br9_ => ?_) (fun br9_ => ?_)
  · skip
    have hr_ : okN hs gs j p s = false := by unfold okN; rw [br9_]; rfl
    refine aw_iconst (v := nI 0) d_Mod_need_39 (by decide) ?_
    refine aw_zret d_Mod_need_40 rfl rfl (Nat.le_refl _) (Nat.le_refl _) ?_
    exact ⟨_, _, _, rfl, hm, by rw [hr_]; rfl, rfl, by rw [hr_]; exact hq⟩
  · skip
    refine aw_aload_n (i := 0) d_Mod_need_12 rfl rfl ?_
    refine aw_iload_n (i := 1) d_Mod_need_13 rfl rfl ?_
    apply aw_callv_p (c_Mod_isStep hm.1 hh.1.2.1 (by omega) j) d_Mod_need_14 cl_Mod_190; exact hm.1.1; rfl; rfl; rfl; rfl; decide; exact Nat.le_of_ble_eq_true rfl; exact (Nat.le_refl _); exact (Nat.le_refl _)
    refine aw_ifB_eq d_Mod_need_17 (fun br17_ => ?_) (fun br17_ => ?_)
    · skip
      have hr_ : okN hs gs j p s = false := by unfold okN isSx; rw [br9_, br17_]; rfl
      refine aw_iconst (v := nI 0) d_Mod_need_39 (by decide) ?_
      refine aw_zret d_Mod_need_40 rfl rfl (Nat.le_refl _) (Nat.le_refl _) ?_
      exact ⟨_, _, _, rfl, hm, by rw [hr_]; rfl, rfl, by rw [hr_]; exact hq⟩
    · skip
      obtain ⟨j0, hj0, rfl⟩ := dec_ix br17_ (by omega)
      have hnl := (hv.s hj0).2.2.2.2.2.2.1
      refine aw_aload_n (i := 0) d_Mod_need_20 rfl rfl ?_
      refine aw_iload_n (i := 2) d_Mod_need_21 rfl rfl ?_
      refine aw_iload_n (i := 3) d_Mod_need_22 rfl rfl ?_
      apply aw_callv_p (c_Mod_isPair hm hh hv p s) d_Mod_need_23 cl_Mod_193; exact hm.1.1; rfl; rfl; rfl; rfl; decide; exact Nat.le_of_ble_eq_true rfl; exact (Nat.le_refl _); exact (Nat.le_refl _)
      refine aw_ifB_eq d_Mod_need_26 (fun br26_ => ?_) (fun br26_ => ?_)
      · skip
        have hr_ : okN hs gs (nI j0) p s = false := by unfold okN; rw [br26_]; simp
        refine aw_iconst (v := nI 0) d_Mod_need_39 (by decide) ?_
        refine aw_zret d_Mod_need_40 rfl rfl (Nat.le_refl _) (Nat.le_refl _) ?_
        exact ⟨_, _, _, rfl, hm, by rw [hr_]; rfl, rfl, by rw [hr_]; exact hq⟩
      · skip
        obtain ⟨p0, s0, hp0, hs0, rfl, rfl⟩ := prOK_ex br26_ hv
        have hks := hv.1.k hp0
        refine aw_aload_n (i := 0) d_Mod_need_29 rfl rfl ?_
        refine mo_get (f := 9) hm d_Mod_need_30 fl_Mod_28 rfl ?_
        refine aw_iload_n (i := 1) d_Mod_need_33 rfl rfl ?_
        apply mo_ld (f := 9) (N := 24) hm d_Mod_need_34 rfl rfl (by decide); omega; exact (hh.2.2.1 _ (by omega)).2.2.2.2.1
        refine aw_iconst (v := nI 4) d_Mod_need_35 (by decide) ?_
        refine aw_icmpN_ne d_Mod_need_36 (by omega) (by omega) (fun br36_ => ?_) (fun br36_ => ?_)
        · skip
          have hlt : (hs.2.1.getD j0 sz0).2.2.2.2.1.length < 4 := by omega
          have hr_ : okN hs gs (nI j0) (nI p0) (nI s0) = true := by unfold okN isSx; rw [br9_, br17_, br26_, xN_nI (by omega), decide_eq_true hlt]; rfl
          refine aw_aload_n (i := 0) d_Mod_need_41 rfl rfl ?_
          refine mo_get (f := 10) hm d_Mod_need_42 fl_Mod_31 rfl ?_
          refine aw_iconst (v := nI 4) d_Mod_need_45 (by decide) ?_
          refine aw_iload_n (i := 1) d_Mod_need_46 rfl rfl ?_
          refine aw_imulN d_Mod_need_47 ?_
          refine aw_aload_n (i := 0) d_Mod_need_48 rfl rfl ?_
          refine mo_get (f := 9) hm d_Mod_need_49 fl_Mod_28 rfl ?_
          refine aw_iload_n (i := 1) d_Mod_need_52 rfl rfl ?_
          apply mo_ld (f := 9) (N := 24) hm d_Mod_need_53 rfl rfl (by decide); omega; exact (hh.2.2.1 _ hj0).2.2.2.2.1
          refine aw_iaddN d_Mod_need_54 ?_
          refine aw_iload_n (i := 2) d_Mod_need_55 rfl rfl ?_
          apply mo_st (f := 10) (N := 96) hm d_Mod_need_56 rfl rfl (by decide); omega; intro h hm
          refine aw_aload_n (i := 0) d_Mod_need_57 rfl rfl ?_
          refine mo_get (f := 11) hm d_Mod_need_58 fl_Mod_34 rfl ?_
          refine aw_iconst (v := nI 4) d_Mod_need_61 (by decide) ?_
          refine aw_iload_n (i := 1) d_Mod_need_62 rfl rfl ?_
          refine aw_imulN d_Mod_need_63 ?_
          refine aw_aload_n (i := 0) d_Mod_need_64 rfl rfl ?_
          refine mo_get (f := 9) hm d_Mod_need_65 fl_Mod_28 rfl ?_
          refine aw_iload_n (i := 1) d_Mod_need_68 rfl rfl ?_
          apply mo_ld (f := 9) (N := 24) hm d_Mod_need_69 rfl rfl (by decide); omega; exact (hh.2.2.1 _ hj0).2.2.2.2.1
          refine aw_iaddN d_Mod_need_70 ?_
          refine aw_iload_n (i := 3) d_Mod_need_71 rfl rfl ?_
          apply mo_st (f := 11) (N := 96) hm d_Mod_need_72 rfl rfl (by decide); omega; intro h hm
          refine aw_aload_n (i := 0) d_Mod_need_73 rfl rfl ?_
          refine mo_get (f := 9) hm d_Mod_need_74 fl_Mod_28 rfl ?_
          refine aw_iload_n (i := 1) d_Mod_need_77 rfl rfl ?_
          refine aw_dup2 d_Mod_need_78 rfl rfl ?_
          apply mo_ld (f := 9) (N := 24) hm d_Mod_need_79 rfl rfl (by decide); omega; exact (hh.2.2.1 _ hj0).2.2.2.2.1
          refine aw_iconst (v := nI 1) d_Mod_need_80 (by decide) ?_
          refine aw_iaddN d_Mod_need_81 ?_
          apply mo_st (f := 9) (N := 24) hm d_Mod_need_82 rfl rfl (by decide); omega; intro h hm
          refine aw_aload_n (i := 0) d_Mod_need_83 rfl rfl ?_
          refine aw_iconst (v := nI 1) d_Mod_need_84 (by decide) ?_
          apply mo_put (f := 23) hm d_Mod_need_85 pl_Mod_68 (ms_23 _ _ _) (by decide) rfl rfl; intro h hm
          refine aw_iconst (v := nI 1) d_Mod_need_88 (by decide) ?_
          refine aw_zret d_Mod_need_89 rfl rfl (Nat.le_refl _) (Nat.le_refl _) ?_
          refine ⟨_, _, _, rfl, hm, by rw [hr_]; rfl, rfl, ?_⟩
          rw [hr_, xN_nI (by omega), xN_nI (by omega), xN_nI (by omega)]
          refine hq0.build (mh_addN hq0.1 hv hj0 hlt rfl rfl rfl rfl (fun g q => ?_) rfl rfl rfl) (Ls := [0, 23]) (La := [9, 10, 11]) ((((Kp.put (f := 0) rfl).tr (Kp.st (f := 10) rfl)).tr (Kp.st (f := 11) rfl)).tr ((Kp.st (f := 9) rfl).tr (Kp.put (f := 23) rfl))) rfl rfl rfl
          rw [ups_n (by omega), ups_n (by omega), ups_n (by omega)]
        · skip
          have hr_ : okN hs gs (nI j0) (nI p0) (nI s0) = false := by unfold okN; rw [xN_nI (by omega), decide_eq_false (show ¬ (hs.2.1.getD j0 sz0).2.2.2.2.1.length < 4 by omega), Bool.and_false]
          refine aw_iconst (v := nI 0) d_Mod_need_39 (by decide) ?_
          refine aw_zret d_Mod_need_40 rfl rfl (Nat.le_refl _) (Nat.le_refl _) ?_
          exact ⟨_, _, _, rfl, hm, by rw [hr_]; rfl, rfl, by rw [hr_]; exact hq⟩

set_option maxHeartbeats 4000000 in
set_option maxRecDepth 20000 in
theorem c_Mod_goal {G : aG} {nx : Nat} {h h0 : Nat → Option aC} {a : Nat} {A : Nat → Nat} {sc : Nat → Int32} {ar : Nat → Nat → Int32} (hm : MoF h0 h a A sc ar) {hs : HSt} {gs : List GSt} {lg : List (Nat × Nat × Nat)} {xs : List Int32} (hq : MoA sc ar hs gs lg xs) (hv : VH hs) (p s : Int32) : AMet G m_Mod_goal 3 0 0 [.ref a, .int p, .int s] (nx, h) (MR nx a h0 A (fun r sc2 ar2 => r = some (.int (if okG hs gs p s then nI 1 else nI 0)) ∧ sc2 0 = 0 ∧ MoA sc2 ar2 (if okG hs gs p s then addG hs (xN p) (xN s) else hs) gs lg xs)) := by
  have hp12 := hv.1.1
  have hs24 := hv.2.1
  have hall2 := hv.2.2.2.2.2.2.2
  have hq0 := hq
  refine amet_of pf_Mod_goal (Nat.le_of_ble_eq_true rfl) ?_
  show AW G m_Mod_goal 3 0 0 _ 0 [(0, .ref a), (1, .int p), (2, .int s)] [] (nx, h) 0 0
  refine aw_aload_n (i := 0) d_Mod_goal_0 rfl rfl ?_
  refine aw_iconst (v := nI 0) d_Mod_goal_1 (by decide) ?_
  apply mo_put (f := 0) hm d_Mod_goal_2 pl_Mod_150 (ms_0 _ _ _) (by decide) rfl rfl; intro h hm
  have hq := hq0.kp (Kp.put (Ls := [0]) (La := []) (f := 0) (x := nI 0) rfl) rfl rfl rfl rfl
  have hh := hq.1
  have hg := hq.2.1
  have hr := hq.2.2.2.1
  refine aw_aload_n (i := 0) d_Mod_goal_5 rfl rfl ?_
  apply aw_callv_p (c_Mod_plays hm hg) d_Mod_goal_6 cl_Mod_170; exact hm.1.1; rfl; rfl; rfl; rfl; decide; exact Nat.le_of_ble_eq_true rfl; exact (Nat.le_refl _); exact (Nat.le_refl _)
  refine aw_ifB_ne d_Mod_goal_9 (fun br9_ => ?_) (fun br9_ => ?_)
  · skip
    have hr_ : okG hs gs p s = false := by unfold okG; rw [br9_]; rfl
    refine aw_iconst (v := nI 0) d_Mod_goal_30 (by decide) ?_
    refine aw_zret d_Mod_goal_31 rfl rfl (Nat.le_refl _) (Nat.le_refl _) ?_
    exact ⟨_, _, _, rfl, hm, by rw [hr_]; rfl, rfl, by rw [hr_]; exact hq⟩
  · skip
    refine aw_aload_n (i := 0) d_Mod_goal_12 rfl rfl ?_
    refine aw_iload_n (i := 1) d_Mod_goal_13 rfl rfl ?_
    refine aw_iload_n (i := 2) d_Mod_goal_14 rfl rfl ?_
    apply aw_callv_p (c_Mod_isPair hm hh hv p s) d_Mod_goal_15 cl_Mod_193; exact hm.1.1; rfl; rfl; rfl; rfl; decide; exact Nat.le_of_ble_eq_true rfl; exact (Nat.le_refl _); exact (Nat.le_refl _)
    refine aw_ifB_eq d_Mod_goal_18 (fun br18_ => ?_) (fun br18_ => ?_)
    · skip
      have hr_ : okG hs gs p s = false := by unfold okG; rw [br18_]; simp
      refine aw_iconst (v := nI 0) d_Mod_goal_30 (by decide) ?_
      refine aw_zret d_Mod_goal_31 rfl rfl (Nat.le_refl _) (Nat.le_refl _) ?_
      exact ⟨_, _, _, rfl, hm, by rw [hr_]; rfl, rfl, by rw [hr_]; exact hq⟩
    · skip
      obtain ⟨p0, s0, hp0, hs0, rfl, rfl⟩ := prOK_ex br18_ hv
      have hg6 := hv.2.2.2.2.1
      refine aw_aload_n (i := 0) d_Mod_goal_21 rfl rfl ?_
      apply mo_gets (f := 15) hm d_Mod_goal_22 fl_Mod_197 rfl; exact hh.1.2.2.1
      refine aw_bipush (v := nI 6) d_Mod_goal_25 (by decide) ?_
      refine aw_icmpN_ne d_Mod_goal_27 (by omega) (by omega) (fun br27_ => ?_) (fun br27_ => ?_)
      · skip
        have hlt : hs.2.2.1.length < 6 := by omega
        have hr_ : okG hs gs (nI p0) (nI s0) = true := by unfold okG; rw [br9_, br18_, decide_eq_true hlt]; rfl
        refine aw_aload_n (i := 0) d_Mod_goal_32 rfl rfl ?_
        refine mo_get (f := 16) hm d_Mod_goal_33 fl_Mod_46 rfl ?_
        refine aw_aload_n (i := 0) d_Mod_goal_36 rfl rfl ?_
        apply mo_gets (f := 15) hm d_Mod_goal_37 fl_Mod_197 rfl; exact hh.1.2.2.1
        refine aw_iload_n (i := 1) d_Mod_goal_40 rfl rfl ?_
        apply mo_st (f := 16) (N := 6) hm d_Mod_goal_41 rfl rfl (by decide); omega; intro h hm
        refine aw_aload_n (i := 0) d_Mod_goal_42 rfl rfl ?_
        refine mo_get (f := 17) hm d_Mod_goal_43 fl_Mod_49 rfl ?_
        refine aw_aload_n (i := 0) d_Mod_goal_46 rfl rfl ?_
        apply mo_gets (f := 15) hm d_Mod_goal_47 fl_Mod_197 rfl; exact hh.1.2.2.1
        refine aw_iload_n (i := 2) d_Mod_goal_50 rfl rfl ?_
        apply mo_st (f := 17) (N := 6) hm d_Mod_goal_51 rfl rfl (by decide); omega; intro h hm
        refine aw_aload_n (i := 0) d_Mod_goal_52 rfl rfl ?_
        refine aw_dup d_Mod_goal_53 rfl ?_
        apply mo_gets (f := 15) hm d_Mod_goal_54 fl_Mod_197 rfl; exact hh.1.2.2.1
        refine aw_iconst (v := nI 1) d_Mod_goal_57 (by decide) ?_
        refine aw_iaddN d_Mod_goal_58 ?_
        apply mo_put (f := 15) hm d_Mod_goal_59 pl_Mod_197 (ms_15 _ _ _) (by decide) rfl rfl; intro h hm
        refine aw_aload_n (i := 0) d_Mod_goal_62 rfl rfl ?_
        refine aw_iconst (v := nI 1) d_Mod_goal_63 (by decide) ?_
        apply mo_put (f := 23) hm d_Mod_goal_64 pl_Mod_68 (ms_23 _ _ _) (by decide) rfl rfl; intro h hm
        refine aw_iconst (v := nI 1) d_Mod_goal_67 (by decide) ?_
        refine aw_zret d_Mod_goal_68 rfl rfl (Nat.le_refl _) (Nat.le_refl _) ?_
        refine ⟨_, _, _, rfl, hm, by rw [hr_]; rfl, rfl, ?_⟩
        rw [hr_, xN_nI (by omega), xN_nI (by have := hv.1.k hp0; omega)]
        refine hq0.build (mh_addG hq0.1 rfl rfl rfl rfl (fun g q => ?_) rfl rfl) (Ls := [0, 15, 23]) (La := [16, 17]) ((((Kp.put (f := 0) rfl).tr (Kp.st (f := 16) rfl)).tr (Kp.st (f := 17) rfl)).tr ((Kp.put (f := 15) rfl).tr (Kp.put (f := 23) rfl))) rfl rfl rfl
        rw [ups_n (by omega), ups_n (by omega)]
      · skip
        have hr_ : okG hs gs (nI p0) (nI s0) = false := by unfold okG; rw [decide_eq_false (show ¬ hs.2.2.1.length < 6 by omega), Bool.and_false]
        refine aw_iconst (v := nI 0) d_Mod_goal_30 (by decide) ?_
        refine aw_zret d_Mod_goal_31 rfl rfl (Nat.le_refl _) (Nat.le_refl _) ?_
        exact ⟨_, _, _, rfl, hm, by rw [hr_]; rfl, rfl, by rw [hr_]; exact hq⟩

set_option maxHeartbeats 4000000 in
set_option maxRecDepth 20000 in
theorem c_Mod_hands {G : aG} {nx : Nat} {h h0 : Nat → Option aC} {a : Nat} {A : Nat → Nat} {sc : Nat → Int32} {ar : Nat → Nat → Int32} (hm : MoF h0 h a A sc ar) {hs : HSt} {gs : List GSt} {lg : List (Nat × Nat × Nat)} {xs : List Int32} (hq : MoA sc ar hs gs lg xs) (hv : VH hs) (n : Int32) : AMet G m_Mod_hands 2 0 0 [.ref a, .int n] (nx, h) (MR nx a h0 A (fun r sc2 ar2 => r = some (.int (if okH gs n then nI 1 else nI 0)) ∧ sc2 0 = 0 ∧ MoA sc2 ar2 (if okH gs n then setH hs (xN n) else hs) gs lg xs)) := by
  have hp12 := hv.1.1
  have hs24 := hv.2.1
  have hall2 := hv.2.2.2.2.2.2.2
  have hq0 := hq
  refine amet_of pf_Mod_hands (Nat.le_of_ble_eq_true rfl) ?_
  show AW G m_Mod_hands 2 0 0 _ 0 [(0, .ref a), (1, .int n)] [] (nx, h) 0 0
  refine aw_aload_n (i := 0) d_Mod_hands_0 rfl rfl ?_
  refine aw_iconst (v := nI 0) d_Mod_hands_1 (by decide) ?_
  apply mo_put (f := 0) hm d_Mod_hands_2 pl_Mod_150 (ms_0 _ _ _) (by decide) rfl rfl; intro h hm
  have hq := hq0.kp (Kp.put (Ls := [0]) (La := []) (f := 0) (x := nI 0) rfl) rfl rfl rfl rfl
  have hh := hq.1
  have hg := hq.2.1
  have hr := hq.2.2.2.1
  refine aw_aload_n (i := 0) d_Mod_hands_5 rfl rfl ?_
  apply aw_callv_p (c_Mod_plays hm hg) d_Mod_hands_6 cl_Mod_170; exact hm.1.1; rfl; rfl; rfl; rfl; decide; exact Nat.le_of_ble_eq_true rfl; exact (Nat.le_refl _); exact (Nat.le_refl _)
  refine aw_ifB_ne d_Mod_hands_9 (fun br9_ => ?_) (fun br9_ => ?_)
  · skip
    have hr_ : okH gs n = false := by unfold okH; rw [br9_]; rfl
    refine aw_iconst (v := nI 0) d_Mod_hands_24 (by decide) ?_
    refine aw_zret d_Mod_hands_25 rfl rfl (Nat.le_refl _) (Nat.le_refl _) ?_
    exact ⟨_, _, _, rfl, hm, by rw [hr_]; rfl, rfl, by rw [hr_]; exact hq⟩
  · skip
    refine aw_iload_n (i := 1) d_Mod_hands_12 rfl rfl ?_
    refine aw_i2l d_Mod_hands_13 ?_
    refine aw_lconst (v := 1) d_Mod_hands_14 (by decide) ?_
    refine aw_ldc2 d_Mod_hands_15 kc_Mod_184 ?_
    apply aw_calls_p (c_Mod_in _ _ _) d_Mod_hands_18 cl_Mod_156; rfl; rfl; decide; exact Nat.le_of_ble_eq_true rfl; exact (Nat.le_refl _); exact (Nat.le_refl _)
    rw [show decide ((1 : Int64) ≤ n.toInt64 ∧ n.toInt64 ≤ 9) = rng 1 9 n from in_rng (lo := 1) (hi := 9)]
    refine aw_ifB_ne d_Mod_hands_21 (fun br21_ => ?_) (fun br21_ => ?_)
    · skip
      obtain ⟨n0, hn1, hn2, rfl⟩ := rng_of br21_ (by decide) (by decide)
      have hr_ : okH gs (nI n0) = true := by unfold okH; rw [br9_, br21_]; rfl
      refine aw_aload_n (i := 0) d_Mod_hands_26 rfl rfl ?_
      refine aw_iload_n (i := 1) d_Mod_hands_27 rfl rfl ?_
      apply mo_put (f := 18) hm d_Mod_hands_28 pl_Mod_52 (ms_18 _ _ _) (by decide) rfl rfl; intro h hm
      refine aw_aload_n (i := 0) d_Mod_hands_31 rfl rfl ?_
      refine aw_iconst (v := nI 1) d_Mod_hands_32 (by decide) ?_
      apply mo_put (f := 23) hm d_Mod_hands_33 pl_Mod_68 (ms_23 _ _ _) (by decide) rfl rfl; intro h hm
      refine aw_iconst (v := nI 1) d_Mod_hands_36 (by decide) ?_
      refine aw_zret d_Mod_hands_37 rfl rfl (Nat.le_refl _) (Nat.le_refl _) ?_
      refine ⟨_, _, _, rfl, hm, by rw [hr_]; rfl, rfl, ?_⟩
      rw [hr_, xN_nI (by omega)]
      exact hq0.build (mh_setH hq0.1 rfl rfl rfl rfl) (Ls := [0, 18, 23]) (La := []) ((Kp.put (f := 0) rfl).tr ((Kp.put (f := 18) rfl).tr (Kp.put (f := 23) rfl))) rfl rfl rfl
    · skip
      have hr_ : okH gs n = false := by unfold okH; rw [br21_, Bool.and_false]
      refine aw_iconst (v := nI 0) d_Mod_hands_24 (by decide) ?_
      refine aw_zret d_Mod_hands_25 rfl rfl (Nat.le_refl _) (Nat.le_refl _) ?_
      exact ⟨_, _, _, rfl, hm, by rw [hr_]; rfl, rfl, by rw [hr_]; exact hq⟩

