set_option maxHeartbeats 4000000 in
set_option maxRecDepth 20000 in
theorem c_Diary_readN {G : aG} {nx : Nat} {h : Nat → Option aC} {a : Nat} {lg : Lg} (hl : DiA h a lg) (v w9 : Int32) (hno : ¬ (0 ≤ v ∧ v < nI (min lg.length 200))) : AMet G m_Diary_read 1 0 0 [.ref a, .int v, .int w9] (nx, h) (RV (.int (-1)) (nx, h)) := by
  obtain ⟨a0, a1, a2, f0, f1, f2, q1, -⟩ := hl
  refine amet_of pf_Diary_read (Nat.le_of_ble_eq_true rfl) ?_
  show AW G m_Diary_read 1 0 0 _ 0 [(0, .ref a), (1, .int v), (2, .int w9)] [] (nx, h) 0 0
  refine aw_iload_n (i := 1) d_Diary_read_0 rfl rfl ?_
  refine aw_if_lt d_Diary_read_1 (fun br1_ => ?_) (fun br1_ => ?_)
  · skip
    refine aw_iconst (v := -1) d_Diary_read_12 (by decide) ?_
    refine aw_iret d_Diary_read_13 rfl (Nat.le_refl _) (Nat.le_refl _) ?_
    exact ⟨rfl, rfl⟩
  · skip
    refine aw_iload_n (i := 1) d_Diary_read_4 rfl rfl ?_
    refine aw_aload_n (i := 0) d_Diary_read_5 rfl rfl ?_
    apply aw_get d_Diary_read_6 fl_Diary_25; exact q1; rfl
    refine aw_icmp_lt d_Diary_read_9 (fun br9_ => absurd ⟨Int32.not_lt.mp br1_, br9_⟩ hno) (fun br9_ => ?_)
    refine aw_iconst (v := -1) d_Diary_read_12 (by decide) ?_
    refine aw_iret d_Diary_read_13 rfl (Nat.le_refl _) (Nat.le_refl _) ?_
    exact ⟨rfl, rfl⟩

theorem d_read {G : aG} {nx : Nat} {h : Nat → Option aC} {a : Nat} {lg : Lg} (hl : DiA h a lg) (hb : lg.length ≤ 100000) (v w9 : Int32) : AMet G m_Diary_read 1 0 0 [.ref a, .int v, .int w9] (nx, h) (RV (.int (sLog lg v w9)) (nx, h)) := by
  unfold sLog
  by_cases e : 0 ≤ v ∧ v < nI (min lg.length 200)
  · rw [if_pos (decide_eq_true e)]
    obtain ⟨i, hi, rfl⟩ := dec_ix (decide_eq_true e) (by omega)
    rw [xN_nI (by omega)]
    exact c_Diary_read hl hb hi w9
  · rw [if_neg (by rw [decide_eq_false e]; decide)]
    exact c_Diary_readN hl v w9 e
theorem DiA.ob {h : Nat → Option aC} {a : Nat} {lg : Lg} (hl : DiA h a lg) : ∃ fs, h a = some (13, .inr (0, fs)) := by
  obtain ⟨a0, a1, a2, f0, f1, f2, q1, -⟩ := hl
  exact ⟨_, q1⟩
set_option maxHeartbeats 4000000 in
set_option maxRecDepth 20000 in
theorem c_LH_log {G : aG} {nx : Nat} {h : Nat → Option aC} {x : Nat} {B : LB} {hs : HSt} {ad : AD} {A : Nat → Nat} {most : Nat} {fl : WFl} {L L2 : List Nat} {ar : Nat → Nat → Int32} {n : Nat} {gs : List GSt} {lg : Lg} {xs : List Int32} {cap : Nat} (hc : CL h x B hs ad A most fl L L2 ar n gs lg xs cap) (hv : VH hs) (hlb : lg.length ≤ 100000) (v w9 : Int32) : AMet G m_LH_log 2 0 0 [.ref x, .int v, .int w9] (nx, h) (LR h x B (.int (sLog lg v w9)) (hs) (gs) (lg) (xs) (most) (cap)) := by
  have hp12 := hv.1.1
  have hs24 := hv.2.1
  have hall2 := hv.2.2.2.2.2.2.2
  have hmst := hc.wk.mst
  refine amet_of pf_LH_log (Nat.le_of_ble_eq_true rfl) ?_
  show AW G m_LH_log 2 0 0 _ 0 [(0, .ref x), (1, .int v), (2, .int w9)] [] (nx, h) 0 0
  refine aw_aload_n (i := 0) d_LH_log_0 rfl rfl ?_
  apply aw_get d_LH_log_1 fl_LH_26; exact hc.1.1; rfl
  refine aw_iload_n (i := 1) d_LH_log_4 rfl rfl ?_
  refine aw_iload_n (i := 2) d_LH_log_5 rfl rfl ?_
  apply aw_callv_p (d_read hc.1.2.2.1 hlb v w9) d_LH_log_6 cl_LH_292; exact hc.1.2.2.1.ob.choose_spec; rfl; rfl; rfl; rfl; decide; exact Nat.le_of_ble_eq_true rfl; exact (by omega); exact (by omega)
  refine aw_iret d_LH_log_9 rfl (by omega) (by omega) ?_
  exact ⟨rfl, _, h, _, _, _, _, _, _, _, rfl, hc, Fr.rf⟩

set_option maxHeartbeats 4000000 in
set_option maxRecDepth 20000 in
theorem c_LH_count {G : aG} {nx : Nat} {h : Nat → Option aC} {x : Nat} {B : LB} {hs : HSt} {ad : AD} {A : Nat → Nat} {most : Nat} {fl : WFl} {L L2 : List Nat} {ar : Nat → Nat → Int32} {n : Nat} {gs : List GSt} {lg : Lg} {xs : List Int32} {cap : Nat} (hc : CL h x B hs ad A most fl L L2 ar n gs lg xs cap) (hv : VH hs) (hg : gs.length = 4) (w9 : Int32) : AMet G m_LH_count 4 0 0 [.ref x, .int w9] (nx, h) (LR h x B (.int (sCnt hs gs lg xs w9)) (hs) (gs) (lg) (xs) (most) (cap)) := by
  have hp12 := hv.1.1
  have hs24 := hv.2.1
  have hall2 := hv.2.2.2.2.2.2.2
  have hmst := hc.wk.mst
  refine amet_of pf_LH_count (Nat.le_of_ble_eq_true rfl) ?_
  show AW G m_LH_count 4 0 0 _ 0 [(0, .ref x), (1, .int w9)] [] (nx, h) 0 0
  refine aw_iload_n (i := 1) d_LH_count_0 rfl rfl ?_
  refine aw_tsw d_LH_count_1 (fun j_ t_ ej_ et_ => ?_) (fun hno_ => ?_)
  · rcases j_ with _ | _ | _ | _ | _ | _ | _ | _ | _ | j_
    · have e_ : 52 = t_ := Option.some.inj et_
      subst e_
      clear et_
      subst ej_
      refine aw_aload_n (i := 0) d_LH_count_52 rfl rfl ?_
      apply aw_get d_LH_count_53 fl_LH_10; exact hc.1.1; rfl
      apply aw_get d_LH_count_56 fl_LH_61; exact hc.2.1.1; rfl
      apply aw_callv_p (ho_np hc.2.1) d_LH_count_59 cl_LH_64; exact (ho_pl hc.2.1).choose_spec; rfl; rfl; rfl; rfl; decide; exact Nat.le_of_ble_eq_true rfl; exact (by omega); exact (by omega)
      refine aw_iret d_LH_count_62 rfl (by omega) (by omega) ?_
      exact ⟨rfl, _, h, _, _, _, _, _, _, _, rfl, hc, Fr.rf⟩
    · have e_ : 63 = t_ := Option.some.inj et_
      subst e_
      clear et_
      subst ej_
      refine aw_aload_n (i := 0) d_LH_count_63 rfl rfl ?_
      apply aw_get d_LH_count_64 fl_LH_10; exact hc.1.1; rfl
      apply aw_get d_LH_count_67 fl_LH_82; exact hc.2.1.1; rfl
      apply aw_callv_p (ho_ns hc.2.1) d_LH_count_70 cl_LH_64; exact (ho_sl hc.2.1).choose_spec; rfl; rfl; rfl; rfl; decide; exact Nat.le_of_ble_eq_true rfl; exact (by omega); exact (by omega)
      refine aw_iret d_LH_count_73 rfl (by omega) (by omega) ?_
      exact ⟨rfl, _, h, _, _, _, _, _, _, _, rfl, hc, Fr.rf⟩
    · have e_ : 74 = t_ := Option.some.inj et_
      subst e_
      clear et_
      subst ej_
      refine aw_aload_n (i := 0) d_LH_count_74 rfl rfl ?_
      apply aw_get d_LH_count_75 fl_LH_10; exact hc.1.1; rfl
      apply aw_get d_LH_count_78 fl_LH_122; exact hc.2.1.1; rfl
      apply aw_callv_p (c_Pairs_size hc.2.1.2.2.2.1) d_LH_count_81 cl_LH_153; exact hc.2.1.2.2.2.1.ob.choose_spec; rfl; rfl; rfl; rfl; decide; exact Nat.le_of_ble_eq_true rfl; exact (by omega); exact (by omega)
      refine aw_iret d_LH_count_84 rfl (by omega) (by omega) ?_
      exact ⟨rfl, _, h, _, _, _, _, _, _, _, rfl, hc, Fr.rf⟩
    · have e_ : 85 = t_ := Option.some.inj et_
      subst e_
      clear et_
      subst ej_
      refine aw_aload_n (i := 0) d_LH_count_85 rfl rfl ?_
      apply aw_get d_LH_count_86 fl_LH_10; exact hc.1.1; rfl
      apply aw_get d_LH_count_89 fl_LH_67; exact hc.2.1.1; rfl
      refine aw_iret d_LH_count_92 rfl (by omega) (by omega) ?_
      exact ⟨rfl, _, h, _, _, _, _, _, _, _, rfl, hc, Fr.rf⟩
    · have e_ : 93 = t_ := Option.some.inj et_
      subst e_
      clear et_
      subst ej_
      refine aw_aload_n (i := 0) d_LH_count_93 rfl rfl ?_
      apply aw_get d_LH_count_94 fl_LH_10; exact hc.1.1; rfl
      apply aw_get d_LH_count_97 fl_LH_125; exact hc.2.1.1; rfl
      refine aw_iret d_LH_count_100 rfl (by omega) (by omega) ?_
      exact ⟨rfl, _, h, _, _, _, _, _, _, _, rfl, hc, Fr.rf⟩
    · have e_ : 101 = t_ := Option.some.inj et_
      subst e_
      clear et_
      subst ej_
      refine aw_aload_n (i := 0) d_LH_count_101 rfl rfl ?_
      apply aw_callv_p (c_LH_playing hc hv hg) d_LH_count_102 cl_LH_57; exact hc.1.1; rfl; rfl; rfl; rfl; decide; exact Nat.le_of_ble_eq_true rfl; exact (by omega); exact (by omega)
      refine aw_iret d_LH_count_105 rfl (by omega) (by omega) ?_
      exact ⟨rfl, _, h, _, _, _, _, _, _, _, rfl, hc, Fr.rf⟩
    · have e_ : 106 = t_ := Option.some.inj et_
      subst e_
      clear et_
      subst ej_
      refine aw_aload_n (i := 0) d_LH_count_106 rfl rfl ?_
      apply aw_get d_LH_count_107 fl_LH_19; exact hc.1.1; rfl
      obtain ⟨na_, fr_, ho_, -⟩ := hc.1.2.1
      apply aw_get d_LH_count_110 fl_LH_154; exact ho_; rfl
      refine aw_iret d_LH_count_113 rfl (by omega) (by omega) ?_
      exact ⟨rfl, _, h, _, _, _, _, _, _, _, rfl, hc, Fr.rf⟩
    · have e_ : 114 = t_ := Option.some.inj et_
      subst e_
      clear et_
      subst ej_
      refine aw_aload_n (i := 0) d_LH_count_114 rfl rfl ?_
      apply aw_get d_LH_count_115 fl_LH_26; exact hc.1.1; rfl
      obtain ⟨_, _, _, _, _, _, hd_, -⟩ := hc.1.2.2.1
      apply aw_get d_LH_count_118 fl_LH_156; exact hd_; rfl
      refine aw_iret d_LH_count_121 rfl (by omega) (by omega) ?_
      exact ⟨rfl, _, h, _, _, _, _, _, _, _, rfl, hc, Fr.rf⟩
    · have e_ : 122 = t_ := Option.some.inj et_
      subst e_
      clear et_
      subst ej_
      refine aw_aload_n (i := 0) d_LH_count_122 rfl rfl ?_
      apply aw_get d_LH_count_123 fl_LH_10; exact hc.1.1; rfl
      apply aw_get d_LH_count_126 fl_LH_159; exact hc.2.1.1; rfl
      refine aw_iret d_LH_count_129 rfl (by omega) (by omega) ?_
      exact ⟨rfl, _, h, _, _, _, _, _, _, _, rfl, hc, Fr.rf⟩
    · exact absurd et_ (by simp)
  · skip
    refine aw_iconst (v := -1) d_LH_count_130 (by decide) ?_
    refine aw_iret d_LH_count_131 rfl (by omega) (by omega) ?_
    exact ⟨(by rw [sCnt_d (fun j hj => hno_ j (by simpa using hj))]), _, h, _, _, _, _, _, _, _, rfl, hc, Fr.rf⟩

set_option maxHeartbeats 4000000 in
set_option maxRecDepth 20000 in
theorem c_LH_alarm {G : aG} {nx : Nat} {h : Nat → Option aC} {x : Nat} {B : LB} {hs : HSt} {ad : AD} {A : Nat → Nat} {most : Nat} {fl : WFl} {L L2 : List Nat} {ar : Nat → Nat → Int32} {n : Nat} {gs : List GSt} {lg : Lg} {xs : List Int32} {cap : Nat} (hc : CL h x B hs ad A most fl L L2 ar n gs lg xs cap) (hv : VH hs) (hcap : 256 ≤ cap) (hx : VX hs) (hvg : VG hs gs) : AMet G m_LH_alarm 5 0 0 [.ref x] (nx, h) (LR h x B (.int (nI (alL hs gs).length)) (hs) (gsC gs) (lg) (alL hs gs) (most) (cap)) := by
  have hp12 := hv.1.1
  have hs24 := hv.2.1
  have hall2 := hv.2.2.2.2.2.2.2
  have hmst := hc.wk.mst
  refine amet_of pf_LH_alarm (Nat.le_of_ble_eq_true rfl) ?_
  show AW G m_LH_alarm 5 0 0 _ 0 [(0, .ref x)] [] (nx, h) 0 0
  refine aw_aload_n (i := 0) d_LH_alarm_0 rfl rfl ?_
  apply aw_get d_LH_alarm_1 fl_LH_19; exact hc.1.1; rfl
  refine aw_iconst (v := nI 4) d_LH_alarm_4 (by decide) ?_
  apply aw_callv d_LH_alarm_5 cl_LH_143 (c_Row_beginA hc.1.2.1 (m := 4) (by omega)); exact hc.1.2.1.ob.choose_spec; rfl; rfl; rfl; rfl; decide; exact (by omega); exact (by omega); exact Nat.le_of_ble_eq_true rfl
  rintro _ _ ⟨rfl, h1, rfl, hr9, f9⟩
  have hc := hc.told hv hr9 f9
  have FR : Fr CTs h h1 := ct_up f9 (fun y hy => by simp at hy; omega)
  refine aw_iconst (v := nI 0) d_LH_alarm_8 (by decide) ?_
  refine aw_istore_n (i := 1) (lv2 := [(0, _), (1, _)]) d_LH_alarm_9 rfl (by decide) rfl ?_
  refine Nat.strongRecOn (motive := fun m9 => ∀ (i : Nat) (hh : Nat → Option aC), (m9 = 4 - i ∧ i ≤ 4 ∧ CL hh x B hs ad A most fl L L2 ar n (gsT gs i) lg (alL hs (gs.take i)) cap ∧ Fr CTs h hh) → AW G m_LH_alarm 5 0 0 _ 10 [(0, .ref x), (1, .int (nI i))] [] (nx, hh) 0 0) (4 - 0) (fun m9 ih => ?_) 0 h1 ⟨rfl, by decide, hc, FR⟩
  intro i hh hI
  obtain ⟨e9, hi, hc, FR⟩ := hI
  have hil := alL_len hs (gs.take i)
  rw [List.length_take] at hil
  have hc0 := hc
  obtain ⟨gal, g1, g2, g3⟩ := hc.1.2.2.2.1
  refine aw_iload_n (i := 1) d_LH_alarm_10 rfl rfl ?_
  refine aw_aload_n (i := 0) d_LH_alarm_11 rfl rfl ?_
  apply aw_get d_LH_alarm_12 fl_LH_33; exact hc.1.1; rfl
  apply aw_callv_p (l_size g1) d_LH_alarm_15 cl_LH_64; exact g1.ob.choose_spec; rfl; rfl; rfl; rfl; decide; exact Nat.le_of_ble_eq_true rfl; exact (by omega); exact (by omega)
  rw [g2]
  refine aw_icmpN_ge d_LH_alarm_18 (by omega) (by omega) (fun br18_ => ?_) (fun br18_ => ?_)
  · skip
    have ei : i = 4 := by omega
    subst ei
    rw [gsT_4 hvg.1, List.take_of_length_le (by rw [hvg.1]; omega)] at hc
    refine aw_aload_n (i := 0) d_LH_alarm_87 rfl rfl ?_
    apply aw_get d_LH_alarm_88 fl_LH_19; exact hc.1.1; rfl
    obtain ⟨na_, fr_, ho_, -⟩ := hc.1.2.1
    apply aw_get d_LH_alarm_91 fl_LH_154; exact ho_; rfl
    refine aw_iret d_LH_alarm_94 rfl (by omega) (by omega) ?_
    exact ⟨rfl, _, hh, _, _, _, _, _, _, _, rfl, hc, FR⟩
  · skip
    obtain ⟨v1, v2, v3, v4, v5, k1, k2⟩ := g3 (i) br18_
    rw [gsT_at hvg.1 br18_, if_neg (Nat.lt_irrefl _)] at k1 k2
    refine aw_aload_n (i := 0) d_LH_alarm_21 rfl rfl ?_
    apply aw_get d_LH_alarm_22 fl_LH_33; exact hc.1.1; rfl
    refine aw_iload_n (i := 1) d_LH_alarm_25 rfl rfl ?_
    apply aw_callv_p (l_gd g1 (i) (by rw [g2]; exact br18_)) d_LH_alarm_26 cl_LH_101; exact g1.ob.choose_spec; rfl; rfl; rfl; rfl; decide; exact Nat.le_of_ble_eq_true rfl; exact (by omega); exact (by omega)
    apply aw_cast d_LH_alarm_29; exact k1; rfl; exact cc_LH_37
    apply aw_get d_LH_alarm_32 fl_LH_149; exact k1; rfl
    refine aw_ifB_eq d_LH_alarm_35 (fun br35_ => ?_) (fun br35_ => ?_)
    · skip
      refine aw_iincN (lv2 := [(0, _), (1, _)]) d_LH_alarm_81 (by decide) rfl rfl ?_
      refine aw_goto d_LH_alarm_84 ?_
      exact ih (4 - (i + 1)) (by omega) (i + 1) _ ⟨rfl, by omega, (by rw [alL_s (by rw [hvg.1]; exact br18_), br35_]; simpa using hc.gcong (gsT_np hvg.1 br35_)), FR⟩
    · skip
      obtain ⟨q1, q2, q3, q4, q5⟩ := k2 br35_
      obtain ⟨w1, w2, w3⟩ := hvg.2 i br18_ br35_
      subst q1
      refine aw_aload_n (i := 0) d_LH_alarm_38 rfl rfl ?_
      apply aw_get d_LH_alarm_39 fl_LH_33; exact hc.1.1; rfl
      refine aw_iload_n (i := 1) d_LH_alarm_42 rfl rfl ?_
      apply aw_callv_p (l_gd g1 (i) (by rw [g2]; exact br18_)) d_LH_alarm_43 cl_LH_101; exact g1.ob.choose_spec; rfl; rfl; rfl; rfl; decide; exact Nat.le_of_ble_eq_true rfl; exact (by omega); exact (by omega)
      apply aw_cast d_LH_alarm_46; exact k1; rfl; exact cc_LH_37
      refine aw_iconst (v := 0) d_LH_alarm_49 (by decide) ?_
      apply aw_put d_LH_alarm_50 pl_LH_149; exact k1; exact Nat.le_of_ble_eq_true rfl; rfl; rfl
      refine aw_nm k1 ?_
      intro hh k3 f1 o1
      have hG : GrA hh B.2.2.1 ((gsT gs i).set i (false, (gs.getD i gz0).2)) := gr_set g1 g2 g3 (gsT_len hvg.1) br18_ f1 ⟨_, _, _, _, _, k3, fun q => absurd (show false = true from q) (by decide)⟩
      have hc := (hc.grp hv hG (gr_fr br18_ f1)).gcong (gsT_set hvg.1 br18_)
      have g1 := g1.fr f1 (by rw [List.mem_singleton]; show ¬ 17 = 20 + i; omega) (by rw [List.mem_singleton]; show ¬ 18 = 20 + i; omega)
      have FR := FR.tr (ct_up f1 (fun y hy => by rw [List.mem_singleton.mp hy]; show 1 ≤ 20 + i ∧ 20 + i ≤ 43; omega))
      refine aw_aload_n (i := 0) d_LH_alarm_53 rfl rfl ?_
      apply aw_get d_LH_alarm_54 fl_LH_19; exact hc.1.1; rfl
      refine aw_aload_n (i := 0) d_LH_alarm_57 rfl rfl ?_
      apply aw_get d_LH_alarm_58 fl_LH_10; exact hc.1.1; rfl
      refine aw_aload_n (i := 0) d_LH_alarm_61 rfl rfl ?_
      apply aw_get d_LH_alarm_62 fl_LH_33; exact hc.1.1; rfl
      refine aw_iload_n (i := 1) d_LH_alarm_65 rfl rfl ?_
      apply aw_callv_p (l_gd g1 (i) (by rw [g2]; exact br18_)) d_LH_alarm_66 cl_LH_101; exact g1.ob.choose_spec; rfl; rfl; rfl; rfl; decide; exact Nat.le_of_ble_eq_true rfl; exact (by omega); exact (by omega)
      apply aw_cast d_LH_alarm_69; exact k3; rfl; exact cc_LH_37
      apply aw_get d_LH_alarm_72 fl_LH_257; exact k3; rfl
      apply aw_callv_p (c_House_withExits hc.2.1 hv hx w1) d_LH_alarm_75 cl_LH_289; exact hc.2.1.1; rfl; rfl; rfl; rfl; decide; exact Nat.le_of_ble_eq_true rfl; exact (by omega); exact (by omega)
      apply aw_callv d_LH_alarm_78 cl_LH_212 (c_Row_put hc.1.2.1 (nI (exs hs (gs.getD i gz0).2.1 hs.1.length)) (by omega)); exact hc.1.2.1.ob.choose_spec; rfl; rfl; rfl; rfl; decide; exact (by omega); exact (by omega); exact Nat.le_of_ble_eq_true rfl
      rintro _ _ ⟨rfl, h1, rfl, hr9, f9⟩
      have hc := hc.told hv hr9 f9
      have FR := FR.tr (ct_up f9 (fun y hy => by simp at hy; omega))
      refine aw_iincN (lv2 := [(0, _), (1, _)]) d_LH_alarm_81 (by decide) rfl rfl ?_
      refine aw_goto d_LH_alarm_84 ?_
      exact ih (4 - (i + 1)) (by omega) (i + 1) _ ⟨rfl, by omega, (by rw [alL_s (by rw [hvg.1]; exact br18_), br35_, if_pos rfl]; exact hc), FR⟩

theorem CL.tear {h h2 : Nat → Option aC} {x : Nat} {B : LB} {hs hs9 : HSt} {ad ad9 : AD} {A : Nat → Nat} {most : Nat} {fl : WFl} {L L2 : List Nat} {ar : Nat → Nat → Int32} {n : Nat} {gs : List GSt} {lg : Lg} {xs : List Int32} {cap : Nat} {T : List Nat} (hc : CL h x B hs ad A most fl L L2 ar n gs lg xs cap) (ho : HoA h2 hs9 ad9 (hsta hs9)) (e : ad9.1 = ad.1) (f : Fr T h h2) (ht : ∀ y ∈ T, HT y) : CLp h2 x B ad9.1 (A 0) gs lg xs cap ∧ WkF h2 h2 hs9 ad9 A most fl L L2 ar n := by
  refine ⟨?_, ho, by rw [e]; exact hc.2.2.1, hc.2.2.2.1.fr f (fun y hy hm => ?_), Fr.rf⟩
  · rw [e]; exact hc.1.fr f (fun y hy hm => by have := ht y hm; unfold HT at this; omega)
  · have := ht y hm; unfold HT at this; simp only [WTg, List.mem_cons, List.not_mem_nil, or_false] at hy; omega
set_option maxHeartbeats 4000000 in
set_option maxRecDepth 20000 in
theorem c_LH_clear {G : aG} {nx : Nat} {h : Nat → Option aC} {x : Nat} {B : LB} {hs : HSt} {ad : AD} {A : Nat → Nat} {most : Nat} {fl : WFl} {L L2 : List Nat} {ar : Nat → Nat → Int32} {n : Nat} {gs : List GSt} {lg : Lg} {xs : List Int32} {cap : Nat} (hc : CL h x B hs ad A most fl L L2 ar n gs lg xs cap) (hv : VH hs) (hcap : 256 ≤ cap) (hg : gs.length = 4) : AMet G m_LH_clear 5 0 0 [.ref x] (nx, h) (LR h x B (.int (nI hs.1.length)) (hsC) (gsC gs) ([]) ([]) (most) (cap)) := by
  have hp12 := hv.1.1
  have hs24 := hv.2.1
  have hall2 := hv.2.2.2.2.2.2.2
  have hmst := hc.wk.mst
  refine amet_of pf_LH_clear (Nat.le_of_ble_eq_true rfl) ?_
  show AW G m_LH_clear 5 0 0 _ 0 [(0, .ref x)] [] (nx, h) 0 0
  refine aw_aload_n (i := 0) d_LH_clear_0 rfl rfl ?_
  apply aw_get d_LH_clear_1 fl_LH_10; exact hc.1.1; rfl
  apply aw_get d_LH_clear_4 fl_LH_61; exact hc.2.1.1; rfl
  apply aw_callv_p (ho_np hc.2.1) d_LH_clear_7 cl_LH_64; exact (ho_pl hc.2.1).choose_spec; rfl; rfl; rfl; rfl; decide; exact Nat.le_of_ble_eq_true rfl; exact (by omega); exact (by omega)
  refine aw_istore_n (i := 1) (lv2 := [(0, _), (1, _)]) d_LH_clear_10 rfl (by decide) rfl ?_
  refine aw_aload_n (i := 0) d_LH_clear_11 rfl rfl ?_
  apply aw_get d_LH_clear_12 fl_LH_10; exact hc.1.1; rfl
  apply aw_callv d_LH_clear_15 cl_LH_140 (c_House_tearDown hc.2.1); exact hc.2.1.1; rfl; rfl; rfl; rfl; decide; exact (by omega); exact (by omega); exact Nat.le_of_ble_eq_true rfl
  rintro _ _ ⟨rfl, h1, rfl, ho9, f9⟩
  obtain ⟨hp9, hw9⟩ := hc.tear ho9 rfl f9 (fun y hy => by simp at hy; unfold HT; omega)
  have FR : Fr CTs h h1 := ct_up f9 (fun y hy => by simp at hy; omega)
  refine aw_aload_n (i := 0) d_LH_clear_18 rfl rfl ?_
  apply aw_get d_LH_clear_19 fl_LH_53; exact hp9.1; rfl
  apply aw_callv d_LH_clear_22 cl_LH_71 (c_Walk_forget hw9 vh_C); exact hw9.2.2.1.1; rfl; rfl; rfl; rfl; decide; exact (by omega); exact (by omega); exact Nat.le_of_ble_eq_true rfl
  rintro _ _ ⟨rfl, h2, rfl, hw8⟩
  have hc : CL h2 x B hsC (ad.1, ad.2.1, ad.2.2.1, ad.2.2.2.1, [], []) A most (false, false, false, fl.2.2.2) L L2 ar n gs lg xs cap := ⟨hp9.fr hw8.2.2.2 (fun y hy => by simp only [WTg, List.mem_cons, List.not_mem_nil, or_false]; omega), hw8.1, hw8.2.1, hw8.2.2.1, fun q => absurd (show false = true from q) (by decide), fun q => absurd (show false = true from q) (by decide), fun q => absurd (show false = true from q) (by decide)⟩
  have FR := FR.tr (ct_up hw8.2.2.2 (fun y hy => by simp only [WTg, List.mem_cons, List.not_mem_nil, or_false] at hy; omega))
  refine aw_aload_n (i := 0) d_LH_clear_25 rfl rfl ?_
  apply aw_get d_LH_clear_26 fl_LH_19; exact hc.1.1; rfl
  refine aw_iconst (v := nI 0) d_LH_clear_29 (by decide) ?_
  apply aw_callv d_LH_clear_30 cl_LH_143 (c_Row_beginA hc.1.2.1 (m := 0) (by omega)); exact hc.1.2.1.ob.choose_spec; rfl; rfl; rfl; rfl; decide; exact (by omega); exact (by omega); exact Nat.le_of_ble_eq_true rfl
  rintro _ _ ⟨rfl, h1, rfl, hr9, f9⟩
  have hc := hc.told vh_C hr9 f9
  have FR := FR.tr (ct_up f9 (fun y hy => by simp at hy; omega))
  refine aw_aload_n (i := 0) d_LH_clear_33 rfl rfl ?_
  apply aw_get d_LH_clear_34 fl_LH_26; exact hc.1.1; rfl
  apply aw_callv d_LH_clear_37 cl_LH_147 (c_Diary_begin hc.1.2.2.1); exact hc.1.2.2.1.ob.choose_spec; rfl; rfl; rfl; rfl; decide; exact (by omega); exact (by omega); exact Nat.le_of_ble_eq_true rfl
  rintro _ _ ⟨rfl, h1, rfl, hr9, f9⟩
  have hc := hc.diar vh_C hr9 (f9.up (by simp))
  have FR := FR.tr (ct_up f9 (fun y hy => by simp at hy; omega))
  refine aw_iconst (v := nI 0) d_LH_clear_40 (by decide) ?_
  refine aw_istore_n (i := 2) (lv2 := [(0, _), (1, _), (2, _)]) d_LH_clear_41 rfl (by decide) rfl ?_
  refine Nat.strongRecOn (motive := fun m9 => ∀ (i : Nat) (hh : Nat → Option aC), (m9 = 4 - i ∧ i ≤ 4 ∧ CL hh x B hsC (ad.1, ad.2.1, ad.2.2.1, ad.2.2.2.1, [], []) A most (false, false, false, fl.2.2.2) L L2 ar n (gsT gs i) [] [] cap ∧ Fr CTs h hh) → AW G m_LH_clear 5 0 0 _ 42 [(0, .ref x), (1, .int (nI hs.1.length)), (2, .int (nI i))] [] (nx, hh) 0 0) (4 - 0) (fun m9 ih => ?_) 0 h1 ⟨rfl, by decide, hc, FR⟩
  intro i hh hI
  obtain ⟨e9, hi, hc, FR⟩ := hI
  obtain ⟨gal, g1, g2, g3⟩ := hc.1.2.2.2.1
  refine aw_iload_n (i := 2) d_LH_clear_42 rfl rfl ?_
  refine aw_aload_n (i := 0) d_LH_clear_43 rfl rfl ?_
  apply aw_get d_LH_clear_44 fl_LH_33; exact hc.1.1; rfl
  apply aw_callv_p (l_size g1) d_LH_clear_47 cl_LH_64; exact g1.ob.choose_spec; rfl; rfl; rfl; rfl; decide; exact Nat.le_of_ble_eq_true rfl; exact (by omega); exact (by omega)
  rw [g2]
  refine aw_icmpN_ge d_LH_clear_50 (by omega) (by omega) (fun br50_ => ?_) (fun br50_ => ?_)
  · skip
    have ei : i = 4 := by omega
    subst ei
    rw [gsT_4 hg] at hc
    refine aw_iload_n (i := 1) d_LH_clear_74 rfl rfl ?_
    refine aw_iret d_LH_clear_75 rfl (by omega) (by omega) ?_
    exact ⟨rfl, _, hh, _, _, _, _, _, _, _, rfl, hc, FR⟩
  · skip
    obtain ⟨v1, v2, v3, v4, v5, k1, k2⟩ := g3 (i) br50_
    rw [gsT_at hg br50_, if_neg (Nat.lt_irrefl _)] at k1 k2
    refine aw_aload_n (i := 0) d_LH_clear_53 rfl rfl ?_
    apply aw_get d_LH_clear_54 fl_LH_33; exact hc.1.1; rfl
    refine aw_iload_n (i := 2) d_LH_clear_57 rfl rfl ?_
    apply aw_callv_p (l_gd g1 (i) (by rw [g2]; exact br50_)) d_LH_clear_58 cl_LH_101; exact g1.ob.choose_spec; rfl; rfl; rfl; rfl; decide; exact Nat.le_of_ble_eq_true rfl; exact (by omega); exact (by omega)
    apply aw_cast d_LH_clear_61; exact k1; rfl; exact cc_LH_37
    refine aw_iconst (v := 0) d_LH_clear_64 (by decide) ?_
    apply aw_put d_LH_clear_65 pl_LH_149; exact k1; exact Nat.le_of_ble_eq_true rfl; rfl; rfl
    refine aw_nm k1 ?_
    intro hh k3 f1 o1
    have hG : GrA hh B.2.2.1 ((gsT gs i).set i (false, (gs.getD i gz0).2)) := gr_set g1 g2 g3 (gsT_len hg) br50_ f1 ⟨_, _, _, _, _, k3, fun q => absurd (show false = true from q) (by decide)⟩
    have hc := (hc.grp vh_C hG (gr_fr br50_ f1)).gcong (gsT_set hg br50_)
    have FR := FR.tr (ct_up f1 (fun y hy => by rw [List.mem_singleton.mp hy]; show 1 ≤ 20 + i ∧ 20 + i ≤ 43; omega))
    refine aw_iincN (lv2 := [(0, _), (1, _), (2, _)]) d_LH_clear_68 (by decide) rfl rfl ?_
    refine aw_goto d_LH_clear_71 ?_
    exact ih (4 - (i + 1)) (by omega) (i + 1) _ ⟨rfl, by omega, hc, FR⟩

