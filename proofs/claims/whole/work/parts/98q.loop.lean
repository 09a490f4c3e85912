/-! the law's loop and its beginning -/
theorem LSt.up {h : Nat → Option aC} {x a o j k n : Nat} (hls : LSt h x a o j k n) : LSt h x a o (j + 1) k n := by
  obtain ⟨B, hs, ad, A, most, fl, L9, L29, ar, n9, gs, lg, xs9, cap, Am, sc, arm, fo, hc, hm, hq, hv, hlg, ho, hkb⟩ := hls
  exact ⟨B, hs, ad, A, most, fl, L9, L29, ar, n9, gs, lg, xs9, cap, Am, sc, arm, fo, hc, hm, hq, hv, Nat.le_succ_of_le hlg, ho, hkb.c 0 0 (by decide) (by decide)⟩
theorem LSt.room {h : Nat → Option aC} {x a o j k n : Nat} (hls : LSt h x a o j k n) (hj : j ≤ 512) : k ≤ 61024 ∧ n ≤ 8913034 := by
  obtain ⟨B, hs, ad, A, most, fl, L9, L29, ar, n9, gs, lg, xs9, cap, Am, sc, arm, fo, hc, hm, hq, hv, hlg, ho, hkb⟩ := hls
  exact hkb.le hj
set_option maxHeartbeats 4000000 in
set_option maxRecDepth 20000 in
theorem law_loop {G : aG} {L : Nat} {xs : Nat → Int32} (hL : L ≤ 2560) {x a o : Nat} : ∀ (m nx : Nat) (h : Nat → Option aC) (i j k n : Nat), m = L - i → i = 5 * j → i ≤ L → LSt h x a o j k n → AW G m_Law_law 10 61024 8913034 (FLw G L xs) 23 [(0, .ref 1), (1, .ref x), (2, .ref a), (3, .ref o), (4, .int (nI i))] [] (nx, h) k n := by
  intro m
  induction m using Nat.strongRecOn with
  | _ m ih =>
    intro nx h i j k n em ei hi hls
    refine aw_iload d_Law_law_23 rfl ?_
    refine aw_aload_n (i := 0) d_Law_law_25 rfl rfl ?_
    refine aw_slen d_Law_law_26 ?_
    refine aw_iconst (v := nI 5) d_Law_law_27 (by decide) ?_
    refine aw_isub d_Law_law_28 ?_
    refine aw_icmp_gt d_Law_law_29 (fun br_ => ?_) (fun br_ => ?_)
    · refine aw_iconst (v := 1) d_Law_law_1276 (by decide) ?_
      have hr := hls.room (by omega)
      exact aw_lret d_Law_law_1277 hr.1 hr.2
    · have h5 := len5 hL (by omega) br_
      have hj : j + 1 ≤ 512 := by omega
      refine aw_aload_n (i := 0) d_Law_law_32 rfl rfl ?_
      refine aw_iload d_Law_law_33 rfl ?_
      refine aw_sld d_Law_law_35 (by omega) hL ?_
      refine aw_bipush (v := 63) d_Law_law_36 (by decide) ?_
      refine aw_iand d_Law_law_38 ?_
      have kk : ∀ (nx : Nat) (h : Nat → Option aC) (k n : Nat), LSt h x a o (j + 1) k n → AW G m_Law_law 10 61024 8913034 (FLw G L xs) 1270 [(0, .ref 1), (1, .ref x), (2, .ref a), (3, .ref o), (4, .int (nI i))] [] (nx, h) k n := fun nx h k n hs => by
        refine aw_iinc (v := nI (i + 5)) (lv2 := [(0, _), (1, _), (2, _), (3, _), (4, _)]) d_Law_law_1270 (by decide) rfl (by rw [show Int32.ofInt 5 = nI 5 from rfl, nI_add]) rfl ?_
        refine aw_goto d_Law_law_1273 ?_
        exact ih (L - (i + 5)) (by omega) nx h (i + 5) (j + 1) k n rfl (by omega) (by omega) hs
      refine aw_tsw d_Law_law_39 (fun j_ t_ ej_ et_ => ?_) (fun _ => kk _ _ _ _ hls.up)
      rcases j_ with _ | _ | _ | _ | _ | _ | _ | _ | _ | _ | _ | _ | _ | _ | _ | _ | _ | _ | _ | _ | _ | _ | _ | _ | _ | _ | _ | _ | _ | _ | _ | _ | _ | j_
      · have e_ : 184 = t_ := Option.some.inj et_
        subst e_
        exact ca_prop hL h5 hj hls kk
      · have e_ : 221 = t_ := Option.some.inj et_
        subst e_
        exact ca_step hL h5 hj hls kk
      · have e_ : 282 = t_ := Option.some.inj et_
        subst e_
        exact ca_need hL h5 hj hls kk
      · have e_ : 331 = t_ := Option.some.inj et_
        subst e_
        exact ca_give hL h5 hj hls kk
      · have e_ : 380 = t_ := Option.some.inj et_
        subst e_
        exact ca_goal hL h5 hj hls kk
      · have e_ : 417 = t_ := Option.some.inj et_
        subst e_
        exact ca_hands hL h5 hj hls kk
      · have e_ : 442 = t_ := Option.some.inj et_
        subst e_
        exact ca_rule hL h5 hj hls kk
      · have e_ : 491 = t_ := Option.some.inj et_
        subst e_
        exact ca_exit hL h5 hj hls kk
      · have e_ : 528 = t_ := Option.some.inj et_
        subst e_
        exact ca_clear hL h5 hj hls kk
      · have e_ : 541 = t_ := Option.some.inj et_
        subst e_
        exact ca_count hL h5 hj hls kk
      · have e_ : 566 = t_ := Option.some.inj et_
        subst e_
        exact ca_reached hL h5 hj hls kk
      · have e_ : 579 = t_ := Option.some.inj et_
        subst e_
        exact ca_comes hL h5 hj hls kk
      · have e_ : 604 = t_ := Option.some.inj et_
        subst e_
        exact ca_part hL h5 hj hls kk
      · have e_ : 684 = t_ := Option.some.inj et_
        subst e_
        exact ca_open hL h5 hj hls kk
      · have e_ : 709 = t_ := Option.some.inj et_
        subst e_
        exact ca_behind hL h5 hj hls kk
      · have e_ : 746 = t_ := Option.some.inj et_
        subst e_
        exact ca_least hL h5 hj hls kk
      · have e_ : 771 = t_ := Option.some.inj et_
        subst e_
        exact ca_hint hL h5 hj hls kk
      · have e_ : 796 = t_ := Option.some.inj et_
        subst e_
        exact ca_way hL h5 hj hls kk
      · have e_ : 821 = t_ := Option.some.inj et_
        subst e_
        exact ca_longest hL h5 hj hls kk
      · have e_ : 834 = t_ := Option.some.inj et_
        subst e_
        exact ca_trap hL h5 hj hls kk
      · have e_ : 847 = t_ := Option.some.inj et_
        subst e_
        exact ca_lost hL h5 hj hls kk
      · have e_ : 860 = t_ := Option.some.inj et_
        subst e_
        exact ca_must hL h5 hj hls kk
      · have e_ : 921 = t_ := Option.some.inj et_
        subst e_
        exact ca_idle hL h5 hj hls kk
      · have e_ : 934 = t_ := Option.some.inj et_
        subst e_
        exact ca_reading hL h5 hj hls kk
      · have e_ : 971 = t_ := Option.some.inj et_
        subst e_
        exact ca_liars hL h5 hj hls kk
      · have e_ : 984 = t_ := Option.some.inj et_
        subst e_
        exact ca_back hL h5 hj hls kk
      · have e_ : 1009 = t_ := Option.some.inj et_
        subst e_
        exact ca_enter hL h5 hj hls kk
      · have e_ : 1034 = t_ := Option.some.inj et_
        subst e_
        exact ca_act hL h5 hj hls kk
      · have e_ : 1071 = t_ := Option.some.inj et_
        subst e_
        exact ca_group hL h5 hj hls kk
      · have e_ : 1139 = t_ := Option.some.inj et_
        subst e_
        exact ca_leave hL h5 hj hls kk
      · have e_ : 1164 = t_ := Option.some.inj et_
        subst e_
        exact ca_alarm hL h5 hj hls kk
      · have e_ : 1177 = t_ := Option.some.inj et_
        subst e_
        exact ca_log hL h5 hj hls kk
      · have e_ : 1214 = t_ := Option.some.inj et_
        subst e_
        exact ca_row hL h5 hj hls kk
      · exact absurd et_ (by simp)
set_option maxHeartbeats 4000000 in
set_option maxRecDepth 20000 in
theorem law_start {G : aG} {L : Nat} {xs : Nat → Int32} (hL : L ≤ 2560) : AW G m_Law_law 10 61024 8913034 (FLw G L xs) 0 [(0, .ref 1)] [] (4, fun _ => none) 0 0 := by
  refine aw_dom ?_
  intro hd
  refine aw_new 1 (N := 6) d_Law_law_0 nl_Law_8 rfl (by decide) (by decide) ?_
  refine aw_nn hd ?_
  intro h ha f_ o_ hd
  refine aw_dup d_Law_law_3 rfl ?_
  apply aw_calli d_Law_law_4 cl_Law_23 (c_LH_init ha hd); rfl; rfl; decide; decide; decide; exact Nat.le_of_ble_eq_true rfl
  rintro _ _ ⟨rfl, n2, h, B, ad, A, ar, rfl, hc, FR⟩
  refine aw_astore_n (i := 1) (lv2 := [(0, _), (1, _)]) d_Law_law_7 rfl (by decide) rfl ?_
  refine aw_dom ?_
  intro hd
  refine aw_new 50 (N := 54) d_Law_law_8 nl_Law_24 rfl (by decide) (by decide) ?_
  refine aw_nn hd ?_
  intro h ha f_ o_ hd
  have hc := hc.frM vh_C f_ (fun y hy => absurd hy List.not_mem_nil)
  refine aw_dup d_Law_law_11 rfl ?_
  apply aw_calli d_Law_law_12 cl_Law_26 (c_Mod_init ha hd); rfl; rfl; decide; decide; decide; exact Nat.le_of_ble_eq_true rfl
  rintro _ _ ⟨rfl, h, rfl, hd, hm, FR⟩
  have hc := hc.frM vh_C FR (fun y hy => by simp at hy; omega)
  refine aw_astore_n (i := 2) (lv2 := [(0, _), (1, _), (2, _)]) d_Law_law_15 rfl (by decide) rfl ?_
  refine aw_iconst (v := nI 1) d_Law_law_16 (by decide) ?_
  refine aw_newaL 120 (N := 1) d_Law_law_17 rfl (by decide) (by decide) (by decide) ?_
  refine aw_nn hd ?_
  intro h ho f_ o_ hd
  have hc := hc.frM vh_C f_ (fun y hy => absurd hy List.not_mem_nil)
  have hm := hm.frC f_ (fun y h1 h2 => List.not_mem_nil)
  refine aw_astore_n (i := 3) (lv2 := [(0, _), (1, _), (2, _), (3, _)]) d_Law_law_19 rfl (by decide) rfl ?_
  refine aw_iconst (v := nI 0) d_Law_law_20 (by decide) ?_
  refine aw_istore (lv2 := [(0, _), (1, _), (2, _), (3, _), (4, _)]) d_Law_law_21 (by decide) rfl ?_
  exact law_loop hL (L - 0) _ h 0 0 _ _ rfl rfl (Nat.zero_le _) ⟨B, _, ad, A, _, _, _, _, ar, _, _, _, _, _, _, _, _, _, hc, hm, mo_z, vv_Z, Nat.zero_le _, ho, ⟨Or.inl rfl, Or.inl rfl, by simp, by simp⟩⟩
