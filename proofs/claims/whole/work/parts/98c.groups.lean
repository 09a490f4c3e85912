theorem any_cnt {gs : List GSt} : anyP gs = decide (0 < cnt (fun g => g.1) gs) := by
  unfold anyP cnt
  rw [Bool.eq_iff_iff, List.any_eq_true, decide_eq_true_iff, List.length_pos_iff_exists_mem]
  constructor
  · rintro ⟨g, h1, h2⟩; exact ⟨g, List.mem_filter.mpr ⟨h1, h2⟩⟩
  · rintro ⟨g, h⟩; exact ⟨g, (List.mem_filter.mp h).1, (List.mem_filter.mp h).2⟩
theorem cnt_gs {gs : List GSt} {i : Nat} (hi : i < gs.length) : cnt (fun g : GSt => g.1) (gs.take (i + 1)) = cnt (fun g : GSt => g.1) (gs.take i) + (if (gs.getD i gz0).1 then 1 else 0) := by
  unfold cnt
  rw [List.take_succ_eq_append_getElem hi, List.filter_append, List.length_append]
  have e : gs.getD i gz0 = gs[i] := by simp [List.getD_eq_getElem?_getD, List.getElem?_eq_getElem hi]
  rw [e]
  by_cases h : gs[i].1 = true <;> simp [h]
theorem cnt_gle (gs : List GSt) (i : Nat) : cnt (fun g : GSt => g.1) (gs.take i) ≤ i := by
  unfold cnt
  refine Nat.le_trans (List.length_filter_le _ _) ?_
  rw [List.length_take]; omega
set_option maxHeartbeats 4000000 in
set_option maxRecDepth 20000 in
theorem c_LH_areHands {G : aG} {nx : Nat} {h : Nat → Option aC} (v : Int32) : AMet G m_LH_areHands 0 0 0 [.int v] (nx, h) (RV (.int (bI (rng 1 9 v))) (nx, h)) := by
  refine amet_of pf_LH_areHands (Nat.le_of_ble_eq_true rfl) ?_
  show AW G m_LH_areHands 0 0 0 _ 0 [(0, .int v)] [] (nx, h) 0 0
  refine aw_iload_n (i := 0) d_LH_areHands_0 rfl rfl ?_
  refine aw_iconst (v := nI 1) d_LH_areHands_1 (by decide) ?_
  refine aw_icmp_lt d_LH_areHands_2 (fun br2_ => ?_) (fun br2_ => ?_)
  · skip
    refine aw_iconst (v := 0) d_LH_areHands_15 (by decide) ?_
    refine aw_zret d_LH_areHands_16 rfl rfl (Nat.le_refl _) (Nat.le_refl _) ?_
    exact ⟨(by rw [show rng 1 9 v = false from decide_eq_false (fun q => absurd (Int32.lt_of_lt_of_le br2_ q.1) (Int32.lt_irrefl))]; rfl), rfl⟩
  · skip
    refine aw_iload_n (i := 0) d_LH_areHands_5 rfl rfl ?_
    refine aw_bipush (v := nI 9) d_LH_areHands_6 (by decide) ?_
    refine aw_icmp_gt d_LH_areHands_8 (fun br8_ => ?_) (fun br8_ => ?_)
    · skip
      refine aw_iconst (v := 0) d_LH_areHands_15 (by decide) ?_
      refine aw_zret d_LH_areHands_16 rfl rfl (Nat.le_refl _) (Nat.le_refl _) ?_
      exact ⟨(by rw [show rng 1 9 v = false from decide_eq_false (fun q => absurd (Int32.lt_of_lt_of_le br8_ q.2) (Int32.lt_irrefl))]; rfl), rfl⟩
    · skip
      refine aw_iconst (v := 1) d_LH_areHands_11 (by decide) ?_
      refine aw_goto d_LH_areHands_12 ?_
      refine aw_zret d_LH_areHands_16 rfl rfl (Nat.le_refl _) (Nat.le_refl _) ?_
      exact ⟨(by rw [show rng 1 9 v = true from decide_eq_true ⟨Int32.not_lt.mp br2_, Int32.not_lt.mp br8_⟩]; rfl), rfl⟩

set_option maxHeartbeats 4000000 in
set_option maxRecDepth 20000 in
theorem c_LH_playing {G : aG} {nx : Nat} {h : Nat → Option aC} {x : Nat} {B : LB} {hs : HSt} {ad : AD} {A : Nat → Nat} {most : Nat} {fl : WFl} {L L2 : List Nat} {ar : Nat → Nat → Int32} {n : Nat} {gs : List GSt} {lg : Lg} {xs : List Int32} {cap : Nat} (hc : CL h x B hs ad A most fl L L2 ar n gs lg xs cap) (hv : VH hs) (hg : gs.length = 4) : AMet G m_LH_playing 3 0 0 [.ref x] (nx, h) (RV (.int (nI (cnt (fun g : GSt => g.1) gs))) (nx, h)) := by
  have hp12 := hv.1.1
  have hs24 := hv.2.1
  have hall2 := hv.2.2.2.2.2.2.2
  have hmst := hc.wk.mst
  obtain ⟨gal, g1, g2, g3⟩ := hc.1.2.2.2.1
  refine amet_of pf_LH_playing (Nat.le_of_ble_eq_true rfl) ?_
  show AW G m_LH_playing 3 0 0 _ 0 [(0, .ref x)] [] (nx, h) 0 0
  refine aw_iconst (v := nI 0) d_LH_playing_0 (by decide) ?_
  refine aw_istore_n (i := 1) (lv2 := [(0, _), (1, _)]) d_LH_playing_1 rfl (by decide) rfl ?_
  refine aw_iconst (v := nI 0) d_LH_playing_2 (by decide) ?_
  refine aw_istore_n (i := 2) (lv2 := [(0, _), (1, _), (2, _)]) d_LH_playing_3 rfl (by decide) rfl ?_
  refine Nat.strongRecOn (motive := fun m9 => ∀ (i : Nat), (m9 = 4 - i ∧ i ≤ 4) → AW G m_LH_playing 3 0 0 _ 4 [(0, .ref x), (1, .int (nI (cnt (fun g : GSt => g.1) (gs.take i)))), (2, .int (nI i))] [] (nx, h) 0 0) (4 - 0) (fun m9 ih => ?_) 0 ⟨rfl, by decide⟩
  intro i hI
  obtain ⟨e9, hi⟩ := hI
  have hcl := cnt_gle gs i
  refine aw_iload_n (i := 2) d_LH_playing_4 rfl rfl ?_
  refine aw_aload_n (i := 0) d_LH_playing_5 rfl rfl ?_
  apply aw_get d_LH_playing_6 fl_LH_33; exact hc.1.1; rfl
  apply aw_callv_p (l_size g1) d_LH_playing_9 cl_LH_64; exact g1.ob.choose_spec; rfl; rfl; rfl; rfl; decide; exact Nat.le_of_ble_eq_true rfl; exact (by omega); exact (by omega)
  rw [g2]
  refine aw_icmpN_ge d_LH_playing_12 (by omega) (by omega) (fun br12_ => ?_) (fun br12_ => ?_)
  · skip
    have ei : i = 4 := by omega
    subst ei
    rw [List.take_of_length_le (by omega)]
    refine aw_iload_n (i := 1) d_LH_playing_46 rfl rfl ?_
    refine aw_iret d_LH_playing_47 rfl (by omega) (by omega) ?_
    exact ⟨rfl, rfl⟩
  · skip
    obtain ⟨v1, v2, v3, v4, v5, k1, k2⟩ := g3 (i) br12_
    refine aw_iload_n (i := 1) d_LH_playing_15 rfl rfl ?_
    refine aw_aload_n (i := 0) d_LH_playing_16 rfl rfl ?_
    apply aw_get d_LH_playing_17 fl_LH_33; exact hc.1.1; rfl
    refine aw_iload_n (i := 2) d_LH_playing_20 rfl rfl ?_
    apply aw_callv_p (l_gd g1 (i) (by rw [g2]; exact br12_)) d_LH_playing_21 cl_LH_101; exact g1.ob.choose_spec; rfl; rfl; rfl; rfl; decide; exact Nat.le_of_ble_eq_true rfl; exact (by omega); exact (by omega)
    apply aw_cast d_LH_playing_24; exact k1; rfl; exact cc_LH_37
    apply aw_get d_LH_playing_27 fl_LH_149; exact k1; rfl
    refine aw_ifB_eq d_LH_playing_30 (fun br30_ => ?_) (fun br30_ => ?_)
    · skip
      refine aw_iconst (v := nI 0) d_LH_playing_37 (by decide) ?_
      refine aw_iaddN d_LH_playing_38 ?_
      refine aw_istore_n (i := 1) (lv2 := [(0, _), (1, _), (2, _)]) d_LH_playing_39 rfl (by decide) rfl ?_
      refine aw_iincN (lv2 := [(0, _), (1, _), (2, _)]) d_LH_playing_40 (by decide) rfl rfl ?_
      refine aw_goto d_LH_playing_43 ?_
      have k9 := ih (4 - (i + 1)) (by omega) (i + 1) ⟨rfl, by omega⟩
      rw [cnt_gs (by omega), br30_] at k9
      exact k9
    · skip
      refine aw_iconst (v := nI 1) d_LH_playing_33 (by decide) ?_
      refine aw_goto d_LH_playing_34 ?_
      refine aw_iaddN d_LH_playing_38 ?_
      refine aw_istore_n (i := 1) (lv2 := [(0, _), (1, _), (2, _)]) d_LH_playing_39 rfl (by decide) rfl ?_
      refine aw_iincN (lv2 := [(0, _), (1, _), (2, _)]) d_LH_playing_40 (by decide) rfl rfl ?_
      refine aw_goto d_LH_playing_43 ?_
      have k9 := ih (4 - (i + 1)) (by omega) (i + 1) ⟨rfl, by omega⟩
      rw [cnt_gs (by omega), br30_] at k9
      exact k9

set_option maxHeartbeats 4000000 in
set_option maxRecDepth 20000 in
theorem c_LH_plays {G : aG} {nx : Nat} {h : Nat → Option aC} {x : Nat} {B : LB} {hs : HSt} {ad : AD} {A : Nat → Nat} {most : Nat} {fl : WFl} {L L2 : List Nat} {ar : Nat → Nat → Int32} {n : Nat} {gs : List GSt} {lg : Lg} {xs : List Int32} {cap : Nat} (hc : CL h x B hs ad A most fl L L2 ar n gs lg xs cap) (hv : VH hs) (hg : gs.length = 4) (v : Int32) : AMet G m_LH_plays 3 0 0 [.ref x, .int v] (nx, h) (RV (.int (bI (isG gs v))) (nx, h)) := by
  have hp12 := hv.1.1
  have hs24 := hv.2.1
  have hall2 := hv.2.2.2.2.2.2.2
  have hmst := hc.wk.mst
  obtain ⟨gal, g1, g2, g3⟩ := hc.1.2.2.2.1
  refine amet_of pf_LH_plays (Nat.le_of_ble_eq_true rfl) ?_
  show AW G m_LH_plays 3 0 0 _ 0 [(0, .ref x), (1, .int v)] [] (nx, h) 0 0
  refine aw_iload_n (i := 1) d_LH_plays_0 rfl rfl ?_
  refine aw_if_lt d_LH_plays_1 (fun br1_ => ?_) (fun br1_ => ?_)
  · skip
    refine aw_iconst (v := 0) d_LH_plays_36 (by decide) ?_
    refine aw_zret d_LH_plays_37 rfl rfl (by omega) (by omega) ?_
    exact ⟨(by rw [show isG gs v = false by unfold isG; rw [decide_eq_false (fun q => absurd br1_ (Int32.not_lt.mpr q.1)), Bool.false_and]]; rfl), rfl⟩
  · skip
    refine aw_iload_n (i := 1) d_LH_plays_4 rfl rfl ?_
    refine aw_aload_n (i := 0) d_LH_plays_5 rfl rfl ?_
    apply aw_get d_LH_plays_6 fl_LH_33; exact hc.1.1; rfl
    apply aw_callv_p (l_size g1) d_LH_plays_9 cl_LH_64; exact g1.ob.choose_spec; rfl; rfl; rfl; rfl; decide; exact Nat.le_of_ble_eq_true rfl; exact (by omega); exact (by omega)
    rw [g2]
    refine aw_icmp_ge d_LH_plays_12 (fun br12_ => ?_) (fun br12_ => ?_)
    · skip
      refine aw_iconst (v := 0) d_LH_plays_36 (by decide) ?_
      refine aw_zret d_LH_plays_37 rfl rfl (by omega) (by omega) ?_
      exact ⟨(by rw [show isG gs v = false by unfold isG; rw [decide_eq_false (fun q => absurd br12_ (Int32.not_le.mpr q.2)), Bool.false_and]]; rfl), rfl⟩
    · skip
      obtain ⟨g, hg9, rfl⟩ := dec_ix (x := v) (n := 4) (decide_eq_true ⟨Int32.not_lt.mp br1_, Int32.not_le.mp br12_⟩) (by decide)
      obtain ⟨v1, v2, v3, v4, v5, k1, k2⟩ := g3 (g) hg9
      have ig : isG gs (nI g) = (gs.getD g gz0).1 := by unfold isG; rw [decide_eq_true ⟨Int32.not_lt.mp br1_, Int32.not_le.mp br12_⟩, Bool.true_and, nI_clamp (by omega : g < 2 ^ 31)]
      refine aw_aload_n (i := 0) d_LH_plays_15 rfl rfl ?_
      apply aw_get d_LH_plays_16 fl_LH_33; exact hc.1.1; rfl
      refine aw_iload_n (i := 1) d_LH_plays_19 rfl rfl ?_
      apply aw_callv_p (l_gd g1 (g) (by rw [g2]; exact hg9)) d_LH_plays_20 cl_LH_101; exact g1.ob.choose_spec; rfl; rfl; rfl; rfl; decide; exact Nat.le_of_ble_eq_true rfl; exact (by omega); exact (by omega)
      apply aw_cast d_LH_plays_23; exact k1; rfl; exact cc_LH_37
      apply aw_get d_LH_plays_26 fl_LH_149; exact k1; rfl
      refine aw_ifB_eq d_LH_plays_29 (fun br29_ => ?_) (fun br29_ => ?_)
      · skip
        refine aw_iconst (v := 0) d_LH_plays_36 (by decide) ?_
        refine aw_zret d_LH_plays_37 rfl rfl (by omega) (by omega) ?_
        exact ⟨(by rw [ig, br29_]; rfl), rfl⟩
      · skip
        refine aw_iconst (v := 1) d_LH_plays_32 (by decide) ?_
        refine aw_goto d_LH_plays_33 ?_
        refine aw_zret d_LH_plays_37 rfl rfl (by omega) (by omega) ?_
        exact ⟨(by rw [ig, br29_]; rfl), rfl⟩

set_option maxHeartbeats 4000000 in
set_option maxRecDepth 20000 in
theorem c_LH_isTaken {G : aG} {nx : Nat} {h : Nat → Option aC} {x : Nat} {B : LB} {hs : HSt} {ad : AD} {A : Nat → Nat} {most : Nat} {fl : WFl} {L L2 : List Nat} {ar : Nat → Nat → Int32} {n : Nat} {gs : List GSt} {lg : Lg} {xs : List Int32} {cap : Nat} (hc : CL h x B hs ad A most fl L L2 ar n gs lg xs cap) (hv : VH hs) {r g : Nat} (hr : r < 2 ^ 31) (hg9 : g < 4) : AMet G m_LH_isTaken 3 0 0 [.ref x, .int (nI r), .int (nI g)] (nx, h) (RV (.int (bI (tkn gs g r))) (nx, h)) := by
  have hp12 := hv.1.1
  have hs24 := hv.2.1
  have hall2 := hv.2.2.2.2.2.2.2
  have hmst := hc.wk.mst
  obtain ⟨gal, g1, g2, g3⟩ := hc.1.2.2.2.1
  refine amet_of pf_LH_isTaken (Nat.le_of_ble_eq_true rfl) ?_
  show AW G m_LH_isTaken 3 0 0 _ 0 [(0, .ref x), (1, .int (nI r)), (2, .int (nI g))] [] (nx, h) 0 0
  refine aw_iconst (v := nI 0) d_LH_isTaken_0 (by decide) ?_
  refine aw_istore_n (i := 3) (lv2 := [(0, _), (1, _), (2, _), (3, _)]) d_LH_isTaken_1 rfl (by decide) rfl ?_
  refine Nat.strongRecOn (motive := fun m9 => ∀ (i : Nat), (m9 = 4 - i ∧ i ≤ 4 ∧ ∀ k, k < i → ¬ (k ≠ g ∧ (gs.getD k gz0).1 = true ∧ (gs.getD k gz0).2.2.2.2.1 = nI r)) → AW G m_LH_isTaken 3 0 0 _ 2 [(0, .ref x), (1, .int (nI r)), (2, .int (nI g)), (3, .int (nI i))] [] (nx, h) 0 0) (4 - 0) (fun m9 ih => ?_) 0 ⟨rfl, by decide, fun k hk => absurd hk (Nat.not_lt_zero _)⟩
  intro i hI
  obtain ⟨e9, hi, hno⟩ := hI
  refine aw_iload_n (i := 3) d_LH_isTaken_2 rfl rfl ?_
  refine aw_aload_n (i := 0) d_LH_isTaken_3 rfl rfl ?_
  apply aw_get d_LH_isTaken_4 fl_LH_33; exact hc.1.1; rfl
  apply aw_callv_p (l_size g1) d_LH_isTaken_7 cl_LH_64; exact g1.ob.choose_spec; rfl; rfl; rfl; rfl; decide; exact Nat.le_of_ble_eq_true rfl; exact (by omega); exact (by omega)
  rw [g2]
  refine aw_icmpN_ge d_LH_isTaken_10 (by omega) (by omega) (fun br10_ => ?_) (fun br10_ => ?_)
  · skip
    have ei : i = 4 := by omega
    subst ei
    refine aw_iconst (v := 0) d_LH_isTaken_61 (by decide) ?_
    refine aw_zret d_LH_isTaken_62 rfl rfl (by omega) (by omega) ?_
    exact ⟨(by rw [tkn_f hno]; rfl), rfl⟩
  · skip
    obtain ⟨v1, v2, v3, v4, v5, k1, k2⟩ := g3 (i) br10_
    refine aw_iload_n (i := 3) d_LH_isTaken_13 rfl rfl ?_
    refine aw_iload_n (i := 2) d_LH_isTaken_14 rfl rfl ?_
    refine aw_icmpN_eq d_LH_isTaken_15 (by omega) (by omega) (fun br15_ => ?_) (fun br15_ => ?_)
    · skip
      refine aw_iincN (lv2 := [(0, _), (1, _), (2, _), (3, _)]) d_LH_isTaken_55 (by decide) rfl rfl ?_
      refine aw_goto d_LH_isTaken_58 ?_
      exact ih (4 - (i + 1)) (by omega) (i + 1) ⟨rfl, by omega, fun k hk => by
        rcases Nat.lt_succ_iff_lt_or_eq.mp hk with h1 | h1
        · exact hno k h1
        · rw [h1]; exact fun q => q.1 br15_⟩
    · skip
      refine aw_aload_n (i := 0) d_LH_isTaken_18 rfl rfl ?_
      apply aw_get d_LH_isTaken_19 fl_LH_33; exact hc.1.1; rfl
      refine aw_iload_n (i := 3) d_LH_isTaken_22 rfl rfl ?_
      apply aw_callv_p (l_gd g1 (i) (by rw [g2]; exact br10_)) d_LH_isTaken_23 cl_LH_101; exact g1.ob.choose_spec; rfl; rfl; rfl; rfl; decide; exact Nat.le_of_ble_eq_true rfl; exact (by omega); exact (by omega)
      apply aw_cast d_LH_isTaken_26; exact k1; rfl; exact cc_LH_37
      apply aw_get d_LH_isTaken_29 fl_LH_149; exact k1; rfl
      refine aw_ifB_eq d_LH_isTaken_32 (fun br32_ => ?_) (fun br32_ => ?_)
      · skip
        refine aw_iincN (lv2 := [(0, _), (1, _), (2, _), (3, _)]) d_LH_isTaken_55 (by decide) rfl rfl ?_
        refine aw_goto d_LH_isTaken_58 ?_
        exact ih (4 - (i + 1)) (by omega) (i + 1) ⟨rfl, by omega, fun k hk => by
          rcases Nat.lt_succ_iff_lt_or_eq.mp hk with h1 | h1
          · exact hno k h1
          · rw [h1]; exact fun q => absurd (q.2.1.symm.trans br32_) (by decide)⟩
      · skip
        obtain ⟨q1, q2, q3, q4, q5⟩ := k2 br32_
        refine aw_aload_n (i := 0) d_LH_isTaken_35 rfl rfl ?_
        apply aw_get d_LH_isTaken_36 fl_LH_33; exact hc.1.1; rfl
        refine aw_iload_n (i := 3) d_LH_isTaken_39 rfl rfl ?_
        apply aw_callv_p (l_gd g1 (i) (by rw [g2]; exact br10_)) d_LH_isTaken_40 cl_LH_101; exact g1.ob.choose_spec; rfl; rfl; rfl; rfl; decide; exact Nat.le_of_ble_eq_true rfl; exact (by omega); exact (by omega)
        apply aw_cast d_LH_isTaken_43; exact k1; rfl; exact cc_LH_37
        apply aw_get d_LH_isTaken_46 fl_LH_280; exact k1; rfl
        refine aw_iload_n (i := 1) d_LH_isTaken_49 rfl rfl ?_
        refine aw_icmp_ne d_LH_isTaken_50 (fun br50_ => ?_) (fun br50_ => ?_)
        · skip
          refine aw_iincN (lv2 := [(0, _), (1, _), (2, _), (3, _)]) d_LH_isTaken_55 (by decide) rfl rfl ?_
          refine aw_goto d_LH_isTaken_58 ?_
          exact ih (4 - (i + 1)) (by omega) (i + 1) ⟨rfl, by omega, fun k hk => by
            rcases Nat.lt_succ_iff_lt_or_eq.mp hk with h1 | h1
            · exact hno k h1
            · rw [h1]; exact fun q => br50_ (by rw [q4]; exact q.2.2)⟩
        · skip
          refine aw_iconst (v := 1) d_LH_isTaken_53 (by decide) ?_
          refine aw_zret d_LH_isTaken_54 rfl rfl (by omega) (by omega) ?_
          exact ⟨(by rw [tkn_t br10_ br15_ br32_ (by rw [← q4]; exact br50_)]; rfl), rfl⟩

