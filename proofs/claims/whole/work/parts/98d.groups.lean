theorem gr_set {h h2 : Nat → Option aC} {a g : Nat} {gs : List GSt} {gal : List Nat} {q : GSt} (g1 : Lsx 17 18 h a gal) (g2 : gal.length = 4) (g3 : ∀ g, g < 4 → GCe h (gal.getD g 0) g (gs.getD g gz0)) (hgl : gs.length = 4) (hg : g < 4) (f : Fr [20 + g] h h2) (hn : GCe h2 (gal.getD g 0) g q) : GrA h2 a (gs.set g q) := by
  refine ⟨gal, g1.fr f (by rw [List.mem_singleton]; omega) (by rw [List.mem_singleton]; omega), g2, fun k hk => ?_⟩
  rw [gd_set (by omega)]
  by_cases e : k = g
  · subst e; rw [if_pos rfl]; exact hn
  · rw [if_neg e]
    obtain ⟨v1, v2, v3, v4, v5, k1, k2⟩ := g3 k hk
    exact ⟨v1, v2, v3, v4, v5, f _ _ k1 (by show 20 + k ∉ [20 + g]; rw [List.mem_singleton]; omega), k2⟩
theorem gr_fr {g : Nat} {h h2 : Nat → Option aC} (hg : g < 4) (f : Fr [20 + g] h h2) : Fr [20, 21, 22, 23] h h2 := f.up (fun y hy => by rw [List.mem_singleton.mp hy]; simp; omega)
theorem GrA.cong {h : Nat → Option aC} {a : Nat} {gs gs2 : List GSt} (e : ∀ k, k < 4 → gs2.getD k gz0 = gs.getD k gz0) (hg : GrA h a gs) : GrA h a gs2 := by
  obtain ⟨gal, g1, g2, g3⟩ := hg
  exact ⟨gal, g1, g2, fun k hk => by rw [e k hk]; exact g3 k hk⟩
def gsT (gs : List GSt) (i : Nat) : List GSt := gsC (gs.take i) ++ gs.drop i
theorem gsT_0 (gs : List GSt) : gsT gs 0 = gs := rfl
theorem gsT_4 {gs : List GSt} (h : gs.length = 4) : gsT gs 4 = gsC gs := by
  unfold gsT; rw [List.take_of_length_le (by omega), List.drop_eq_nil_of_le (by omega), List.append_nil]
theorem gsT_len {gs : List GSt} {i : Nat} (h : gs.length = 4) : (gsT gs i).length = 4 := by
  unfold gsT gsC; rw [List.length_append, List.length_map, List.length_take, List.length_drop]; omega
theorem gsT_at {gs : List GSt} {i k : Nat} (h : gs.length = 4) (hk : k < 4) : (gsT gs i).getD k gz0 = if k < i then (false, (gs.getD k gz0).2) else gs.getD k gz0 := by
  unfold gsT gsC
  by_cases e : k < i
  · rw [if_pos e]
    simp only [List.getD_eq_getElem?_getD]
    rw [List.getElem?_append_left (by rw [List.length_map, List.length_take]; omega), List.getElem?_map, List.getElem?_take, if_pos e, List.getElem?_eq_getElem (by omega : k < gs.length)]; rfl
  · rw [if_neg e]
    simp only [List.getD_eq_getElem?_getD]
    rw [List.getElem?_append_right (by rw [List.length_map, List.length_take]; omega), List.getElem?_drop, List.length_map, List.length_take]
    congr 2; omega
theorem gsT_set {gs : List GSt} {i : Nat} (h : gs.length = 4) (hi : i < 4) : ∀ k, k < 4 → (gsT gs (i + 1)).getD k gz0 = ((gsT gs i).set i (false, (gs.getD i gz0).2)).getD k gz0 := by
  intro k hk
  rw [gsT_at h hk, gd_set (by rw [gsT_len h]; exact hi), gsT_at h hk]
  by_cases e : k = i
  · subst e; rw [if_pos (Nat.lt_succ_self _), if_pos rfl]
  · by_cases e2 : k < i
    · rw [if_pos (by omega), if_neg e, if_pos e2]
    · rw [if_neg (by omega), if_neg e, if_neg e2]
theorem gsT_np {gs : List GSt} {i : Nat} (h : gs.length = 4) (hn : (gs.getD i gz0).1 = false) : ∀ k, k < 4 → (gsT gs (i + 1)).getD k gz0 = (gsT gs i).getD k gz0 := by
  intro k hk
  rw [gsT_at h hk, gsT_at h hk]
  by_cases e : k = i
  · subst e; rw [if_pos (Nat.lt_succ_self _), if_neg (Nat.lt_irrefl _), ← hn]
  · by_cases e2 : k < i
    · rw [if_pos (by omega), if_pos e2]
    · rw [if_neg (by omega), if_neg e2]
theorem CL.gcong {h : Nat → Option aC} {x : Nat} {B : LB} {hs : HSt} {ad : AD} {A : Nat → Nat} {most : Nat} {fl : WFl} {L L2 : List Nat} {ar : Nat → Nat → Int32} {n : Nat} {gs gs2 : List GSt} {lg : Lg} {xs : List Int32} {cap : Nat} (hc : CL h x B hs ad A most fl L L2 ar n gs lg xs cap) (e : ∀ k, k < 4 → gs2.getD k gz0 = gs.getD k gz0) : CL h x B hs ad A most fl L L2 ar n gs2 lg xs cap := by
  obtain ⟨⟨c1, c2, c3, c4, c5⟩, c6⟩ := hc
  exact ⟨⟨c1, c2, c3, c4.cong e, c5⟩, c6⟩
set_option maxHeartbeats 4000000 in
set_option maxRecDepth 20000 in
theorem c_LH_enter {G : aG} {nx : Nat} {h : Nat → Option aC} {x : Nat} {B : LB} {hs : HSt} {ad : AD} {A : Nat → Nat} {most : Nat} {fl : WFl} {L L2 : List Nat} {ar : Nat → Nat → Int32} {n : Nat} {gs : List GSt} {lg : Lg} {xs : List Int32} {cap : Nat} (hc : CL h x B hs ad A most fl L L2 ar n gs lg xs cap) (hv : VH hs) (hg : gs.length = 4) (v : Int32) : AMet G m_LH_enter 4 0 0 [.ref x, .int v] (nx, h) (LR h x B (.int (if okI gs v then nI (frG gs) else -1)) (hs) (if okI gs v then gsI hs gs v else gs) (lg) (xs) (most) (cap)) := by
  have hp12 := hv.1.1
  have hs24 := hv.2.1
  have hall2 := hv.2.2.2.2.2.2.2
  have hmst := hc.wk.mst
  obtain ⟨gal, g1, g2, g3⟩ := hc.1.2.2.2.1
  refine amet_of pf_LH_enter (Nat.le_of_ble_eq_true rfl) ?_
  show AW G m_LH_enter 4 0 0 _ 0 [(0, .ref x), (1, .int v)] [] (nx, h) 0 0
  refine aw_iload_n (i := 1) d_LH_enter_0 rfl rfl ?_
  apply aw_calls_p (c_LH_areHands v) d_LH_enter_1 cl_LH_78; rfl; rfl; decide; exact Nat.le_of_ble_eq_true rfl; exact (by omega); exact (by omega)
  refine aw_ifB_ne d_LH_enter_4 (fun br4_ => ?_) (fun br4_ => ?_)
  · skip
    obtain ⟨k, hk1, hk2, rfl⟩ := rng_of br4_ (by decide) (by decide)
    have ek : xN (nI k) = k := xN_nI (by omega)
    refine aw_iconst (v := nI 0) d_LH_enter_9 (by decide) ?_
    refine aw_istore_n (i := 2) (lv2 := [(0, _), (1, _), (2, _)]) d_LH_enter_10 rfl (by decide) rfl ?_
    refine Nat.strongRecOn (motive := fun m9 => ∀ (i : Nat), (m9 = 4 - i ∧ i ≤ 4 ∧ ∀ k, k < i → (gs.getD k gz0).1 = true) → AW G m_LH_enter 4 0 0 _ 11 [(0, .ref x), (1, .int (nI k)), (2, .int (nI i))] [] (nx, h) 0 0) (4 - 0) (fun m9 ih => ?_) 0 ⟨rfl, by decide, fun k hk => absurd hk (Nat.not_lt_zero _)⟩
    intro i hI
    obtain ⟨e9, hi, hall9⟩ := hI
    refine aw_iload_n (i := 2) d_LH_enter_11 rfl rfl ?_
    refine aw_aload_n (i := 0) d_LH_enter_12 rfl rfl ?_
    apply aw_get d_LH_enter_13 fl_LH_33; exact hc.1.1; rfl
    apply aw_callv_p (l_size g1) d_LH_enter_16 cl_LH_64; exact g1.ob.choose_spec; rfl; rfl; rfl; rfl; decide; exact Nat.le_of_ble_eq_true rfl; exact (by omega); exact (by omega)
    rw [g2]
    refine aw_icmpN_ge d_LH_enter_19 (by omega) (by omega) (fun br19_ => ?_) (fun br19_ => ?_)
    · skip
      have ei : i = 4 := by omega
      subst ei
      have ef : frG gs = 4 := frG_eq (by omega) hall9 (Or.inl hg.symm)
      have ok : okI gs (nI k) = false := by unfold okI; rw [ef]; simp
      refine aw_iconst (v := -1) d_LH_enter_69 (by decide) ?_
      refine aw_iret d_LH_enter_70 rfl (by omega) (by omega) ?_
      exact ⟨(by rw [ok]; rfl), _, h, _, _, _, _, _, _, _, rfl, (by rw [ok]; exact hc), Fr.rf⟩
    · skip
      obtain ⟨v1, v2, v3, v4, v5, k1, k2⟩ := g3 (i) br19_
      refine aw_aload_n (i := 0) d_LH_enter_22 rfl rfl ?_
      apply aw_get d_LH_enter_23 fl_LH_33; exact hc.1.1; rfl
      refine aw_iload_n (i := 2) d_LH_enter_26 rfl rfl ?_
      apply aw_callv_p (l_gd g1 (i) (by rw [g2]; exact br19_)) d_LH_enter_27 cl_LH_101; exact g1.ob.choose_spec; rfl; rfl; rfl; rfl; decide; exact Nat.le_of_ble_eq_true rfl; exact (by omega); exact (by omega)
      apply aw_cast d_LH_enter_30; exact k1; rfl; exact cc_LH_37
      apply aw_get d_LH_enter_33 fl_LH_149; exact k1; rfl
      refine aw_ifB_ne d_LH_enter_36 (fun br36_ => ?_) (fun br36_ => ?_)
      · skip
        refine aw_iincN (lv2 := [(0, _), (1, _), (2, _)]) d_LH_enter_63 (by decide) rfl rfl ?_
        refine aw_goto d_LH_enter_66 ?_
        exact ih (4 - (i + 1)) (by omega) (i + 1) ⟨rfl, by omega, fun k hk => by
          rcases Nat.lt_succ_iff_lt_or_eq.mp hk with h1 | h1
          · exact hall9 k h1
          · rw [h1]; exact br36_⟩
      · skip
        have ef : frG gs = i := frG_eq (by omega) hall9 (Or.inr br36_)
        have ok : okI gs (nI k) = true := by unfold okI; rw [br4_, ef, decide_eq_true br19_]; rfl
        refine aw_aload_n (i := 0) d_LH_enter_39 rfl rfl ?_
        apply aw_get d_LH_enter_40 fl_LH_33; exact hc.1.1; rfl
        refine aw_iload_n (i := 2) d_LH_enter_43 rfl rfl ?_
        apply aw_callv_p (l_gd g1 (i) (by rw [g2]; exact br19_)) d_LH_enter_44 cl_LH_101; exact g1.ob.choose_spec; rfl; rfl; rfl; rfl; decide; exact Nat.le_of_ble_eq_true rfl; exact (by omega); exact (by omega)
        apply aw_cast d_LH_enter_47; exact k1; rfl; exact cc_LH_37
        refine aw_iload_n (i := 1) d_LH_enter_50 rfl rfl ?_
        refine aw_aload_n (i := 0) d_LH_enter_51 rfl rfl ?_
        apply aw_get d_LH_enter_52 fl_LH_10; exact hc.1.1; rfl
        apply aw_get d_LH_enter_55 fl_LH_159; exact hc.2.1.1; rfl
        apply aw_callv_q (c_Group_begin k1 (nI k) (nI (hsta hs))) d_LH_enter_58 cl_LH_252; exact k1; rfl; rfl; rfl; rfl; decide; exact Nat.le_of_ble_eq_true rfl; exact (by omega); exact (by omega)
        refine aw_nm k1 ?_
        intro h1 k3 f1 o1
        have hG : GrA h1 B.2.2.1 (gs.set i (true, hsta hs, k, 0, -1, 0)) := gr_set g1 g2 g3 hg br19_ f1 ⟨_, _, _, _, _, k3, fun _ => ⟨rfl, rfl, rfl, rfl, rfl⟩⟩
        have hc := hc.grp hv hG (gr_fr br19_ f1)
        refine aw_iload_n (i := 2) d_LH_enter_61 rfl rfl ?_
        refine aw_iret d_LH_enter_62 rfl (by omega) (by omega) ?_
        exact ⟨(by rw [ok, ef]; rfl), _, h1, _, _, _, _, _, _, _, rfl, (by rw [ok]; show CL _ _ _ _ _ _ _ _ _ _ _ _ (gs.set (frG gs) (true, hsta hs, xN (nI k), 0, -1, 0)) _ _ _; rw [ef, ek]; exact hc), ct_up f1 (fun y hy => by rw [List.mem_singleton.mp hy]; show 1 ≤ 20 + i ∧ 20 + i ≤ 43; omega)⟩
  · skip
    refine aw_iconst (v := -1) d_LH_enter_7 (by decide) ?_
    refine aw_iret d_LH_enter_8 rfl (by omega) (by omega) ?_
    have ok : okI gs v = false := by unfold okI; rw [br4_]; rfl
    exact ⟨(by rw [ok]; rfl), _, h, _, _, _, _, _, _, _, rfl, (by rw [ok]; exact hc), Fr.rf⟩

set_option maxHeartbeats 4000000 in
set_option maxRecDepth 20000 in
theorem c_LH_leave {G : aG} {nx : Nat} {h : Nat → Option aC} {x : Nat} {B : LB} {hs : HSt} {ad : AD} {A : Nat → Nat} {most : Nat} {fl : WFl} {L L2 : List Nat} {ar : Nat → Nat → Int32} {n : Nat} {gs : List GSt} {lg : Lg} {xs : List Int32} {cap : Nat} (hc : CL h x B hs ad A most fl L L2 ar n gs lg xs cap) (hv : VH hs) (hg : gs.length = 4) (v : Int32) : AMet G m_LH_leave 4 0 0 [.ref x, .int v] (nx, h) (LR h x B (.int (if isG gs v then (gAt gs v).2.2.2.1 else -1)) (hs) (if isG gs v then gsL gs v else gs) (lg) (xs) (most) (cap)) := by
  have hp12 := hv.1.1
  have hs24 := hv.2.1
  have hall2 := hv.2.2.2.2.2.2.2
  have hmst := hc.wk.mst
  obtain ⟨gal, g1, g2, g3⟩ := hc.1.2.2.2.1
  refine amet_of pf_LH_leave (Nat.le_of_ble_eq_true rfl) ?_
  show AW G m_LH_leave 4 0 0 _ 0 [(0, .ref x), (1, .int v)] [] (nx, h) 0 0
  refine aw_aload_n (i := 0) d_LH_leave_0 rfl rfl ?_
  refine aw_iload_n (i := 1) d_LH_leave_1 rfl rfl ?_
  apply aw_callv_p (c_LH_plays hc hv hg v) d_LH_leave_2 cl_LH_255; exact hc.1.1; rfl; rfl; rfl; rfl; decide; exact Nat.le_of_ble_eq_true rfl; exact (by omega); exact (by omega)
  refine aw_ifB_ne d_LH_leave_5 (fun br5_ => ?_) (fun br5_ => ?_)
  · skip
    obtain ⟨g, hg9, rfl, hpl, eq⟩ := isG_ex br5_
    obtain ⟨v1, v2, v3, v4, v5, k1, k2⟩ := g3 (g) hg9
    obtain ⟨q1, q2, q3, q4, q5⟩ := k2 hpl
    refine aw_aload_n (i := 0) d_LH_leave_10 rfl rfl ?_
    apply aw_get d_LH_leave_11 fl_LH_33; exact hc.1.1; rfl
    refine aw_iload_n (i := 1) d_LH_leave_14 rfl rfl ?_
    apply aw_callv_p (l_gd g1 (g) (by rw [g2]; exact hg9)) d_LH_leave_15 cl_LH_101; exact g1.ob.choose_spec; rfl; rfl; rfl; rfl; decide; exact Nat.le_of_ble_eq_true rfl; exact (by omega); exact (by omega)
    apply aw_cast d_LH_leave_18; exact k1; rfl; exact cc_LH_37
    refine aw_iconst (v := 0) d_LH_leave_21 (by decide) ?_
    apply aw_put d_LH_leave_22 pl_LH_149; exact k1; exact Nat.le_of_ble_eq_true rfl; rfl; rfl
    refine aw_nm k1 ?_
    intro h1 k3 f1 o1
    have hG : GrA h1 B.2.2.1 (gs.set g (false, (gs.getD g gz0).2)) := gr_set g1 g2 g3 hg hg9 f1 ⟨_, _, _, _, _, k3, fun q => absurd (show false = true from q) (by decide)⟩
    have hc := hc.grp hv hG (gr_fr hg9 f1)
    have g1 := g1.fr f1 (by rw [List.mem_singleton]; show ¬ 17 = 20 + g; omega) (by rw [List.mem_singleton]; show ¬ 18 = 20 + g; omega)
    refine aw_aload_n (i := 0) d_LH_leave_25 rfl rfl ?_
    apply aw_get d_LH_leave_26 fl_LH_33; exact hc.1.1; rfl
    refine aw_iload_n (i := 1) d_LH_leave_29 rfl rfl ?_
    apply aw_callv_p (l_gd g1 (g) (by rw [g2]; exact hg9)) d_LH_leave_30 cl_LH_101; exact g1.ob.choose_spec; rfl; rfl; rfl; rfl; decide; exact Nat.le_of_ble_eq_true rfl; exact (by omega); exact (by omega)
    apply aw_cast d_LH_leave_33; exact k3; rfl; exact cc_LH_37
    apply aw_get d_LH_leave_36 fl_LH_279; exact k3; rfl
    refine aw_iret d_LH_leave_39 rfl (by omega) (by omega) ?_
    exact ⟨(by rw [br5_, eq, ← q3]; rfl), _, h1, _, _, _, _, _, _, _, rfl, (by rw [br5_]; show CL _ _ _ _ _ _ _ _ _ _ _ _ (gs.set (xN (nI g)) (false, (gAt gs (nI g)).2)) _ _ _; rw [xN_nI (by omega), eq]; exact hc), ct_up f1 (fun y hy => by rw [List.mem_singleton.mp hy]; show 1 ≤ 20 + g ∧ 20 + g ≤ 43; omega)⟩
  · skip
    refine aw_iconst (v := -1) d_LH_leave_8 (by decide) ?_
    refine aw_iret d_LH_leave_9 rfl (by omega) (by omega) ?_
    exact ⟨(by rw [br5_]; rfl), _, h, _, _, _, _, _, _, _, rfl, (by rw [br5_]; exact hc), Fr.rf⟩

set_option maxHeartbeats 4000000 in
set_option maxRecDepth 20000 in
theorem c_LH_act {G : aG} {nx : Nat} {h : Nat → Option aC} {x : Nat} {B : LB} {hs : HSt} {ad : AD} {A : Nat → Nat} {most : Nat} {fl : WFl} {L L2 : List Nat} {ar : Nat → Nat → Int32} {n : Nat} {gs : List GSt} {lg : Lg} {xs : List Int32} {cap : Nat} (hc : CL h x B hs ad A most fl L L2 ar n gs lg xs cap) (hv : VH hs) (hg : gs.length = 4) (hvg : VG hs gs) (hlb : lg.length < 100000) (v s : Int32) : AMet G m_LH_act 6 0 0 [.ref x, .int v, .int s] (nx, h) (LR h x B (.int (acI hs gs v s)) (hs) (if acO hs gs v s then gsA hs gs v s else gs) (if acO hs gs v s then lgA hs gs lg v s else lg) (xs) (most) (cap)) := by
  have hp12 := hv.1.1
  have hs24 := hv.2.1
  have hall2 := hv.2.2.2.2.2.2.2
  have hmst := hc.wk.mst
  obtain ⟨gal, g1, g2, g3⟩ := hc.1.2.2.2.1
  refine amet_of pf_LH_act (Nat.le_of_ble_eq_true rfl) ?_
  show AW G m_LH_act 6 0 0 _ 0 [(0, .ref x), (1, .int v), (2, .int s)] [] (nx, h) 0 0
  refine aw_aload_n (i := 0) d_LH_act_0 rfl rfl ?_
  refine aw_iload_n (i := 1) d_LH_act_1 rfl rfl ?_
  apply aw_callv_p (c_LH_plays hc hv hg v) d_LH_act_2 cl_LH_255; exact hc.1.1; rfl; rfl; rfl; rfl; decide; exact Nat.le_of_ble_eq_true rfl; exact (by omega); exact (by omega)
  refine aw_ifB_eq d_LH_act_5 (fun br5_ => ?_) (fun br5_ => ?_)
  · skip
    refine aw_iconst (v := -1) d_LH_act_19 (by decide) ?_
    refine aw_iret d_LH_act_20 rfl (by omega) (by omega) ?_
    have ea : acA hs gs v s = false := by unfold acA; rw [br5_]; rfl
    have eo : acO hs gs v s = false := by unfold acO; rw [ea]; rfl
    exact ⟨(by unfold acI; rw [ea]; rfl), _, h, _, _, _, _, _, _, _, rfl, (by rw [eo]; exact hc), Fr.rf⟩
  · skip
    refine aw_aload_n (i := 0) d_LH_act_8 rfl rfl ?_
    apply aw_get d_LH_act_9 fl_LH_10; exact hc.1.1; rfl
    refine aw_iload_n (i := 2) d_LH_act_12 rfl rfl ?_
    apply aw_callv_p (c_House_hasStep hc.2.1 hv s) d_LH_act_13 cl_LH_94; exact hc.2.1.1; rfl; rfl; rfl; rfl; decide; exact Nat.le_of_ble_eq_true rfl; exact (by omega); exact (by omega)
    refine aw_ifB_ne d_LH_act_16 (fun br16_ => ?_) (fun br16_ => ?_)
    · skip
      have ea : acA hs gs v s = true := by unfold acA; rw [br5_, show isSx hs s = true from br16_]; rfl
      obtain ⟨g, hg9, rfl, hpl, eq⟩ := isG_ex br5_
      obtain ⟨v1, v2, v3, v4, v5, k1, k2⟩ := g3 (g) hg9
      obtain ⟨q1, q2, q3, q4, q5⟩ := k2 hpl
      obtain ⟨w1, w2, w3⟩ := hvg.2 g hg9 hpl
      obtain ⟨j, hj9, rfl⟩ := dec_ix br16_ (by omega)
      have ej : xN (nI j) = j := xN_nI (by omega)
      have eg : xN (nI g) = g := xN_nI (by omega)
      obtain ⟨na, ga, s1, s2, s3⟩ := ho_sc hc.2.1 hj9
      have hvs := vs_at hv hj9
      have em : acM hs gs (nI g) (nI j) = (!isE hs (gs.getD g gz0).2.1 && cdo hs (gs.getD g gz0).2.1 j (gs.getD g gz0).2.2.1) := by unfold acM; rw [eq, ej]
      have et : acT hs gs (nI g) (nI j) = tkn gs g (rmo hs j) := by unfold acT; rw [eg, ej]
      subst q1 q2
      refine aw_aload_n (i := 0) d_LH_act_21 rfl rfl ?_
      apply aw_get d_LH_act_22 fl_LH_33; exact hc.1.1; rfl
      refine aw_iload_n (i := 1) d_LH_act_25 rfl rfl ?_
      apply aw_callv_p (l_gd g1 (g) (by rw [g2]; exact hg9)) d_LH_act_26 cl_LH_101; exact g1.ob.choose_spec; rfl; rfl; rfl; rfl; decide; exact Nat.le_of_ble_eq_true rfl; exact (by omega); exact (by omega)
      apply aw_cast d_LH_act_29; exact k1; rfl; exact cc_LH_37
      refine aw_astore_n (i := 3) (lv2 := [(0, _), (1, _), (2, _), (3, _)]) d_LH_act_32 rfl (by decide) rfl ?_
      refine aw_aload_n (i := 0) d_LH_act_33 rfl rfl ?_
      apply aw_get d_LH_act_34 fl_LH_10; exact hc.1.1; rfl
      apply aw_get d_LH_act_37 fl_LH_82; exact hc.2.1.1; rfl
      refine aw_iload_n (i := 2) d_LH_act_40 rfl rfl ?_
      apply aw_callv_p (ho_gs hc.2.1 hj9) d_LH_act_41 cl_LH_101; exact (ho_sl hc.2.1).choose_spec; rfl; rfl; rfl; rfl; decide; exact Nat.le_of_ble_eq_true rfl; exact (by omega); exact (by omega)
      apply aw_cast d_LH_act_44; exact s1; rfl; exact cc_LH_85
      refine aw_astore (lv2 := [(0, _), (1, _), (2, _), (3, _), (4, _)]) d_LH_act_47 (by decide) rfl ?_
      refine aw_aload_n (i := 0) d_LH_act_49 rfl rfl ?_
      apply aw_get d_LH_act_50 fl_LH_10; exact hc.1.1; rfl
      refine aw_aload_n (i := 3) d_LH_act_53 rfl rfl ?_
      apply aw_get d_LH_act_54 fl_LH_257; exact k1; rfl
      refine aw_iload_n (i := 2) d_LH_act_57 rfl rfl ?_
      refine aw_aload_n (i := 3) d_LH_act_58 rfl rfl ?_
      apply aw_get d_LH_act_59 fl_LH_260; exact k1; rfl
      apply aw_callv_p (c_House_canMove hc.2.1 hv w1 hj9 w3) d_LH_act_62 cl_LH_196; exact hc.2.1.1; rfl; rfl; rfl; rfl; decide; exact Nat.le_of_ble_eq_true rfl; exact (by omega); exact (by omega)
      refine aw_ifB_ne d_LH_act_65 (fun br65_ => ?_) (fun br65_ => ?_)
      · skip
        rw [← em] at br65_
        refine aw_aload_n (i := 0) d_LH_act_70 rfl rfl ?_
        refine aw_aload d_LH_act_71 rfl ?_
        apply aw_get d_LH_act_73 fl_LH_261; exact s1; rfl
        refine aw_iload_n (i := 1) d_LH_act_76 rfl rfl ?_
        apply aw_callv_p (c_LH_isTaken hc hv (r := rmo hs j) (by have := hvs.2.2.2.2.2.1; unfold rmo; omega) hg9) d_LH_act_77 cl_LH_264; exact hc.1.1; rfl; rfl; rfl; rfl; decide; exact Nat.le_of_ble_eq_true rfl; exact (by omega); exact (by omega)
        refine aw_ifB_eq d_LH_act_80 (fun br80_ => ?_) (fun br80_ => ?_)
        · skip
          rw [← et] at br80_
          have eo : acO hs gs (nI g) (nI j) = true := by unfold acO; rw [ea, br65_, br80_]; rfl
          refine aw_aload_n (i := 3) d_LH_act_86 rfl rfl ?_
          refine aw_aload_n (i := 0) d_LH_act_87 rfl rfl ?_
          apply aw_get d_LH_act_88 fl_LH_10; exact hc.1.1; rfl
          refine aw_aload_n (i := 3) d_LH_act_91 rfl rfl ?_
          apply aw_get d_LH_act_92 fl_LH_257; exact k1; rfl
          refine aw_iload_n (i := 2) d_LH_act_95 rfl rfl ?_
          apply aw_callv_p (c_House_codeAfter hc.2.1 hv w1 hj9) d_LH_act_96 cl_LH_200; exact hc.2.1.1; rfl; rfl; rfl; rfl; decide; exact Nat.le_of_ble_eq_true rfl; exact (by omega); exact (by omega)
          refine aw_aload d_LH_act_99 rfl ?_
          apply aw_get d_LH_act_101 fl_LH_267; exact s1; rfl
          refine aw_aload d_LH_act_104 rfl ?_
          apply aw_get d_LH_act_106 fl_LH_261; exact s1; rfl
          apply aw_callv_q (c_Group_move k1 (nI (aft hs (gs.getD g gz0).2.1 j)) (nI (tks hs j)) (nI (rmo hs j))) d_LH_act_109 cl_LH_270; exact k1; rfl; rfl; rfl; rfl; decide; exact Nat.le_of_ble_eq_true rfl; exact (by omega); exact (by omega)
          refine aw_nm k1 ?_
          intro h1 k3 f1 o1
          have hG : GrA h1 B.2.2.1 (gs.set g (true, aft hs (gs.getD g gz0).2.1 j, (gs.getD g gz0).2.2.1, (gs.getD g gz0).2.2.2.1 + nI (tks hs j), nI (rmo hs j), (gs.getD g gz0).2.2.2.2.2 + 1)) := gr_set g1 g2 g3 hg hg9 f1 ⟨_, _, _, _, _, (by rw [hpl] at k3; exact k3), fun _ => ⟨rfl, rfl, by rw [q3], rfl, by rw [q5]⟩⟩
          have hc := hc.grp hv hG (gr_fr hg9 f1)
          have FR : Fr CTs h h1 := ct_up f1 (fun y hy => by rw [List.mem_singleton.mp hy]; show 1 ≤ 20 + g ∧ 20 + g ≤ 43; omega)
          refine aw_aload_n (i := 0) d_LH_act_112 rfl rfl ?_
          apply aw_get d_LH_act_113 fl_LH_26; exact hc.1.1; rfl
          refine aw_iload_n (i := 1) d_LH_act_116 rfl rfl ?_
          refine aw_iload_n (i := 2) d_LH_act_117 rfl rfl ?_
          refine aw_aload_n (i := 3) d_LH_act_118 rfl rfl ?_
          apply aw_get d_LH_act_119 fl_LH_257; exact k3; rfl
          obtain ⟨_, _, _, _, _, _, hdob, _⟩ := id hc.1.2.2.1
          apply aw_callv d_LH_act_122 cl_LH_274 (c_Diary_write hc.1.2.2.1 (by omega) g j (aft hs (gs.getD g gz0).2.1 j)); exact hdob; rfl; rfl; rfl; rfl; decide; exact (by omega); exact (by omega); exact Nat.le_of_ble_eq_true rfl
          rintro _ _ ⟨rfl, h2, rfl, hd9, f9⟩
          have hc := hc.diar hv hd9 f9
          have FR := FR.tr (ct_up f9 (fun y hy => by simp at hy; omega))
          refine aw_iconst (v := 1) d_LH_act_125 (by decide) ?_
          refine aw_iret d_LH_act_126 rfl (by omega) (by omega) ?_
          exact ⟨(by unfold acI; rw [ea, br65_, br80_]; rfl), _, h2, _, _, _, _, _, _, _, rfl, (by rw [eo]; show CL _ _ _ _ _ _ _ _ _ _ _ _ (gsA hs gs (nI g) (nI j)) (lgA hs gs lg (nI g) (nI j)) _ _; unfold gsA lgA; rw [eg, ej, eq]; exact hc), FR⟩
        · skip
          rw [← et] at br80_
          have eo : acO hs gs (nI g) (nI j) = false := by unfold acO; rw [ea, br65_, br80_]; rfl
          refine aw_bipush (v := -3) d_LH_act_83 (by decide) ?_
          refine aw_iret d_LH_act_85 rfl (by omega) (by omega) ?_
          exact ⟨(by unfold acI; rw [ea, br65_, br80_]; rfl), _, h, _, _, _, _, _, _, _, rfl, (by rw [eo]; exact hc), Fr.rf⟩
      · skip
        rw [← em] at br65_
        have eo : acO hs gs (nI g) (nI j) = false := by unfold acO; rw [ea, br65_]; rfl
        refine aw_iconst (v := 0) d_LH_act_68 (by decide) ?_
        refine aw_iret d_LH_act_69 rfl (by omega) (by omega) ?_
        exact ⟨(by unfold acI; rw [ea, br65_]; rfl), _, h, _, _, _, _, _, _, _, rfl, (by rw [eo]; exact hc), Fr.rf⟩
    · skip
      refine aw_iconst (v := -1) d_LH_act_19 (by decide) ?_
      refine aw_iret d_LH_act_20 rfl (by omega) (by omega) ?_
      have ea : acA hs gs v s = false := by unfold acA; rw [show isSx hs s = false from br16_, Bool.and_false]
      have eo : acO hs gs v s = false := by unfold acO; rw [ea]; rfl
      exact ⟨(by unfold acI; rw [ea]; rfl), _, h, _, _, _, _, _, _, _, rfl, (by rw [eo]; exact hc), Fr.rf⟩

