/-! the class is made -/
theorem gce_fr {h h2 : Nat → Option aC} {a g : Nat} {q : GSt} {T : List Nat} (hg : GCe h a g q) (f : Fr T h h2) (ht : 20 + g ∉ T) : GCe h2 a g q := by
  obtain ⟨v1, v2, v3, v4, v5, k1, k2⟩ := hg
  exact ⟨v1, v2, v3, v4, v5, f _ _ k1 ht, k2⟩
theorem gal_el {h : Nat → Option aC} {gal : List Nat} {i : Nat} (hn : gal.length = i) (hg : ∀ g, g < i → GCe h (gal.getD g 0) g gz0) : ∀ y ∈ gal, ∃ tt fs, h y = some (tt, .inr (1, fs)) := by
  intro y hy
  obtain ⟨g, hgl, rfl⟩ := List.getElem_of_mem hy
  obtain ⟨v1, v2, v3, v4, v5, k1, _⟩ := hg g (by omega)
  rw [List.getD_eq_getElem?_getD, List.getElem?_eq_getElem hgl] at k1
  exact ⟨_, _, k1⟩
theorem gsz_at {g : Nat} (hg : g < 4) : gsZ.getD g gz0 = gz0 := by
  match g, hg with
  | 0, _ => rfl
  | 1, _ => rfl
  | 2, _ => rfl
  | 3, _ => rfl
set_option maxHeartbeats 4000000 in
set_option maxRecDepth 20000 in
theorem c_LH_init {G : aG} {nx : Nat} {h : Nat → Option aC} {a : Nat} (ha : h a = some (ob 1 10 [.null, .null, .null, .null, .null, .null])) (hd : Dom nx h) : AMet G m_LH_init 7 36 3749 [.ref a] (nx, h) (fun r w => r = none ∧ ∃ n2 h2 B ad A ar, w = (n2, h2) ∧ CL h2 a B hsC ad A 256 (false, false, false, 0) [] [] ar 0 gsZ [] [] 256 ∧ Fr CTs h h2) := by
  obtain ⟨h9, e9⟩ : ∃ h9, h9 = h := ⟨h, rfl⟩
  have FR : Fr CTs h9 h := by rw [e9]; exact Fr.rf
  refine amet_of pf_LH_init (Nat.le_of_ble_eq_true rfl) ?_
  show AW G m_LH_init 7 36 3749 _ 0 [(0, .ref a)] [] (nx, h) 0 0
  refine aw_aload_n (i := 0) d_LH_init_0 rfl rfl ?_
  refine aw_objInit d_LH_init_1 oi_LH_1 (by decide) (Nat.le_of_ble_eq_true rfl) ?_
  refine aw_aload_n (i := 0) d_LH_init_4 rfl rfl ?_
  refine aw_new (2) (N := 6) d_LH_init_5 nl_LH_7 rfl (by omega) (by omega) ?_
  refine aw_nn hd ?_
  intro h hb f_ o_ hd
  have ha := f_ _ _ ha (by first | (simp; done) | (simp; omega))
  have FR := FR.tr (f_.up (fun _ z => absurd z List.not_mem_nil))
  refine aw_dup d_LH_init_8 rfl ?_
  apply aw_calln d_LH_init_9 cl_LH_9 (c_House_init hb hd); rfl; rfl; decide; exact (by omega); exact (by omega); exact Nat.le_of_ble_eq_true rfl
  rintro _ _ ⟨rfl, h, rfl, hd, ⟨ad, ea, ho⟩, fr_⟩
  have ha := fr_ _ _ ha (by first | (simp; done) | (simp; omega))
  have FR := FR.tr (ct_up fr_ (fun y hy => by simp at hy; omega))
  apply aw_putF d_LH_init_12 pl_LH_10 rfl; exact ha; exact Nat.le_of_ble_eq_true rfl; exact rfl; exact rfl
  refine aw_nm ha ?_
  intro h ha_ f_ o_
  have hd := dom_o hd ha o_
  have ha := ha_
  have FR := FR.tr (ct_up f_ (fun y hy => by simp at hy; omega))
  have ho := ho.fr vh_C f_ (fun y hy => by unfold HT at hy; simp; omega)
  refine aw_aload_n (i := 0) d_LH_init_15 rfl rfl ?_
  refine aw_new (11) (N := 2) d_LH_init_16 nl_LH_16 rfl (by omega) (by omega) ?_
  refine aw_nn hd ?_
  intro h hb f_ o_ hd
  have ha := f_ _ _ ha (by first | (simp; done) | (simp; omega))
  have FR := FR.tr (f_.up (fun _ z => absurd z List.not_mem_nil))
  have ho := ho.fr vh_C f_ (fun y hy => List.not_mem_nil)
  refine aw_dup d_LH_init_19 rfl ?_
  apply aw_calln d_LH_init_20 cl_LH_18 (c_Row_init hb hd); rfl; rfl; decide; exact (by omega); exact (by omega); exact Nat.le_of_ble_eq_true rfl
  rintro _ _ ⟨rfl, h, rfl, hd, hr, fr_⟩
  have ho := ho.fr vh_C fr_ (fun y hy => by unfold HT at hy; simp; omega)
  have ha := fr_ _ _ ha (by first | (simp; done) | (simp; omega))
  have FR := FR.tr (ct_up fr_ (fun y hy => by simp at hy; omega))
  apply aw_putF d_LH_init_23 pl_LH_19 rfl; exact ha; exact Nat.le_of_ble_eq_true rfl; exact rfl; exact rfl
  refine aw_nm ha ?_
  intro h ha_ f_ o_
  have hd := dom_o hd ha o_
  have ha := ha_
  have FR := FR.tr (ct_up f_ (fun y hy => by simp at hy; omega))
  have ho := ho.fr vh_C f_ (fun y hy => by unfold HT at hy; simp; omega)
  have hr := hr.fr f_ (by simp) (by simp)
  refine aw_aload_n (i := 0) d_LH_init_26 rfl rfl ?_
  refine aw_new (13) (N := 6) d_LH_init_27 nl_LH_23 rfl (by omega) (by omega) ?_
  refine aw_nn hd ?_
  intro h hb f_ o_ hd
  have ha := f_ _ _ ha (by first | (simp; done) | (simp; omega))
  have FR := FR.tr (f_.up (fun _ z => absurd z List.not_mem_nil))
  have ho := ho.fr vh_C f_ (fun y hy => List.not_mem_nil)
  have hr := hr.fr f_ List.not_mem_nil List.not_mem_nil
  refine aw_dup d_LH_init_30 rfl ?_
  apply aw_calln d_LH_init_31 cl_LH_25 (c_Diary_init hb hd); rfl; rfl; decide; exact (by omega); exact (by omega); exact Nat.le_of_ble_eq_true rfl
  rintro _ _ ⟨rfl, h, rfl, hd, hi, fr_⟩
  have ho := ho.fr vh_C fr_ (fun y hy => by unfold HT at hy; simp; omega)
  have hr := hr.fr fr_ (by simp) (by simp)
  have ha := fr_ _ _ ha (by first | (simp; done) | (simp; omega))
  have FR := FR.tr (ct_up fr_ (fun y hy => by simp at hy; omega))
  apply aw_putF d_LH_init_34 pl_LH_26 rfl; exact ha; exact Nat.le_of_ble_eq_true rfl; exact rfl; exact rfl
  refine aw_nm ha ?_
  intro h ha_ f_ o_
  have hd := dom_o hd ha o_
  have ha := ha_
  have FR := FR.tr (ct_up f_ (fun y hy => by simp at hy; omega))
  have ho := ho.fr vh_C f_ (fun y hy => by unfold HT at hy; simp; omega)
  have hr := hr.fr f_ (by simp) (by simp)
  have hi := hi.fr f_ (fun y h1 h2 => by simp; omega)
  refine aw_aload_n (i := 0) d_LH_init_37 rfl rfl ?_
  refine aw_new (17) (N := 3) d_LH_init_38 nl_LH_30 rfl (by omega) (by omega) ?_
  refine aw_nn hd ?_
  intro h hb f_ o_ hd
  have ha := f_ _ _ ha (by first | (simp; done) | (simp; omega))
  have FR := FR.tr (f_.up (fun _ z => absurd z List.not_mem_nil))
  have ho := ho.fr vh_C f_ (fun y hy => List.not_mem_nil)
  have hr := hr.fr f_ List.not_mem_nil List.not_mem_nil
  have hi := hi.fr f_ (fun y h1 h2 => List.not_mem_nil)
  refine aw_dup d_LH_init_41 rfl ?_
  apply aw_calli d_LH_init_42 cl_LH_32 (c_AL_init hb); rfl; rfl; decide; exact (by omega); exact (by omega); exact Nat.le_of_ble_eq_true rfl
  rintro _ _ ⟨rfl, rfl⟩
  refine aw_nm hb ?_
  intro h hb_ fr_ o_
  have hd := dom_o hd hb o_
  have hl : Lsx 17 18 h _ [] := ⟨0, 0, hb_, Or.inl ⟨rfl, rfl⟩⟩
  have ho := ho.fr vh_C fr_ (fun y hy => by unfold HT at hy; simp; omega)
  have hr := hr.fr fr_ (by simp) (by simp)
  have hi := hi.fr fr_ (fun y h1 h2 => by simp; omega)
  have ha := fr_ _ _ ha (by first | (simp; done) | (simp; omega))
  have FR := FR.tr (ct_up fr_ (fun y hy => by simp at hy; omega))
  apply aw_putF d_LH_init_45 pl_LH_33 rfl; exact ha; exact Nat.le_of_ble_eq_true rfl; exact rfl; exact rfl
  refine aw_nm ha ?_
  intro h ha_ f_ o_
  have hd := dom_o hd ha o_
  have ha := ha_
  have FR := FR.tr (ct_up f_ (fun y hy => by simp at hy; omega))
  have ho := ho.fr vh_C f_ (fun y hy => by unfold HT at hy; simp; omega)
  have hr := hr.fr f_ (by simp) (by simp)
  have hi := hi.fr f_ (fun y h1 h2 => by simp; omega)
  have hl := hl.fr f_ (by simp) (by simp)
  refine aw_iconst (v := nI 0) d_LH_init_48 (by decide) ?_
  refine aw_istore_n (i := 1) (lv2 := [(0, _), (1, _)]) d_LH_init_49 rfl (by decide) rfl ?_
  refine Nat.strongRecOn (motive := fun m => ∀ (i n2 : Nat) (h : Nat → Option aC) (gal : List Nat), (m + i = 4 ∧ Dom n2 h ∧ h a = some (ob 1 10 [.ref nx, .ref (nx + 1 + 4), .ref (nx + 1 + 4 + 1 + 1), .ref (nx + 1 + 4 + 1 + 1 + 1 + 3), .null, .null]) ∧ HoA h hsC ad (hsta hsC) ∧ RoA h (nx + 1 + 4) 256 [] ∧ DiA h (nx + 1 + 4 + 1 + 1) [] ∧ Lsx 17 18 h (nx + 1 + 4 + 1 + 1 + 1 + 3) gal ∧ gal.length = i ∧ (∀ g, g < i → GCe h (gal.getD g 0) g gz0) ∧ Fr CTs h9 h) → AW G m_LH_init 7 36 3749 _ 50 [(0, .ref a), (1, .int (nI i))] [] (n2, h) (12 + 2 * i) (884 + 66 * i)) (4) (fun m ih => ?_) 0 _ h [] ⟨rfl, hd, ha, ho, hr, hi, hl, rfl, (fun g hg => absurd hg (Nat.not_lt_zero _)), FR⟩
  intro i n2 h gal hI
  obtain ⟨hmi, hd, ha, ho, hr, hi, hl, hgn, hgc, FR⟩ := hI
  refine aw_iload_n (i := 1) d_LH_init_50 rfl rfl ?_
  refine aw_iconst (v := nI 4) d_LH_init_51 (by decide) ?_
  refine aw_icmpN_ge d_LH_init_52 (by omega) (by omega) (fun br52_ => ?_) (fun br52_ => ?_)
  · skip
    obtain rfl : i = 4 := by omega
    refine aw_aload_n (i := 0) d_LH_init_76 rfl rfl ?_
    refine aw_bipush (v := nI 12) d_LH_init_77 (by decide) ?_
    refine aw_newaI (24) (N := 12) d_LH_init_79 rfl (by omega) (by omega) (by omega) ?_
    refine aw_nn hd ?_
    intro h hor f_ o_ hd
    have ha := f_ _ _ ha (by first | (simp; done) | (simp; omega))
    have FR := FR.tr (f_.up (fun _ z => absurd z List.not_mem_nil))
    have ho := ho.fr vh_C f_ (fun y hy => List.not_mem_nil)
    have hr := hr.fr f_ List.not_mem_nil List.not_mem_nil
    have hi := hi.fr f_ (fun y h1 h2 => List.not_mem_nil)
    have hl := hl.fr f_ List.not_mem_nil List.not_mem_nil
    have hgc : ∀ g, g < 4 → GCe h (gal.getD g 0) g gz0 := fun g hg => gce_fr (hgc g hg) f_ List.not_mem_nil
    apply aw_putF d_LH_init_81 pl_LH_44 rfl; exact ha; exact Nat.le_of_ble_eq_true rfl; exact rfl; exact rfl
    refine aw_nm ha ?_
    intro h ha_ f_ o_
    have hd := dom_o hd ha o_
    have hor := f_ _ _ hor (by first | (simp; done) | (simp; omega))
    have ha := ha_
    have FR := FR.tr (ct_up f_ (fun y hy => by simp at hy; omega))
    have ho := ho.fr vh_C f_ (fun y hy => by unfold HT at hy; simp; omega)
    have hr := hr.fr f_ (by simp) (by simp)
    have hi := hi.fr f_ (fun y h1 h2 => by simp; omega)
    have hl := hl.fr f_ (by simp) (by simp)
    have hgc : ∀ g, g < 4 → GCe h (gal.getD g 0) g gz0 := fun g hg => gce_fr (hgc g hg) f_ (by simp; omega)
    refine aw_aload_n (i := 0) d_LH_init_84 rfl rfl ?_
    refine aw_new (30) (N := 12) d_LH_init_85 nl_LH_48 rfl (by omega) (by omega) ?_
    refine aw_nn hd ?_
    intro h hb f_ o_ hd
    have ha := f_ _ _ ha (by first | (simp; done) | (simp; omega))
    have hor := f_ _ _ hor (by first | (simp; done) | (simp; omega))
    have FR := FR.tr (f_.up (fun _ z => absurd z List.not_mem_nil))
    have ho := ho.fr vh_C f_ (fun y hy => List.not_mem_nil)
    have hr := hr.fr f_ List.not_mem_nil List.not_mem_nil
    have hi := hi.fr f_ (fun y h1 h2 => List.not_mem_nil)
    have hl := hl.fr f_ List.not_mem_nil List.not_mem_nil
    have hgc : ∀ g, g < 4 → GCe h (gal.getD g 0) g gz0 := fun g hg => gce_fr (hgc g hg) f_ List.not_mem_nil
    refine aw_dup d_LH_init_88 rfl ?_
    refine aw_aload_n (i := 0) d_LH_init_89 rfl rfl ?_
    apply aw_get d_LH_init_90 fl_LH_10; exact ha; rfl
    refine aw_sipush (v := nI 256) d_LH_init_93 (by decide) ?_
    apply aw_calli d_LH_init_96 cl_LH_50 (c_Walk_init (M := 256) (by decide) hb hd); rfl; rfl; decide; exact (by omega); exact (by omega); exact Nat.le_of_ble_eq_true rfl
    rintro _ _ ⟨rfl, h, rfl, hd, ⟨A9, ar9, e0, e2, hw9⟩, fr_⟩
    have ho := ho.fr vh_C fr_ (fun y hy => by unfold HT at hy; simp; omega)
    have hr := hr.fr fr_ (by simp) (by simp)
    have hi := hi.fr fr_ (fun y h1 h2 => by simp; omega)
    have hl := hl.fr fr_ (by simp) (by simp)
    have hgc : ∀ g, g < 4 → GCe h (gal.getD g 0) g gz0 := fun g hg => gce_fr (hgc g hg) fr_ (by simp; omega)
    have ha := fr_ _ _ ha (by first | (simp; done) | (simp; omega))
    have hor := fr_ _ _ hor (by first | (simp; done) | (simp; omega))
    have FR := FR.tr (ct_up fr_ (fun y hy => by simp at hy; omega))
    apply aw_put d_LH_init_99 pl_LH_53; exact ha; exact Nat.le_of_ble_eq_true rfl; exact rfl; exact rfl
    refine aw_nm ha ?_
    intro h ha_ f_ o_
    have hd := dom_o hd ha o_
    have hor := f_ _ _ hor (by first | (simp; done) | (simp; omega))
    have ha := ha_
    have FR := FR.tr (ct_up f_ (fun y hy => by simp at hy; omega))
    have ho := ho.fr vh_C f_ (fun y hy => by unfold HT at hy; simp; omega)
    have hr := hr.fr f_ (by simp) (by simp)
    have hi := hi.fr f_ (fun y h1 h2 => by simp; omega)
    have hl := hl.fr f_ (by simp) (by simp)
    have hgc : ∀ g, g < 4 → GCe h (gal.getD g 0) g gz0 := fun g hg => gce_fr (hgc g hg) f_ (by simp; omega)
    have hw9 := hw9.fr f_ (fun y hy => by simp only [WTg, List.mem_cons, List.not_mem_nil, or_false] at hy; simp; omega)
    refine aw_vret d_LH_init_102 rfl (by omega) (by omega) ?_
    exact ⟨rfl, _, h, (_, _, _, _), ad, A9, ar9, rfl, ⟨⟨by rw [ea, e0]; exact ha, hr, hi, ⟨gal, hl, hgn, fun g hg => by rw [gsz_at hg]; exact hgc g hg⟩, _, hor⟩, ho, by rw [e2, ea], hw9, ⟨fun q => absurd q (by decide), fun q => absurd q (by decide), fun q => absurd q (by decide)⟩⟩, e9 ▸ FR⟩
  · skip
    refine aw_aload_n (i := 0) d_LH_init_55 rfl rfl ?_
    apply aw_get d_LH_init_56 fl_LH_33; exact ha; rfl
    refine aw_new (20 + i) (N := 6) d_LH_init_59 nl_LH_37 rfl (by omega) (by omega) ?_
    refine aw_nn hd ?_
    intro h hb f_ o_ hd
    have ha := f_ _ _ ha (by first | (simp; done) | (simp; omega))
    have FR := FR.tr (f_.up (fun _ z => absurd z List.not_mem_nil))
    have ho := ho.fr vh_C f_ (fun y hy => List.not_mem_nil)
    have hr := hr.fr f_ List.not_mem_nil List.not_mem_nil
    have hi := hi.fr f_ (fun y h1 h2 => List.not_mem_nil)
    have hl := hl.fr f_ List.not_mem_nil List.not_mem_nil
    have hgc : ∀ g, g < i → GCe h (gal.getD g 0) g gz0 := fun g hg => gce_fr (hgc g hg) f_ List.not_mem_nil
    refine aw_dup d_LH_init_62 rfl ?_
    apply aw_calln d_LH_init_63 cl_LH_39 (c_Group_init); rfl; rfl; decide; exact (by omega); exact (by omega); exact Nat.le_of_ble_eq_true rfl
    rintro _ _ ⟨rfl, rfl⟩
    apply aw_callv d_LH_init_66 cl_LH_40 (c_AL_add1 18 hl (by omega) hd (by decide) hb rfl (by simp [nws]; exact Or.inr (Or.inr (Or.inl rfl))) (gal_el hgn hgc)); exact hl.ob.choose_spec; rfl; rfl; rfl; rfl; decide; exact (by omega); exact (by omega); exact Nat.le_of_ble_eq_true rfl
    rintro _ _ ⟨rfl, n3, h, rfl, hn2, hd, hl, fr_, hn3⟩
    have ho := ho.fr vh_C fr_ (fun y hy => by unfold HT at hy; simp; omega)
    have hr := hr.fr fr_ (by simp) (by simp)
    have hi := hi.fr fr_ (fun y h1 h2 => by simp; omega)
    have hgc : ∀ g, g < i → GCe h (gal.getD g 0) g gz0 := fun g hg => gce_fr (hgc g hg) fr_ (by simp; omega)
    have ha := fr_ _ _ ha (by first | (simp; done) | (simp; omega))
    have hb := fr_ _ _ hb (by first | (simp; done) | (simp; omega))
    have FR := FR.tr (ct_up fr_ (fun y hy => by simp at hy; omega))
    refine aw_pop d_LH_init_69 rfl ?_
    refine aw_iincN (lv2 := [(0, _), (1, _)]) d_LH_init_70 (by decide) rfl rfl ?_
    refine aw_goto d_LH_init_73 ?_
    have ek : 12 + 2 * (i + 1) = 12 + 2 * i + 1 + 1 := by omega
    have en : 884 + 66 * (i + 1) = 884 + 66 * i + 6 + 60 := by omega
    have z := ih (m - 1) (by omega) (i + 1) n3 h (gal ++ [n2]) ⟨by omega, hd, ha, ho, hr, hi, hl, by simp [hgn], ?_, FR⟩
    · rw [ek, en] at z; exact z
    intro g hg
    by_cases e : g < i
    · have := hgc g e
      rw [List.getD_eq_getElem?_getD, List.getElem?_append_left (by omega), ← List.getD_eq_getElem?_getD]; exact this
    · obtain rfl : g = i := by omega
      rw [List.getD_eq_getElem?_getD, List.getElem?_append_right (by omega), hgn, Nat.sub_self]
      exact ⟨0, 0, 0, 0, 0, hb, fun q => absurd q (by decide)⟩

