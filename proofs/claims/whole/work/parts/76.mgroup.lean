/-- groups -/
def frG (gs : List GSt) : Nat := (gs.takeWhile (fun g => g.1)).length
theorem frG_eq : ∀ {gs : List GSt} {i : Nat}, i ≤ gs.length → (∀ k, k < i → (gs.getD k gz0).1 = true) → (i = gs.length ∨ (gs.getD i gz0).1 = false) → frG gs = i
  | [], i, h1, _, _ => by simp at h1; subst h1; rfl
  | g :: t, 0, h1, h2, h3 => by
    have : g.1 = false := by simpa using h3
    simp [frG, this]
  | g :: t, i + 1, h1, h2, h3 => by
    have hg : g.1 = true := by simpa using h2 0 (by omega)
    have ih := frG_eq (gs := t) (i := i) (by simpa using h1) (fun k hk => by simpa using h2 (k + 1) (by omega)) (by simpa using h3)
    unfold frG at ih ⊢
    rw [List.takeWhile_cons, hg]
    simp [ih]
def okI (gs : List GSt) (x : Int32) : Bool := rng 1 9 x && decide (frG gs < 4)
def gsI (hs : HSt) (gs : List GSt) (x : Int32) : List GSt := gs.set (frG gs) (true, hsta hs, xN x, 0, -1, 0)
def gAt (gs : List GSt) (g : Int32) : GSt := gs.getD (xN g) gz0
def tkn (gs : List GSt) (g r : Nat) : Bool := (List.range 4).any (fun i => decide (i ≠ g) && (gs.getD i gz0).1 && decide ((gs.getD i gz0).2.2.2.2.1 = nI r))
def rmo (hs : HSt) (j : Nat) : Nat := (hs.2.1.getD j sz0).2.2.2.1
def acA (hs : HSt) (gs : List GSt) (g s : Int32) : Bool := isG gs g && isSx hs s
def acM (hs : HSt) (gs : List GSt) (g s : Int32) : Bool := !isE hs (gAt gs g).2.1 && cdo hs (gAt gs g).2.1 (xN s) (gAt gs g).2.2.1
def acT (hs : HSt) (gs : List GSt) (g s : Int32) : Bool := tkn gs (xN g) (rmo hs (xN s))
def acI (hs : HSt) (gs : List GSt) (g s : Int32) : Int32 := if acA hs gs g s then (if acM hs gs g s then (if acT hs gs g s then -3 else 1) else 0) else -1
def acO (hs : HSt) (gs : List GSt) (g s : Int32) : Bool := acA hs gs g s && acM hs gs g s && !acT hs gs g s
def gsA (hs : HSt) (gs : List GSt) (g s : Int32) : List GSt := gs.set (xN g) (true, aft hs (gAt gs g).2.1 (xN s), (gAt gs g).2.2.1, (gAt gs g).2.2.2.1 + nI (tks hs (xN s)), nI (rmo hs (xN s)), (gAt gs g).2.2.2.2.2 + 1)
def lgA (hs : HSt) (gs : List GSt) (lg : List (Nat × Nat × Nat)) (g s : Int32) : List (Nat × Nat × Nat) := lg ++ [(xN g, xN s, aft hs (gAt gs g).2.1 (xN s))]
theorem MoG.set {ar ar2 : Nat → Nat → Int32} {gs : List GSt} {g : Nat} {x : GSt} (hg : MoG ar gs) (hl : g < 4) (ho : ∀ i, i ≠ g → i < 4 → ar2 44 i = ar 44 i ∧ ar2 45 i = ar 45 i ∧ ar2 46 i = ar 46 i ∧ ar2 47 i = ar 47 i ∧ ar2 48 i = ar 48 i ∧ ar2 49 i = ar 49 i) (hn : ar2 44 g = bI x.1 ∧ (x.1 = true → ar2 45 g = nI x.2.1 ∧ ar2 46 g = nI x.2.2.1 ∧ ar2 47 g = x.2.2.2.1 ∧ ar2 48 g = x.2.2.2.2.1 ∧ ar2 49 g = x.2.2.2.2.2)) : MoG ar2 (gs.set g x) := by
  refine ⟨by rw [List.length_set]; exact hg.1, fun i hi => ?_⟩
  rw [gd_set (by rw [hg.1]; exact hl)]
  by_cases e : i = g
  · subst e; rw [if_pos rfl]; exact hn
  · rw [if_neg e]
    obtain ⟨e1, e2, e3, e4, e5, e6⟩ := ho i e hi
    rw [e1, e2, e3, e4, e5, e6]
    exact hg.2 i hi
/-- the groups change, the house does not -/
theorem MoA.grp {sc sc2 : Nat → Int32} {ar ar2 : Nat → Nat → Int32} {hs : HSt} {gs gs2 : List GSt} {lg lg2 : List (Nat × Nat × Nat)} {xs xs2 : List Int32} {Ls La : List Nat} (hq : MoA sc ar hs gs lg xs) (hg : MoG ar2 gs2) (hl : MoL sc2 ar2 lg2) (hr : MoR sc2 ar2 xs2) (hk : Kp Ls La sc ar sc2 ar2) (h1 : ([1, 4, 15, 18, 23].all fun x => !Ls.contains x) = true) (h2 : ([2, 3, 5, 6, 7, 8, 9, 10, 11, 12, 13, 14, 16, 17, 19, 20, 21, 22, 28, 29, 30].all fun x => !La.contains x) = true) : MoA sc2 ar2 hs gs2 lg2 xs2 := by
  simp only [List.all_cons, List.all_nil, Bool.and_eq_true, Bool.not_eq_true'] at h1 h2
  obtain ⟨a1, a2, a3, a4, a5, -⟩ := h1
  obtain ⟨b1, b2, b3, b4, b5, b6, b7, b8, b9, b10, b11, b12, b13, b14, b15, b16, b17, b18, c1, c2, c3, -⟩ := h2
  refine ⟨hq.1.kp hk ?_ ?_, hg, hl, hr, hq.2.2.2.2.kp hk a5 ?_⟩
  · simp only [List.all_cons, List.all_nil, Bool.and_eq_true, Bool.not_eq_true']; exact ⟨a1, a2, a3, a4, trivial⟩
  · simp only [List.all_cons, List.all_nil, Bool.and_eq_true, Bool.not_eq_true']; exact ⟨b1, b2, b3, b4, b5, b6, b7, b8, b9, b10, b11, b12, b13, b14, b15, b16, b17, b18, trivial⟩
  · simp only [List.all_cons, List.all_nil, Bool.and_eq_true, Bool.not_eq_true']; exact ⟨c1, c2, c3, trivial⟩
theorem isG_ex {gs : List GSt} {x : Int32} (h : isG gs x = true) : ∃ g, g < 4 ∧ x = nI g ∧ (gs.getD g gz0).1 = true ∧ gAt gs x = gs.getD g gz0 := by
  unfold isG at h
  simp only [Bool.and_eq_true] at h
  obtain ⟨g, hg, rfl⟩ := dec_ix h.1 (by decide)
  rw [show (nI g).toNatClampNeg = g from nI_clamp (by omega)] at h
  exact ⟨g, hg, rfl, h.2, by unfold gAt; rw [xN_nI (by omega)]⟩
set_option maxHeartbeats 4000000 in
set_option maxRecDepth 20000 in
theorem c_Mod_enter {G : aG} {nx : Nat} {h h0 : Nat → Option aC} {a : Nat} {A : Nat → Nat} {sc : Nat → Int32} {ar : Nat → Nat → Int32} (hm : MoF h0 h a A sc ar) {hs : HSt} {gs : List GSt} {lg : List (Nat × Nat × Nat)} {xs : List Int32} (hq : MoA sc ar hs gs lg xs) (hv : VH hs) (x : Int32) : AMet G m_Mod_enter 2 0 0 [.ref a, .int x] (nx, h) (MR nx a h0 A (fun r sc2 ar2 => r = some (.int (if okI gs x then nI (frG gs) else -1)) ∧ sc2 0 = 0 ∧ MoA sc2 ar2 hs (if okI gs x then gsI hs gs x else gs) lg xs)) := by
  have hp12 := hv.1.1
  have hs24 := hv.2.1
  have hall2 := hv.2.2.2.2.2.2.2
  have hq0 := hq
  refine amet_of pf_Mod_enter (Nat.le_of_ble_eq_true rfl) ?_
  show AW G m_Mod_enter 2 0 0 _ 0 [(0, .ref a), (1, .int x)] [] (nx, h) 0 0
  refine aw_aload_n (i := 0) d_Mod_enter_0 rfl rfl ?_
  refine aw_iconst (v := nI 0) d_Mod_enter_1 (by decide) ?_
  apply mo_put (f := 0) hm d_Mod_enter_2 pl_Mod_150 (ms_0 _ _ _) (by decide) rfl rfl; intro h hm
  have hq := hq0.kp (Kp.put (Ls := [0]) (La := []) (f := 0) (x := nI 0) rfl) rfl rfl rfl rfl
  have hh := hq.1
  have hg := hq.2.1
  have hr := hq.2.2.2.1
  refine aw_iconst (v := nI 0) d_Mod_enter_5 (by decide) ?_
  refine aw_istore_n (i := 2) (lv2 := [(0, _), (1, _), (2, _)]) d_Mod_enter_6 rfl (by decide) rfl ?_
  refine upto (σ := Nat) (fun i => AW G m_Mod_enter 2 0 0 _ 7 [(0, .ref a), (1, .int x), (2, .int (nI i))] [] (nx, h) 0 0) (fun i s => i = s ∧ ∀ k, k < i → (gs.getD k gz0).1 = true) 4 ?_ 0 0 (Nat.zero_le _) ⟨rfl, fun k hk => absurd hk (Nat.not_lt_zero _)⟩
  intro i s9 hi hI ih
  obtain ⟨rfl, hpl⟩ := hI
  refine aw_iload_n (i := 2) d_Mod_enter_7 rfl rfl ?_
  refine aw_iconst (v := nI 4) d_Mod_enter_8 (by decide) ?_
  refine aw_icmpN_ge d_Mod_enter_9 (by omega) (by omega) (fun br9_ => ?_) (fun br9_ => ?_)
  · skip
    have ei : i = 4 := by omega
    have hfr : frG gs = i := frG_eq (by rw [hg.1]; omega) hpl (Or.inl (by rw [hg.1]; omega))
    refine aw_iload_n (i := 1) d_Mod_enter_27 rfl rfl ?_
    refine aw_i2l d_Mod_enter_28 ?_
    refine aw_lconst (v := 1) d_Mod_enter_29 (by decide) ?_
    refine aw_ldc2 d_Mod_enter_30 kc_Mod_184 ?_
    apply aw_calls_p (c_Mod_in _ _ _) d_Mod_enter_33 cl_Mod_156; rfl; rfl; decide; exact Nat.le_of_ble_eq_true rfl; exact (Nat.le_refl _); exact (Nat.le_refl _)
    rw [show decide ((1 : Int64) ≤ x.toInt64 ∧ x.toInt64 ≤ 9) = rng 1 9 x from in_rng (lo := 1) (hi := 9)]
    refine aw_ifB_eq d_Mod_enter_36 (fun br36_ => ?_) (fun br36_ => ?_)
    · skip
      have hr_ : okI gs x = false := by unfold okI; rw [br36_]; rfl
      refine aw_iconst (v := -1) d_Mod_enter_44 (by decide) ?_
      refine aw_iret d_Mod_enter_45 rfl (Nat.le_refl _) (Nat.le_refl _) ?_
      exact ⟨_, _, _, rfl, hm, by rw [hr_]; rfl, rfl, by rw [hr_]; exact hq⟩
    · skip
      obtain ⟨x0, hx1, hx2, rfl⟩ := rng_of br36_ (by decide) (by decide)
      refine aw_iload_n (i := 2) d_Mod_enter_39 rfl rfl ?_
      refine aw_iconst (v := nI 4) d_Mod_enter_40 (by decide) ?_
      refine aw_icmpN_ne d_Mod_enter_41 (by omega) (by omega) (fun br41_ => ?_) (fun br41_ => ?_)
      · skip
        have hr_ : okI gs (nI x0) = true := by unfold okI; rw [hfr, br36_, decide_eq_true (by omega)]; rfl
        refine aw_aload_n (i := 0) d_Mod_enter_46 rfl rfl ?_
        apply aw_callv_M0 (c_Mod_weigh hm hh hv) d_Mod_enter_47 cl_Mod_228; exact hm.1.1; rfl; rfl; rfl; rfl; decide; exact Nat.le_of_ble_eq_true rfl; exact Nat.le_refl _; exact Nat.le_refl _
        rintro h sc1 ar1 hm ⟨hw, hf_, hK⟩
        have hz := hK.1 0 rfl
        have hq1 := hq.kp hK rfl rfl rfl rfl
        refine aw_aload_n (i := 0) d_Mod_enter_50 rfl rfl ?_
        refine mo_get (f := 44) hm d_Mod_enter_51 fl_Mod_123 rfl ?_
        refine aw_iload_n (i := 2) d_Mod_enter_54 rfl rfl ?_
        refine aw_iconst (v := nI 1) d_Mod_enter_55 (by decide) ?_
        apply mo_zst (f := 44) (N := 4) hm d_Mod_enter_56 rfl rfl (by decide); omega; exact rfl; intro h hm
        refine aw_aload_n (i := 0) d_Mod_enter_57 rfl rfl ?_
        refine mo_get (f := 45) hm d_Mod_enter_58 fl_Mod_126 rfl ?_
        refine aw_iload_n (i := 2) d_Mod_enter_61 rfl rfl ?_
        refine aw_aload_n (i := 0) d_Mod_enter_62 rfl rfl ?_
        apply mo_gets (f := 27) hm d_Mod_enter_63 fl_Mod_209 rfl; exact hf_
        apply mo_st (f := 45) (N := 4) hm d_Mod_enter_66 rfl rfl (by decide); omega; intro h hm
        refine aw_aload_n (i := 0) d_Mod_enter_67 rfl rfl ?_
        refine mo_get (f := 46) hm d_Mod_enter_68 fl_Mod_129 rfl ?_
        refine aw_iload_n (i := 2) d_Mod_enter_71 rfl rfl ?_
        refine aw_iload_n (i := 1) d_Mod_enter_72 rfl rfl ?_
        apply mo_st (f := 46) (N := 4) hm d_Mod_enter_73 rfl rfl (by decide); omega; intro h hm
        refine aw_aload_n (i := 0) d_Mod_enter_74 rfl rfl ?_
        refine mo_get (f := 47) hm d_Mod_enter_75 fl_Mod_132 rfl ?_
        refine aw_iload_n (i := 2) d_Mod_enter_78 rfl rfl ?_
        refine aw_iconst (v := nI 0) d_Mod_enter_79 (by decide) ?_
        apply mo_st (f := 47) (N := 4) hm d_Mod_enter_80 rfl rfl (by decide); omega; intro h hm
        refine aw_aload_n (i := 0) d_Mod_enter_81 rfl rfl ?_
        refine mo_get (f := 48) hm d_Mod_enter_82 fl_Mod_135 rfl ?_
        refine aw_iload_n (i := 2) d_Mod_enter_85 rfl rfl ?_
        refine aw_iconst (v := -1) d_Mod_enter_86 (by decide) ?_
        apply mo_st (f := 48) (N := 4) hm d_Mod_enter_87 rfl rfl (by decide); omega; intro h hm
        refine aw_aload_n (i := 0) d_Mod_enter_88 rfl rfl ?_
        refine mo_get (f := 49) hm d_Mod_enter_89 fl_Mod_138 rfl ?_
        refine aw_iload_n (i := 2) d_Mod_enter_92 rfl rfl ?_
        refine aw_iconst (v := nI 0) d_Mod_enter_93 (by decide) ?_
        apply mo_st (f := 49) (N := 4) hm d_Mod_enter_94 rfl rfl (by decide); omega; intro h hm
        refine aw_iload_n (i := 2) d_Mod_enter_95 rfl rfl ?_
        refine aw_iret d_Mod_enter_96 rfl (Nat.le_refl _) (Nat.le_refl _) ?_
        have hkk : Kp [0] [44, 45, 46, 47, 48, 49] sc1 ar1 sc1 _ := (((((Kp.st (f := 44) (g := upd (ar1 44) i (nI 1)) rfl).tr (Kp.st (f := 45) (g := upd (ar1 45) i (nI (hsta hs))) rfl)).tr (Kp.st (f := 46) (g := upd (ar1 46) i (nI x0)) rfl)).tr (Kp.st (f := 47) (g := upd (ar1 47) i (nI 0)) rfl)).tr (Kp.st (f := 48) (g := upd (ar1 48) i (-1)) rfl)).tr (Kp.st (f := 49) (g := upd (ar1 49) i (nI 0)) rfl)
        refine ⟨_, _, _, rfl, hm, by rw [hr_, hfr]; rfl, hz.trans rfl, ?_⟩
        rw [hr_]
        refine hq1.grp (gs2 := gsI hs gs (nI x0)) ?_ (hq1.2.2.1.kp hkk rfl rfl) (hq1.2.2.2.1.kp hkk rfl rfl) hkk rfl rfl
        unfold gsI
        rw [hfr, xN_nI (by omega)]
        exact hq1.2.1.set (by omega) (fun i9 ne hi9 => ⟨by show upd _ i _ i9 = _; exact pk_un ne, by show upd _ i _ i9 = _; exact pk_un ne, by show upd _ i _ i9 = _; exact pk_un ne, by show upd _ i _ i9 = _; exact pk_un ne, by show upd _ i _ i9 = _; exact pk_un ne, by show upd _ i _ i9 = _; exact pk_un ne⟩) ⟨by show upd _ i _ i = _; exact pk_us, fun _ => ⟨by show upd _ i _ i = _; exact pk_us, by show upd _ i _ i = _; exact pk_us, by show upd _ i _ i = _; exact pk_us, by show upd _ i _ i = _; exact pk_us, by show upd _ i _ i = _; exact pk_us⟩⟩
      · skip
        have hr_ : okI gs (nI x0) = false := by unfold okI; rw [hfr, decide_eq_false (by omega), Bool.and_false]
        refine aw_iconst (v := -1) d_Mod_enter_44 (by decide) ?_
        refine aw_iret d_Mod_enter_45 rfl (Nat.le_refl _) (Nat.le_refl _) ?_
        exact ⟨_, _, _, rfl, hm, by rw [hr_]; rfl, rfl, by rw [hr_]; exact hq⟩
  · skip
    refine aw_aload_n (i := 0) d_Mod_enter_12 rfl rfl ?_
    refine mo_get (f := 44) hm d_Mod_enter_13 fl_Mod_123 rfl ?_
    refine aw_iload_n (i := 2) d_Mod_enter_16 rfl rfl ?_
    apply mo_zld (f := 44) (N := 4) hm d_Mod_enter_17 rfl rfl (by decide); omega; exact (hg.2 _ (by omega)).1
    refine aw_ifB_eq d_Mod_enter_18 (fun br18_ => ?_) (fun br18_ => ?_)
    · skip
      have hfr : frG gs = i := frG_eq (by rw [hg.1]; omega) hpl (Or.inr br18_)
      refine aw_iload_n (i := 1) d_Mod_enter_27 rfl rfl ?_
      refine aw_i2l d_Mod_enter_28 ?_
      refine aw_lconst (v := 1) d_Mod_enter_29 (by decide) ?_
      refine aw_ldc2 d_Mod_enter_30 kc_Mod_184 ?_
      apply aw_calls_p (c_Mod_in _ _ _) d_Mod_enter_33 cl_Mod_156; rfl; rfl; decide; exact Nat.le_of_ble_eq_true rfl; exact (Nat.le_refl _); exact (Nat.le_refl _)
      rw [show decide ((1 : Int64) ≤ x.toInt64 ∧ x.toInt64 ≤ 9) = rng 1 9 x from in_rng (lo := 1) (hi := 9)]
      refine aw_ifB_eq d_Mod_enter_36 (fun br36_ => ?_) (fun br36_ => ?_)
      · skip
        have hr_ : okI gs x = false := by unfold okI; rw [br36_]; rfl
        refine aw_iconst (v := -1) d_Mod_enter_44 (by decide) ?_
        refine aw_iret d_Mod_enter_45 rfl (Nat.le_refl _) (Nat.le_refl _) ?_
        exact ⟨_, _, _, rfl, hm, by rw [hr_]; rfl, rfl, by rw [hr_]; exact hq⟩
      · skip
        obtain ⟨x0, hx1, hx2, rfl⟩ := rng_of br36_ (by decide) (by decide)
        refine aw_iload_n (i := 2) d_Mod_enter_39 rfl rfl ?_
        refine aw_iconst (v := nI 4) d_Mod_enter_40 (by decide) ?_
        refine aw_icmpN_ne d_Mod_enter_41 (by omega) (by omega) (fun br41_ => ?_) (fun br41_ => ?_)
        · skip
          have hr_ : okI gs (nI x0) = true := by unfold okI; rw [hfr, br36_, decide_eq_true (by omega)]; rfl
          refine aw_aload_n (i := 0) d_Mod_enter_46 rfl rfl ?_
          apply aw_callv_M0 (c_Mod_weigh hm hh hv) d_Mod_enter_47 cl_Mod_228; exact hm.1.1; rfl; rfl; rfl; rfl; decide; exact Nat.le_of_ble_eq_true rfl; exact Nat.le_refl _; exact Nat.le_refl _
          rintro h sc1 ar1 hm ⟨hw, hf_, hK⟩
          have hz := hK.1 0 rfl
          have hq1 := hq.kp hK rfl rfl rfl rfl
          refine aw_aload_n (i := 0) d_Mod_enter_50 rfl rfl ?_
          refine mo_get (f := 44) hm d_Mod_enter_51 fl_Mod_123 rfl ?_
          refine aw_iload_n (i := 2) d_Mod_enter_54 rfl rfl ?_
          refine aw_iconst (v := nI 1) d_Mod_enter_55 (by decide) ?_
          apply mo_zst (f := 44) (N := 4) hm d_Mod_enter_56 rfl rfl (by decide); omega; exact rfl; intro h hm
          refine aw_aload_n (i := 0) d_Mod_enter_57 rfl rfl ?_
          refine mo_get (f := 45) hm d_Mod_enter_58 fl_Mod_126 rfl ?_
          refine aw_iload_n (i := 2) d_Mod_enter_61 rfl rfl ?_
          refine aw_aload_n (i := 0) d_Mod_enter_62 rfl rfl ?_
          apply mo_gets (f := 27) hm d_Mod_enter_63 fl_Mod_209 rfl; exact hf_
          apply mo_st (f := 45) (N := 4) hm d_Mod_enter_66 rfl rfl (by decide); omega; intro h hm
          refine aw_aload_n (i := 0) d_Mod_enter_67 rfl rfl ?_
          refine mo_get (f := 46) hm d_Mod_enter_68 fl_Mod_129 rfl ?_
          refine aw_iload_n (i := 2) d_Mod_enter_71 rfl rfl ?_
          refine aw_iload_n (i := 1) d_Mod_enter_72 rfl rfl ?_
          apply mo_st (f := 46) (N := 4) hm d_Mod_enter_73 rfl rfl (by decide); omega; intro h hm
          refine aw_aload_n (i := 0) d_Mod_enter_74 rfl rfl ?_
          refine mo_get (f := 47) hm d_Mod_enter_75 fl_Mod_132 rfl ?_
          refine aw_iload_n (i := 2) d_Mod_enter_78 rfl rfl ?_
          refine aw_iconst (v := nI 0) d_Mod_enter_79 (by decide) ?_
          apply mo_st (f := 47) (N := 4) hm d_Mod_enter_80 rfl rfl (by decide); omega; intro h hm
          refine aw_aload_n (i := 0) d_Mod_enter_81 rfl rfl ?_
          refine mo_get (f := 48) hm d_Mod_enter_82 fl_Mod_135 rfl ?_
          refine aw_iload_n (i := 2) d_Mod_enter_85 rfl rfl ?_
          refine aw_iconst (v := -1) d_Mod_enter_86 (by decide) ?_
          apply mo_st (f := 48) (N := 4) hm d_Mod_enter_87 rfl rfl (by decide); omega; intro h hm
          refine aw_aload_n (i := 0) d_Mod_enter_88 rfl rfl ?_
          refine mo_get (f := 49) hm d_Mod_enter_89 fl_Mod_138 rfl ?_
          refine aw_iload_n (i := 2) d_Mod_enter_92 rfl rfl ?_
          refine aw_iconst (v := nI 0) d_Mod_enter_93 (by decide) ?_
          apply mo_st (f := 49) (N := 4) hm d_Mod_enter_94 rfl rfl (by decide); omega; intro h hm
          refine aw_iload_n (i := 2) d_Mod_enter_95 rfl rfl ?_
          refine aw_iret d_Mod_enter_96 rfl (Nat.le_refl _) (Nat.le_refl _) ?_
          have hkk : Kp [0] [44, 45, 46, 47, 48, 49] sc1 ar1 sc1 _ := (((((Kp.st (f := 44) (g := upd (ar1 44) i (nI 1)) rfl).tr (Kp.st (f := 45) (g := upd (ar1 45) i (nI (hsta hs))) rfl)).tr (Kp.st (f := 46) (g := upd (ar1 46) i (nI x0)) rfl)).tr (Kp.st (f := 47) (g := upd (ar1 47) i (nI 0)) rfl)).tr (Kp.st (f := 48) (g := upd (ar1 48) i (-1)) rfl)).tr (Kp.st (f := 49) (g := upd (ar1 49) i (nI 0)) rfl)
          refine ⟨_, _, _, rfl, hm, by rw [hr_, hfr]; rfl, hz.trans rfl, ?_⟩
          rw [hr_]
          refine hq1.grp (gs2 := gsI hs gs (nI x0)) ?_ (hq1.2.2.1.kp hkk rfl rfl) (hq1.2.2.2.1.kp hkk rfl rfl) hkk rfl rfl
          unfold gsI
          rw [hfr, xN_nI (by omega)]
          exact hq1.2.1.set (by omega) (fun i9 ne hi9 => ⟨by show upd _ i _ i9 = _; exact pk_un ne, by show upd _ i _ i9 = _; exact pk_un ne, by show upd _ i _ i9 = _; exact pk_un ne, by show upd _ i _ i9 = _; exact pk_un ne, by show upd _ i _ i9 = _; exact pk_un ne, by show upd _ i _ i9 = _; exact pk_un ne⟩) ⟨by show upd _ i _ i = _; exact pk_us, fun _ => ⟨by show upd _ i _ i = _; exact pk_us, by show upd _ i _ i = _; exact pk_us, by show upd _ i _ i = _; exact pk_us, by show upd _ i _ i = _; exact pk_us, by show upd _ i _ i = _; exact pk_us⟩⟩
        · skip
          have hr_ : okI gs (nI x0) = false := by unfold okI; rw [hfr, decide_eq_false (by omega), Bool.and_false]
          refine aw_iconst (v := -1) d_Mod_enter_44 (by decide) ?_
          refine aw_iret d_Mod_enter_45 rfl (Nat.le_refl _) (Nat.le_refl _) ?_
          exact ⟨_, _, _, rfl, hm, by rw [hr_]; rfl, rfl, by rw [hr_]; exact hq⟩
    · skip
      refine aw_iincN (lv2 := [(0, _), (1, _), (2, _)]) d_Mod_enter_21 (by decide) rfl rfl ?_
      refine aw_goto d_Mod_enter_24 ?_
      exact ih br9_ (i + 1) ⟨rfl, fun k hk => by
        by_cases e : k = i
        · subst e; exact br18_
        · exact hpl k (by omega)⟩

def gsL (gs : List GSt) (g : Int32) : List GSt := gs.set (xN g) (false, (gAt gs g).2)
set_option maxHeartbeats 4000000 in
set_option maxRecDepth 20000 in
theorem c_Mod_leave {G : aG} {nx : Nat} {h h0 : Nat → Option aC} {a : Nat} {A : Nat → Nat} {sc : Nat → Int32} {ar : Nat → Nat → Int32} (hm : MoF h0 h a A sc ar) {hs : HSt} {gs : List GSt} {lg : List (Nat × Nat × Nat)} {xs : List Int32} (hq : MoA sc ar hs gs lg xs) (hv : VH hs) (g : Int32) : AMet G m_Mod_leave 2 0 0 [.ref a, .int g] (nx, h) (MR nx a h0 A (fun r sc2 ar2 => r = some (.int (if isG gs g then (gAt gs g).2.2.2.1 else -1)) ∧ sc2 0 = 0 ∧ MoA sc2 ar2 hs (if isG gs g then gsL gs g else gs) lg xs)) := by
  have hp12 := hv.1.1
  have hs24 := hv.2.1
  have hall2 := hv.2.2.2.2.2.2.2
  have hq0 := hq
  refine amet_of pf_Mod_leave (Nat.le_of_ble_eq_true rfl) ?_
  show AW G m_Mod_leave 2 0 0 _ 0 [(0, .ref a), (1, .int g)] [] (nx, h) 0 0
  refine aw_aload_n (i := 0) d_Mod_leave_0 rfl rfl ?_
  refine aw_iconst (v := nI 0) d_Mod_leave_1 (by decide) ?_
  apply mo_put (f := 0) hm d_Mod_leave_2 pl_Mod_150 (ms_0 _ _ _) (by decide) rfl rfl; intro h hm
  have hq := hq0.kp (Kp.put (Ls := [0]) (La := []) (f := 0) (x := nI 0) rfl) rfl rfl rfl rfl
  have hh := hq.1
  have hg := hq.2.1
  have hr := hq.2.2.2.1
  refine aw_aload_n (i := 0) d_Mod_leave_5 rfl rfl ?_
  refine aw_iload_n (i := 1) d_Mod_leave_6 rfl rfl ?_
  apply aw_callv_p (c_Mod_isGroup hm hg g) d_Mod_leave_7 cl_Mod_296; exact hm.1.1; rfl; rfl; rfl; rfl; decide; exact Nat.le_of_ble_eq_true rfl; exact (Nat.le_refl _); exact (Nat.le_refl _)
  refine aw_ifB_ne d_Mod_leave_10 (fun br10_ => ?_) (fun br10_ => ?_)
  · skip
    obtain ⟨g0, hg0, rfl, hp0, hga⟩ := isG_ex br10_
    refine aw_aload_n (i := 0) d_Mod_leave_15 rfl rfl ?_
    refine mo_get (f := 44) hm d_Mod_leave_16 fl_Mod_123 rfl ?_
    refine aw_iload_n (i := 1) d_Mod_leave_19 rfl rfl ?_
    refine aw_iconst (v := nI 0) d_Mod_leave_20 (by decide) ?_
    apply mo_zst (f := 44) (N := 4) hm d_Mod_leave_21 rfl rfl (by decide); omega; exact rfl; intro h hm
    refine aw_aload_n (i := 0) d_Mod_leave_22 rfl rfl ?_
    refine mo_get (f := 47) hm d_Mod_leave_23 fl_Mod_132 rfl ?_
    refine aw_iload_n (i := 1) d_Mod_leave_26 rfl rfl ?_
    apply mo_ld (f := 47) (N := 4) hm d_Mod_leave_27 rfl rfl (by decide); omega; exact (show _ = (gs.getD g0 gz0).2.2.2.1 from ((hg.2 _ hg0).2 hp0).2.2.1)
    refine aw_iret d_Mod_leave_28 rfl (Nat.le_refl _) (Nat.le_refl _) ?_
    refine ⟨_, _, _, rfl, hm, by rw [br10_, hga]; rfl, rfl, ?_⟩
    rw [br10_]
    have hkk : Kp [] [44] (upd sc 0 (nI 0)) ar (upd sc 0 (nI 0)) (ups ar 44 (upd (ar 44) g0 (nI 0))) := Kp.st rfl
    refine hq.grp (gs2 := gsL gs (nI g0)) ?_ (hq.2.2.1.kp hkk rfl rfl) (hq.2.2.2.1.kp hkk rfl rfl) hkk rfl rfl
    unfold gsL
    rw [xN_nI (by omega)]
    exact hq.2.1.set hg0 (fun i9 ne hi9 => ⟨by show upd _ g0 _ i9 = _; exact pk_un ne, rfl, rfl, rfl, rfl, rfl⟩) ⟨by show upd _ g0 _ g0 = _; exact pk_us, fun q => by cases q⟩
  · skip
    refine aw_iconst (v := -1) d_Mod_leave_13 (by decide) ?_
    refine aw_iret d_Mod_leave_14 rfl (Nat.le_refl _) (Nat.le_refl _) ?_
    exact ⟨_, _, _, rfl, hm, by rw [br10_]; rfl, rfl, by rw [br10_]; exact hq⟩

def grL (hs : HSt) (q : GSt) : List Int32 := [nI q.2.1, nI q.2.2.1, q.2.2.2.1, q.2.2.2.2.1, q.2.2.2.2.2, bI (isE hs q.2.1)]
def sGrp (hs : HSt) (gs : List GSt) (g w : Int32) : Option Int32 := if isG gs g && rng 0 5 w then some ((grL hs (gAt gs g)).getD (xN w) 0) else none
set_option maxHeartbeats 4000000 in
set_option maxRecDepth 20000 in
theorem c_Mod_group {G : aG} {nx : Nat} {h h0 : Nat → Option aC} {a : Nat} {A : Nat → Nat} {sc : Nat → Int32} {ar : Nat → Nat → Int32} (hm : MoF h0 h a A sc ar) {hs : HSt} {gs : List GSt} {lg : List (Nat × Nat × Nat)} {xs : List Int32} (hq : MoA sc ar hs gs lg xs) (hv : VH hs) (hvg : VG hs gs) (g w9 : Int32) : AMet G m_Mod_group 2 0 0 [.ref a, .int g, .int w9] (nx, h) (MR nx a h0 A (fun r sc2 ar2 => r = some (.int ((sGrp hs gs g w9).getD 0)) ∧ sc2 0 = bI (sGrp hs gs g w9).isNone ∧ MoA sc2 ar2 hs gs lg xs)) := by
  have hp12 := hv.1.1
  have hs24 := hv.2.1
  have hall2 := hv.2.2.2.2.2.2.2
  have hq0 := hq
  refine amet_of pf_Mod_group (Nat.le_of_ble_eq_true rfl) ?_
  show AW G m_Mod_group 2 0 0 _ 0 [(0, .ref a), (1, .int g), (2, .int w9)] [] (nx, h) 0 0
  refine aw_aload_n (i := 0) d_Mod_group_0 rfl rfl ?_
  refine aw_iconst (v := nI 0) d_Mod_group_1 (by decide) ?_
  apply mo_put (f := 0) hm d_Mod_group_2 pl_Mod_150 (ms_0 _ _ _) (by decide) rfl rfl; intro h hm
  have hq := hq0.kp (Kp.put (Ls := [0]) (La := []) (f := 0) (x := nI 0) rfl) rfl rfl rfl rfl
  have hh := hq.1
  have hg := hq.2.1
  have hr := hq.2.2.2.1
  refine aw_aload_n (i := 0) d_Mod_group_5 rfl rfl ?_
  refine aw_iload_n (i := 1) d_Mod_group_6 rfl rfl ?_
  apply aw_callv_p (c_Mod_isGroup hm hg g) d_Mod_group_7 cl_Mod_296; exact hm.1.1; rfl; rfl; rfl; rfl; decide; exact Nat.le_of_ble_eq_true rfl; exact (Nat.le_refl _); exact (Nat.le_refl _)
  refine aw_ifB_eq d_Mod_group_10 (fun br10_ => ?_) (fun br10_ => ?_)
  · skip
    have hr_ : sGrp hs gs g w9 = none := by unfold sGrp; rw [br10_]; rfl
    refine aw_aload_n (i := 0) d_Mod_group_25 rfl rfl ?_
    apply aw_callv_MI (c_Mod_refuse hm) d_Mod_group_26 cl_Mod_262; exact hm.1.1; rfl; rfl; rfl; rfl; decide; exact Nat.le_of_ble_eq_true rfl; exact Nat.le_refl _; exact Nat.le_refl _
    rintro h sc1 ar1 hm ⟨h0_, hK⟩
    have hq := hq.kp hK rfl rfl rfl rfl
    refine aw_iret d_Mod_group_29 rfl (Nat.le_refl _) (Nat.le_refl _) ?_
    exact ⟨_, _, _, rfl, hm, by rw [hr_]; rfl, by rw [hr_]; exact h0_, hq⟩
  · skip
    obtain ⟨g0, hg0, rfl, hp0, hga⟩ := isG_ex br10_
    have hvg2 := hvg.2 _ hg0 hp0
    refine aw_iload_n (i := 2) d_Mod_group_13 rfl rfl ?_
    refine aw_i2l d_Mod_group_14 ?_
    refine aw_lconst (v := 0) d_Mod_group_15 (by decide) ?_
    refine aw_ldc2 d_Mod_group_16 kc_Mod_299 ?_
    apply aw_calls_p (c_Mod_in _ _ _) d_Mod_group_19 cl_Mod_156; rfl; rfl; decide; exact Nat.le_of_ble_eq_true rfl; exact (Nat.le_refl _); exact (Nat.le_refl _)
    rw [show decide ((0 : Int64) ≤ w9.toInt64 ∧ w9.toInt64 ≤ 5) = rng 0 5 w9 from in_rng (lo := 0) (hi := 5)]
    refine aw_ifB_ne d_Mod_group_22 (fun br22_ => ?_) (fun br22_ => ?_)
    · skip
      have hr_ : sGrp hs gs (nI g0) w9 = some ((grL hs (gs.getD g0 gz0)).getD (xN w9) 0) := by unfold sGrp; rw [br10_, br22_, hga]; rfl
      refine aw_aload_n (i := 0) d_Mod_group_30 rfl rfl ?_
      apply aw_callv_M0 (c_Mod_weigh hm hh hv) d_Mod_group_31 cl_Mod_228; exact hm.1.1; rfl; rfl; rfl; rfl; decide; exact Nat.le_of_ble_eq_true rfl; exact Nat.le_refl _; exact Nat.le_refl _
      rintro h sc1 ar1 hm ⟨hw, hf_, hK⟩
      have hz := hK.1 0 rfl
      have hq := hq.kp hK rfl rfl rfl rfl
      have hh := hq.1
      have hg9 := (hq.2.1.2 _ hg0).2 hp0
      refine aw_iload_n (i := 2) d_Mod_group_34 rfl rfl ?_
      refine aw_tsw d_Mod_group_35 (fun j_ t_ ej_ et_ => ?_) (fun hno_ => ?_)
      · rcases j_ with _ | _ | _ | _ | _ | j_
        · have e_ : 68 = t_ := Option.some.inj et_
          subst e_
          clear et_
          subst ej_
          refine aw_aload_n (i := 0) d_Mod_group_68 rfl rfl ?_
          refine mo_get (f := 45) hm d_Mod_group_69 fl_Mod_126 rfl ?_
          refine aw_iload_n (i := 1) d_Mod_group_72 rfl rfl ?_
          apply mo_ld (f := 45) (N := 4) hm d_Mod_group_73 rfl rfl (by decide); omega; exact hg9.1
          refine aw_iret d_Mod_group_74 rfl (Nat.le_refl _) (Nat.le_refl _) ?_
          exact ⟨_, _, _, rfl, hm, by rw [hr_]; rfl, by rw [hr_]; exact hz.trans rfl, hq⟩
        · have e_ : 75 = t_ := Option.some.inj et_
          subst e_
          clear et_
          subst ej_
          refine aw_aload_n (i := 0) d_Mod_group_75 rfl rfl ?_
          refine mo_get (f := 46) hm d_Mod_group_76 fl_Mod_129 rfl ?_
          refine aw_iload_n (i := 1) d_Mod_group_79 rfl rfl ?_
          apply mo_ld (f := 46) (N := 4) hm d_Mod_group_80 rfl rfl (by decide); omega; exact hg9.2.1
          refine aw_iret d_Mod_group_81 rfl (Nat.le_refl _) (Nat.le_refl _) ?_
          exact ⟨_, _, _, rfl, hm, by rw [hr_]; rfl, by rw [hr_]; exact hz.trans rfl, hq⟩
        · have e_ : 82 = t_ := Option.some.inj et_
          subst e_
          clear et_
          subst ej_
          refine aw_aload_n (i := 0) d_Mod_group_82 rfl rfl ?_
          refine mo_get (f := 47) hm d_Mod_group_83 fl_Mod_132 rfl ?_
          refine aw_iload_n (i := 1) d_Mod_group_86 rfl rfl ?_
          apply mo_ld (f := 47) (N := 4) hm d_Mod_group_87 rfl rfl (by decide); omega; exact hg9.2.2.1
          refine aw_iret d_Mod_group_88 rfl (Nat.le_refl _) (Nat.le_refl _) ?_
          exact ⟨_, _, _, rfl, hm, by rw [hr_]; rfl, by rw [hr_]; exact hz.trans rfl, hq⟩
        · have e_ : 89 = t_ := Option.some.inj et_
          subst e_
          clear et_
          subst ej_
          refine aw_aload_n (i := 0) d_Mod_group_89 rfl rfl ?_
          refine mo_get (f := 48) hm d_Mod_group_90 fl_Mod_135 rfl ?_
          refine aw_iload_n (i := 1) d_Mod_group_93 rfl rfl ?_
          apply mo_ld (f := 48) (N := 4) hm d_Mod_group_94 rfl rfl (by decide); omega; exact hg9.2.2.2.1
          refine aw_iret d_Mod_group_95 rfl (Nat.le_refl _) (Nat.le_refl _) ?_
          exact ⟨_, _, _, rfl, hm, by rw [hr_]; rfl, by rw [hr_]; exact hz.trans rfl, hq⟩
        · have e_ : 96 = t_ := Option.some.inj et_
          subst e_
          clear et_
          subst ej_
          refine aw_aload_n (i := 0) d_Mod_group_96 rfl rfl ?_
          refine mo_get (f := 49) hm d_Mod_group_97 fl_Mod_138 rfl ?_
          refine aw_iload_n (i := 1) d_Mod_group_100 rfl rfl ?_
          apply mo_ld (f := 49) (N := 4) hm d_Mod_group_101 rfl rfl (by decide); omega; exact hg9.2.2.2.2
          refine aw_iret d_Mod_group_102 rfl (Nat.le_refl _) (Nat.le_refl _) ?_
          exact ⟨_, _, _, rfl, hm, by rw [hr_]; rfl, by rw [hr_]; exact hz.trans rfl, hq⟩
        · exact absurd et_ (by simp)
      · skip
        have hw5 : w9 = nI 5 := by
          obtain ⟨k, k1, k2, rfl⟩ := rng_of br22_ (by decide) (by decide)
          by_cases e : k = 5
          · rw [e]
          · exact absurd rfl (hno_ k (by simp; omega))
        subst hw5
        refine aw_aload_n (i := 0) d_Mod_group_103 rfl rfl ?_
        refine aw_aload_n (i := 0) d_Mod_group_104 rfl rfl ?_
        refine mo_get (f := 45) hm d_Mod_group_105 fl_Mod_126 rfl ?_
        refine aw_iload_n (i := 1) d_Mod_group_108 rfl rfl ?_
        apply mo_ld (f := 45) (N := 4) hm d_Mod_group_109 rfl rfl (by decide); omega; exact hg9.1
        apply aw_callv_p (c_Mod_isEnd hm.1 hh hw hv (c := (gs.getD g0 gz0).2.1) (by omega)) d_Mod_group_110 cl_Mod_219; exact hm.1.1; rfl; rfl; rfl; rfl; decide; exact Nat.le_of_ble_eq_true rfl; exact (Nat.le_refl _); exact (Nat.le_refl _)
        refine aw_ifB_eq d_Mod_group_113 (fun br113_ => ?_) (fun br113_ => ?_)
        · skip
          have hr9 : bI (isE hs (gs.getD g0 gz0).2.1) = nI 0 := by rw [br113_]; rfl
          refine aw_iconst (v := nI 0) d_Mod_group_120 (by decide) ?_
          refine aw_iret d_Mod_group_121 rfl (Nat.le_refl _) (Nat.le_refl _) ?_
          refine ⟨_, _, _, rfl, hm, by rw [hr_, ← hr9]; rfl, by rw [hr_]; exact hz.trans rfl, hq⟩
        · skip
          have hr9 : bI (isE hs (gs.getD g0 gz0).2.1) = nI 1 := by rw [br113_]; rfl
          refine aw_iconst (v := nI 1) d_Mod_group_116 (by decide) ?_
          refine aw_goto d_Mod_group_117 ?_
          refine aw_iret d_Mod_group_121 rfl (Nat.le_refl _) (Nat.le_refl _) ?_
          refine ⟨_, _, _, rfl, hm, by rw [hr_, ← hr9]; rfl, by rw [hr_]; exact hz.trans rfl, hq⟩
    · skip
      have hr_ : sGrp hs gs (nI g0) w9 = none := by unfold sGrp; rw [br22_, Bool.and_false]; rfl
      refine aw_aload_n (i := 0) d_Mod_group_25 rfl rfl ?_
      apply aw_callv_MI (c_Mod_refuse hm) d_Mod_group_26 cl_Mod_262; exact hm.1.1; rfl; rfl; rfl; rfl; decide; exact Nat.le_of_ble_eq_true rfl; exact Nat.le_refl _; exact Nat.le_refl _
      rintro h sc1 ar1 hm ⟨h0_, hK⟩
      have hq := hq.kp hK rfl rfl rfl rfl
      refine aw_iret d_Mod_group_29 rfl (Nat.le_refl _) (Nat.le_refl _) ?_
      exact ⟨_, _, _, rfl, hm, by rw [hr_]; rfl, by rw [hr_]; exact h0_, hq⟩

def sLog (lg : List (Nat × Nat × Nat)) (i w : Int32) : Int32 := if decide (0 ≤ i ∧ i < nI (min lg.length 200)) then (if w = 0 then nI (lg.getD (lg.length - min lg.length 200 + xN i) (0, 0, 0)).1 else if w = 1 then nI (lg.getD (lg.length - min lg.length 200 + xN i) (0, 0, 0)).2.1 else if w = 2 then nI (lg.getD (lg.length - min lg.length 200 + xN i) (0, 0, 0)).2.2 else -1) else -1
theorem c_min200 {G : aG} {nx : Nat} {h : Nat → Option aC} (x : Nat) (hx : x < 2 ^ 31) : AMet G m_Math_min 0 0 0 [.int (nI x), .int (nI 200)] (nx, h) (RV (.int (nI (min x 200))) (nx, h)) := by
  have := c_Math_min (G := G) (nx := nx) (h := h) (nI x) (nI 200)
  by_cases e : x ≤ 200
  · rw [if_neg (nI_nlt e (by decide))] at this
    rw [Nat.min_eq_left e]; exact this
  · rw [if_pos (nI_lt (by omega) hx)] at this
    rw [Nat.min_eq_right (by omega)]; exact this
set_option maxHeartbeats 4000000 in
set_option maxRecDepth 20000 in
theorem c_Mod_log {G : aG} {nx : Nat} {h h0 : Nat → Option aC} {a : Nat} {A : Nat → Nat} {sc : Nat → Int32} {ar : Nat → Nat → Int32} (hm : MoF h0 h a A sc ar) {hs : HSt} {gs : List GSt} {lg : List (Nat × Nat × Nat)} {xs : List Int32} (hq : MoA sc ar hs gs lg xs) (hv : VH hs) (i w9 : Int32) : AMet G m_Mod_log 1 0 0 [.ref a, .int i, .int w9] (nx, h) (MR nx a h0 A (fun r sc2 ar2 => r = some (.int (sLog lg i w9)) ∧ sc2 0 = 0 ∧ MoA sc2 ar2 hs gs lg xs)) := by
  have hp12 := hv.1.1
  have hs24 := hv.2.1
  have hall2 := hv.2.2.2.2.2.2.2
  have hq0 := hq
  refine amet_of pf_Mod_log (Nat.le_of_ble_eq_true rfl) ?_
  show AW G m_Mod_log 1 0 0 _ 0 [(0, .ref a), (1, .int i), (2, .int w9)] [] (nx, h) 0 0
  refine aw_aload_n (i := 0) d_Mod_log_0 rfl rfl ?_
  refine aw_iconst (v := nI 0) d_Mod_log_1 (by decide) ?_
  apply mo_put (f := 0) hm d_Mod_log_2 pl_Mod_150 (ms_0 _ _ _) (by decide) rfl rfl; intro h hm
  have hq := hq0.kp (Kp.put (Ls := [0]) (La := []) (f := 0) (x := nI 0) rfl) rfl rfl rfl rfl
  have hh := hq.1
  have hg := hq.2.1
  have hr := hq.2.2.2.1
  have hlL := hq.2.2.1
  have hl1 := hlL.2.1
  refine aw_aload_n (i := 0) d_Mod_log_5 rfl rfl ?_
  apply mo_gets (f := 50) hm d_Mod_log_6 fl_Mod_200 rfl; exact hlL.1
  refine aw_sipush (v := nI 200) d_Mod_log_9 (by decide) ?_
  apply aw_calls_p (c_min200 lg.length (by omega)) d_Mod_log_12 cl_Mod_301; rfl; rfl; decide; exact Nat.le_of_ble_eq_true rfl; exact (Nat.le_refl _); exact (Nat.le_refl _)
  refine aw_istore_n (i := 3) (lv2 := [(0, _), (1, _), (2, _), (3, _)]) d_Mod_log_15 rfl (by decide) rfl ?_
  refine aw_iload_n (i := 1) d_Mod_log_16 rfl rfl ?_
  refine aw_i2l d_Mod_log_17 ?_
  refine aw_lconst (v := 0) d_Mod_log_18 (by decide) ?_
  refine aw_iload_n (i := 3) d_Mod_log_19 rfl rfl ?_
  refine aw_iconst (v := 1) d_Mod_log_20 (by decide) ?_
  refine aw_isub d_Mod_log_21 ?_
  refine aw_i2l d_Mod_log_22 ?_
  apply aw_calls_p (c_Mod_in _ _ _) d_Mod_log_23 cl_Mod_156; rfl; rfl; decide; exact Nat.le_of_ble_eq_true rfl; exact (Nat.le_refl _); exact (Nat.le_refl _)
  rw [in_ixd (by omega)]
  refine aw_ifB_ne d_Mod_log_26 (fun br26_ => ?_) (fun br26_ => ?_)
  · skip
    obtain ⟨i0, hi0, rfl⟩ := dec_ix br26_ (by omega)
    have hrow := hlL.2.2 (lg.length - min lg.length 200 + i0) (by omega) (by omega)
    have hr_ : sLog lg (nI i0) w9 = (if w9 = 0 then nI (lg.getD (lg.length - min lg.length 200 + i0) (0, 0, 0)).1 else if w9 = 1 then nI (lg.getD (lg.length - min lg.length 200 + i0) (0, 0, 0)).2.1 else if w9 = 2 then nI (lg.getD (lg.length - min lg.length 200 + i0) (0, 0, 0)).2.2 else -1) := by unfold sLog; rw [br26_, xN_nI (by omega)]; rfl
    refine aw_aload_n (i := 0) d_Mod_log_31 rfl rfl ?_
    apply mo_gets (f := 50) hm d_Mod_log_32 fl_Mod_200 rfl; exact hlL.1
    refine aw_iload_n (i := 3) d_Mod_log_35 rfl rfl ?_
    refine aw_isubN d_Mod_log_36 (by omega) ?_
    refine aw_iload_n (i := 1) d_Mod_log_37 rfl rfl ?_
    refine aw_iaddN d_Mod_log_38 ?_
    refine aw_sipush (v := nI 200) d_Mod_log_39 (by decide) ?_
    refine aw_iremN d_Mod_log_42 (by omega) (by omega) (by omega) ?_
    refine aw_istore (lv2 := [(0, _), (1, _), (2, _), (3, _), (4, _)]) d_Mod_log_43 (by decide) rfl ?_
    refine aw_iload_n (i := 2) d_Mod_log_45 rfl rfl ?_
    refine aw_if_ne d_Mod_log_46 (fun br46_ => ?_) (fun br46_ => ?_)
    · skip
      refine aw_iload_n (i := 2) d_Mod_log_59 rfl rfl ?_
      refine aw_iconst (v := 1) d_Mod_log_60 (by decide) ?_
      refine aw_icmp_ne d_Mod_log_61 (fun br61_ => ?_) (fun br61_ => ?_)
      · skip
        refine aw_iload_n (i := 2) d_Mod_log_74 rfl rfl ?_
        refine aw_iconst (v := 2) d_Mod_log_75 (by decide) ?_
        refine aw_icmp_ne d_Mod_log_76 (fun br76_ => ?_) (fun br76_ => ?_)
        · skip
          refine aw_iconst (v := -1) d_Mod_log_89 (by decide) ?_
          refine aw_iret d_Mod_log_90 rfl (Nat.le_refl _) (Nat.le_refl _) ?_
          exact ⟨_, _, _, rfl, hm, by rw [hr_, if_neg br46_, if_neg br61_, if_neg br76_], rfl, hq⟩
        · skip
          refine aw_aload_n (i := 0) d_Mod_log_79 rfl rfl ?_
          refine mo_get (f := 53) hm d_Mod_log_80 fl_Mod_147 rfl ?_
          refine aw_iload d_Mod_log_83 rfl ?_
          apply mo_ld (f := 53) (N := 200) hm d_Mod_log_85 rfl rfl (by decide); omega; exact hrow.2.2
          refine aw_goto d_Mod_log_86 ?_
          refine aw_iret d_Mod_log_90 rfl (Nat.le_refl _) (Nat.le_refl _) ?_
          exact ⟨_, _, _, rfl, hm, by rw [hr_, if_neg br46_, if_neg br61_, if_pos br76_], rfl, hq⟩
      · skip
        refine aw_aload_n (i := 0) d_Mod_log_64 rfl rfl ?_
        refine mo_get (f := 52) hm d_Mod_log_65 fl_Mod_144 rfl ?_
        refine aw_iload d_Mod_log_68 rfl ?_
        apply mo_ld (f := 52) (N := 200) hm d_Mod_log_70 rfl rfl (by decide); omega; exact hrow.2.1
        refine aw_goto d_Mod_log_71 ?_
        refine aw_iret d_Mod_log_90 rfl (Nat.le_refl _) (Nat.le_refl _) ?_
        exact ⟨_, _, _, rfl, hm, by rw [hr_, if_neg br46_, if_pos br61_], rfl, hq⟩
    · skip
      refine aw_aload_n (i := 0) d_Mod_log_49 rfl rfl ?_
      refine mo_get (f := 51) hm d_Mod_log_50 fl_Mod_141 rfl ?_
      refine aw_iload d_Mod_log_53 rfl ?_
      apply mo_ld (f := 51) (N := 200) hm d_Mod_log_55 rfl rfl (by decide); omega; exact hrow.1
      refine aw_goto d_Mod_log_56 ?_
      refine aw_iret d_Mod_log_90 rfl (Nat.le_refl _) (Nat.le_refl _) ?_
      exact ⟨_, _, _, rfl, hm, by rw [hr_, if_pos br46_], rfl, hq⟩
  · skip
    have hr_ : sLog lg i w9 = -1 := by unfold sLog; rw [br26_]; rfl
    refine aw_iconst (v := -1) d_Mod_log_29 (by decide) ?_
    refine aw_iret d_Mod_log_30 rfl (Nat.le_refl _) (Nat.le_refl _) ?_
    exact ⟨_, _, _, rfl, hm, by rw [hr_], rfl, hq⟩

theorem tkn_t {gs : List GSt} {g r i : Nat} (hi : i < 4) (h1 : i ≠ g) (h2 : (gs.getD i gz0).1 = true) (h3 : (gs.getD i gz0).2.2.2.2.1 = nI r) : tkn gs g r = true := List.any_eq_true.mpr ⟨i, List.mem_range.mpr hi, by rw [decide_eq_true h1, h2, decide_eq_true h3]; rfl⟩
theorem tkn_f {gs : List GSt} {g r : Nat} (h : ∀ k, k < 4 → ¬ (k ≠ g ∧ (gs.getD k gz0).1 = true ∧ (gs.getD k gz0).2.2.2.2.1 = nI r)) : tkn gs g r = false := by
  cases e : tkn gs g r
  · rfl
  · obtain ⟨i, hi, hp⟩ := List.any_eq_true.mp e
    simp only [Bool.and_eq_true, decide_eq_true_eq] at hp
    exact absurd ⟨hp.1.1, hp.1.2, hp.2⟩ (h i (List.mem_range.mp hi))
theorem MoL.add {sc sc2 : Nat → Int32} {ar ar2 : Nat → Nat → Int32} {lg : List (Nat × Nat × Nat)} {g s c : Nat} (hl : MoL sc ar lg) (hb : lg.length < 100000) (h50 : sc2 50 = nI (lg.length + 1)) (e1 : ar2 51 = upd (ar 51) (lg.length % 200) (nI g)) (e2 : ar2 52 = upd (ar 52) (lg.length % 200) (nI s)) (e3 : ar2 53 = upd (ar 53) (lg.length % 200) (nI c)) : MoL sc2 ar2 (lg ++ [(g, s, c)]) := by
  refine ⟨by rw [h50]; simp, by simp; omega, fun k hk hk2 => ?_⟩
  simp only [List.length_append, List.length_singleton] at hk hk2
  rw [e1, e2, e3, gd_snoc hk]
  by_cases e : k < lg.length
  · rw [if_pos e, pk_un (by omega), pk_un (by omega), pk_un (by omega)]; exact hl.2.2 k e (by omega)
  · have e9 : k = lg.length := by omega
    subst e9
    rw [if_neg e, pk_us, pk_us, pk_us]; exact ⟨rfl, rfl, rfl⟩
set_option maxHeartbeats 4000000 in
set_option maxRecDepth 20000 in
theorem c_Mod_act {G : aG} {nx : Nat} {h h0 : Nat → Option aC} {a : Nat} {A : Nat → Nat} {sc : Nat → Int32} {ar : Nat → Nat → Int32} (hm : MoF h0 h a A sc ar) {hs : HSt} {gs : List GSt} {lg : List (Nat × Nat × Nat)} {xs : List Int32} (hq : MoA sc ar hs gs lg xs) (hv : VH hs) (hvg : VG hs gs) (hlb : lg.length < 100000) (g s : Int32) : AMet G m_Mod_act 3 0 0 [.ref a, .int g, .int s] (nx, h) (MR nx a h0 A (fun r sc2 ar2 => r = some (.int (acI hs gs g s)) ∧ sc2 0 = 0 ∧ MoA sc2 ar2 hs (if acO hs gs g s then gsA hs gs g s else gs) (if acO hs gs g s then lgA hs gs lg g s else lg) xs)) := by
  have hp12 := hv.1.1
  have hs24 := hv.2.1
  have hall2 := hv.2.2.2.2.2.2.2
  have hq0 := hq
  refine amet_of pf_Mod_act (Nat.le_of_ble_eq_true rfl) ?_
  show AW G m_Mod_act 3 0 0 _ 0 [(0, .ref a), (1, .int g), (2, .int s)] [] (nx, h) 0 0
  refine aw_aload_n (i := 0) d_Mod_act_0 rfl rfl ?_
  refine aw_iconst (v := nI 0) d_Mod_act_1 (by decide) ?_
  apply mo_put (f := 0) hm d_Mod_act_2 pl_Mod_150 (ms_0 _ _ _) (by decide) rfl rfl; intro h hm
  have hq := hq0.kp (Kp.put (Ls := [0]) (La := []) (f := 0) (x := nI 0) rfl) rfl rfl rfl rfl
  have hh := hq.1
  have hg := hq.2.1
  have hr := hq.2.2.2.1
  refine aw_aload_n (i := 0) d_Mod_act_5 rfl rfl ?_
  refine aw_iload_n (i := 1) d_Mod_act_6 rfl rfl ?_
  apply aw_callv_p (c_Mod_isGroup hm hg g) d_Mod_act_7 cl_Mod_296; exact hm.1.1; rfl; rfl; rfl; rfl; decide; exact Nat.le_of_ble_eq_true rfl; exact (Nat.le_refl _); exact (Nat.le_refl _)
  refine aw_ifB_eq d_Mod_act_10 (fun br10_ => ?_) (fun br10_ => ?_)
  · skip
    have hA : acA hs gs g s = false := by unfold acA; rw [br10_]; rfl
    refine aw_iconst (v := -1) d_Mod_act_21 (by decide) ?_
    refine aw_iret d_Mod_act_22 rfl (Nat.le_refl _) (Nat.le_refl _) ?_
    exact ⟨_, _, _, rfl, hm, by unfold acI; rw [hA]; rfl, rfl, by unfold acO; rw [hA]; exact hq⟩
  · skip
    obtain ⟨g0, hg0, rfl, hp0, hga⟩ := isG_ex br10_
    have hvg2 := hvg.2 _ hg0 hp0
    refine aw_aload_n (i := 0) d_Mod_act_13 rfl rfl ?_
    refine aw_iload_n (i := 2) d_Mod_act_14 rfl rfl ?_
    apply aw_callv_p (c_Mod_isStep hm.1 hh.1.2.1 (by omega) s) d_Mod_act_15 cl_Mod_190; exact hm.1.1; rfl; rfl; rfl; rfl; decide; exact Nat.le_of_ble_eq_true rfl; exact (Nat.le_refl _); exact (Nat.le_refl _)
    refine aw_ifB_ne d_Mod_act_18 (fun br18_ => ?_) (fun br18_ => ?_)
    · skip
      have hA : acA hs gs (nI g0) s = true := by unfold acA isSx; rw [br10_, br18_]; rfl
      obtain ⟨s0, hs0, rfl⟩ := dec_ix br18_ (by omega)
      refine aw_aload_n (i := 0) d_Mod_act_23 rfl rfl ?_
      apply aw_callv_M0 (c_Mod_weigh hm hh hv) d_Mod_act_24 cl_Mod_228; exact hm.1.1; rfl; rfl; rfl; rfl; decide; exact Nat.le_of_ble_eq_true rfl; exact Nat.le_refl _; exact Nat.le_refl _
      rintro h sc1 ar1 hm ⟨hw, hf_, hK⟩
      have hz := hK.1 0 rfl
      have hq := hq.kp hK rfl rfl rfl rfl
      have hh := hq.1
      have hg := hq.2.1
      have hg9 := (hq.2.1.2 _ hg0).2 hp0
      have hlL := hq.2.2.1
      refine aw_aload_n (i := 0) d_Mod_act_27 rfl rfl ?_
      refine aw_aload_n (i := 0) d_Mod_act_28 rfl rfl ?_
      refine mo_get (f := 45) hm d_Mod_act_29 fl_Mod_126 rfl ?_
      refine aw_iload_n (i := 1) d_Mod_act_32 rfl rfl ?_
      apply mo_ld (f := 45) (N := 4) hm d_Mod_act_33 rfl rfl (by decide); omega; exact hg9.1
      refine aw_iload_n (i := 2) d_Mod_act_34 rfl rfl ?_
      refine aw_aload_n (i := 0) d_Mod_act_35 rfl rfl ?_
      refine mo_get (f := 46) hm d_Mod_act_36 fl_Mod_129 rfl ?_
      refine aw_iload_n (i := 1) d_Mod_act_39 rfl rfl ?_
      apply mo_ld (f := 46) (N := 4) hm d_Mod_act_40 rfl rfl (by decide); omega; exact hg9.2.1
      apply aw_callv_p (c_Mod_done hm.1 hh hw hv hvg2.1 hs0 hvg2.2.2) d_Mod_act_41 cl_Mod_231; exact hm.1.1; rfl; rfl; rfl; rfl; decide; exact Nat.le_of_ble_eq_true rfl; exact (Nat.le_refl _); exact (Nat.le_refl _)
      refine aw_istore_n (i := 3) (lv2 := [(0, _), (1, _), (2, _), (3, _)]) d_Mod_act_44 rfl (by decide) rfl ?_
      refine aw_iload_n (i := 3) d_Mod_act_45 rfl rfl ?_
      refine aw_if_ge d_Mod_act_46 (fun br46_ => ?_) (fun br46_ => ?_)
      · skip
        have hMe : (!isE hs (gs.getD g0 gz0).2.1 && cdo hs (gs.getD g0 gz0).2.1 s0 (gs.getD g0 gz0).2.2.1) = true := by
          cases e : (!isE hs (gs.getD g0 gz0).2.1 && cdo hs (gs.getD g0 gz0).2.1 s0 (gs.getD g0 gz0).2.2.1)
          · rw [e, if_neg (by decide)] at br46_; exact absurd br46_ (by decide)
          · rfl
        have hM : acM hs gs (nI g0) (nI s0) = true := by unfold acM; rw [hga, xN_nI (by omega)]; exact hMe
        rw [hMe, if_pos rfl]
        refine aw_iconst (v := nI 0) d_Mod_act_51 (by decide) ?_
        refine aw_istore (lv2 := [(0, _), (1, _), (2, _), (3, _), (4, _)]) d_Mod_act_52 (by decide) rfl ?_
        refine upto (σ := Nat) (fun i => AW G m_Mod_act 3 0 0 _ 54 [(0, .ref a), (1, .int (nI g0)), (2, .int (nI s0)), (3, .int (nI (aft hs (gs.getD g0 gz0).2.1 s0))), (4, .int (nI i))] [] (nx, h) 0 0) (fun i s => i = s ∧ ∀ k, k < i → ¬ (k ≠ g0 ∧ (gs.getD k gz0).1 = true ∧ (gs.getD k gz0).2.2.2.2.1 = nI (rmo hs s0))) 4 ?_ 0 0 (Nat.zero_le _) ⟨rfl, fun k hk => absurd hk (Nat.not_lt_zero _)⟩
        intro i s9 hi hI ih
        obtain ⟨rfl, hnt⟩ := hI
        refine aw_iload d_Mod_act_54 rfl ?_
        refine aw_iconst (v := nI 4) d_Mod_act_56 (by decide) ?_
        refine aw_icmpN_ge d_Mod_act_57 (by omega) (by omega) (fun br57_ => ?_) (fun br57_ => ?_)
        · skip
          have ei : i = 4 := by omega
          subst ei
          have hT : acT hs gs (nI g0) (nI s0) = false := by unfold acT; rw [xN_nI (by omega), xN_nI (by omega)]; exact tkn_f hnt
          have hrm := (hh.2.2.1 _ hs0).2.2.2.1
          refine aw_aload_n (i := 0) d_Mod_act_101 rfl rfl ?_
          refine mo_get (f := 45) hm d_Mod_act_102 fl_Mod_126 rfl ?_
          refine aw_iload_n (i := 1) d_Mod_act_105 rfl rfl ?_
          refine aw_iload_n (i := 3) d_Mod_act_106 rfl rfl ?_
          apply mo_st (f := 45) (N := 4) hm d_Mod_act_107 rfl rfl (by decide); omega; intro h hm
          refine aw_aload_n (i := 0) d_Mod_act_108 rfl rfl ?_
          refine mo_get (f := 47) hm d_Mod_act_109 fl_Mod_132 rfl ?_
          refine aw_iload_n (i := 1) d_Mod_act_112 rfl rfl ?_
          refine aw_dup2 d_Mod_act_113 rfl rfl ?_
          apply mo_ld (f := 47) (N := 4) hm d_Mod_act_114 rfl rfl (by decide); omega; exact hg9.2.2.1
          refine aw_aload_n (i := 0) d_Mod_act_115 rfl rfl ?_
          refine mo_get (f := 7) hm d_Mod_act_116 fl_Mod_22 rfl ?_
          refine aw_iload_n (i := 2) d_Mod_act_119 rfl rfl ?_
          apply mo_ld (f := 7) (N := 24) hm d_Mod_act_120 rfl rfl (by decide); omega; exact (show _ = nI (tks hs s0) from (hh.2.2.1 _ hs0).2.2.1)
          refine aw_iadd d_Mod_act_121 ?_
          apply mo_st (f := 47) (N := 4) hm d_Mod_act_122 rfl rfl (by decide); omega; intro h hm
          refine aw_aload_n (i := 0) d_Mod_act_123 rfl rfl ?_
          refine mo_get (f := 48) hm d_Mod_act_124 fl_Mod_135 rfl ?_
          refine aw_iload_n (i := 1) d_Mod_act_127 rfl rfl ?_
          refine aw_aload_n (i := 0) d_Mod_act_128 rfl rfl ?_
          refine mo_get (f := 8) hm d_Mod_act_129 fl_Mod_25 rfl ?_
          refine aw_iload_n (i := 2) d_Mod_act_132 rfl rfl ?_
          apply mo_ld (f := 8) (N := 24) hm d_Mod_act_133 rfl rfl (by decide); omega; exact (show _ = nI (rmo hs s0) from (hh.2.2.1 _ hs0).2.2.2.1)
          apply mo_st (f := 48) (N := 4) hm d_Mod_act_134 rfl rfl (by decide); omega; intro h hm
          refine aw_aload_n (i := 0) d_Mod_act_135 rfl rfl ?_
          refine mo_get (f := 49) hm d_Mod_act_136 fl_Mod_138 rfl ?_
          refine aw_iload_n (i := 1) d_Mod_act_139 rfl rfl ?_
          refine aw_dup2 d_Mod_act_140 rfl rfl ?_
          apply mo_ld (f := 49) (N := 4) hm d_Mod_act_141 rfl rfl (by decide); omega; exact hg9.2.2.2.2
          refine aw_iconst (v := 1) d_Mod_act_142 (by decide) ?_
          refine aw_iadd d_Mod_act_143 ?_
          apply mo_st (f := 49) (N := 4) hm d_Mod_act_144 rfl rfl (by decide); omega; intro h hm
          refine aw_aload_n (i := 0) d_Mod_act_145 rfl rfl ?_
          refine mo_get (f := 51) hm d_Mod_act_146 fl_Mod_141 rfl ?_
          refine aw_aload_n (i := 0) d_Mod_act_149 rfl rfl ?_
          apply mo_gets (f := 50) hm d_Mod_act_150 fl_Mod_200 rfl; exact hlL.1
          refine aw_sipush (v := nI 200) d_Mod_act_153 (by decide) ?_
          refine aw_iremN d_Mod_act_156 (by omega) (by omega) (by omega) ?_
          refine aw_iload_n (i := 1) d_Mod_act_157 rfl rfl ?_
          apply mo_st (f := 51) (N := 200) hm d_Mod_act_158 rfl rfl (by decide); omega; intro h hm
          refine aw_aload_n (i := 0) d_Mod_act_159 rfl rfl ?_
          refine mo_get (f := 52) hm d_Mod_act_160 fl_Mod_144 rfl ?_
          refine aw_aload_n (i := 0) d_Mod_act_163 rfl rfl ?_
          apply mo_gets (f := 50) hm d_Mod_act_164 fl_Mod_200 rfl; exact hlL.1
          refine aw_sipush (v := nI 200) d_Mod_act_167 (by decide) ?_
          refine aw_iremN d_Mod_act_170 (by omega) (by omega) (by omega) ?_
          refine aw_iload_n (i := 2) d_Mod_act_171 rfl rfl ?_
          apply mo_st (f := 52) (N := 200) hm d_Mod_act_172 rfl rfl (by decide); omega; intro h hm
          refine aw_aload_n (i := 0) d_Mod_act_173 rfl rfl ?_
          refine mo_get (f := 53) hm d_Mod_act_174 fl_Mod_147 rfl ?_
          refine aw_aload_n (i := 0) d_Mod_act_177 rfl rfl ?_
          apply mo_gets (f := 50) hm d_Mod_act_178 fl_Mod_200 rfl; exact hlL.1
          refine aw_sipush (v := nI 200) d_Mod_act_181 (by decide) ?_
          refine aw_iremN d_Mod_act_184 (by omega) (by omega) (by omega) ?_
          refine aw_iload_n (i := 3) d_Mod_act_185 rfl rfl ?_
          apply mo_st (f := 53) (N := 200) hm d_Mod_act_186 rfl rfl (by decide); omega; intro h hm
          refine aw_aload_n (i := 0) d_Mod_act_187 rfl rfl ?_
          refine aw_dup d_Mod_act_188 rfl ?_
          apply mo_gets (f := 50) hm d_Mod_act_189 fl_Mod_200 rfl; exact hlL.1
          refine aw_iconst (v := nI 1) d_Mod_act_192 (by decide) ?_
          refine aw_iaddN d_Mod_act_193 ?_
          apply mo_put (f := 50) hm d_Mod_act_194 pl_Mod_200 (ms_50 _ _ _) (by decide) rfl rfl; intro h hm
          refine aw_iconst (v := nI 1) d_Mod_act_197 (by decide) ?_
          refine aw_iret d_Mod_act_198 rfl (Nat.le_refl _) (Nat.le_refl _) ?_
          have hkk : Kp [50] [45, 47, 48, 49, 51, 52, 53] sc1 ar1 (upd sc1 50 (nI (lg.length + 1))) _ := (((((((Kp.st (f := 45) (g := upd (ar1 45) g0 (nI (aft hs (gs.getD g0 gz0).2.1 s0))) rfl).tr (Kp.st (f := 47) (g := upd (ar1 47) g0 ((gs.getD g0 gz0).2.2.2.1 + nI (tks hs s0))) rfl)).tr (Kp.st (f := 48) (g := upd (ar1 48) g0 (nI (rmo hs s0))) rfl)).tr (Kp.st (f := 49) (g := upd (ar1 49) g0 ((gs.getD g0 gz0).2.2.2.2.2 + 1)) rfl)).tr (Kp.st (f := 51) (g := upd (ar1 51) (lg.length % 200) (nI g0)) rfl)).tr (Kp.st (f := 52) (g := upd (ar1 52) (lg.length % 200) (nI s0)) rfl)).tr (Kp.st (f := 53) (g := upd (ar1 53) (lg.length % 200) (nI (aft hs (gs.getD g0 gz0).2.1 s0))) rfl)).tr (Kp.put (f := 50) rfl)
          have hO : acO hs gs (nI g0) (nI s0) = true := by unfold acO; rw [hA, hM, hT]; rfl
          refine ⟨_, _, _, rfl, hm, by unfold acI; rw [hA, hM, hT]; rfl, hz.trans rfl, ?_⟩
          rw [hO]
          refine hq.grp (gs2 := gsA hs gs (nI g0) (nI s0)) (lg2 := lgA hs gs lg (nI g0) (nI s0)) ?_ ?_ (hq.2.2.2.1.kp hkk rfl rfl) hkk rfl rfl
          · unfold gsA
            rw [hga, xN_nI (by omega), xN_nI (by omega)]
            exact hg.set hg0 (fun i9 ne hi9 => ⟨rfl, by show upd _ g0 _ i9 = _; exact pk_un ne, rfl, by show upd _ g0 _ i9 = _; exact pk_un ne, by show upd _ g0 _ i9 = _; exact pk_un ne, by show upd _ g0 _ i9 = _; exact pk_un ne⟩) ⟨by have := (hg.2 _ hg0).1; rw [hp0] at this; exact this, fun _ => ⟨by show upd _ g0 _ g0 = _; exact pk_us, hg9.2.1, by show upd _ g0 _ g0 = _; exact pk_us, by show upd _ g0 _ g0 = _; exact pk_us, by show upd _ g0 _ g0 = _; exact pk_us⟩⟩
          · unfold lgA
            rw [hga, xN_nI (by omega), xN_nI (by omega)]
            exact hlL.add hlb rfl rfl rfl rfl
        · skip
          refine aw_iload d_Mod_act_60 rfl ?_
          refine aw_iload_n (i := 1) d_Mod_act_62 rfl rfl ?_
          refine aw_icmpN_eq d_Mod_act_63 (by omega) (by omega) (fun br63_ => ?_) (fun br63_ => ?_)
          · skip
            have hno : ¬ (i ≠ g0 ∧ (gs.getD i gz0).1 = true ∧ (gs.getD i gz0).2.2.2.2.1 = nI (rmo hs s0)) := fun q => q.1 br63_
            refine aw_iincN (lv2 := [(0, _), (1, _), (2, _), (3, _), (4, _)]) d_Mod_act_95 (by decide) rfl rfl ?_
            refine aw_goto d_Mod_act_98 ?_
            exact ih br57_ (i + 1) ⟨rfl, fun k hk => by
              by_cases e : k = i
              · subst e; exact hno
              · exact hnt k (by omega)⟩
          · skip
            refine aw_aload_n (i := 0) d_Mod_act_66 rfl rfl ?_
            refine mo_get (f := 44) hm d_Mod_act_67 fl_Mod_123 rfl ?_
            refine aw_iload d_Mod_act_70 rfl ?_
            apply mo_zld (f := 44) (N := 4) hm d_Mod_act_72 rfl rfl (by decide); omega; exact (hg.2 _ br57_).1
            refine aw_ifB_eq d_Mod_act_73 (fun br73_ => ?_) (fun br73_ => ?_)
            · skip
              have hno : ¬ (i ≠ g0 ∧ (gs.getD i gz0).1 = true ∧ (gs.getD i gz0).2.2.2.2.1 = nI (rmo hs s0)) := fun q => by rw [br73_] at q; cases q.2.1
              refine aw_iincN (lv2 := [(0, _), (1, _), (2, _), (3, _), (4, _)]) d_Mod_act_95 (by decide) rfl rfl ?_
              refine aw_goto d_Mod_act_98 ?_
              exact ih br57_ (i + 1) ⟨rfl, fun k hk => by
                by_cases e : k = i
                · subst e; exact hno
                · exact hnt k (by omega)⟩
            · skip
              refine aw_aload_n (i := 0) d_Mod_act_76 rfl rfl ?_
              refine mo_get (f := 48) hm d_Mod_act_77 fl_Mod_135 rfl ?_
              refine aw_iload d_Mod_act_80 rfl ?_
              apply mo_ld (f := 48) (N := 4) hm d_Mod_act_82 rfl rfl (by decide); omega; exact ((hg.2 _ br57_).2 br73_).2.2.2.1
              refine aw_aload_n (i := 0) d_Mod_act_83 rfl rfl ?_
              refine mo_get (f := 8) hm d_Mod_act_84 fl_Mod_25 rfl ?_
              refine aw_iload_n (i := 2) d_Mod_act_87 rfl rfl ?_
              apply mo_ld (f := 8) (N := 24) hm d_Mod_act_88 rfl rfl (by decide); omega; exact (show _ = nI (rmo hs s0) from (hh.2.2.1 _ hs0).2.2.2.1)
              refine aw_icmp_ne d_Mod_act_89 (fun br89_ => ?_) (fun br89_ => ?_)
              · skip
                have hno : ¬ (i ≠ g0 ∧ (gs.getD i gz0).1 = true ∧ (gs.getD i gz0).2.2.2.2.1 = nI (rmo hs s0)) := fun q => br89_ q.2.2
                refine aw_iincN (lv2 := [(0, _), (1, _), (2, _), (3, _), (4, _)]) d_Mod_act_95 (by decide) rfl rfl ?_
                refine aw_goto d_Mod_act_98 ?_
                exact ih br57_ (i + 1) ⟨rfl, fun k hk => by
                  by_cases e : k = i
                  · subst e; exact hno
                  · exact hnt k (by omega)⟩
              · skip
                have hT : acT hs gs (nI g0) (nI s0) = true := by unfold acT; rw [xN_nI (by omega), xN_nI (by omega)]; exact tkn_t br57_ br63_ br73_ br89_
                refine aw_bipush (v := -3) d_Mod_act_92 (by decide) ?_
                refine aw_iret d_Mod_act_94 rfl (Nat.le_refl _) (Nat.le_refl _) ?_
                exact ⟨_, _, _, rfl, hm, by unfold acI; rw [hA, hM, hT]; rfl, hz.trans rfl, by unfold acO; rw [hA, hM, hT]; exact hq⟩
      · skip
        have hM : acM hs gs (nI g0) (nI s0) = false := by
          unfold acM
          rw [hga, xN_nI (by omega)]
          cases e : (!isE hs (gs.getD g0 gz0).2.1 && cdo hs (gs.getD g0 gz0).2.1 s0 (gs.getD g0 gz0).2.2.1)
          · rfl
          · rw [e, if_pos rfl] at br46_
            have := aft_lt hv hvg2.1 hs0
            exact absurd (nI_pos' (by omega)) br46_
        refine aw_iconst (v := nI 0) d_Mod_act_49 (by decide) ?_
        refine aw_iret d_Mod_act_50 rfl (Nat.le_refl _) (Nat.le_refl _) ?_
        exact ⟨_, _, _, rfl, hm, by unfold acI; rw [hA, hM]; rfl, hz.trans rfl, by unfold acO; rw [hA, hM]; exact hq⟩
    · skip
      have hA : acA hs gs (nI g0) s = false := by unfold acA isSx; rw [br18_, Bool.and_false]
      refine aw_iconst (v := -1) d_Mod_act_21 (by decide) ?_
      refine aw_iret d_Mod_act_22 rfl (Nat.le_refl _) (Nat.le_refl _) ?_
      exact ⟨_, _, _, rfl, hm, by unfold acI; rw [hA]; rfl, rfl, by unfold acO; rw [hA]; exact hq⟩

def exs (hs : HSt) (c : Nat) : Nat → Nat
  | 0 => c
  | i + 1 => if (hs.1.getD i pz).2.2.2.2.1 = -1 then exs hs c i else sd (pks hs.1) (exs hs c i) i (xN (hs.1.getD i pz).2.2.2.2.1)
theorem exs_lt {hs : HSt} (hv : VH hs) (hx : VX hs) {c : Nat} (hc : c < hall hs) : ∀ i, i ≤ hs.1.length → exs hs c i < hall hs
  | 0, _ => hc
  | i + 1, hi => by
    have ih := exs_lt hv hx hc i (by omega)
    have hk := hv.1.k (show i < hs.1.length by omega)
    unfold exs
    by_cases e : (hs.1.getD i pz).2.2.2.2.1 = -1
    · rw [if_pos e]; exact ih
    · rw [if_neg e]
      obtain ⟨x, hx1, hx2⟩ := ((hx i (by omega)).2.1).resolve_left e
      rw [hx2, xN_nI (by omega)]
      exact sd_bd hv.vt hv.1 (by omega) hx1 ih
def alL (hs : HSt) (gs : List GSt) : List Int32 := (gs.filter (fun g => g.1)).map (fun g => nI (exs hs g.2.1 hs.1.length))
theorem alL_s {hs : HSt} {gs : List GSt} {i : Nat} (hi : i < gs.length) : alL hs (gs.take (i + 1)) = alL hs (gs.take i) ++ (if (gs.getD i gz0).1 then [nI (exs hs (gs.getD i gz0).2.1 hs.1.length)] else []) := by
  unfold alL
  rw [List.take_succ_eq_append_getElem hi, List.filter_append, List.map_append, gDx hi]
  congr 1
  cases e : gs[i].1 <;> simp [e]
theorem alL_len (hs : HSt) (gs : List GSt) : (alL hs gs).length ≤ gs.length := by unfold alL; rw [List.length_map]; exact List.length_filter_le _ _
theorem m1_lt : ¬ (0 : Int32) ≤ -1 := by decide
set_option maxHeartbeats 4000000 in
set_option maxRecDepth 20000 in
theorem c_Mod_alarm {G : aG} {nx : Nat} {h h0 : Nat → Option aC} {a : Nat} {A : Nat → Nat} {sc : Nat → Int32} {ar : Nat → Nat → Int32} (hm : MoF h0 h a A sc ar) {hs : HSt} {gs : List GSt} {lg : List (Nat × Nat × Nat)} {xs : List Int32} (hq : MoA sc ar hs gs lg xs) (hv : VH hs) (hvx : VX hs) (hvg : VG hs gs) : AMet G m_Mod_alarm 2 0 0 [.ref a] (nx, h) (MR nx a h0 A (fun r sc2 ar2 => r = some (.int (nI (alL hs gs).length)) ∧ sc2 0 = 0 ∧ MoA sc2 ar2 hs (gsC gs) lg (alL hs gs))) := by
  have hp12 := hv.1.1
  have hs24 := hv.2.1
  have hall2 := hv.2.2.2.2.2.2.2
  have hq0 := hq
  refine amet_of pf_Mod_alarm (Nat.le_of_ble_eq_true rfl) ?_
  show AW G m_Mod_alarm 2 0 0 _ 0 [(0, .ref a)] [] (nx, h) 0 0
  refine aw_aload_n (i := 0) d_Mod_alarm_0 rfl rfl ?_
  refine aw_iconst (v := nI 0) d_Mod_alarm_1 (by decide) ?_
  apply mo_put (f := 0) hm d_Mod_alarm_2 pl_Mod_150 (ms_0 _ _ _) (by decide) rfl rfl; intro h hm
  have hq := hq0.kp (Kp.put (Ls := [0]) (La := []) (f := 0) (x := nI 0) rfl) rfl rfl rfl rfl
  have hh := hq.1
  have hg := hq.2.1
  have hr := hq.2.2.2.1
  refine aw_aload_n (i := 0) d_Mod_alarm_5 rfl rfl ?_
  apply aw_callv_M0 (c_Mod_weigh hm hh hv) d_Mod_alarm_6 cl_Mod_228; exact hm.1.1; rfl; rfl; rfl; rfl; decide; exact Nat.le_of_ble_eq_true rfl; exact Nat.le_refl _; exact Nat.le_refl _
  rintro h sc1 ar1 hm ⟨hw, hf_, hK⟩
  have hz := hK.1 0 rfl
  have hq := hq.kp hK rfl rfl rfl rfl
  have hg := hq.2.1
  have hw0 := hw
  have hh0 := hq.1
  refine aw_aload_n (i := 0) d_Mod_alarm_9 rfl rfl ?_
  refine aw_iconst (v := nI 0) d_Mod_alarm_10 (by decide) ?_
  apply mo_put (f := 39) hm d_Mod_alarm_11 pl_Mod_203 (ms_39 _ _ _) (by decide) rfl rfl; intro h hm
  obtain ⟨S_, B_, hm, hS_, hB_⟩ : ∃ S B, MoF h0 h a A S B ∧ S = _ ∧ B = _ := ⟨_, _, hm, rfl, rfl⟩
  refine aw_iconst (v := nI 0) d_Mod_alarm_14 (by decide) ?_
  refine aw_istore_n (i := 1) (lv2 := [(0, _), (1, _)]) d_Mod_alarm_15 rfl (by decide) rfl ?_
  refine mloop (h0 := h0) (a := a) (A := A) (4) (fun i h sc2 ar2 => AW G m_Mod_alarm 2 0 0 _ 16 [(0, .ref a), (1, .int (nI i))] [] (nx, h) 0 0) (fun i sc2 ar2 => Kp [39] [38, 44] S_ B_ sc2 ar2 ∧ MoR sc2 ar2 (alL hs (gs.take i)) ∧ ∀ q, q < 4 → ar2 44 q = if q < i then 0 else bI (gs.getD q gz0).1) ?_ 0 _ _ _ (Nat.zero_le _) hm ⟨Kp.rf, by subst hS_ hB_; exact ⟨rfl, Nat.zero_le _, fun k hk => absurd hk (Nat.not_lt_zero _)⟩, fun q hq9 => by subst hS_ hB_; rw [if_neg (by omega)]; exact (hg.2 q hq9).1⟩
  intro i h sc2 ar2 hi_i hm hI ih
  have hk9 : Kp [39] [38, 44] sc1 ar1 sc2 ar2 := by subst hS_ hB_; exact (Kp.put (f := 39) rfl).tr hI.1
  have hh := hh0.kp hk9 rfl rfl
  have hw := hw0.kp hk9 rfl rfl rfl
  refine aw_iload_n (i := 1) d_Mod_alarm_16 rfl rfl ?_
  refine aw_iconst (v := nI 4) d_Mod_alarm_17 (by decide) ?_
  refine aw_icmpN_ge d_Mod_alarm_18 (by omega) (by omega) (fun br18_ => ?_) (fun br18_ => ?_)
  · skip
    have ei : i = 4 := by omega
    subst ei
    rw [List.take_of_length_le (by rw [hg.1]; exact Nat.le_refl _)] at hI
    refine aw_aload_n (i := 0) d_Mod_alarm_110 rfl rfl ?_
    apply mo_gets (f := 39) hm d_Mod_alarm_111 fl_Mod_203 rfl; exact hI.2.1.1
    refine aw_iret d_Mod_alarm_114 rfl (Nat.le_refl _) (Nat.le_refl _) ?_
    refine ⟨_, _, _, rfl, hm, rfl, (hk9.1 0 rfl).trans (hz.trans rfl), ?_⟩
    refine hq.grp (gs2 := gsC gs) (xs2 := alL hs gs) ⟨by unfold gsC; rw [List.length_map]; exact hg.1, fun q hq9 => ?_⟩ (hq.2.2.1.kp hk9 rfl rfl) hI.2.1 hk9 rfl rfl
    have hg4 : q < gs.length := by rw [hg.1]; exact hq9
    have e9 : ((gsC gs).getD q gz0).1 = false := by unfold gsC; rw [gd_map _ (d := gz0) hg4]
    rw [e9, hI.2.2 q hq9, if_pos hq9]
    exact ⟨rfl, fun q => by cases q⟩
  · skip
    refine aw_aload_n (i := 0) d_Mod_alarm_21 rfl rfl ?_
    refine mo_get (f := 44) hm d_Mod_alarm_22 fl_Mod_123 rfl ?_
    refine aw_iload_n (i := 1) d_Mod_alarm_25 rfl rfl ?_
    apply mo_zld (f := 44) (N := 4) hm d_Mod_alarm_26 rfl rfl (by decide); omega; exact (show _ = bI (gs.getD i gz0).1 by rw [hI.2.2 i br18_, if_neg (by omega)])
    refine aw_ifB_ne d_Mod_alarm_27 (fun br27_ => ?_) (fun br27_ => ?_)
    · skip
      have hal := alL_s (hs := hs) (gs := gs) (i := i) (by rw [hg.1]; exact br18_)
      rw [br27_, if_pos rfl] at hal
      have hcl := (hvg.2 _ br18_ br27_).1
      have hc9 := (hg.2 _ br18_).2 br27_
      refine aw_aload_n (i := 0) d_Mod_alarm_33 rfl rfl ?_
      refine mo_get (f := 45) hm d_Mod_alarm_34 fl_Mod_126 rfl ?_
      refine aw_iload_n (i := 1) d_Mod_alarm_37 rfl rfl ?_
      apply mo_ld (f := 45) (N := 4) hm d_Mod_alarm_38 rfl rfl (by decide); omega; exact ((congrFun (hk9.2 45 rfl) _).trans hc9.1)
      refine aw_istore_n (i := 2) (lv2 := [(0, _), (1, _), (2, _)]) d_Mod_alarm_39 rfl (by decide) rfl ?_
      refine aw_iconst (v := nI 0) d_Mod_alarm_40 (by decide) ?_
      refine aw_istore_n (i := 3) (lv2 := [(0, _), (1, _), (2, _), (3, _)]) d_Mod_alarm_41 rfl (by decide) rfl ?_
      refine upto (σ := Nat) (fun j => AW G m_Mod_alarm 2 0 0 _ 42 [(0, .ref a), (1, .int (nI i)), (2, .int (nI (exs hs (gs.getD i gz0).2.1 j))), (3, .int (nI j))] [] (nx, h) 0 0) (fun j s => j = s) hs.1.length ?_ 0 0 (Nat.zero_le _) rfl
      intro j s9 hj hJ ih2
      subst hJ
      have hel := exs_lt hv hvx hcl j hj
      refine aw_iload_n (i := 3) d_Mod_alarm_42 rfl rfl ?_
      refine aw_aload_n (i := 0) d_Mod_alarm_43 rfl rfl ?_
      apply mo_gets (f := 1) hm d_Mod_alarm_44 fl_Mod_153 rfl; exact hh.1.1
      refine aw_icmpN_ge d_Mod_alarm_47 (by omega) (by omega) (fun br47_ => ?_) (fun br47_ => ?_)
      · skip
        have ej : j = hs.1.length := by omega
        subst ej
        refine aw_aload_n (i := 0) d_Mod_alarm_92 rfl rfl ?_
        refine aw_iload_n (i := 2) d_Mod_alarm_93 rfl rfl ?_
        apply aw_callv_M0 (c_Mod_tells hm hI.2.1 (by have := alL_len hs (gs.take i); simp at this; omega) _) d_Mod_alarm_94 cl_Mod_275; exact hm.1.1; rfl; rfl; rfl; rfl; decide; exact Nat.le_of_ble_eq_true rfl; exact Nat.le_refl _; exact Nat.le_refl _
        rintro h sc3 ar3 hm ⟨hR3, hK3⟩
        refine aw_aload_n (i := 0) d_Mod_alarm_97 rfl rfl ?_
        refine mo_get (f := 44) hm d_Mod_alarm_98 fl_Mod_123 rfl ?_
        refine aw_iload_n (i := 1) d_Mod_alarm_101 rfl rfl ?_
        refine aw_iconst (v := nI 0) d_Mod_alarm_102 (by decide) ?_
        apply mo_zst (f := 44) (N := 4) hm d_Mod_alarm_103 rfl rfl (by decide); omega; exact rfl; intro h hm
        refine aw_iincN (lv2 := [(0, _), (1, _), (2, _), (3, _)]) d_Mod_alarm_104 (by decide) rfl rfl ?_
        refine aw_goto d_Mod_alarm_107 ?_
        refine aw_drop (lv2 := [(0, _), (1, _)]) [0, 1] rfl ?_
        refine ih br18_ _ _ _ hm ⟨(hI.1.tr (hK3.up (by decide) (by decide))).tr (Kp.st rfl), by rw [hal]; exact hR3.kp (Kp.st (Ls := []) (La := [44]) (sc := sc3) rfl) rfl rfl, fun q hq9 => ?_⟩
        show upd (ar3 44) i _ q = _
        by_cases e : q = i
        · subst e; rw [pk_us, if_pos (by omega)]; rfl
        · rw [pk_un e, congrFun (hK3.2 44 rfl) q, hI.2.2 q hq9]
          by_cases e2 : q < i
          · rw [if_pos e2, if_pos (by omega)]
          · rw [if_neg e2, if_neg (by omega)]
      · skip
        have hpx := hh.2.1 _ br47_
        have hex := (hvx _ br47_).2.1
        have hkp := hv.1.k br47_
        refine aw_iload_n (i := 2) d_Mod_alarm_50 rfl rfl ?_
        refine aw_aload_n (i := 0) d_Mod_alarm_51 rfl rfl ?_
        refine mo_get (f := 21) hm d_Mod_alarm_52 fl_Mod_62 rfl ?_
        refine aw_iload_n (i := 3) d_Mod_alarm_55 rfl rfl ?_
        apply mo_ld (f := 21) (N := 12) hm d_Mod_alarm_56 rfl rfl (by decide); omega; exact hpx.2.2.2.2.1
        refine aw_if_ge d_Mod_alarm_57 (fun br57_ => ?_) (fun br57_ => ?_)
        · skip
          obtain ⟨x, x1, x2⟩ : ∃ e, e < (hs.1.getD j pz).1 ∧ (hs.1.getD j pz).2.2.2.2.1 = nI e := hex.resolve_left (fun q => by rw [q] at br57_; exact m1_lt br57_)
          have hst : exs hs (gs.getD i gz0).2.1 (j + 1) = sd (pks hs.1) (exs hs (gs.getD i gz0).2.1 j) j x := by
            show (if _ then _ else _) = _
            rw [if_neg (fun q => by rw [q] at br57_; exact m1_lt br57_), x2, xN_nI (by omega)]
          have hsd := sd_math (ks := pks hs.1) (c := exs hs (gs.getD i gz0).2.1 j) (i := j) (s := x) (by rw [pk_len]; exact br47_)
          refine aw_aload_n (i := 0) d_Mod_alarm_64 rfl rfl ?_
          refine mo_get (f := 21) hm d_Mod_alarm_65 fl_Mod_62 rfl ?_
          refine aw_iload_n (i := 3) d_Mod_alarm_68 rfl rfl ?_
          apply mo_ld (f := 21) (N := 12) hm d_Mod_alarm_69 rfl rfl (by decide); omega; exact (hpx.2.2.2.2.1.trans x2)
          refine aw_aload_n (i := 0) d_Mod_alarm_70 rfl rfl ?_
          refine aw_iload_n (i := 2) d_Mod_alarm_71 rfl rfl ?_
          refine aw_iload_n (i := 3) d_Mod_alarm_72 rfl rfl ?_
          apply aw_callv_p (c_Mod_stateOf hm.1 hh hw hv (c := exs hs (gs.getD i gz0).2.1 j) (by omega) br47_) d_Mod_alarm_73 cl_Mod_212; exact hm.1.1; rfl; rfl; rfl; rfl; decide; exact Nat.le_of_ble_eq_true rfl; exact (Nat.le_refl _); exact (Nat.le_refl _)
          refine aw_isub d_Mod_alarm_76 ?_
          refine aw_aload_n (i := 0) d_Mod_alarm_77 rfl rfl ?_
          refine mo_get (f := 24) hm d_Mod_alarm_78 fl_Mod_72 rfl ?_
          refine aw_iload_n (i := 3) d_Mod_alarm_81 rfl rfl ?_
          apply mo_ld (f := 24) (N := 12) hm d_Mod_alarm_82 rfl rfl (by decide); omega; exact hw.2.1 _ br47_
          refine aw_imul d_Mod_alarm_83 ?_
          refine aw_iadd d_Mod_alarm_84 ?_
          rw [hsd]
          refine aw_istore_n (i := 2) (lv2 := [(0, _), (1, _), (2, _), (3, _)]) d_Mod_alarm_85 rfl (by decide) rfl ?_
          refine aw_iincN (lv2 := [(0, _), (1, _), (2, _), (3, _)]) d_Mod_alarm_86 (by decide) rfl rfl ?_
          refine aw_goto d_Mod_alarm_89 ?_
          have k9 := ih2 br47_ (j + 1) rfl
          rw [hst] at k9
          exact k9
        · skip
          have hst : exs hs (gs.getD i gz0).2.1 (j + 1) = exs hs (gs.getD i gz0).2.1 j := by
            rcases hex with q | ⟨x, x1, x2⟩
            · unfold exs; rw [if_pos q]; cases j <;> rfl
            · rw [x2] at br57_; exact absurd (nI_pos' (by omega)) br57_
          refine aw_iconst (v := nI 0) d_Mod_alarm_60 (by decide) ?_
          refine aw_goto d_Mod_alarm_61 ?_
          refine aw_iadd d_Mod_alarm_84 ?_
          refine aw_istore_n (i := 2) (lv2 := [(0, _), (1, _), (2, _), (3, _)]) d_Mod_alarm_85 rfl (by decide) rfl ?_
          refine aw_iincN (lv2 := [(0, _), (1, _), (2, _), (3, _)]) d_Mod_alarm_86 (by decide) rfl rfl ?_
          refine aw_goto d_Mod_alarm_89 ?_
          have k9 := ih2 br47_ (j + 1) rfl
          rw [hst] at k9
          rw [show nI (exs hs (gs.getD i gz0).2.1 j) + nI 0 = nI (exs hs (gs.getD i gz0).2.1 j) from nI_add _ 0]
          exact k9
    · skip
      have hal := alL_s (hs := hs) (gs := gs) (i := i) (by rw [hg.1]; exact br18_)
      rw [br27_, if_neg (by decide), List.append_nil] at hal
      refine aw_goto d_Mod_alarm_30 ?_
      refine aw_iincN (lv2 := [(0, _), (1, _)]) d_Mod_alarm_104 (by decide) rfl rfl ?_
      refine aw_goto d_Mod_alarm_107 ?_
      refine ih br18_ _ _ _ hm ⟨hI.1, by rw [hal]; exact hI.2.1, fun q hq9 => ?_⟩
      rw [hI.2.2 q hq9]
      by_cases e : q = i
      · subst e; rw [if_neg (by omega), if_pos (by omega), br27_]; rfl
      · by_cases e2 : q < i
        · rw [if_pos e2, if_pos (by omega)]
        · rw [if_neg e2, if_neg (by omega)]

