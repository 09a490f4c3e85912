/-- what is valid of the rules, exits and readings -/
def PX (ps : List PSt) (i : Nat) (p : PSt) : Prop := (p.2.2.1 = -1 ∨ ∃ x s, x < ps.length ∧ x ≠ i ∧ s < (ps.getD x pz).1 ∧ p.2.2.1 = nI x ∧ p.2.2.2.1 = nI s) ∧ (p.2.2.2.2.1 = -1 ∨ ∃ e, e < p.1 ∧ p.2.2.2.2.1 = nI e) ∧ (p.2.2.2.2.2 = -1 ∨ ∃ e, e < p.1 ∧ p.2.2.2.2.2 = nI e)
def VX (hs : HSt) : Prop := ∀ i, i < hs.1.length → PX hs.1 i (hs.1.getD i pz)
def VG (hs : HSt) (gs : List GSt) : Prop := gs.length = 4 ∧ ∀ g, g < 4 → (gs.getD g gz0).1 = true → (gs.getD g gz0).2.1 < hall hs ∧ 1 ≤ (gs.getD g gz0).2.2.1 ∧ (gs.getD g gz0).2.2.1 ≤ 9
theorem MoC.same {sc : Nat → Int32} {ar : Nat → Nat → Int32} {hs hs2 : HSt} (h : MoK ar hs → MoK ar hs2) (hc : MoC sc ar hs) : MoC sc ar hs2 := by
  obtain ⟨st, e1, e2⟩ := hc
  exact ⟨st, e1, fun e => h (e2 e)⟩
/-- rules, exits and readings change nothing of what is charted -/
theorem pk_setP {ps : List PSt} {i : Nat} {g : PSt → PSt} (hg : ∀ q, (g q).1 = q.1) (hi : i < ps.length) : pks (ps.set i (g (ps.getD i pz))) = pks ps := by
  unfold pks
  rw [List.map_set, hg]
  have : (ps.map (fun p => p.1))[i]? = some (ps.getD i pz).1 := by simp [List.getD_eq_getElem?_getD, List.getElem?_eq_getElem hi]
  apply List.ext_getElem?
  intro n
  by_cases e : n = i
  · subst e; rw [List.getElem?_set_self (by simpa using hi), this]
  · rw [List.getElem?_set_ne (fun q => e q.symm)]
theorem stc_setP {ps : List PSt} {i : Nat} {g : PSt → PSt} (hg : ∀ q, (g q).1 = q.1 ∧ (g q).2.1 = q.2.1) (hi : i < ps.length) : ∀ n, stc (ps.set i (g (ps.getD i pz))) n = stc ps n
  | 0 => rfl
  | n + 1 => by
    show stc _ n + _ = stc ps n + _
    rw [stc_setP hg hi n, pk_setP (fun q => (hg q).1) hi, gd_set hi]
    by_cases e : n = i
    · subst e; rw [if_pos rfl, (hg _).2]
    · rw [if_neg e]
theorem pst_len {ps : List PSt} {i : Nat} {x : PSt} : (ps.set i x).length = ps.length := List.length_set
section SP
variable {hs : HSt} {i : Nat} {g : PSt → PSt}
theorem sp_hall (hg : ∀ q, (g q).1 = q.1) (hi : i < hs.1.length) : hall (setP hs i g) = hall hs := by unfold hall setP; rw [pk_setP hg hi]
theorem sp_swt (hg : ∀ q, (g q).1 = q.1) (hi : i < hs.1.length) (j : Nat) : swt (setP hs i g).1 (setP hs i g).2.1 j = swt hs.1 hs.2.1 j := by unfold swt setP; rw [pk_setP hg hi]
theorem sp_isE (hg : ∀ q, (g q).1 = q.1) (hi : i < hs.1.length) : isE (setP hs i g) = isE hs := by funext c; unfold isE setP; rw [pk_setP hg hi]
theorem sp_wdj (hg : ∀ q, (g q).1 = q.1) (hi : i < hs.1.length) : wdj (setP hs i g) = wdj hs := by funext c j; unfold wdj; rw [sp_swt hg hi]
theorem sp_opn (hg : ∀ q, (g q).1 = q.1) (hi : i < hs.1.length) : opn (setP hs i g) = opn hs := by
  funext c j
  unfold opn cdo nds aod
  rw [sp_isE hg hi, sp_wdj hg hi]
  unfold setP
  rw [pk_setP hg hi]
theorem sp_aft (hg : ∀ q, (g q).1 = q.1) (hi : i < hs.1.length) : aft (setP hs i g) = aft hs := by
  funext c j
  unfold aft
  rw [sp_wdj hg hi, sp_swt hg hi]
  unfold setP
  rw [pk_setP hg hi]
theorem sp_hsta (hg : ∀ q, (g q).1 = q.1 ∧ (g q).2.1 = q.2.1) (hi : i < hs.1.length) : hsta (setP hs i g) = hsta hs := by
  unfold hsta setP
  rw [stc_setP hg hi, pst_len]
theorem sp_rch (hg : ∀ q, (g q).1 = q.1 ∧ (g q).2.1 = q.2.1) (hi : i < hs.1.length) : rch (setP hs i g) = rch hs := by
  funext c
  have hg1 : ∀ q, (g q).1 = q.1 := fun q => (hg q).1
  unfold rch rcs Rch
  rw [sp_opn hg1 hi, sp_aft hg1 hi, sp_hsta hg hi]
  rfl
theorem sp_far (hg : ∀ q, (g q).1 = q.1) (hi : i < hs.1.length) : far (setP hs i g) = far hs := by
  have e : ∀ c v, Way (setP hs i g) c v = Way hs c v := by
    intro c v
    unfold Way
    rw [sp_opn hg hi, sp_aft hg hi, sp_hall hg hi, sp_isE hg hi]
    rfl
  funext c
  unfold far lst
  have e2 : LstR (setP hs i g) c = LstR hs c := by
    funext x
    cases x with
    | none => unfold LstR; simp only [e]
    | some v => unfold LstR; simp only [e]
  rw [e2]
theorem sp_MoK {ar : Nat → Nat → Int32} (hg : ∀ q, (g q).1 = q.1 ∧ (g q).2.1 = q.2.1) (hi : i < hs.1.length) (h : MoK ar hs) : MoK ar (setP hs i g) := by
  have hg1 : ∀ q, (g q).1 = q.1 := fun q => (hg q).1
  unfold MoK MoB
  have e : bh (setP hs i g) = bh hs := by funext c j; unfold bh; rw [sp_opn hg1 hi, sp_aft hg1 hi]
  rw [sp_hall hg1 hi, sp_rch hg hi, sp_far hg1 hi, e]
  exact h
end SP
set_option maxHeartbeats 4000000 in
set_option maxRecDepth 20000 in
theorem c_Mod_give {G : aG} {nx : Nat} {h h0 : Nat → Option aC} {a : Nat} {A : Nat → Nat} {sc : Nat → Int32} {ar : Nat → Nat → Int32} (hm : MoF h0 h a A sc ar) {hs : HSt} {gs : List GSt} {lg : List (Nat × Nat × Nat)} {xs : List Int32} (hq : MoA sc ar hs gs lg xs) (hv : VH hs) (j p s : Int32) : AMet G m_Mod_give 3 0 0 [.ref a, .int j, .int p, .int s] (nx, h) (MR nx a h0 A (fun r sc2 ar2 => r = some (.int (if okV hs gs j p s then nI 1 else nI 0)) ∧ sc2 0 = 0 ∧ MoA sc2 ar2 (if okV hs gs j p s then addV hs (xN j) (xN p) (xN s) else hs) gs lg xs)) := by
  have hp12 := hv.1.1
  have hs24 := hv.2.1
  have hall2 := hv.2.2.2.2.2.2.2
  have hq0 := hq
  refine amet_of pf_Mod_give (Nat.le_of_ble_eq_true rfl) ?_
  show AW G m_Mod_give 3 0 0 _ 0 [(0, .ref a), (1, .int j), (2, .int p), (3, .int s)] [] (nx, h) 0 0
  refine aw_aload_n (i := 0) d_Mod_give_0 rfl rfl ?_
  refine aw_iconst (v := nI 0) d_Mod_give_1 (by decide) ?_
  apply mo_put (f := 0) hm d_Mod_give_2 pl_Mod_150 (ms_0 _ _ _) (by decide) rfl rfl; intro h hm
  have hq := hq0.kp (Kp.put (Ls := [0]) (La := []) (f := 0) (x := nI 0) rfl) rfl rfl rfl rfl
  have hh := hq.1
  have hg := hq.2.1
  have hr := hq.2.2.2.1
  refine aw_aload_n (i := 0) d_Mod_give_5 rfl rfl ?_
  apply aw_callv_p (c_Mod_plays hm hg) d_Mod_give_6 cl_Mod_170; exact hm.1.1; rfl; rfl; rfl; rfl; decide; exact Nat.le_of_ble_eq_true rfl; exact (Nat.le_refl _); exact (Nat.le_refl _)
  refine aw_ifB_ne d_Mod_give_9 (fun br9_ => ?_) (fun br9_ => ?_)
  · skip
    have hr_ : okV hs gs j p s = false := by unfold okV; rw [br9_]; rfl
    refine aw_iconst (v := nI 0) d_Mod_give_43 (by decide) ?_
    refine aw_istore (lv2 := [(0, _), (1, _), (2, _), (3, _), (4, _)]) d_Mod_give_44 (by decide) rfl ?_
    refine aw_iconst (v := nI 0) d_Mod_give_46 (by decide) ?_
    refine aw_istore (lv2 := [(0, _), (1, _), (2, _), (3, _), (4, _), (5, _)]) d_Mod_give_47 (by decide) rfl ?_
    refine aw_iload d_Mod_give_49 rfl ?_
    refine aw_if_eq d_Mod_give_51 (fun br51_ => ?_) (fun br51_ => absurd rfl br51_)
    refine aw_iload d_Mod_give_93 rfl ?_
    refine aw_if_ne d_Mod_give_95 (fun br95_ => absurd rfl br95_) (fun br95_ => ?_)
    refine aw_iconst (v := nI 0) d_Mod_give_98 (by decide) ?_
    refine aw_zret d_Mod_give_99 rfl rfl (Nat.le_refl _) (Nat.le_refl _) ?_
    exact ⟨_, _, _, rfl, hm, by rw [hr_]; rfl, rfl, by rw [hr_]; exact hq⟩
  · skip
    refine aw_aload_n (i := 0) d_Mod_give_12 rfl rfl ?_
    refine aw_iload_n (i := 1) d_Mod_give_13 rfl rfl ?_
    apply aw_callv_p (c_Mod_isStep hm.1 hh.1.2.1 (by omega) j) d_Mod_give_14 cl_Mod_190; exact hm.1.1; rfl; rfl; rfl; rfl; decide; exact Nat.le_of_ble_eq_true rfl; exact (Nat.le_refl _); exact (Nat.le_refl _)
    refine aw_ifB_eq d_Mod_give_17 (fun br17_ => ?_) (fun br17_ => ?_)
    · skip
      have hr_ : okV hs gs j p s = false := by unfold okV isSx; rw [br9_, br17_]; rfl
      refine aw_iconst (v := nI 0) d_Mod_give_43 (by decide) ?_
      refine aw_istore (lv2 := [(0, _), (1, _), (2, _), (3, _), (4, _)]) d_Mod_give_44 (by decide) rfl ?_
      refine aw_iconst (v := nI 0) d_Mod_give_46 (by decide) ?_
      refine aw_istore (lv2 := [(0, _), (1, _), (2, _), (3, _), (4, _), (5, _)]) d_Mod_give_47 (by decide) rfl ?_
      refine aw_iload d_Mod_give_49 rfl ?_
      refine aw_if_eq d_Mod_give_51 (fun br51_ => ?_) (fun br51_ => absurd rfl br51_)
      refine aw_iload d_Mod_give_93 rfl ?_
      refine aw_if_ne d_Mod_give_95 (fun br95_ => absurd rfl br95_) (fun br95_ => ?_)
      refine aw_iconst (v := nI 0) d_Mod_give_98 (by decide) ?_
      refine aw_zret d_Mod_give_99 rfl rfl (Nat.le_refl _) (Nat.le_refl _) ?_
      exact ⟨_, _, _, rfl, hm, by rw [hr_]; rfl, rfl, by rw [hr_]; exact hq⟩
    · skip
      obtain ⟨j0, hj0, rfl⟩ := dec_ix br17_ (by omega)
      have hnl := (hv.s hj0).2.2.2.2.2.2.2.2.1
      refine aw_aload_n (i := 0) d_Mod_give_20 rfl rfl ?_
      refine aw_iload_n (i := 2) d_Mod_give_21 rfl rfl ?_
      refine aw_iload_n (i := 3) d_Mod_give_22 rfl rfl ?_
      apply aw_callv_p (c_Mod_isPair hm hh hv p s) d_Mod_give_23 cl_Mod_193; exact hm.1.1; rfl; rfl; rfl; rfl; decide; exact Nat.le_of_ble_eq_true rfl; exact (Nat.le_refl _); exact (Nat.le_refl _)
      refine aw_ifB_eq d_Mod_give_26 (fun br26_ => ?_) (fun br26_ => ?_)
      · skip
        have hr_ : okV hs gs (nI j0) p s = false := by unfold okV; rw [br26_]; simp
        refine aw_iconst (v := nI 0) d_Mod_give_43 (by decide) ?_
        refine aw_istore (lv2 := [(0, _), (1, _), (2, _), (3, _), (4, _)]) d_Mod_give_44 (by decide) rfl ?_
        refine aw_iconst (v := nI 0) d_Mod_give_46 (by decide) ?_
        refine aw_istore (lv2 := [(0, _), (1, _), (2, _), (3, _), (4, _), (5, _)]) d_Mod_give_47 (by decide) rfl ?_
        refine aw_iload d_Mod_give_49 rfl ?_
        refine aw_if_eq d_Mod_give_51 (fun br51_ => ?_) (fun br51_ => absurd rfl br51_)
        refine aw_iload d_Mod_give_93 rfl ?_
        refine aw_if_ne d_Mod_give_95 (fun br95_ => absurd rfl br95_) (fun br95_ => ?_)
        refine aw_iconst (v := nI 0) d_Mod_give_98 (by decide) ?_
        refine aw_zret d_Mod_give_99 rfl rfl (Nat.le_refl _) (Nat.le_refl _) ?_
        exact ⟨_, _, _, rfl, hm, by rw [hr_]; rfl, rfl, by rw [hr_]; exact hq⟩
      · skip
        obtain ⟨p0, s0, hp0, hs0, rfl, rfl⟩ := prOK_ex br26_ hv
        have hks := hv.1.k hp0
        refine aw_aload_n (i := 0) d_Mod_give_29 rfl rfl ?_
        refine mo_get (f := 12) hm d_Mod_give_30 fl_Mod_37 rfl ?_
        refine aw_iload_n (i := 1) d_Mod_give_33 rfl rfl ?_
        apply mo_ld (f := 12) (N := 24) hm d_Mod_give_34 rfl rfl (by decide); omega; exact (hh.2.2.1 _ (by omega)).2.2.2.2.2.2.1
        refine aw_iconst (v := nI 4) d_Mod_give_35 (by decide) ?_
        refine aw_icmpN_ge d_Mod_give_36 (by omega) (by omega) (fun br36_ => ?_) (fun br36_ => ?_)
        · skip
          have hr_ : okV hs gs (nI j0) (nI p0) (nI s0) = false := by unfold okV; rw [xN_nI (by omega), decide_eq_false (show ¬ (hs.2.1.getD j0 sz0).2.2.2.2.2.length < 4 by omega), Bool.and_false, Bool.false_and]
          refine aw_iconst (v := nI 0) d_Mod_give_43 (by decide) ?_
          refine aw_istore (lv2 := [(0, _), (1, _), (2, _), (3, _), (4, _)]) d_Mod_give_44 (by decide) rfl ?_
          refine aw_iconst (v := nI 0) d_Mod_give_46 (by decide) ?_
          refine aw_istore (lv2 := [(0, _), (1, _), (2, _), (3, _), (4, _), (5, _)]) d_Mod_give_47 (by decide) rfl ?_
          refine aw_iload d_Mod_give_49 rfl ?_
          refine aw_if_eq d_Mod_give_51 (fun br51_ => ?_) (fun br51_ => absurd rfl br51_)
          refine aw_iload d_Mod_give_93 rfl ?_
          refine aw_if_ne d_Mod_give_95 (fun br95_ => absurd rfl br95_) (fun br95_ => ?_)
          refine aw_iconst (v := nI 0) d_Mod_give_98 (by decide) ?_
          refine aw_zret d_Mod_give_99 rfl rfl (Nat.le_refl _) (Nat.le_refl _) ?_
          exact ⟨_, _, _, rfl, hm, by rw [hr_]; rfl, rfl, by rw [hr_]; exact hq⟩
        · skip
          have hlt : (hs.2.1.getD j0 sz0).2.2.2.2.2.length < 4 := by omega
          refine aw_iconst (v := nI 1) d_Mod_give_39 (by decide) ?_
          refine aw_goto d_Mod_give_40 ?_
          refine aw_istore (lv2 := [(0, _), (1, _), (2, _), (3, _), (4, _)]) d_Mod_give_44 (by decide) rfl ?_
          refine aw_iconst (v := nI 0) d_Mod_give_46 (by decide) ?_
          refine aw_istore (lv2 := [(0, _), (1, _), (2, _), (3, _), (4, _), (5, _)]) d_Mod_give_47 (by decide) rfl ?_
          show AW G m_Mod_give 3 0 0 _ 49 [(0, .ref a), (1, .int (nI j0)), (2, .int (nI p0)), (3, .int (nI s0)), (4, .int (bI (!(((hs.2.1.getD j0 sz0).2.2.2.2.2.take 0).any (fun q => nI q.1 == nI p0))))), (5, .int (nI 0))] [] (nx, h) 0 0
          refine upto (σ := Nat) (fun i => AW G m_Mod_give 3 0 0 _ 49 [(0, .ref a), (1, .int (nI j0)), (2, .int (nI p0)), (3, .int (nI s0)), (4, .int (bI (!(((hs.2.1.getD j0 sz0).2.2.2.2.2.take i).any (fun q => nI q.1 == nI p0))))), (5, .int (nI i))] [] (nx, h) 0 0) (fun i s => s = i ∧ (0 < i → True)) ((hs.2.1.getD j0 sz0).2.2.2.2.2.length) ?_ 0 0 (Nat.zero_le _) ⟨rfl, fun _ => trivial⟩
          intro i s9 hi hI ih
          obtain ⟨rfl, -⟩ := hI
          refine aw_iload d_Mod_give_49 rfl ?_
          refine aw_ifB_eq d_Mod_give_51 (fun br51_ => ?_) (fun br51_ => ?_)
          · skip
            have hr_ : okV hs gs (nI j0) (nI p0) (nI s0) = false := by
              unfold okV
              have h9 : ((hs.2.1.getD j0 sz0).2.2.2.2.2.take s9).any (fun q => nI q.1 == nI p0) = true := by simpa using br51_
              have h8 : (hs.2.1.getD j0 sz0).2.2.2.2.2.any (fun q => nI q.1 == nI p0) = true := by
                obtain ⟨q, q1, q2⟩ := List.any_eq_true.mp h9
                exact List.any_eq_true.mpr ⟨q, List.mem_of_mem_take q1, q2⟩
              rw [xN_nI (by omega), h8]; simp
            rw [br51_]
            refine aw_iload d_Mod_give_93 rfl ?_
            refine aw_if_ne d_Mod_give_95 (fun br95_ => absurd rfl br95_) (fun br95_ => ?_)
            refine aw_iconst (v := nI 0) d_Mod_give_98 (by decide) ?_
            refine aw_zret d_Mod_give_99 rfl rfl (Nat.le_refl _) (Nat.le_refl _) ?_
            exact ⟨_, _, _, rfl, hm, by rw [hr_]; rfl, rfl, by rw [hr_]; exact hq⟩
          · skip
            refine aw_iload d_Mod_give_54 rfl ?_
            refine aw_aload_n (i := 0) d_Mod_give_56 rfl rfl ?_
            refine mo_get (f := 12) hm d_Mod_give_57 fl_Mod_37 rfl ?_
            refine aw_iload_n (i := 1) d_Mod_give_60 rfl rfl ?_
            apply mo_ld (f := 12) (N := 24) hm d_Mod_give_61 rfl rfl (by decide); omega; exact (hh.2.2.1 _ hj0).2.2.2.2.2.2.1
            refine aw_icmpN_ge d_Mod_give_62 (by omega) (by omega) (fun br62_ => ?_) (fun br62_ => ?_)
            · skip
              have ei : s9 = (hs.2.1.getD j0 sz0).2.2.2.2.2.length := by omega
              subst ei
              rw [List.take_length]
              rw [List.take_length] at br51_
              have hF_ : (!((hs.2.1.getD j0 sz0).2.2.2.2.2.any (fun q => nI q.1 == nI p0))) = true := br51_
              have hr_ : okV hs gs (nI j0) (nI p0) (nI s0) = true := by unfold okV isSx; rw [br9_, br17_, br26_, xN_nI (by omega), decide_eq_true hlt, hF_]; rfl
              refine aw_iload d_Mod_give_93 rfl ?_
              refine aw_if_ne d_Mod_give_95 (fun br95_ => ?_) (fun br95_ => absurd br95_ (by rw [hF_]; decide))
              refine aw_aload_n (i := 0) d_Mod_give_100 rfl rfl ?_
              refine mo_get (f := 13) hm d_Mod_give_101 fl_Mod_40 rfl ?_
              refine aw_iconst (v := nI 4) d_Mod_give_104 (by decide) ?_
              refine aw_iload_n (i := 1) d_Mod_give_105 rfl rfl ?_
              refine aw_imulN d_Mod_give_106 ?_
              refine aw_aload_n (i := 0) d_Mod_give_107 rfl rfl ?_
              refine mo_get (f := 12) hm d_Mod_give_108 fl_Mod_37 rfl ?_
              refine aw_iload_n (i := 1) d_Mod_give_111 rfl rfl ?_
              apply mo_ld (f := 12) (N := 24) hm d_Mod_give_112 rfl rfl (by decide); omega; exact (hh.2.2.1 _ hj0).2.2.2.2.2.2.1
              refine aw_iaddN d_Mod_give_113 ?_
              refine aw_iload_n (i := 2) d_Mod_give_114 rfl rfl ?_
              apply mo_st (f := 13) (N := 96) hm d_Mod_give_115 rfl rfl (by decide); omega; intro h hm
              refine aw_aload_n (i := 0) d_Mod_give_116 rfl rfl ?_
              refine mo_get (f := 14) hm d_Mod_give_117 fl_Mod_43 rfl ?_
              refine aw_iconst (v := nI 4) d_Mod_give_120 (by decide) ?_
              refine aw_iload_n (i := 1) d_Mod_give_121 rfl rfl ?_
              refine aw_imulN d_Mod_give_122 ?_
              refine aw_aload_n (i := 0) d_Mod_give_123 rfl rfl ?_
              refine mo_get (f := 12) hm d_Mod_give_124 fl_Mod_37 rfl ?_
              refine aw_iload_n (i := 1) d_Mod_give_127 rfl rfl ?_
              apply mo_ld (f := 12) (N := 24) hm d_Mod_give_128 rfl rfl (by decide); omega; exact (hh.2.2.1 _ hj0).2.2.2.2.2.2.1
              refine aw_iaddN d_Mod_give_129 ?_
              refine aw_iload_n (i := 3) d_Mod_give_130 rfl rfl ?_
              apply mo_st (f := 14) (N := 96) hm d_Mod_give_131 rfl rfl (by decide); omega; intro h hm
              refine aw_aload_n (i := 0) d_Mod_give_132 rfl rfl ?_
              refine mo_get (f := 12) hm d_Mod_give_133 fl_Mod_37 rfl ?_
              refine aw_iload_n (i := 1) d_Mod_give_136 rfl rfl ?_
              refine aw_dup2 d_Mod_give_137 rfl rfl ?_
              apply mo_ld (f := 12) (N := 24) hm d_Mod_give_138 rfl rfl (by decide); omega; exact (hh.2.2.1 _ hj0).2.2.2.2.2.2.1
              refine aw_iconst (v := nI 1) d_Mod_give_139 (by decide) ?_
              refine aw_iaddN d_Mod_give_140 ?_
              apply mo_st (f := 12) (N := 24) hm d_Mod_give_141 rfl rfl (by decide); omega; intro h hm
              refine aw_aload_n (i := 0) d_Mod_give_142 rfl rfl ?_
              refine aw_iconst (v := nI 1) d_Mod_give_143 (by decide) ?_
              apply mo_put (f := 23) hm d_Mod_give_144 pl_Mod_68 (ms_23 _ _ _) (by decide) rfl rfl; intro h hm
              refine aw_iconst (v := nI 1) d_Mod_give_147 (by decide) ?_
              refine aw_zret d_Mod_give_148 rfl rfl (Nat.le_refl _) (Nat.le_refl _) ?_
              refine ⟨_, _, _, rfl, hm, by rw [hr_]; rfl, rfl, ?_⟩
              rw [hr_, xN_nI (by omega), xN_nI (by omega), xN_nI (by omega)]
              refine hq0.build (mh_addV hq0.1 hv hj0 hlt rfl rfl rfl rfl (fun g q => ?_) rfl rfl rfl) (Ls := [0, 23]) (La := [12, 13, 14]) ((((Kp.put (f := 0) rfl).tr (Kp.st (f := 13) rfl)).tr (Kp.st (f := 14) rfl)).tr ((Kp.st (f := 12) rfl).tr (Kp.put (f := 23) rfl))) rfl rfl rfl
              rw [ups_n (by omega), ups_n (by omega), ups_n (by omega)]
            · skip
              have hat := any_take (fun q : Nat × Nat => nI q.1 == nI p0) (hs.2.1.getD j0 sz0).2.2.2.2.2 s9 br62_
              have hpr := (hv.s hj0).2.2.2.2.2.2.2.2.2.1 _ (List.getElem_mem br62_)
              refine aw_aload_n (i := 0) d_Mod_give_65 rfl rfl ?_
              refine mo_get (f := 13) hm d_Mod_give_66 fl_Mod_40 rfl ?_
              refine aw_iconst (v := nI 4) d_Mod_give_69 (by decide) ?_
              refine aw_iload_n (i := 1) d_Mod_give_70 rfl rfl ?_
              refine aw_imulN d_Mod_give_71 ?_
              refine aw_iload d_Mod_give_72 rfl ?_
              refine aw_iaddN d_Mod_give_74 ?_
              apply mo_ld (f := 13) (N := 96) hm d_Mod_give_75 rfl rfl (by decide); omega; exact ((hh.2.2.1 _ hj0).2.2.2.2.2.2.2 _ br62_).1
              refine aw_iload_n (i := 2) d_Mod_give_76 rfl rfl ?_
              refine aw_icmp_eq d_Mod_give_77 (fun br77_ => ?_) (fun br77_ => ?_)
              · skip
                have hnew : (!(((hs.2.1.getD j0 sz0).2.2.2.2.2.take (s9 + 1)).any (fun q => nI q.1 == nI p0))) = false := by rw [hat, beq_iff_eq.mpr br77_, Bool.or_true]; rfl
                refine aw_iconst (v := nI 0) d_Mod_give_84 (by decide) ?_
                refine aw_istore (lv2 := [(0, _), (1, _), (2, _), (3, _), (4, _), (5, _)]) d_Mod_give_85 (by decide) rfl ?_
                refine aw_iincN (lv2 := [(0, _), (1, _), (2, _), (3, _), (4, _), (5, _)]) d_Mod_give_87 (by decide) rfl rfl ?_
                refine aw_goto d_Mod_give_90 ?_
                have k9 := ih br62_ (s9 + 1) ⟨rfl, fun _ => trivial⟩
                rw [hnew] at k9
                exact k9
              · skip
                have hnew : (!(((hs.2.1.getD j0 sz0).2.2.2.2.2.take (s9 + 1)).any (fun q => nI q.1 == nI p0))) = true := by rw [hat, beq_eq_false_iff_ne.mpr br77_, Bool.or_false]; exact br51_
                refine aw_iconst (v := nI 1) d_Mod_give_80 (by decide) ?_
                refine aw_goto d_Mod_give_81 ?_
                refine aw_istore (lv2 := [(0, _), (1, _), (2, _), (3, _), (4, _), (5, _)]) d_Mod_give_85 (by decide) rfl ?_
                refine aw_iincN (lv2 := [(0, _), (1, _), (2, _), (3, _), (4, _), (5, _)]) d_Mod_give_87 (by decide) rfl rfl ?_
                refine aw_goto d_Mod_give_90 ?_
                have k9 := ih br62_ (s9 + 1) ⟨rfl, fun _ => trivial⟩
                rw [hnew] at k9
                exact k9

set_option maxHeartbeats 4000000 in
set_option maxRecDepth 20000 in
theorem c_Mod_rule {G : aG} {nx : Nat} {h h0 : Nat → Option aC} {a : Nat} {A : Nat → Nat} {sc : Nat → Int32} {ar : Nat → Nat → Int32} (hm : MoF h0 h a A sc ar) {hs : HSt} {gs : List GSt} {lg : List (Nat × Nat × Nat)} {xs : List Int32} (hq : MoA sc ar hs gs lg xs) (hv : VH hs) (p x y : Int32) : AMet G m_Mod_rule 3 0 0 [.ref a, .int p, .int x, .int y] (nx, h) (MR nx a h0 A (fun r sc2 ar2 => r = some (.int (if okR hs gs p x y then nI 1 else nI 0)) ∧ sc2 0 = 0 ∧ MoA sc2 ar2 (if okR hs gs p x y then setR hs (xN p) x y else hs) gs lg xs)) := by
  have hp12 := hv.1.1
  have hs24 := hv.2.1
  have hall2 := hv.2.2.2.2.2.2.2
  have hq0 := hq
  refine amet_of pf_Mod_rule (Nat.le_of_ble_eq_true rfl) ?_
  show AW G m_Mod_rule 3 0 0 _ 0 [(0, .ref a), (1, .int p), (2, .int x), (3, .int y)] [] (nx, h) 0 0
  refine aw_aload_n (i := 0) d_Mod_rule_0 rfl rfl ?_
  refine aw_iconst (v := nI 0) d_Mod_rule_1 (by decide) ?_
  apply mo_put (f := 0) hm d_Mod_rule_2 pl_Mod_150 (ms_0 _ _ _) (by decide) rfl rfl; intro h hm
  have hq := hq0.kp (Kp.put (Ls := [0]) (La := []) (f := 0) (x := nI 0) rfl) rfl rfl rfl rfl
  have hh := hq.1
  have hg := hq.2.1
  have hr := hq.2.2.2.1
  refine aw_aload_n (i := 0) d_Mod_rule_5 rfl rfl ?_
  apply aw_callv_p (c_Mod_plays hm hg) d_Mod_rule_6 cl_Mod_170; exact hm.1.1; rfl; rfl; rfl; rfl; decide; exact Nat.le_of_ble_eq_true rfl; exact (Nat.le_refl _); exact (Nat.le_refl _)
  refine aw_ifB_ne d_Mod_rule_9 (fun br9_ => ?_) (fun br9_ => ?_)
  · skip
    have hr_ : okR hs gs p x y = false := by unfold okR; rw [br9_]; rfl
    refine aw_iconst (v := nI 0) d_Mod_rule_34 (by decide) ?_
    refine aw_zret d_Mod_rule_35 rfl rfl (Nat.le_refl _) (Nat.le_refl _) ?_
    exact ⟨_, _, _, rfl, hm, by rw [hr_]; rfl, rfl, by rw [hr_]; exact hq⟩
  · skip
    refine aw_aload_n (i := 0) d_Mod_rule_12 rfl rfl ?_
    refine aw_iload_n (i := 1) d_Mod_rule_13 rfl rfl ?_
    apply aw_callv_p (c_Mod_isProp hm.1 hh.1.1 (by omega) p) d_Mod_rule_14 cl_Mod_160; exact hm.1.1; rfl; rfl; rfl; rfl; decide; exact Nat.le_of_ble_eq_true rfl; exact (Nat.le_refl _); exact (Nat.le_refl _)
    refine aw_ifB_eq d_Mod_rule_17 (fun br17_ => ?_) (fun br17_ => ?_)
    · skip
      have hr_ : okR hs gs p x y = false := by unfold okR isPx; rw [br9_, br17_]; rfl
      refine aw_iconst (v := nI 0) d_Mod_rule_34 (by decide) ?_
      refine aw_zret d_Mod_rule_35 rfl rfl (Nat.le_refl _) (Nat.le_refl _) ?_
      exact ⟨_, _, _, rfl, hm, by rw [hr_]; rfl, rfl, by rw [hr_]; exact hq⟩
    · skip
      obtain ⟨p0, hp0, rfl⟩ := dec_ix br17_ (by omega)
      refine aw_iload_n (i := 1) d_Mod_rule_20 rfl rfl ?_
      refine aw_iload_n (i := 2) d_Mod_rule_21 rfl rfl ?_
      refine aw_icmp_eq d_Mod_rule_22 (fun br22_ => ?_) (fun br22_ => ?_)
      · skip
        have hr_ : okR hs gs (nI p0) x y = false := by unfold okR; rw [beq_iff_eq.mpr br22_]; simp
        refine aw_iconst (v := nI 0) d_Mod_rule_34 (by decide) ?_
        refine aw_zret d_Mod_rule_35 rfl rfl (Nat.le_refl _) (Nat.le_refl _) ?_
        exact ⟨_, _, _, rfl, hm, by rw [hr_]; rfl, rfl, by rw [hr_]; exact hq⟩
      · skip
        refine aw_aload_n (i := 0) d_Mod_rule_25 rfl rfl ?_
        refine aw_iload_n (i := 2) d_Mod_rule_26 rfl rfl ?_
        refine aw_iload_n (i := 3) d_Mod_rule_27 rfl rfl ?_
        apply aw_callv_p (c_Mod_isPair hm hh hv x y) d_Mod_rule_28 cl_Mod_193; exact hm.1.1; rfl; rfl; rfl; rfl; decide; exact Nat.le_of_ble_eq_true rfl; exact (Nat.le_refl _); exact (Nat.le_refl _)
        refine aw_ifB_ne d_Mod_rule_31 (fun br31_ => ?_) (fun br31_ => ?_)
        · skip
          have hr_ : okR hs gs (nI p0) x y = true := by unfold okR isPx; rw [br9_, br17_, beq_eq_false_iff_ne.mpr br22_, br31_]; rfl
          obtain ⟨x0, y0, hx0, hy0, rfl, rfl⟩ := prOK_ex br31_ hv
          refine aw_aload_n (i := 0) d_Mod_rule_36 rfl rfl ?_
          refine mo_get (f := 19) hm d_Mod_rule_37 fl_Mod_56 rfl ?_
          refine aw_iload_n (i := 1) d_Mod_rule_40 rfl rfl ?_
          refine aw_iload_n (i := 2) d_Mod_rule_41 rfl rfl ?_
          apply mo_st (f := 19) (N := 12) hm d_Mod_rule_42 rfl rfl (by decide); omega; intro h hm
          refine aw_aload_n (i := 0) d_Mod_rule_43 rfl rfl ?_
          refine mo_get (f := 20) hm d_Mod_rule_44 fl_Mod_59 rfl ?_
          refine aw_iload_n (i := 1) d_Mod_rule_47 rfl rfl ?_
          refine aw_iload_n (i := 3) d_Mod_rule_48 rfl rfl ?_
          apply mo_st (f := 20) (N := 12) hm d_Mod_rule_49 rfl rfl (by decide); omega; intro h hm
          refine aw_iconst (v := nI 1) d_Mod_rule_50 (by decide) ?_
          refine aw_zret d_Mod_rule_51 rfl rfl (Nat.le_refl _) (Nat.le_refl _) ?_
          refine ⟨_, _, _, rfl, hm, by rw [hr_]; rfl, rfl, ?_⟩
          rw [hr_, xN_nI (by omega)]
          show MoA _ _ (setP hs p0 (fun q : PSt => (q.1, q.2.1, nI x0, nI y0, q.2.2.2.2.1, q.2.2.2.2.2))) gs lg xs
          refine hq0.side (mh_setP (g := fun q : PSt => (q.1, q.2.1, nI x0, nI y0, q.2.2.2.2.1, q.2.2.2.2.2)) hq0.1 hp0 rfl rfl rfl rfl (fun g q1 q2 => by rcases (show g = 5 ∨ g = 6 ∨ g = 7 ∨ g = 8 ∨ g = 9 ∨ g = 10 ∨ g = 11 ∨ g = 12 ∨ g = 13 ∨ g = 14 ∨ g = 15 ∨ g = 16 ∨ g = 17 by omega) with q | q | q | q | q | q | q | q | q | q | q | q | q <;> subst q <;> rfl) (fun i ne hi q => ?_) (fun q => ?_)) (Ls := [0]) (La := [19, 20]) (((Kp.put (f := 0) rfl).tr (Kp.st (f := 19) rfl)).tr (Kp.st (f := 20) rfl)) (MoC.same (sp_MoK (fun _ => ⟨rfl, rfl⟩) hp0)) rfl rfl
          · obtain ⟨b1, b2, b3, b4, b5, b6⟩ := q
            exact ⟨b1, b2, by show upd (ar 19) p0 _ i = _; rw [pk_un ne]; exact b3, fun q9 => by show upd (ar 20) p0 _ i = _; rw [pk_un ne]; exact b4 q9, b5, b6⟩
          · obtain ⟨b1, b2, b3, b4, b5, b6⟩ := q
            exact ⟨b1, b2, by show upd (ar 19) p0 _ p0 = _; rw [pk_us], fun q9 => by show upd (ar 20) p0 _ p0 = _; rw [pk_us], b5, b6⟩
        · skip
          have hr_ : okR hs gs (nI p0) x y = false := by unfold okR; rw [br31_, Bool.and_false]
          refine aw_iconst (v := nI 0) d_Mod_rule_34 (by decide) ?_
          refine aw_zret d_Mod_rule_35 rfl rfl (Nat.le_refl _) (Nat.le_refl _) ?_
          exact ⟨_, _, _, rfl, hm, by rw [hr_]; rfl, rfl, by rw [hr_]; exact hq⟩

set_option maxHeartbeats 4000000 in
set_option maxRecDepth 20000 in
theorem c_Mod_exit {G : aG} {nx : Nat} {h h0 : Nat → Option aC} {a : Nat} {A : Nat → Nat} {sc : Nat → Int32} {ar : Nat → Nat → Int32} (hm : MoF h0 h a A sc ar) {hs : HSt} {gs : List GSt} {lg : List (Nat × Nat × Nat)} {xs : List Int32} (hq : MoA sc ar hs gs lg xs) (hv : VH hs) (p s : Int32) : AMet G m_Mod_exit 3 0 0 [.ref a, .int p, .int s] (nx, h) (MR nx a h0 A (fun r sc2 ar2 => r = some (.int (if okE hs gs p s then nI 1 else nI 0)) ∧ sc2 0 = 0 ∧ MoA sc2 ar2 (if okE hs gs p s then setE hs (xN p) s else hs) gs lg xs)) := by
  have hp12 := hv.1.1
  have hs24 := hv.2.1
  have hall2 := hv.2.2.2.2.2.2.2
  have hq0 := hq
  refine amet_of pf_Mod_exit (Nat.le_of_ble_eq_true rfl) ?_
  show AW G m_Mod_exit 3 0 0 _ 0 [(0, .ref a), (1, .int p), (2, .int s)] [] (nx, h) 0 0
  refine aw_aload_n (i := 0) d_Mod_exit_0 rfl rfl ?_
  refine aw_iconst (v := nI 0) d_Mod_exit_1 (by decide) ?_
  apply mo_put (f := 0) hm d_Mod_exit_2 pl_Mod_150 (ms_0 _ _ _) (by decide) rfl rfl; intro h hm
  have hq := hq0.kp (Kp.put (Ls := [0]) (La := []) (f := 0) (x := nI 0) rfl) rfl rfl rfl rfl
  have hh := hq.1
  have hg := hq.2.1
  have hr := hq.2.2.2.1
  refine aw_aload_n (i := 0) d_Mod_exit_5 rfl rfl ?_
  apply aw_callv_p (c_Mod_plays hm hg) d_Mod_exit_6 cl_Mod_170; exact hm.1.1; rfl; rfl; rfl; rfl; decide; exact Nat.le_of_ble_eq_true rfl; exact (Nat.le_refl _); exact (Nat.le_refl _)
  refine aw_ifB_ne d_Mod_exit_9 (fun br9_ => ?_) (fun br9_ => ?_)
  · skip
    have hr_ : okE hs gs p s = false := by unfold okE; rw [br9_]; rfl
    refine aw_iconst (v := nI 0) d_Mod_exit_21 (by decide) ?_
    refine aw_zret d_Mod_exit_22 rfl rfl (Nat.le_refl _) (Nat.le_refl _) ?_
    exact ⟨_, _, _, rfl, hm, by rw [hr_]; rfl, rfl, by rw [hr_]; exact hq⟩
  · skip
    refine aw_aload_n (i := 0) d_Mod_exit_12 rfl rfl ?_
    refine aw_iload_n (i := 1) d_Mod_exit_13 rfl rfl ?_
    refine aw_iload_n (i := 2) d_Mod_exit_14 rfl rfl ?_
    apply aw_callv_p (c_Mod_isPair hm hh hv p s) d_Mod_exit_15 cl_Mod_193; exact hm.1.1; rfl; rfl; rfl; rfl; decide; exact Nat.le_of_ble_eq_true rfl; exact (Nat.le_refl _); exact (Nat.le_refl _)
    refine aw_ifB_ne d_Mod_exit_18 (fun br18_ => ?_) (fun br18_ => ?_)
    · skip
      have hr_ : okE hs gs p s = true := by unfold okE; rw [br9_, br18_]; rfl
      obtain ⟨p0, s0, hp0, hs0, rfl, rfl⟩ := prOK_ex br18_ hv
      refine aw_aload_n (i := 0) d_Mod_exit_23 rfl rfl ?_
      refine mo_get (f := 21) hm d_Mod_exit_24 fl_Mod_62 rfl ?_
      refine aw_iload_n (i := 1) d_Mod_exit_27 rfl rfl ?_
      refine aw_iload_n (i := 2) d_Mod_exit_28 rfl rfl ?_
      apply mo_st (f := 21) (N := 12) hm d_Mod_exit_29 rfl rfl (by decide); omega; intro h hm
      refine aw_iconst (v := nI 1) d_Mod_exit_30 (by decide) ?_
      refine aw_zret d_Mod_exit_31 rfl rfl (Nat.le_refl _) (Nat.le_refl _) ?_
      refine ⟨_, _, _, rfl, hm, by rw [hr_]; rfl, rfl, ?_⟩
      rw [hr_, xN_nI (by omega)]
      show MoA _ _ (setP hs p0 (fun q : PSt => (q.1, q.2.1, q.2.2.1, q.2.2.2.1, nI s0, q.2.2.2.2.2))) gs lg xs
      refine hq0.side (mh_setP (g := fun q : PSt => (q.1, q.2.1, q.2.2.1, q.2.2.2.1, nI s0, q.2.2.2.2.2)) hq0.1 hp0 rfl rfl rfl rfl (fun g q1 q2 => by rcases (show g = 5 ∨ g = 6 ∨ g = 7 ∨ g = 8 ∨ g = 9 ∨ g = 10 ∨ g = 11 ∨ g = 12 ∨ g = 13 ∨ g = 14 ∨ g = 15 ∨ g = 16 ∨ g = 17 by omega) with q | q | q | q | q | q | q | q | q | q | q | q | q <;> subst q <;> rfl) (fun i ne hi q => ?_) (fun q => ?_)) (Ls := [0]) (La := [21]) ((Kp.put (f := 0) rfl).tr (Kp.st (f := 21) rfl)) (MoC.same (sp_MoK (fun _ => ⟨rfl, rfl⟩) hp0)) rfl rfl
      · obtain ⟨b1, b2, b3, b4, b5, b6⟩ := q
        exact ⟨b1, b2, b3, b4, by show upd (ar 21) p0 _ i = _; rw [pk_un ne]; exact b5, b6⟩
      · obtain ⟨b1, b2, b3, b4, b5, b6⟩ := q
        exact ⟨b1, b2, b3, b4, by show upd (ar 21) p0 _ p0 = _; rw [pk_us], b6⟩
    · skip
      have hr_ : okE hs gs p s = false := by unfold okE; rw [br18_, Bool.and_false]
      refine aw_iconst (v := nI 0) d_Mod_exit_21 (by decide) ?_
      refine aw_zret d_Mod_exit_22 rfl rfl (Nat.le_refl _) (Nat.le_refl _) ?_
      exact ⟨_, _, _, rfl, hm, by rw [hr_]; rfl, rfl, by rw [hr_]; exact hq⟩

set_option maxHeartbeats 4000000 in
set_option maxRecDepth 20000 in
theorem c_Mod_reading {G : aG} {nx : Nat} {h h0 : Nat → Option aC} {a : Nat} {A : Nat → Nat} {sc : Nat → Int32} {ar : Nat → Nat → Int32} (hm : MoF h0 h a A sc ar) {hs : HSt} {gs : List GSt} {lg : List (Nat × Nat × Nat)} {xs : List Int32} (hq : MoA sc ar hs gs lg xs) (hv : VH hs) (p s : Int32) : AMet G m_Mod_reading 2 0 0 [.ref a, .int p, .int s] (nx, h) (MR nx a h0 A (fun r sc2 ar2 => r = some (.int (if okD hs p s then nI 1 else nI 0)) ∧ sc2 0 = 0 ∧ MoA sc2 ar2 (if okD hs p s then setD hs (xN p) s else hs) gs lg xs)) := by
  have hp12 := hv.1.1
  have hs24 := hv.2.1
  have hall2 := hv.2.2.2.2.2.2.2
  have hq0 := hq
  refine amet_of pf_Mod_reading (Nat.le_of_ble_eq_true rfl) ?_
  show AW G m_Mod_reading 2 0 0 _ 0 [(0, .ref a), (1, .int p), (2, .int s)] [] (nx, h) 0 0
  refine aw_aload_n (i := 0) d_Mod_reading_0 rfl rfl ?_
  refine aw_iconst (v := nI 0) d_Mod_reading_1 (by decide) ?_
  apply mo_put (f := 0) hm d_Mod_reading_2 pl_Mod_150 (ms_0 _ _ _) (by decide) rfl rfl; intro h hm
  have hq := hq0.kp (Kp.put (Ls := [0]) (La := []) (f := 0) (x := nI 0) rfl) rfl rfl rfl rfl
  have hh := hq.1
  have hg := hq.2.1
  have hr := hq.2.2.2.1
  refine aw_aload_n (i := 0) d_Mod_reading_5 rfl rfl ?_
  refine aw_iload_n (i := 1) d_Mod_reading_6 rfl rfl ?_
  apply aw_callv_p (c_Mod_isProp hm.1 hh.1.1 (by omega) p) d_Mod_reading_7 cl_Mod_160; exact hm.1.1; rfl; rfl; rfl; rfl; decide; exact Nat.le_of_ble_eq_true rfl; exact (Nat.le_refl _); exact (Nat.le_refl _)
  refine aw_ifB_eq d_Mod_reading_10 (fun br10_ => ?_) (fun br10_ => ?_)
  · skip
    have hr_ : okD hs p s = false := by unfold okD isPx; rw [br10_]; rfl
    refine aw_iconst (v := nI 0) d_Mod_reading_36 (by decide) ?_
    refine aw_zret d_Mod_reading_37 rfl rfl (Nat.le_refl _) (Nat.le_refl _) ?_
    exact ⟨_, _, _, rfl, hm, by rw [hr_]; rfl, rfl, by rw [hr_]; exact hq⟩
  · skip
    obtain ⟨p0, hp0, rfl⟩ := dec_ix br10_ (by omega)
    have hks := hv.1.k hp0
    have hpp : prOK hs (nI p0) s = decide (0 ≤ s ∧ s < nI (hs.1.getD p0 pz).1) := by unfold prOK; rw [br10_, show (nI p0).toNatClampNeg = p0 from nI_clamp (by omega)]; rfl
    refine aw_iload_n (i := 2) d_Mod_reading_13 rfl rfl ?_
    refine aw_iconst (v := -1) d_Mod_reading_14 (by decide) ?_
    refine aw_icmp_eq d_Mod_reading_15 (fun br15_ => ?_) (fun br15_ => ?_)
    · skip
      have hr_ : okD hs (nI p0) s = true := by unfold okD isPx; rw [br10_, beq_iff_eq.mpr br15_]; rfl
      refine aw_aload_n (i := 0) d_Mod_reading_38 rfl rfl ?_
      refine mo_get (f := 22) hm d_Mod_reading_39 fl_Mod_65 rfl ?_
      refine aw_iload_n (i := 1) d_Mod_reading_42 rfl rfl ?_
      refine aw_iload_n (i := 2) d_Mod_reading_43 rfl rfl ?_
      apply mo_st (f := 22) (N := 12) hm d_Mod_reading_44 rfl rfl (by decide); omega; intro h hm
      refine aw_iconst (v := nI 1) d_Mod_reading_45 (by decide) ?_
      refine aw_zret d_Mod_reading_46 rfl rfl (Nat.le_refl _) (Nat.le_refl _) ?_
      refine ⟨_, _, _, rfl, hm, by rw [hr_]; rfl, rfl, ?_⟩
      rw [hr_, xN_nI (by omega)]
      show MoA _ _ (setP hs p0 (fun q : PSt => (q.1, q.2.1, q.2.2.1, q.2.2.2.1, q.2.2.2.2.1, s))) gs lg xs
      refine hq0.side (mh_setP (g := fun q : PSt => (q.1, q.2.1, q.2.2.1, q.2.2.2.1, q.2.2.2.2.1, s)) hq0.1 hp0 rfl rfl rfl rfl (fun g q1 q2 => by rcases (show g = 5 ∨ g = 6 ∨ g = 7 ∨ g = 8 ∨ g = 9 ∨ g = 10 ∨ g = 11 ∨ g = 12 ∨ g = 13 ∨ g = 14 ∨ g = 15 ∨ g = 16 ∨ g = 17 by omega) with q | q | q | q | q | q | q | q | q | q | q | q | q <;> subst q <;> rfl) (fun i ne hi q => ?_) (fun q => ?_)) (Ls := [0]) (La := [22]) ((Kp.put (f := 0) rfl).tr (Kp.st (f := 22) rfl)) (MoC.same (sp_MoK (fun _ => ⟨rfl, rfl⟩) hp0)) rfl rfl
      · obtain ⟨b1, b2, b3, b4, b5, b6⟩ := q
        exact ⟨b1, b2, b3, b4, b5, by show upd (ar 22) p0 _ i = _; rw [pk_un ne]; exact b6⟩
      · obtain ⟨b1, b2, b3, b4, b5, b6⟩ := q
        exact ⟨b1, b2, b3, b4, b5, by show upd (ar 22) p0 _ p0 = _; rw [pk_us]⟩
    · skip
      refine aw_iload_n (i := 2) d_Mod_reading_18 rfl rfl ?_
      refine aw_i2l d_Mod_reading_19 ?_
      refine aw_lconst (v := 0) d_Mod_reading_20 (by decide) ?_
      refine aw_aload_n (i := 0) d_Mod_reading_21 rfl rfl ?_
      refine mo_get (f := 2) hm d_Mod_reading_22 fl_Mod_9 rfl ?_
      refine aw_iload_n (i := 1) d_Mod_reading_25 rfl rfl ?_
      apply mo_ld (f := 2) (N := 12) hm d_Mod_reading_26 rfl rfl (by decide); omega; exact (hh.2.1 _ (by omega)).1
      refine aw_iconst (v := 1) d_Mod_reading_27 (by decide) ?_
      refine aw_isub d_Mod_reading_28 ?_
      refine aw_i2l d_Mod_reading_29 ?_
      apply aw_calls_p (c_Mod_in _ _ _) d_Mod_reading_30 cl_Mod_156; rfl; rfl; decide; exact Nat.le_of_ble_eq_true rfl; exact (Nat.le_refl _); exact (Nat.le_refl _)
      rw [in_ixd (by omega)]
      refine aw_ifB_ne d_Mod_reading_33 (fun br33_ => ?_) (fun br33_ => ?_)
      · skip
        have hr_ : okD hs (nI p0) s = true := by unfold okD isPx; rw [hpp, br33_, br10_]; simp
        refine aw_aload_n (i := 0) d_Mod_reading_38 rfl rfl ?_
        refine mo_get (f := 22) hm d_Mod_reading_39 fl_Mod_65 rfl ?_
        refine aw_iload_n (i := 1) d_Mod_reading_42 rfl rfl ?_
        refine aw_iload_n (i := 2) d_Mod_reading_43 rfl rfl ?_
        apply mo_st (f := 22) (N := 12) hm d_Mod_reading_44 rfl rfl (by decide); omega; intro h hm
        refine aw_iconst (v := nI 1) d_Mod_reading_45 (by decide) ?_
        refine aw_zret d_Mod_reading_46 rfl rfl (Nat.le_refl _) (Nat.le_refl _) ?_
        refine ⟨_, _, _, rfl, hm, by rw [hr_]; rfl, rfl, ?_⟩
        rw [hr_, xN_nI (by omega)]
        show MoA _ _ (setP hs p0 (fun q : PSt => (q.1, q.2.1, q.2.2.1, q.2.2.2.1, q.2.2.2.2.1, s))) gs lg xs
        refine hq0.side (mh_setP (g := fun q : PSt => (q.1, q.2.1, q.2.2.1, q.2.2.2.1, q.2.2.2.2.1, s)) hq0.1 hp0 rfl rfl rfl rfl (fun g q1 q2 => by rcases (show g = 5 ∨ g = 6 ∨ g = 7 ∨ g = 8 ∨ g = 9 ∨ g = 10 ∨ g = 11 ∨ g = 12 ∨ g = 13 ∨ g = 14 ∨ g = 15 ∨ g = 16 ∨ g = 17 by omega) with q | q | q | q | q | q | q | q | q | q | q | q | q <;> subst q <;> rfl) (fun i ne hi q => ?_) (fun q => ?_)) (Ls := [0]) (La := [22]) ((Kp.put (f := 0) rfl).tr (Kp.st (f := 22) rfl)) (MoC.same (sp_MoK (fun _ => ⟨rfl, rfl⟩) hp0)) rfl rfl
        · obtain ⟨b1, b2, b3, b4, b5, b6⟩ := q
          exact ⟨b1, b2, b3, b4, b5, by show upd (ar 22) p0 _ i = _; rw [pk_un ne]; exact b6⟩
        · obtain ⟨b1, b2, b3, b4, b5, b6⟩ := q
          exact ⟨b1, b2, b3, b4, b5, by show upd (ar 22) p0 _ p0 = _; rw [pk_us]⟩
      · skip
        have hr_ : okD hs (nI p0) s = false := by unfold okD; rw [hpp, br33_, beq_eq_false_iff_ne.mpr br15_]; simp
        refine aw_iconst (v := nI 0) d_Mod_reading_36 (by decide) ?_
        refine aw_zret d_Mod_reading_37 rfl rfl (Nat.le_refl _) (Nat.le_refl _) ?_
        exact ⟨_, _, _, rfl, hm, by rw [hr_]; rfl, rfl, by rw [hr_]; exact hq⟩

set_option maxHeartbeats 4000000 in
set_option maxRecDepth 20000 in
theorem c_Mod_clear {G : aG} {nx : Nat} {h h0 : Nat → Option aC} {a : Nat} {A : Nat → Nat} {sc : Nat → Int32} {ar : Nat → Nat → Int32} (hm : MoF h0 h a A sc ar) {hs : HSt} {gs : List GSt} {lg : List (Nat × Nat × Nat)} {xs : List Int32} (hq : MoA sc ar hs gs lg xs) (hv : VH hs) : AMet G m_Mod_clear 0 0 0 [.ref a] (nx, h) (MR nx a h0 A (fun r sc2 ar2 => r = some (.int (nI hs.1.length)) ∧ sc2 0 = 0 ∧ MoA sc2 ar2 hsC (gsC gs) [] [])) := by
  have hp12 := hv.1.1
  have hs24 := hv.2.1
  have hall2 := hv.2.2.2.2.2.2.2
  have hq0 := hq
  refine amet_of pf_Mod_clear (Nat.le_of_ble_eq_true rfl) ?_
  show AW G m_Mod_clear 0 0 0 _ 0 [(0, .ref a)] [] (nx, h) 0 0
  refine aw_aload_n (i := 0) d_Mod_clear_0 rfl rfl ?_
  refine aw_iconst (v := nI 0) d_Mod_clear_1 (by decide) ?_
  apply mo_put (f := 0) hm d_Mod_clear_2 pl_Mod_150 (ms_0 _ _ _) (by decide) rfl rfl; intro h hm
  have hq := hq0.kp (Kp.put (Ls := [0]) (La := []) (f := 0) (x := nI 0) rfl) rfl rfl rfl rfl
  have hh := hq.1
  have hg := hq.2.1
  have hr := hq.2.2.2.1
  refine aw_aload_n (i := 0) d_Mod_clear_5 rfl rfl ?_
  apply mo_gets (f := 1) hm d_Mod_clear_6 fl_Mod_153 rfl; exact hh.1.1
  refine aw_istore_n (i := 1) (lv2 := [(0, _), (1, _)]) d_Mod_clear_9 rfl (by decide) rfl ?_
  refine aw_aload_n (i := 0) d_Mod_clear_10 rfl rfl ?_
  refine aw_iconst (v := nI 0) d_Mod_clear_11 (by decide) ?_
  apply mo_put (f := 1) hm d_Mod_clear_12 pl_Mod_153 (ms_1 _ _ _) (by decide) rfl rfl; intro h hm
  refine aw_aload_n (i := 0) d_Mod_clear_15 rfl rfl ?_
  refine aw_iconst (v := nI 0) d_Mod_clear_16 (by decide) ?_
  apply mo_put (f := 4) hm d_Mod_clear_17 pl_Mod_164 (ms_4 _ _ _) (by decide) rfl rfl; intro h hm
  refine aw_aload_n (i := 0) d_Mod_clear_20 rfl rfl ?_
  refine aw_iconst (v := nI 0) d_Mod_clear_21 (by decide) ?_
  apply mo_put (f := 15) hm d_Mod_clear_22 pl_Mod_197 (ms_15 _ _ _) (by decide) rfl rfl; intro h hm
  refine aw_aload_n (i := 0) d_Mod_clear_25 rfl rfl ?_
  refine aw_iconst (v := nI 2) d_Mod_clear_26 (by decide) ?_
  apply mo_put (f := 18) hm d_Mod_clear_27 pl_Mod_52 (ms_18 _ _ _) (by decide) rfl rfl; intro h hm
  refine aw_aload_n (i := 0) d_Mod_clear_30 rfl rfl ?_
  refine aw_iconst (v := nI 0) d_Mod_clear_31 (by decide) ?_
  apply mo_put (f := 50) hm d_Mod_clear_32 pl_Mod_200 (ms_50 _ _ _) (by decide) rfl rfl; intro h hm
  refine aw_aload_n (i := 0) d_Mod_clear_35 rfl rfl ?_
  refine aw_iconst (v := nI 0) d_Mod_clear_36 (by decide) ?_
  apply mo_put (f := 39) hm d_Mod_clear_37 pl_Mod_203 (ms_39 _ _ _) (by decide) rfl rfl; intro h hm
  obtain ⟨S_, B_, hm, hS_, hB_⟩ : ∃ S B, MoF h0 h a A S B ∧ S = _ ∧ B = _ := ⟨_, _, hm, rfl, rfl⟩
  refine aw_iconst (v := nI 0) d_Mod_clear_40 (by decide) ?_
  refine aw_istore_n (i := 2) (lv2 := [(0, _), (1, _), (2, _)]) d_Mod_clear_41 rfl (by decide) rfl ?_
  refine mloop (h0 := h0) (a := a) (A := A) (4) (fun i h sc1 ar1 => AW G m_Mod_clear 0 0 0 _ 42 [(0, .ref a), (1, .int (nI hs.1.length)), (2, .int (nI i))] [] (nx, h) 0 0) (fun i sc1 ar1 => Kp [] [44] S_ B_ sc1 ar1 ∧ ∀ q, q < i → ar1 44 q = 0) ?_ 0 _ _ _ (Nat.zero_le _) hm ⟨Kp.rf, fun q hq => absurd hq (Nat.not_lt_zero _)⟩
  intro i h sc1 ar1 hi_i hm hI ih
  refine aw_iload_n (i := 2) d_Mod_clear_42 rfl rfl ?_
  refine aw_iconst (v := nI 4) d_Mod_clear_43 (by decide) ?_
  refine aw_icmpN_ge d_Mod_clear_44 (by omega) (by omega) (fun br44_ => ?_) (fun br44_ => ?_)
  · skip
    have ei : i = 4 := by omega
    subst ei
    refine aw_aload_n (i := 0) d_Mod_clear_60 rfl rfl ?_
    refine aw_iconst (v := nI 1) d_Mod_clear_61 (by decide) ?_
    apply mo_put (f := 23) hm d_Mod_clear_62 pl_Mod_68 (ms_23 _ _ _) (by decide) rfl rfl; intro h hm
    refine aw_iload_n (i := 1) d_Mod_clear_65 rfl rfl ?_
    refine aw_iret d_Mod_clear_66 rfl (Nat.le_refl _) (Nat.le_refl _) ?_
    have hx := hI.1
    rw [hS_, hB_] at hx
    refine ⟨_, _, _, rfl, hm, rfl, (hx.1 0 rfl).trans rfl, MoH.mk ((hx.1 1 rfl).trans rfl) ((hx.1 4 rfl).trans rfl) ((hx.1 15 rfl).trans rfl) ((hx.1 18 rfl).trans rfl) (fun i hi => absurd hi (Nat.not_lt_zero _)) (fun i hi => absurd hi (Nat.not_lt_zero _)) (fun i hi => absurd hi (Nat.not_lt_zero _)), ⟨by unfold gsC; rw [List.length_map]; exact hq0.2.1.1, fun g hg9 => ?_⟩, ⟨(hx.1 50 rfl).trans rfl, Nat.zero_le _, fun k hk => absurd hk (Nat.not_lt_zero _)⟩, ⟨(hx.1 39 rfl).trans rfl, Nat.zero_le _, fun k hk => absurd hk (Nat.not_lt_zero _)⟩, ⟨true, rfl, fun q => by cases q⟩⟩
    have hg4 : g < gs.length := by rw [hq0.2.1.1]; exact hg9
    have e9 : ((gsC gs).getD g gz0).1 = false := by unfold gsC; rw [gd_map _ (d := gz0) hg4]
    rw [e9]
    exact ⟨hI.2 g hg9, fun q => by cases q⟩
  · skip
    refine aw_aload_n (i := 0) d_Mod_clear_47 rfl rfl ?_
    refine mo_get (f := 44) hm d_Mod_clear_48 fl_Mod_123 rfl ?_
    refine aw_iload_n (i := 2) d_Mod_clear_51 rfl rfl ?_
    refine aw_iconst (v := nI 0) d_Mod_clear_52 (by decide) ?_
    apply mo_zst (f := 44) (N := 4) hm d_Mod_clear_53 rfl rfl (by decide); omega; exact rfl; intro h hm
    refine aw_iincN (lv2 := [(0, _), (1, _), (2, _)]) d_Mod_clear_54 (by decide) rfl rfl ?_
    refine aw_goto d_Mod_clear_57 ?_
    refine ih br44_ _ _ _ hm ⟨hI.1.tr (Kp.st rfl), fun q hq => ?_⟩
    show upd (ar1 44) i _ q = _
    by_cases e : q = i
    · subst e; rw [pk_us]; rfl
    · rw [pk_un e]; exact hI.2 q (by omega)

def sRow (xs : List Int32) (i : Int32) : Option Int32 := if decide (0 ≤ i ∧ i < nI xs.length) then xs[xN i]? else none
theorem sRow_f {xs : List Int32} {i : Int32} (h : decide (0 ≤ i ∧ i < nI xs.length) = false) : sRow xs i = none := by unfold sRow; rw [h]; rfl
theorem sRow_t {xs : List Int32} {i : Nat} (h : decide (0 ≤ nI i ∧ nI i < nI xs.length) = true) (hi : i < xs.length) (hl : xs.length ≤ 20004) : sRow xs (nI i) = some xs[i] := by
  unfold sRow; rw [h, xN_nI (by omega)]; simp [hi]
set_option maxHeartbeats 4000000 in
set_option maxRecDepth 20000 in
theorem c_Mod_row {G : aG} {nx : Nat} {h h0 : Nat → Option aC} {a : Nat} {A : Nat → Nat} {sc : Nat → Int32} {ar : Nat → Nat → Int32} (hm : MoF h0 h a A sc ar) {hs : HSt} {gs : List GSt} {lg : List (Nat × Nat × Nat)} {xs : List Int32} (hq : MoA sc ar hs gs lg xs) (hv : VH hs) (i : Int32) : AMet G m_Mod_row 1 0 0 [.ref a, .int i] (nx, h) (MR nx a h0 A (fun r sc2 ar2 => r = some (.int ((sRow xs i).getD 0)) ∧ sc2 0 = bI (sRow xs i).isNone ∧ MoA sc2 ar2 hs gs lg xs)) := by
  have hp12 := hv.1.1
  have hs24 := hv.2.1
  have hall2 := hv.2.2.2.2.2.2.2
  have hq0 := hq
  refine amet_of pf_Mod_row (Nat.le_of_ble_eq_true rfl) ?_
  show AW G m_Mod_row 1 0 0 _ 0 [(0, .ref a), (1, .int i)] [] (nx, h) 0 0
  refine aw_aload_n (i := 0) d_Mod_row_0 rfl rfl ?_
  refine aw_iconst (v := nI 0) d_Mod_row_1 (by decide) ?_
  apply mo_put (f := 0) hm d_Mod_row_2 pl_Mod_150 (ms_0 _ _ _) (by decide) rfl rfl; intro h hm
  have hq := hq0.kp (Kp.put (Ls := [0]) (La := []) (f := 0) (x := nI 0) rfl) rfl rfl rfl rfl
  have hh := hq.1
  have hg := hq.2.1
  have hr := hq.2.2.2.1
  refine aw_iload_n (i := 1) d_Mod_row_5 rfl rfl ?_
  refine aw_i2l d_Mod_row_6 ?_
  refine aw_lconst (v := 0) d_Mod_row_7 (by decide) ?_
  refine aw_aload_n (i := 0) d_Mod_row_8 rfl rfl ?_
  apply mo_gets (f := 39) hm d_Mod_row_9 fl_Mod_203 rfl; exact hr.1
  refine aw_iconst (v := 1) d_Mod_row_12 (by decide) ?_
  refine aw_isub d_Mod_row_13 ?_
  refine aw_i2l d_Mod_row_14 ?_
  apply aw_calls_p (c_Mod_in _ _ _) d_Mod_row_15 cl_Mod_156; rfl; rfl; decide; exact Nat.le_of_ble_eq_true rfl; exact (Nat.le_refl _); exact (Nat.le_refl _)
  rw [in_ixd (by have := hr.2.1; omega)]
  refine aw_ifB_eq d_Mod_row_18 (fun br18_ => ?_) (fun br18_ => ?_)
  · skip
    have hr_ := sRow_f br18_
    refine aw_aload_n (i := 0) d_Mod_row_30 rfl rfl ?_
    apply aw_callv_MI (c_Mod_refuse hm) d_Mod_row_31 cl_Mod_262; exact hm.1.1; rfl; rfl; rfl; rfl; decide; exact Nat.le_of_ble_eq_true rfl; exact Nat.le_refl _; exact Nat.le_refl _
    rintro h sc1 ar1 hm ⟨h0_, hK⟩
    have hq := hq.kp hK rfl rfl rfl rfl
    refine aw_iret d_Mod_row_34 rfl (Nat.le_refl _) (Nat.le_refl _) ?_
    exact ⟨_, _, _, rfl, hm, by rw [hr_]; rfl, by rw [hr_]; exact h0_, hq⟩
  · skip
    have hxl := hr.2.1
    obtain ⟨i0, hi0, rfl⟩ := dec_ix br18_ (by omega)
    have hr_ := sRow_t br18_ hi0 hxl
    refine aw_aload_n (i := 0) d_Mod_row_21 rfl rfl ?_
    refine mo_get (f := 38) hm d_Mod_row_22 fl_Mod_108 rfl ?_
    refine aw_iload_n (i := 1) d_Mod_row_25 rfl rfl ?_
    apply mo_ld (f := 38) (N := 20004) hm d_Mod_row_26 rfl rfl (by decide); omega; exact (hr.2.2 _ hi0)
    refine aw_goto d_Mod_row_27 ?_
    refine aw_iret d_Mod_row_34 rfl (Nat.le_refl _) (Nat.le_refl _) ?_
    exact ⟨_, _, _, rfl, hm, by rw [hr_]; rfl, by rw [hr_]; rfl, hq⟩

def cntL (hs : HSt) (gs : List GSt) (lg : List (Nat × Nat × Nat)) (xs : List Int32) : List Int32 := [nI hs.1.length, nI hs.2.1.length, nI hs.2.2.1.length, nI (hall hs), nI hs.2.2.2, nI (cnt (fun g => g.1) gs), nI xs.length, nI lg.length, nI (hsta hs)]
def sCnt (hs : HSt) (gs : List GSt) (lg : List (Nat × Nat × Nat)) (xs : List Int32) (w : Int32) : Int32 := if rng 0 8 w then (cntL hs gs lg xs).getD (xN w) 0 else -1
theorem sCnt_d {hs : HSt} {gs : List GSt} {lg : List (Nat × Nat × Nat)} {xs : List Int32} {w : Int32} (h : ∀ j : Nat, j < 9 → ¬ w = nI j) : sCnt hs gs lg xs w = -1 := by
  unfold sCnt
  cases e : rng 0 8 w
  · rfl
  · obtain ⟨k, h1, h2, rfl⟩ := rng_of e (by decide) (by decide)
    exact absurd rfl (h k (by omega))
set_option maxHeartbeats 4000000 in
set_option maxRecDepth 20000 in
theorem c_Mod_count {G : aG} {nx : Nat} {h h0 : Nat → Option aC} {a : Nat} {A : Nat → Nat} {sc : Nat → Int32} {ar : Nat → Nat → Int32} (hm : MoF h0 h a A sc ar) {hs : HSt} {gs : List GSt} {lg : List (Nat × Nat × Nat)} {xs : List Int32} (hq : MoA sc ar hs gs lg xs) (hv : VH hs) (w9 : Int32) : AMet G m_Mod_count 2 0 0 [.ref a, .int w9] (nx, h) (MR nx a h0 A (fun r sc2 ar2 => r = some (.int (sCnt hs gs lg xs w9)) ∧ sc2 0 = 0 ∧ MoA sc2 ar2 hs gs lg xs)) := by
  have hp12 := hv.1.1
  have hs24 := hv.2.1
  have hall2 := hv.2.2.2.2.2.2.2
  have hq0 := hq
  refine amet_of pf_Mod_count (Nat.le_of_ble_eq_true rfl) ?_
  show AW G m_Mod_count 2 0 0 _ 0 [(0, .ref a), (1, .int w9)] [] (nx, h) 0 0
  refine aw_aload_n (i := 0) d_Mod_count_0 rfl rfl ?_
  refine aw_iconst (v := nI 0) d_Mod_count_1 (by decide) ?_
  apply mo_put (f := 0) hm d_Mod_count_2 pl_Mod_150 (ms_0 _ _ _) (by decide) rfl rfl; intro h hm
  have hq := hq0.kp (Kp.put (Ls := [0]) (La := []) (f := 0) (x := nI 0) rfl) rfl rfl rfl rfl
  have hh := hq.1
  have hg := hq.2.1
  have hr := hq.2.2.2.1
  refine aw_aload_n (i := 0) d_Mod_count_5 rfl rfl ?_
  apply aw_callv_M0 (c_Mod_weigh hm hh hv) d_Mod_count_6 cl_Mod_228; exact hm.1.1; rfl; rfl; rfl; rfl; decide; exact Nat.le_of_ble_eq_true rfl; exact Nat.le_refl _; exact Nat.le_refl _
  rintro h sc1 ar1 hm ⟨hw, hf_, hK⟩
  have hz := hK.1 0 rfl
  have hq := hq.kp hK rfl rfl rfl rfl
  have hh := hq.1
  have hg := hq.2.1
  have hr := hq.2.2.2.1
  refine aw_iconst (v := nI 0) d_Mod_count_9 (by decide) ?_
  refine aw_istore_n (i := 2) (lv2 := [(0, _), (1, _), (2, _)]) d_Mod_count_10 rfl (by decide) rfl ?_
  refine aw_iconst (v := nI 0) d_Mod_count_11 (by decide) ?_
  refine aw_istore_n (i := 3) (lv2 := [(0, _), (1, _), (2, _), (3, _)]) d_Mod_count_12 rfl (by decide) rfl ?_
  show AW G m_Mod_count 2 0 0 _ 13 [(0, .ref a), (1, .int w9), (2, .int (nI (cnt (fun g => g.1) (gs.take 0)))), (3, .int (nI 0))] [] (nx, h) 0 0
  refine upto (σ := Nat) (fun i => AW G m_Mod_count 2 0 0 _ 13 [(0, .ref a), (1, .int w9), (2, .int (nI (cnt (fun g => g.1) (gs.take i)))), (3, .int (nI i))] [] (nx, h) 0 0) (fun i s => s = i) 4 ?_ 0 0 (Nat.zero_le _) rfl
  intro i s9 hi hI ih
  subst hI
  refine aw_iload_n (i := 3) d_Mod_count_13 rfl rfl ?_
  refine aw_iconst (v := nI 4) d_Mod_count_14 (by decide) ?_
  refine aw_icmpN_ge d_Mod_count_15 (by omega) (by omega) (fun br15_ => ?_) (fun br15_ => ?_)
  · skip
    have ei : s9 = 4 := by omega
    subst ei
    rw [List.take_of_length_le (by rw [hg.1]; exact Nat.le_refl _)]
    refine aw_iload_n (i := 1) d_Mod_count_41 rfl rfl ?_
    refine aw_tsw d_Mod_count_42 (fun j_ t_ ej_ et_ => ?_) (fun hno_ => ?_)
    · rcases j_ with _ | _ | _ | _ | _ | _ | _ | _ | _ | j_
      · have e_ : 92 = t_ := Option.some.inj et_
        subst e_
        clear et_
        subst ej_
        refine aw_aload_n (i := 0) d_Mod_count_92 rfl rfl ?_
        apply mo_gets (f := 1) hm d_Mod_count_93 fl_Mod_153 rfl; exact hh.1.1
        refine aw_iret d_Mod_count_96 rfl (Nat.le_refl _) (Nat.le_refl _) ?_
        exact ⟨_, _, _, rfl, hm, rfl, hz.trans rfl, hq⟩
      · have e_ : 97 = t_ := Option.some.inj et_
        subst e_
        clear et_
        subst ej_
        refine aw_aload_n (i := 0) d_Mod_count_97 rfl rfl ?_
        apply mo_gets (f := 4) hm d_Mod_count_98 fl_Mod_164 rfl; exact hh.1.2.1
        refine aw_iret d_Mod_count_101 rfl (Nat.le_refl _) (Nat.le_refl _) ?_
        exact ⟨_, _, _, rfl, hm, rfl, hz.trans rfl, hq⟩
      · have e_ : 102 = t_ := Option.some.inj et_
        subst e_
        clear et_
        subst ej_
        refine aw_aload_n (i := 0) d_Mod_count_102 rfl rfl ?_
        apply mo_gets (f := 15) hm d_Mod_count_103 fl_Mod_197 rfl; exact hh.1.2.2.1
        refine aw_iret d_Mod_count_106 rfl (Nat.le_refl _) (Nat.le_refl _) ?_
        exact ⟨_, _, _, rfl, hm, rfl, hz.trans rfl, hq⟩
      · have e_ : 107 = t_ := Option.some.inj et_
        subst e_
        clear et_
        subst ej_
        refine aw_aload_n (i := 0) d_Mod_count_107 rfl rfl ?_
        apply mo_gets (f := 26) hm d_Mod_count_108 fl_Mod_206 rfl; exact hw.1
        refine aw_iret d_Mod_count_111 rfl (Nat.le_refl _) (Nat.le_refl _) ?_
        exact ⟨_, _, _, rfl, hm, rfl, hz.trans rfl, hq⟩
      · have e_ : 112 = t_ := Option.some.inj et_
        subst e_
        clear et_
        subst ej_
        refine aw_aload_n (i := 0) d_Mod_count_112 rfl rfl ?_
        apply mo_gets (f := 18) hm d_Mod_count_113 fl_Mod_52 rfl; exact hh.1.2.2.2
        refine aw_iret d_Mod_count_116 rfl (Nat.le_refl _) (Nat.le_refl _) ?_
        exact ⟨_, _, _, rfl, hm, rfl, hz.trans rfl, hq⟩
      · have e_ : 117 = t_ := Option.some.inj et_
        subst e_
        clear et_
        subst ej_
        refine aw_iload_n (i := 2) d_Mod_count_117 rfl rfl ?_
        refine aw_iret d_Mod_count_118 rfl (Nat.le_refl _) (Nat.le_refl _) ?_
        exact ⟨_, _, _, rfl, hm, rfl, hz.trans rfl, hq⟩
      · have e_ : 119 = t_ := Option.some.inj et_
        subst e_
        clear et_
        subst ej_
        refine aw_aload_n (i := 0) d_Mod_count_119 rfl rfl ?_
        apply mo_gets (f := 39) hm d_Mod_count_120 fl_Mod_203 rfl; exact hr.1
        refine aw_iret d_Mod_count_123 rfl (Nat.le_refl _) (Nat.le_refl _) ?_
        exact ⟨_, _, _, rfl, hm, rfl, hz.trans rfl, hq⟩
      · have e_ : 124 = t_ := Option.some.inj et_
        subst e_
        clear et_
        subst ej_
        refine aw_aload_n (i := 0) d_Mod_count_124 rfl rfl ?_
        apply mo_gets (f := 50) hm d_Mod_count_125 fl_Mod_200 rfl; exact hq.2.2.1.1
        refine aw_iret d_Mod_count_128 rfl (Nat.le_refl _) (Nat.le_refl _) ?_
        exact ⟨_, _, _, rfl, hm, rfl, hz.trans rfl, hq⟩
      · have e_ : 129 = t_ := Option.some.inj et_
        subst e_
        clear et_
        subst ej_
        refine aw_aload_n (i := 0) d_Mod_count_129 rfl rfl ?_
        apply mo_gets (f := 27) hm d_Mod_count_130 fl_Mod_209 rfl; exact hf_
        refine aw_iret d_Mod_count_133 rfl (Nat.le_refl _) (Nat.le_refl _) ?_
        exact ⟨_, _, _, rfl, hm, rfl, hz.trans rfl, hq⟩
      · exact absurd et_ (by simp)
    · skip
      refine aw_iconst (v := -1) d_Mod_count_134 (by decide) ?_
      refine aw_iret d_Mod_count_135 rfl (Nat.le_refl _) (Nat.le_refl _) ?_
      exact ⟨_, _, _, rfl, hm, by rw [sCnt_d hno_], hz.trans rfl, hq⟩
  · skip
    have hat := cnt_take (fun g : GSt => g.1) gs s9 (by rw [hg.1]; omega)
    rw [← gDx (d := gz0)] at hat
    refine aw_iload_n (i := 2) d_Mod_count_18 rfl rfl ?_
    refine aw_aload_n (i := 0) d_Mod_count_19 rfl rfl ?_
    refine mo_get (f := 44) hm d_Mod_count_20 fl_Mod_123 rfl ?_
    refine aw_iload_n (i := 3) d_Mod_count_23 rfl rfl ?_
    apply mo_zld (f := 44) (N := 4) hm d_Mod_count_24 rfl rfl (by decide); omega; exact (hg.2 _ (by omega)).1
    refine aw_ifB_eq d_Mod_count_25 (fun br25_ => ?_) (fun br25_ => ?_)
    · skip
      rw [br25_] at hat
      refine aw_iconst (v := nI 0) d_Mod_count_32 (by decide) ?_
      refine aw_iaddN d_Mod_count_33 ?_
      refine aw_istore_n (i := 2) (lv2 := [(0, _), (1, _), (2, _), (3, _)]) d_Mod_count_34 rfl (by decide) rfl ?_
      refine aw_iincN (lv2 := [(0, _), (1, _), (2, _), (3, _)]) d_Mod_count_35 (by decide) rfl rfl ?_
      refine aw_goto d_Mod_count_38 ?_
      have k9 := ih br15_ (s9 + 1) rfl
      rw [hat] at k9
      exact k9
    · skip
      rw [br25_] at hat
      refine aw_iconst (v := nI 1) d_Mod_count_28 (by decide) ?_
      refine aw_goto d_Mod_count_29 ?_
      refine aw_iaddN d_Mod_count_33 ?_
      refine aw_istore_n (i := 2) (lv2 := [(0, _), (1, _), (2, _), (3, _)]) d_Mod_count_34 rfl (by decide) rfl ?_
      refine aw_iincN (lv2 := [(0, _), (1, _), (2, _), (3, _)]) d_Mod_count_35 (by decide) rfl rfl ?_
      refine aw_goto d_Mod_count_38 ?_
      have k9 := ih br15_ (s9 + 1) rfl
      rw [hat] at k9
      exact k9

