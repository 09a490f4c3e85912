def stc (ps : List PSt) : Nat → Nat
  | 0 => 0
  | i + 1 => stc ps i + (ps.getD i pz).2.1 * prd ((pks ps).take i)
def hsta (hs : HSt) : Nat := stc hs.1 hs.1.length
theorem pks_take_s {ps : List PSt} {i : Nat} (hi : i < ps.length) : prd ((pks ps).take (i + 1)) = prd ((pks ps).take i) * (ps.getD i pz).1 := by
  have h1 : i < (pks ps).length := by rw [pk_len]; exact hi
  rw [List.take_succ_eq_append_getElem h1, prd_app, pk_at hi]
  simp [prd]
theorem stc_lt {ps : List PSt} (hv : VP ps) : ∀ i, i ≤ ps.length → stc ps i < prd ((pks ps).take i)
  | 0, _ => by simp [stc, prd]
  | i + 1, hi => by
    have ih := stc_lt hv i (by omega)
    have hk := hv.k (show i < ps.length by omega)
    rw [pks_take_s (by omega)]
    show stc ps i + (ps.getD i pz).2.1 * prd ((pks ps).take i) < _
    calc stc ps i + (ps.getD i pz).2.1 * prd ((pks ps).take i) < prd ((pks ps).take i) + (ps.getD i pz).2.1 * prd ((pks ps).take i) := by omega
      _ = ((ps.getD i pz).2.1 + 1) * prd ((pks ps).take i) := by rw [Nat.add_mul, Nat.one_mul, Nat.add_comm]
      _ ≤ (ps.getD i pz).1 * prd ((pks ps).take i) := Nat.mul_le_mul_right _ hk.2.2
      _ = _ := Nat.mul_comm _ _
theorem prd_app_le {a b : List Nat} (hb : ∀ k ∈ b, 0 < k) : prd a ≤ prd (a ++ b) := by
  rw [prd_app]; exact Nat.le_mul_of_pos_right _ (prd_pos hb)
theorem hsta_lt {hs : HSt} (hv : VH hs) : hsta hs < hall hs := by
  have h1 := stc_lt hv.1 hs.1.length (Nat.le_refl _)
  rw [List.take_of_length_le (by rw [pk_len]; exact Nat.le_refl _)] at h1
  exact Nat.lt_of_lt_of_le h1 (prd_app_le (htl_pos _))
theorem ocn_s {ss : List SSt} {j : Nat} (hj : j < ss.length) : ocn (ss.take (j + 1)) = ocn (ss.take j) + (if 2 ≤ (ss.getD j sz0).1 then 1 else 0) := by
  unfold ocn
  rw [List.take_succ_eq_append_getElem hj, List.filter_append, List.length_append]
  have e : ss.getD j sz0 = ss[j] := by simp [List.getD_eq_getElem?_getD, List.getElem?_eq_getElem hj]
  rw [e]
  by_cases h : 2 ≤ ss[j].1 <;> simp [h]
theorem htl_s {ps : List PSt} {ss : List SSt} {j : Nat} (hj : j < ss.length) : prd (pks ps ++ htl (ss.take (j + 1))) = prd (pks ps ++ htl (ss.take j)) * (if 2 ≤ (ss.getD j sz0).1 then 2 else 1) := by
  rw [prd_app, prd_app, Nat.mul_assoc]
  unfold htl
  rw [ocn_s hj]
  by_cases h : 2 ≤ (ss.getD j sz0).1
  · rw [if_pos h, if_pos h, ← List.replicate_append_replicate, prd_app]; simp [prd]
  · rw [if_neg h, if_neg h]; simp
theorem k2N {x : Nat} (h : x < 2 ^ 31) : decide ((2 : Int32) ≤ nI x) = decide (2 ≤ x) := decide_eq_decide.mpr (nI_leI (a := 2) (by decide) h)
set_option maxHeartbeats 4000000 in
set_option maxRecDepth 20000 in
theorem c_Mod_weigh {G : aG} {nx : Nat} {h h0 : Nat → Option aC} {a : Nat} {A : Nat → Nat} {sc : Nat → Int32} {ar : Nat → Nat → Int32} (hm : MoF h0 h a A sc ar) {hs : HSt} (hh : MoH sc ar hs) (hv : VH hs) : AMet G m_Mod_weigh 1 0 0 [.ref a] (nx, h) (MR nx a h0 A (fun r sc2 ar2 => r = none ∧ MoW sc2 ar2 hs ∧ sc2 27 = nI (hsta hs) ∧ Kp [26, 27] [24, 25] sc ar sc2 ar2)) := by
  have hp12 := hv.1.1
  have hs24 := hv.2.1
  have hall2 := hv.2.2.2.2.2.2.2
  have hh0 := hh
  refine amet_of pf_Mod_weigh (Nat.le_of_ble_eq_true rfl) ?_
  show AW G m_Mod_weigh 1 0 0 _ 0 [(0, .ref a)] [] (nx, h) 0 0
  refine aw_aload_n (i := 0) d_Mod_weigh_0 rfl rfl ?_
  refine aw_iconst (v := nI 1) d_Mod_weigh_1 (by decide) ?_
  apply mo_put (f := 26) hm d_Mod_weigh_2 pl_Mod_206 (ms_26 _ _ _) (by decide) rfl rfl; intro h hm
  refine aw_aload_n (i := 0) d_Mod_weigh_5 rfl rfl ?_
  refine aw_iconst (v := nI 0) d_Mod_weigh_6 (by decide) ?_
  apply mo_put (f := 27) hm d_Mod_weigh_7 pl_Mod_209 (ms_27 _ _ _) (by decide) rfl rfl; intro h hm
  refine aw_iconst (v := nI 0) d_Mod_weigh_10 (by decide) ?_
  refine aw_istore_n (i := 1) (lv2 := [(0, _), (1, _)]) d_Mod_weigh_11 rfl (by decide) rfl ?_
  refine mloop (h0 := h0) (a := a) (A := A) (hs.1.length) (fun i h sc1 ar1 => AW G m_Mod_weigh 1 0 0 _ 12 [(0, .ref a), (1, .int (nI i))] [] (nx, h) 0 0) (fun i sc1 ar1 => Kp [26, 27] [24, 25] sc ar sc1 ar1 ∧ sc1 26 = nI (prd ((pks hs.1).take i)) ∧ sc1 27 = nI (stc hs.1 i) ∧ ∀ k, k < i → ar1 24 k = nI (prd ((pks hs.1).take k))) ?_ 0 _ _ _ (Nat.zero_le _) hm ⟨(Kp.put rfl).tr (Kp.put rfl), rfl, rfl, fun k hk => absurd hk (Nat.not_lt_zero _)⟩
  intro i h sc1 ar1 hi_i hm hI ih
  have hh := hh0.kp hI.1 rfl rfl
  refine aw_iload_n (i := 1) d_Mod_weigh_12 rfl rfl ?_
  refine aw_aload_n (i := 0) d_Mod_weigh_13 rfl rfl ?_
  apply mo_gets (f := 1) hm d_Mod_weigh_14 fl_Mod_153 rfl; exact hh.1.1
  refine aw_icmpN_ge d_Mod_weigh_17 (by omega) (by omega) (fun br17_ => ?_) (fun br17_ => ?_)
  · skip
    have ei : i = hs.1.length := by omega
    subst ei
    refine aw_iconst (v := nI 0) d_Mod_weigh_71 (by decide) ?_
    refine aw_istore_n (i := 1) (lv2 := [(0, _), (1, _)]) d_Mod_weigh_72 rfl (by decide) rfl ?_
    refine mloop (h0 := h0) (a := a) (A := A) (hs.2.1.length) (fun i h sc1 ar1 => AW G m_Mod_weigh 1 0 0 _ 73 [(0, .ref a), (1, .int (nI i))] [] (nx, h) 0 0) (fun i sc1 ar1 => Kp [26, 27] [24, 25] sc ar sc1 ar1 ∧ sc1 26 = nI (prd (pks hs.1 ++ htl (hs.2.1.take i))) ∧ sc1 27 = nI (hsta hs) ∧ (∀ k, k < hs.1.length → ar1 24 k = nI (prd ((pks hs.1).take k))) ∧ ∀ k, k < i → ar1 25 k = nI (swt hs.1 hs.2.1 k)) ?_ 0 _ _ _ (Nat.zero_le _) hm ⟨hI.1, by rw [hI.2.1, List.take_of_length_le (by rw [pk_len]; exact Nat.le_refl _)]; simp [htl, ocn], hI.2.2.1, hI.2.2.2, fun k hk => absurd hk (Nat.not_lt_zero _)⟩
    intro i h sc1 ar1 hi_i hm hI ih
    have hh := hh0.kp hI.1 rfl rfl
    refine aw_iload_n (i := 1) d_Mod_weigh_73 rfl rfl ?_
    refine aw_aload_n (i := 0) d_Mod_weigh_74 rfl rfl ?_
    apply mo_gets (f := 4) hm d_Mod_weigh_75 fl_Mod_164 rfl; exact hh.1.2.1
    refine aw_icmpN_ge d_Mod_weigh_78 (by omega) (by omega) (fun br78_ => ?_) (fun br78_ => ?_)
    · skip
      have ei : i = hs.2.1.length := by omega
      subst ei
      rw [List.take_length] at hI
      refine aw_vret d_Mod_weigh_126 rfl (Nat.le_refl _) (Nat.le_refl _) ?_
      exact ⟨_, _, _, rfl, hm, rfl, ⟨hI.2.1, hI.2.2.2.1, hI.2.2.2.2⟩, hI.2.2.1, hI.1⟩
    · skip
      have hvk : (hs.2.1.getD i sz0).1 ≤ 3 := (hv.s br78_).1
      refine aw_aload_n (i := 0) d_Mod_weigh_81 rfl rfl ?_
      refine mo_get (f := 25) hm d_Mod_weigh_82 fl_Mod_75 rfl ?_
      refine aw_iload_n (i := 1) d_Mod_weigh_85 rfl rfl ?_
      refine aw_iconst (v := nI 0) d_Mod_weigh_86 (by decide) ?_
      apply mo_st (f := 25) (N := 24) hm d_Mod_weigh_87 rfl rfl (by decide); omega; intro h hm
      refine aw_aload_n (i := 0) d_Mod_weigh_88 rfl rfl ?_
      refine mo_get (f := 5) hm d_Mod_weigh_89 fl_Mod_16 rfl ?_
      refine aw_iload_n (i := 1) d_Mod_weigh_92 rfl rfl ?_
      apply mo_ld (f := 5) (N := 24) hm d_Mod_weigh_93 rfl rfl (by decide); omega; exact (hh.2.2.1 _ (by omega)).1
      apply aw_calls_p (c_Mod_isOnce _) d_Mod_weigh_94 cl_Mod_167; rfl; rfl; decide; exact Nat.le_of_ble_eq_true rfl; exact (Nat.le_refl _); exact (Nat.le_refl _)
      rw [k2N (by omega)]
      refine aw_ifB_eq d_Mod_weigh_97 (fun br97_ => ?_) (fun br97_ => ?_)
      · skip
        have hkk : ¬ 2 ≤ (hs.2.1.getD i sz0).1 := of_decide_eq_false br97_
        refine aw_iincN (lv2 := [(0, _), (1, _)]) d_Mod_weigh_120 (by decide) rfl rfl ?_
        refine aw_goto d_Mod_weigh_123 ?_
        refine ih br78_ _ _ _ hm ⟨?_, ?_, hI.2.2.1, ?_, ?_⟩
        · first | exact ((hI.1.tr (Kp.st rfl)).tr (Kp.st rfl)).tr (Kp.put rfl) | exact hI.1.tr (Kp.st rfl)
        · first | (show nI _ = _; rw [htl_s br78_, if_pos hkk]) | (rw [htl_s br78_, if_neg hkk, Nat.mul_one]; exact hI.2.1)
        · exact hI.2.2.2.1
        · intro k hk
          by_cases e : k = i
          · subst e; simp only [ups, upd, if_true]; unfold swt; first | rw [if_pos hkk] | rw [if_neg hkk]
          · simp only [ups, upd, if_true, if_neg e]; exact hI.2.2.2.2 k (by omega)
      · skip
        have hkk : 2 ≤ (hs.2.1.getD i sz0).1 := of_decide_eq_true br97_
        refine aw_aload_n (i := 0) d_Mod_weigh_100 rfl rfl ?_
        refine mo_get (f := 25) hm d_Mod_weigh_101 fl_Mod_75 rfl ?_
        refine aw_iload_n (i := 1) d_Mod_weigh_104 rfl rfl ?_
        refine aw_aload_n (i := 0) d_Mod_weigh_105 rfl rfl ?_
        apply mo_gets (f := 26) hm d_Mod_weigh_106 fl_Mod_206 rfl; exact hI.2.1
        apply mo_st (f := 25) (N := 24) hm d_Mod_weigh_109 rfl rfl (by decide); omega; intro h hm
        refine aw_aload_n (i := 0) d_Mod_weigh_110 rfl rfl ?_
        refine aw_dup d_Mod_weigh_111 rfl ?_
        apply mo_gets (f := 26) hm d_Mod_weigh_112 fl_Mod_206 rfl; exact hI.2.1
        refine aw_iconst (v := nI 2) d_Mod_weigh_115 (by decide) ?_
        refine aw_imulN d_Mod_weigh_116 ?_
        apply mo_put (f := 26) hm d_Mod_weigh_117 pl_Mod_206 (ms_26 _ _ _) (by decide) rfl rfl; intro h hm
        refine aw_iincN (lv2 := [(0, _), (1, _)]) d_Mod_weigh_120 (by decide) rfl rfl ?_
        refine aw_goto d_Mod_weigh_123 ?_
        refine ih br78_ _ _ _ hm ⟨?_, ?_, hI.2.2.1, ?_, ?_⟩
        · first | exact ((hI.1.tr (Kp.st rfl)).tr (Kp.st rfl)).tr (Kp.put rfl) | exact hI.1.tr (Kp.st rfl)
        · first | (show nI _ = _; rw [htl_s br78_, if_pos hkk]) | (rw [htl_s br78_, if_neg hkk, Nat.mul_one]; exact hI.2.1)
        · exact hI.2.2.2.1
        · intro k hk
          by_cases e : k = i
          · subst e; simp only [ups, upd, if_true]; unfold swt; first | rw [if_pos hkk] | rw [if_neg hkk]
          · simp only [ups, upd, if_true, if_neg e]; exact hI.2.2.2.2 k (by omega)
  · skip
    refine aw_aload_n (i := 0) d_Mod_weigh_20 rfl rfl ?_
    refine mo_get (f := 24) hm d_Mod_weigh_21 fl_Mod_72 rfl ?_
    refine aw_iload_n (i := 1) d_Mod_weigh_24 rfl rfl ?_
    refine aw_aload_n (i := 0) d_Mod_weigh_25 rfl rfl ?_
    apply mo_gets (f := 26) hm d_Mod_weigh_26 fl_Mod_206 rfl; exact hI.2.1
    apply mo_st (f := 24) (N := 12) hm d_Mod_weigh_29 rfl rfl (by decide); omega; intro h hm
    refine aw_aload_n (i := 0) d_Mod_weigh_30 rfl rfl ?_
    refine aw_dup d_Mod_weigh_31 rfl ?_
    apply mo_gets (f := 27) hm d_Mod_weigh_32 fl_Mod_209 rfl; exact hI.2.2.1
    refine aw_aload_n (i := 0) d_Mod_weigh_35 rfl rfl ?_
    refine mo_get (f := 3) hm d_Mod_weigh_36 fl_Mod_13 rfl ?_
    refine aw_iload_n (i := 1) d_Mod_weigh_39 rfl rfl ?_
    apply mo_ld (f := 3) (N := 12) hm d_Mod_weigh_40 rfl rfl (by decide); omega; exact (hh.2.1 _ (by omega)).2.1
    refine aw_aload_n (i := 0) d_Mod_weigh_41 rfl rfl ?_
    apply mo_gets (f := 26) hm d_Mod_weigh_42 fl_Mod_206 rfl; exact hI.2.1
    refine aw_imulN d_Mod_weigh_45 ?_
    refine aw_iaddN d_Mod_weigh_46 ?_
    apply mo_put (f := 27) hm d_Mod_weigh_47 pl_Mod_209 (ms_27 _ _ _) (by decide) rfl rfl; intro h hm
    refine aw_aload_n (i := 0) d_Mod_weigh_50 rfl rfl ?_
    refine aw_dup d_Mod_weigh_51 rfl ?_
    apply mo_gets (f := 26) hm d_Mod_weigh_52 fl_Mod_206 rfl; exact hI.2.1
    refine aw_aload_n (i := 0) d_Mod_weigh_55 rfl rfl ?_
    refine mo_get (f := 2) hm d_Mod_weigh_56 fl_Mod_9 rfl ?_
    refine aw_iload_n (i := 1) d_Mod_weigh_59 rfl rfl ?_
    apply mo_ld (f := 2) (N := 12) hm d_Mod_weigh_60 rfl rfl (by decide); omega; exact (hh.2.1 _ (by omega)).1
    refine aw_imulN d_Mod_weigh_61 ?_
    apply mo_put (f := 26) hm d_Mod_weigh_62 pl_Mod_206 (ms_26 _ _ _) (by decide) rfl rfl; intro h hm
    refine aw_iincN (lv2 := [(0, _), (1, _)]) d_Mod_weigh_65 (by decide) rfl rfl ?_
    refine aw_goto d_Mod_weigh_68 ?_
    refine ih br17_ _ _ _ hm ⟨(hI.1.tr (Kp.st rfl)).tr ((Kp.put rfl).tr (Kp.put rfl)), ?_, ?_, ?_⟩
    · show nI _ = _; rw [pks_take_s br17_]
    · rfl
    · exact by
        intro k hk
        by_cases e : k = i
        · subst e; simp only [ups, upd, if_true]
        · simp only [ups, upd, if_true, if_neg e]; exact hI.2.2.2 k (by omega)
    

/-- the groups, the log and the row of the reference -/
abbrev GSt : Type := Bool × Nat × Nat × Int32 × Int32 × Int32
abbrev gz0 : GSt := (false, 0, 1, 0, 0, 0)
def MoG (ar : Nat → Nat → Int32) (gs : List GSt) : Prop := gs.length = 4 ∧ ∀ g, g < 4 → ar 44 g = bI (gs.getD g gz0).1 ∧ ((gs.getD g gz0).1 = true → ar 45 g = nI (gs.getD g gz0).2.1 ∧ ar 46 g = nI (gs.getD g gz0).2.2.1 ∧ ar 47 g = (gs.getD g gz0).2.2.2.1 ∧ ar 48 g = (gs.getD g gz0).2.2.2.2.1 ∧ ar 49 g = (gs.getD g gz0).2.2.2.2.2)
def MoL (sc : Nat → Int32) (ar : Nat → Nat → Int32) (lg : List (Nat × Nat × Nat)) : Prop := sc 50 = nI lg.length ∧ lg.length ≤ 100000 ∧ ∀ k, k < lg.length → lg.length ≤ k + 200 → ar 51 (k % 200) = nI (lg.getD k (0, 0, 0)).1 ∧ ar 52 (k % 200) = nI (lg.getD k (0, 0, 0)).2.1 ∧ ar 53 (k % 200) = nI (lg.getD k (0, 0, 0)).2.2
def MoR (sc : Nat → Int32) (ar : Nat → Nat → Int32) (xs : List Int32) : Prop := sc 39 = nI xs.length ∧ xs.length ≤ 20004 ∧ ∀ (j : Nat) (hj : j < xs.length), ar 38 j = xs[j]
theorem MoG.kp {sc sc2 : Nat → Int32} {ar ar2 : Nat → Nat → Int32} {gs : List GSt} {Ls La : List Nat} (hg : MoG ar gs) (hk : Kp Ls La sc ar sc2 ar2) (h2 : ([44, 45, 46, 47, 48, 49].all fun x => !La.contains x) = true) : MoG ar2 gs := by
  simp only [List.all_cons, List.all_nil, Bool.and_eq_true, Bool.not_eq_true'] at h2
  obtain ⟨b1, b2, b3, b4, b5, b6, -⟩ := h2
  unfold MoG
  rw [hk.2 _ b1, hk.2 _ b2, hk.2 _ b3, hk.2 _ b4, hk.2 _ b5, hk.2 _ b6]
  exact hg
theorem MoL.kp {sc sc2 : Nat → Int32} {ar ar2 : Nat → Nat → Int32} {lg : List (Nat × Nat × Nat)} {Ls La : List Nat} (hg : MoL sc ar lg) (hk : Kp Ls La sc ar sc2 ar2) (h1 : Ls.contains 50 = false) (h2 : ([51, 52, 53].all fun x => !La.contains x) = true) : MoL sc2 ar2 lg := by
  simp only [List.all_cons, List.all_nil, Bool.and_eq_true, Bool.not_eq_true'] at h2
  obtain ⟨b1, b2, b3, -⟩ := h2
  unfold MoL
  rw [hk.1 _ h1, hk.2 _ b1, hk.2 _ b2, hk.2 _ b3]
  exact hg
theorem MoR.kp {sc sc2 : Nat → Int32} {ar ar2 : Nat → Nat → Int32} {xs : List Int32} {Ls La : List Nat} (hg : MoR sc ar xs) (hk : Kp Ls La sc ar sc2 ar2) (h1 : Ls.contains 39 = false) (h2 : La.contains 38 = false) : MoR sc2 ar2 xs := by
  unfold MoR
  rw [hk.1 _ h1, hk.2 _ h2]
  exact hg
def anyP (gs : List GSt) : Bool := gs.any (fun g => g.1)
theorem gDx {α : Type} {l : List α} {i : Nat} {d : α} (hi : i < l.length) : l.getD i d = l[i] := by simp [List.getD_eq_getElem?_getD, List.getElem?_eq_getElem hi]
set_option maxHeartbeats 4000000 in
set_option maxRecDepth 20000 in
theorem c_Mod_plays {G : aG} {nx : Nat} {h h0 : Nat → Option aC} {a : Nat} {A : Nat → Nat} {sc : Nat → Int32} {ar : Nat → Nat → Int32} (hm : MoF h0 h a A sc ar) {gs : List GSt} (hg : MoG ar gs) : AMet G m_Mod_plays 0 0 0 [.ref a] (nx, h) (RV (.int (bI (anyP gs))) (nx, h)) := by
  refine amet_of pf_Mod_plays (Nat.le_of_ble_eq_true rfl) ?_
  show AW G m_Mod_plays 0 0 0 _ 0 [(0, .ref a)] [] (nx, h) 0 0
  refine aw_iconst (v := nI 0) d_Mod_plays_0 (by decide) ?_
  refine aw_istore_n (i := 1) (lv2 := [(0, _), (1, _)]) d_Mod_plays_1 rfl (by decide) rfl ?_
  refine aw_iconst (v := nI 0) d_Mod_plays_2 (by decide) ?_
  refine aw_istore_n (i := 2) (lv2 := [(0, _), (1, _), (2, _)]) d_Mod_plays_3 rfl (by decide) rfl ?_
  show AW G m_Mod_plays 0 0 0 _ 4 [(0, .ref a), (1, .int (bI ((gs.take 0).any (fun g => g.1)))), (2, .int (nI 0))] [] (nx, h) 0 0
  refine upto (σ := Nat) (fun i => AW G m_Mod_plays 0 0 0 _ 4 [(0, .ref a), (1, .int (bI ((gs.take i).any (fun g => g.1)))), (2, .int (nI i))] [] (nx, h) 0 0) (fun i s => s = i) 4 ?_ 0 0 (Nat.zero_le _) rfl
  intro i s0 hi hI ih
  subst hI
  refine aw_iload_n (i := 2) d_Mod_plays_4 rfl rfl ?_
  refine aw_iconst (v := nI 4) d_Mod_plays_5 (by decide) ?_
  refine aw_icmpN_ge d_Mod_plays_6 (by omega) (by omega) (fun br6_ => ?_) (fun br6_ => ?_)
  · skip
    have ei : s0 = 4 := by omega
    subst ei
    rw [List.take_of_length_le (by rw [hg.1]; exact Nat.le_refl _)]
    refine aw_iload_n (i := 1) d_Mod_plays_34 rfl rfl ?_
    refine aw_zret d_Mod_plays_35 rfl (bI_nz _) (Nat.le_refl _) (Nat.le_refl _) ?_
    exact ⟨rfl, rfl⟩
  · skip
    have hat := any_take (fun g : GSt => g.1) gs s0 (by rw [hg.1]; omega)
    rw [← gDx (d := gz0)] at hat
    refine aw_iload_n (i := 1) d_Mod_plays_9 rfl rfl ?_
    refine aw_ifB_ne d_Mod_plays_10 (fun br10_ => ?_) (fun br10_ => ?_)
    · skip
      have hnew : ((gs.take (s0 + 1)).any (fun g => g.1)) = true := by rw [hat, br10_]; rfl
      refine aw_iconst (v := nI 1) d_Mod_plays_22 (by decide) ?_
      refine aw_goto d_Mod_plays_23 ?_
      refine aw_istore_n (i := 1) (lv2 := [(0, _), (1, _), (2, _)]) d_Mod_plays_27 rfl (by decide) rfl ?_
      refine aw_iincN (lv2 := [(0, _), (1, _), (2, _)]) d_Mod_plays_28 (by decide) rfl rfl ?_
      refine aw_goto d_Mod_plays_31 ?_
      have k9 := ih br6_ (s0 + 1) rfl
      rw [hnew] at k9
      exact k9
    · skip
      refine aw_aload_n (i := 0) d_Mod_plays_13 rfl rfl ?_
      refine mo_get (f := 44) hm d_Mod_plays_14 fl_Mod_123 rfl ?_
      refine aw_iload_n (i := 2) d_Mod_plays_17 rfl rfl ?_
      apply mo_zld (f := 44) (N := 4) hm d_Mod_plays_18 rfl rfl (by decide); omega; exact (hg.2 _ (by omega)).1
      refine aw_ifB_eq d_Mod_plays_19 (fun br19_ => ?_) (fun br19_ => ?_)
      · skip
        have hnew : ((gs.take (s0 + 1)).any (fun g => g.1)) = false := by rw [hat, br10_, br19_]; rfl
        refine aw_iconst (v := nI 0) d_Mod_plays_26 (by decide) ?_
        refine aw_istore_n (i := 1) (lv2 := [(0, _), (1, _), (2, _)]) d_Mod_plays_27 rfl (by decide) rfl ?_
        refine aw_iincN (lv2 := [(0, _), (1, _), (2, _)]) d_Mod_plays_28 (by decide) rfl rfl ?_
        refine aw_goto d_Mod_plays_31 ?_
        have k9 := ih br6_ (s0 + 1) rfl
        rw [hnew] at k9
        exact k9
      · skip
        have hnew : ((gs.take (s0 + 1)).any (fun g => g.1)) = true := by rw [hat, br19_]; simp
        refine aw_iconst (v := nI 1) d_Mod_plays_22 (by decide) ?_
        refine aw_goto d_Mod_plays_23 ?_
        refine aw_istore_n (i := 1) (lv2 := [(0, _), (1, _), (2, _)]) d_Mod_plays_27 rfl (by decide) rfl ?_
        refine aw_iincN (lv2 := [(0, _), (1, _), (2, _)]) d_Mod_plays_28 (by decide) rfl rfl ?_
        refine aw_goto d_Mod_plays_31 ?_
        have k9 := ih br6_ (s0 + 1) rfl
        rw [hnew] at k9
        exact k9

def prOK (hs : HSt) (p s : Int32) : Bool := decide (0 ≤ p ∧ p < nI hs.1.length) && decide (0 ≤ s ∧ s < nI (hs.1.getD p.toNatClampNeg pz).1)
theorem dec_ix {x : Int32} {n : Nat} (h : decide (0 ≤ x ∧ x < nI n) = true) (hn : n < 2 ^ 31) : ∃ j, j < n ∧ x = nI j := by
  have h1 := of_decide_eq_true h
  rcases pk_ix x hn with q | q | q
  · exact absurd h1.1 (Int32.not_le.mpr q)
  · exact absurd h1.2 (Int32.not_lt.mpr q)
  · exact q
theorem in_ixd {x : Int32} {n : Nat} (hn : n ≤ 1000000) : decide ((0 : Int64) ≤ x.toInt64 ∧ x.toInt64 ≤ (nI n - 1).toInt64) = decide (0 ≤ x ∧ x < nI n) := decide_eq_decide.mpr (in_ix hn)
set_option maxHeartbeats 4000000 in
set_option maxRecDepth 20000 in
theorem c_Mod_isPair {G : aG} {nx : Nat} {h h0 : Nat → Option aC} {a : Nat} {A : Nat → Nat} {sc : Nat → Int32} {ar : Nat → Nat → Int32} (hm : MoF h0 h a A sc ar) {hs : HSt} (hh : MoH sc ar hs) (hv : VH hs) (p s : Int32) : AMet G m_Mod_isPair 2 0 0 [.ref a, .int p, .int s] (nx, h) (RV (.int (bI (prOK hs p s))) (nx, h)) := by
  have hp12 := hv.1.1
  have hs24 := hv.2.1
  have hall2 := hv.2.2.2.2.2.2.2
  refine amet_of pf_Mod_isPair (Nat.le_of_ble_eq_true rfl) ?_
  show AW G m_Mod_isPair 2 0 0 _ 0 [(0, .ref a), (1, .int p), (2, .int s)] [] (nx, h) 0 0
  refine aw_aload_n (i := 0) d_Mod_isPair_0 rfl rfl ?_
  refine aw_iload_n (i := 1) d_Mod_isPair_1 rfl rfl ?_
  apply aw_callv_p (c_Mod_isProp hm.1 hh.1.1 (by omega) p) d_Mod_isPair_2 cl_Mod_160; exact hm.1.1; rfl; rfl; rfl; rfl; decide; exact Nat.le_of_ble_eq_true rfl; exact (Nat.le_refl _); exact (Nat.le_refl _)
  refine aw_ifB_eq d_Mod_isPair_5 (fun br5_ => ?_) (fun br5_ => ?_)
  · skip
    have hr_ : prOK hs p s = false := by unfold prOK; rw [br5_]; rfl
    refine aw_iconst (v := nI 0) d_Mod_isPair_30 (by decide) ?_
    refine aw_zret d_Mod_isPair_31 rfl rfl (Nat.le_refl _) (Nat.le_refl _) ?_
    exact ⟨by rw [hr_]; rfl, rfl⟩
  · skip
    obtain ⟨j, hj, rfl⟩ := dec_ix br5_ (by omega)
    have hk9 := hv.1.k hj
    have hcl : (nI j).toNatClampNeg = j := nI_clamp (by omega)
    refine aw_iload_n (i := 2) d_Mod_isPair_8 rfl rfl ?_
    refine aw_i2l d_Mod_isPair_9 ?_
    refine aw_lconst (v := 0) d_Mod_isPair_10 (by decide) ?_
    refine aw_aload_n (i := 0) d_Mod_isPair_11 rfl rfl ?_
    refine mo_get (f := 2) hm d_Mod_isPair_12 fl_Mod_9 rfl ?_
    refine aw_iload_n (i := 1) d_Mod_isPair_15 rfl rfl ?_
    apply mo_ld (f := 2) (N := 12) hm d_Mod_isPair_16 rfl rfl (by decide); omega; exact (hh.2.1 _ (by omega)).1
    refine aw_iconst (v := 1) d_Mod_isPair_17 (by decide) ?_
    refine aw_isub d_Mod_isPair_18 ?_
    refine aw_i2l d_Mod_isPair_19 ?_
    apply aw_calls_p (c_Mod_in _ _ _) d_Mod_isPair_20 cl_Mod_156; rfl; rfl; decide; exact Nat.le_of_ble_eq_true rfl; exact (Nat.le_refl _); exact (Nat.le_refl _)
    rw [in_ixd (by omega)]
    refine aw_ifB_eq d_Mod_isPair_23 (fun br23_ => ?_) (fun br23_ => ?_)
    · skip
      have hr_ : prOK hs (nI j) s = false := by unfold prOK; rw [hcl, br23_, Bool.and_false]
      refine aw_iconst (v := nI 0) d_Mod_isPair_30 (by decide) ?_
      refine aw_zret d_Mod_isPair_31 rfl rfl (Nat.le_refl _) (Nat.le_refl _) ?_
      exact ⟨by rw [hr_]; rfl, rfl⟩
    · skip
      have hr_ : prOK hs (nI j) s = true := by unfold prOK; rw [hcl, br23_, br5_]; rfl
      refine aw_iconst (v := nI 1) d_Mod_isPair_26 (by decide) ?_
      refine aw_goto d_Mod_isPair_27 ?_
      refine aw_zret d_Mod_isPair_31 rfl rfl (Nat.le_refl _) (Nat.le_refl _) ?_
      exact ⟨by rw [hr_]; rfl, rfl⟩

def isG (gs : List GSt) (x : Int32) : Bool := decide (0 ≤ x ∧ x < nI 4) && (gs.getD x.toNatClampNeg gz0).1
set_option maxHeartbeats 4000000 in
set_option maxRecDepth 20000 in
theorem c_Mod_isGroup {G : aG} {nx : Nat} {h h0 : Nat → Option aC} {a : Nat} {A : Nat → Nat} {sc : Nat → Int32} {ar : Nat → Nat → Int32} (hm : MoF h0 h a A sc ar) {gs : List GSt} (hg : MoG ar gs) (x : Int32) : AMet G m_Mod_isGroup 1 0 0 [.ref a, .int x] (nx, h) (RV (.int (bI (isG gs x))) (nx, h)) := by
  refine amet_of pf_Mod_isGroup (Nat.le_of_ble_eq_true rfl) ?_
  show AW G m_Mod_isGroup 1 0 0 _ 0 [(0, .ref a), (1, .int x)] [] (nx, h) 0 0
  refine aw_iload_n (i := 1) d_Mod_isGroup_0 rfl rfl ?_
  refine aw_i2l d_Mod_isGroup_1 ?_
  refine aw_lconst (v := 0) d_Mod_isGroup_2 (by decide) ?_
  refine aw_ldc2 d_Mod_isGroup_3 kc_Mod_182 ?_
  apply aw_calls_p (c_Mod_in _ _ _) d_Mod_isGroup_6 cl_Mod_156; rfl; rfl; decide; exact Nat.le_of_ble_eq_true rfl; exact (Nat.le_refl _); exact (Nat.le_refl _)
  rw [show decide ((0 : Int64) ≤ x.toInt64 ∧ x.toInt64 ≤ 3) = decide (0 ≤ x ∧ x < nI 4) from in_ixd (n := 4) (by omega)]
  refine aw_ifB_eq d_Mod_isGroup_9 (fun br9_ => ?_) (fun br9_ => ?_)
  · skip
    have hr_ : isG gs x = false := by unfold isG; rw [br9_]; rfl
    refine aw_iconst (v := nI 0) d_Mod_isGroup_25 (by decide) ?_
    refine aw_zret d_Mod_isGroup_26 rfl rfl (Nat.le_refl _) (Nat.le_refl _) ?_
    exact ⟨by rw [hr_]; rfl, rfl⟩
  · skip
    obtain ⟨j, hj, rfl⟩ := dec_ix br9_ (by omega)
    have hcl : (nI j).toNatClampNeg = j := nI_clamp (by omega)
    refine aw_aload_n (i := 0) d_Mod_isGroup_12 rfl rfl ?_
    refine mo_get (f := 44) hm d_Mod_isGroup_13 fl_Mod_123 rfl ?_
    refine aw_iload_n (i := 1) d_Mod_isGroup_16 rfl rfl ?_
    apply mo_zld (f := 44) (N := 4) hm d_Mod_isGroup_17 rfl rfl (by decide); omega; exact (hg.2 _ (by omega)).1
    refine aw_ifB_eq d_Mod_isGroup_18 (fun br18_ => ?_) (fun br18_ => ?_)
    · skip
      have hr_ : isG gs (nI j) = false := by unfold isG; rw [hcl, br18_, Bool.and_false]
      refine aw_iconst (v := nI 0) d_Mod_isGroup_25 (by decide) ?_
      refine aw_zret d_Mod_isGroup_26 rfl rfl (Nat.le_refl _) (Nat.le_refl _) ?_
      exact ⟨by rw [hr_]; rfl, rfl⟩
    · skip
      have hr_ : isG gs (nI j) = true := by unfold isG; rw [hcl, br18_, br9_]; rfl
      refine aw_iconst (v := nI 1) d_Mod_isGroup_21 (by decide) ?_
      refine aw_goto d_Mod_isGroup_22 ?_
      refine aw_zret d_Mod_isGroup_26 rfl rfl (Nat.le_refl _) (Nat.le_refl _) ?_
      exact ⟨by rw [hr_]; rfl, rfl⟩

set_option maxHeartbeats 4000000 in
set_option maxRecDepth 20000 in
theorem c_Mod_tells {G : aG} {nx : Nat} {h h0 : Nat → Option aC} {a : Nat} {A : Nat → Nat} {sc : Nat → Int32} {ar : Nat → Nat → Int32} (hm : MoF h0 h a A sc ar) {xs : List Int32} (hr : MoR sc ar xs) (hx : xs.length < 20004) (x : Int32) : AMet G m_Mod_tells 0 0 0 [.ref a, .int x] (nx, h) (MR nx a h0 A (fun r sc2 ar2 => r = none ∧ MoR sc2 ar2 (xs ++ [x]) ∧ Kp [39] [38] sc ar sc2 ar2)) := by
  refine amet_of pf_Mod_tells (Nat.le_of_ble_eq_true rfl) ?_
  show AW G m_Mod_tells 0 0 0 _ 0 [(0, .ref a), (1, .int x)] [] (nx, h) 0 0
  refine aw_aload_n (i := 0) d_Mod_tells_0 rfl rfl ?_
  refine mo_get (f := 38) hm d_Mod_tells_1 fl_Mod_108 rfl ?_
  refine aw_aload_n (i := 0) d_Mod_tells_4 rfl rfl ?_
  apply mo_gets (f := 39) hm d_Mod_tells_5 fl_Mod_203 rfl; exact hr.1
  refine aw_iload_n (i := 1) d_Mod_tells_8 rfl rfl ?_
  apply mo_st (f := 38) (N := 20004) hm d_Mod_tells_9 rfl rfl (by decide); omega; intro h hm
  refine aw_aload_n (i := 0) d_Mod_tells_10 rfl rfl ?_
  refine aw_dup d_Mod_tells_11 rfl ?_
  apply mo_gets (f := 39) hm d_Mod_tells_12 fl_Mod_203 rfl; exact hr.1
  refine aw_iconst (v := nI 1) d_Mod_tells_15 (by decide) ?_
  refine aw_iaddN d_Mod_tells_16 ?_
  apply mo_put (f := 39) hm d_Mod_tells_17 pl_Mod_203 (ms_39 _ _ _) (by decide) rfl rfl; intro h hm
  refine aw_vret d_Mod_tells_20 rfl (Nat.le_refl _) (Nat.le_refl _) ?_
  refine ⟨_, _, _, rfl, hm, rfl, ⟨by simp only [List.length_append]; rfl, by simp; omega, fun j hj => ?_⟩, (Kp.st rfl).tr (Kp.put rfl)⟩
  simp only [ups, upd, if_true]
  by_cases e9 : j < xs.length
  · rw [List.getElem_append_left e9, if_neg (by omega)]; exact hr.2.2 j e9
  · have e8 : j = xs.length := by simp at hj; omega
    subst e8
    simp

set_option maxHeartbeats 4000000 in
set_option maxRecDepth 20000 in
theorem c_Mod_refuse {G : aG} {nx : Nat} {h h0 : Nat → Option aC} {a : Nat} {A : Nat → Nat} {sc : Nat → Int32} {ar : Nat → Nat → Int32} (hm : MoF h0 h a A sc ar) : AMet G m_Mod_refuse 0 0 0 [.ref a] (nx, h) (MR nx a h0 A (fun r sc2 ar2 => r = some (.int 0) ∧ sc2 0 = 1 ∧ Kp [0] [] sc ar sc2 ar2)) := by
  refine amet_of pf_Mod_refuse (Nat.le_of_ble_eq_true rfl) ?_
  show AW G m_Mod_refuse 0 0 0 _ 0 [(0, .ref a)] [] (nx, h) 0 0
  refine aw_aload_n (i := 0) d_Mod_refuse_0 rfl rfl ?_
  refine aw_iconst (v := nI 1) d_Mod_refuse_1 (by decide) ?_
  apply mo_put (f := 0) hm d_Mod_refuse_2 pl_Mod_150 (ms_0 _ _ _) (by decide) rfl rfl; intro h hm
  refine aw_iconst (v := nI 0) d_Mod_refuse_5 (by decide) ?_
  refine aw_iret d_Mod_refuse_6 rfl (Nat.le_refl _) (Nat.le_refl _) ?_
  exact ⟨_, _, _, rfl, hm, rfl, rfl, Kp.put rfl⟩

set_option maxHeartbeats 4000000 in
set_option maxRecDepth 20000 in
theorem c_Mod_puts {G : aG} {nx : Nat} {h h0 : Nat → Option aC} {a : Nat} {A : Nat → Nat} {sc : Nat → Int32} {ar : Nat → Nat → Int32} (hm : MoF h0 h a A sc ar) (p c : Nat) (hp : p < 20000) (hc : c < 20000) : AMet G m_Mod_puts 0 0 0 [.ref a, .int (nI p), .int (nI c)] (nx, h) (MR nx a h0 A (fun r sc2 ar2 => r = none ∧ sc2 = sc ∧ ar2 = ups (ups ar 35 (upd (ar 35) p (nI c))) 36 (upd (ar 36) c (nI p)))) := by
  refine amet_of pf_Mod_puts (Nat.le_of_ble_eq_true rfl) ?_
  show AW G m_Mod_puts 0 0 0 _ 0 [(0, .ref a), (1, .int (nI p)), (2, .int (nI c))] [] (nx, h) 0 0
  refine aw_aload_n (i := 0) d_Mod_puts_0 rfl rfl ?_
  refine mo_get (f := 35) hm d_Mod_puts_1 fl_Mod_102 rfl ?_
  refine aw_iload_n (i := 1) d_Mod_puts_4 rfl rfl ?_
  refine aw_iload_n (i := 2) d_Mod_puts_5 rfl rfl ?_
  apply mo_st (f := 35) (N := 20000) hm d_Mod_puts_6 rfl rfl (by decide); omega; intro h hm
  refine aw_aload_n (i := 0) d_Mod_puts_7 rfl rfl ?_
  refine mo_get (f := 36) hm d_Mod_puts_8 fl_Mod_105 rfl ?_
  refine aw_iload_n (i := 2) d_Mod_puts_11 rfl rfl ?_
  refine aw_iload_n (i := 1) d_Mod_puts_12 rfl rfl ?_
  apply mo_st (f := 36) (N := 20000) hm d_Mod_puts_13 rfl rfl (by decide); omega; intro h hm
  refine aw_vret d_Mod_puts_14 rfl (Nat.le_refl _) (Nat.le_refl _) ?_
  exact ⟨_, _, _, rfl, hm, rfl, rfl, rfl⟩

set_option maxHeartbeats 4000000 in
set_option maxRecDepth 20000 in
theorem c_Mod_isOpen {G : aG} {nx : Nat} {h h0 : Nat → Option aC} {a : Nat} {A : Nat → Nat} {sc : Nat → Int32} {ar : Nat → Nat → Int32} (hm : MoF h0 h a A sc ar) {c v : Nat} (hc : c < 20000) (hf : ar 30 c = nI v) (hv : v < 2 ^ 31) : AMet G m_Mod_isOpen 0 0 0 [.ref a, .int (nI c)] (nx, h) (RV (.int (bI (decide (v < 268435456)))) (nx, h)) := by
  refine amet_of pf_Mod_isOpen (Nat.le_of_ble_eq_true rfl) ?_
  show AW G m_Mod_isOpen 0 0 0 _ 0 [(0, .ref a), (1, .int (nI c))] [] (nx, h) 0 0
  refine aw_aload_n (i := 0) d_Mod_isOpen_0 rfl rfl ?_
  refine mo_get (f := 30) hm d_Mod_isOpen_1 fl_Mod_86 rfl ?_
  refine aw_iload_n (i := 1) d_Mod_isOpen_4 rfl rfl ?_
  apply mo_ld (f := 30) (N := 20000) hm d_Mod_isOpen_5 rfl rfl (by decide); omega; exact hf
  refine aw_ldc (v := nI 268435456) d_Mod_isOpen_6 kc_Mod_251 ?_
  refine aw_icmpN_ge d_Mod_isOpen_8 (by omega) (by omega) (fun br8_ => ?_) (fun br8_ => ?_)
  · skip
    have hr_ : decide (v < 268435456) = false := decide_eq_false (by omega)
    refine aw_iconst (v := nI 0) d_Mod_isOpen_15 (by decide) ?_
    refine aw_zret d_Mod_isOpen_16 rfl rfl (Nat.le_refl _) (Nat.le_refl _) ?_
    exact ⟨by rw [hr_]; rfl, rfl⟩
  · skip
    have hr_ : decide (v < 268435456) = true := decide_eq_true (by omega)
    refine aw_iconst (v := nI 1) d_Mod_isOpen_11 (by decide) ?_
    refine aw_goto d_Mod_isOpen_12 ?_
    refine aw_zret d_Mod_isOpen_16 rfl rfl (Nat.le_refl _) (Nat.le_refl _) ?_
    exact ⟨by rw [hr_]; rfl, rfl⟩

set_option maxHeartbeats 4000000 in
set_option maxRecDepth 20000 in
theorem c_Mod_allCodes {G : aG} {nx : Nat} {h h0 : Nat → Option aC} {a : Nat} {A : Nat → Nat} {sc : Nat → Int32} {ar : Nat → Nat → Int32} (hm : MoF h0 h a A sc ar) {hs : HSt} (hh : MoH sc ar hs) (hv : VH hs) : AMet G m_Mod_allCodes 1 0 0 [.ref a] (nx, h) (RV (.int (nI (hall hs))) (nx, h)) := by
  have hp12 := hv.1.1
  have hs24 := hv.2.1
  have hall2 := hv.2.2.2.2.2.2.2
  refine amet_of pf_Mod_allCodes (Nat.le_of_ble_eq_true rfl) ?_
  show AW G m_Mod_allCodes 1 0 0 _ 0 [(0, .ref a)] [] (nx, h) 0 0
  refine aw_iconst (v := nI 1) d_Mod_allCodes_0 (by decide) ?_
  refine aw_istore_n (i := 1) (lv2 := [(0, _), (1, _)]) d_Mod_allCodes_1 rfl (by decide) rfl ?_
  refine aw_iconst (v := nI 0) d_Mod_allCodes_2 (by decide) ?_
  refine aw_istore_n (i := 2) (lv2 := [(0, _), (1, _), (2, _)]) d_Mod_allCodes_3 rfl (by decide) rfl ?_
  show AW G m_Mod_allCodes 1 0 0 _ 4 [(0, .ref a), (1, .int (nI (prd ((pks hs.1).take 0)))), (2, .int (nI 0))] [] (nx, h) 0 0
  refine upto (σ := Nat) (fun i => AW G m_Mod_allCodes 1 0 0 _ 4 [(0, .ref a), (1, .int (nI (prd ((pks hs.1).take i)))), (2, .int (nI i))] [] (nx, h) 0 0) (fun i s => s = i) (hs.1.length) ?_ 0 0 (Nat.zero_le _) rfl
  intro i s0 hi hI ih
  subst hI
  refine aw_iload_n (i := 2) d_Mod_allCodes_4 rfl rfl ?_
  refine aw_aload_n (i := 0) d_Mod_allCodes_5 rfl rfl ?_
  apply mo_gets (f := 1) hm d_Mod_allCodes_6 fl_Mod_153 rfl; exact hh.1.1
  refine aw_icmpN_ge d_Mod_allCodes_9 (by omega) (by omega) (fun br9_ => ?_) (fun br9_ => ?_)
  · skip
    have ei : s0 = hs.1.length := by omega
    subst ei
    rw [List.take_of_length_le (by rw [pk_len]; exact Nat.le_refl _)]
    refine aw_iconst (v := nI 0) d_Mod_allCodes_27 (by decide) ?_
    refine aw_istore_n (i := 2) (lv2 := [(0, _), (1, _), (2, _)]) d_Mod_allCodes_28 rfl (by decide) rfl ?_
    have e0_ : prd (pks hs.1) = prd (pks hs.1 ++ htl (hs.2.1.take 0)) := by simp [htl, ocn]
    rw [e0_]
    show AW G m_Mod_allCodes 1 0 0 _ 29 [(0, .ref a), (1, .int (nI (prd (pks hs.1 ++ htl (hs.2.1.take 0))))), (2, .int (nI 0))] [] (nx, h) 0 0
    refine upto (σ := Nat) (fun i => AW G m_Mod_allCodes 1 0 0 _ 29 [(0, .ref a), (1, .int (nI (prd (pks hs.1 ++ htl (hs.2.1.take i))))), (2, .int (nI i))] [] (nx, h) 0 0) (fun i s => s = i) (hs.2.1.length) ?_ 0 0 (Nat.zero_le _) rfl
    intro i s0 hi hI ih
    subst hI
    refine aw_iload_n (i := 2) d_Mod_allCodes_29 rfl rfl ?_
    refine aw_aload_n (i := 0) d_Mod_allCodes_30 rfl rfl ?_
    apply mo_gets (f := 4) hm d_Mod_allCodes_31 fl_Mod_164 rfl; exact hh.1.2.1
    refine aw_icmpN_ge d_Mod_allCodes_34 (by omega) (by omega) (fun br34_ => ?_) (fun br34_ => ?_)
    · skip
      have ei : s0 = hs.2.1.length := by omega
      subst ei
      rw [List.take_length]
      refine aw_iload_n (i := 1) d_Mod_allCodes_63 rfl rfl ?_
      refine aw_iret d_Mod_allCodes_64 rfl (Nat.le_refl _) (Nat.le_refl _) ?_
      exact ⟨rfl, rfl⟩
    · skip
      have hvk : (hs.2.1.getD s0 sz0).1 ≤ 3 := (hv.s br34_).1
      refine aw_iload_n (i := 1) d_Mod_allCodes_37 rfl rfl ?_
      refine aw_aload_n (i := 0) d_Mod_allCodes_38 rfl rfl ?_
      refine mo_get (f := 5) hm d_Mod_allCodes_39 fl_Mod_16 rfl ?_
      refine aw_iload_n (i := 2) d_Mod_allCodes_42 rfl rfl ?_
      apply mo_ld (f := 5) (N := 24) hm d_Mod_allCodes_43 rfl rfl (by decide); omega; exact (hh.2.2.1 _ (by omega)).1
      apply aw_calls_p (c_Mod_isOnce _) d_Mod_allCodes_44 cl_Mod_167; rfl; rfl; decide; exact Nat.le_of_ble_eq_true rfl; exact (Nat.le_refl _); exact (Nat.le_refl _)
      rw [k2N (by omega)]
      refine aw_ifB_eq d_Mod_allCodes_47 (fun br47_ => ?_) (fun br47_ => ?_)
      · skip
        have hkk : ¬ 2 ≤ (hs.2.1.getD s0 sz0).1 := of_decide_eq_false br47_
        refine aw_iconst (v := nI 1) d_Mod_allCodes_54 (by decide) ?_
        refine aw_imulN d_Mod_allCodes_55 ?_
        refine aw_istore_n (i := 1) (lv2 := [(0, _), (1, _), (2, _)]) d_Mod_allCodes_56 rfl (by decide) rfl ?_
        refine aw_iincN (lv2 := [(0, _), (1, _), (2, _)]) d_Mod_allCodes_57 (by decide) rfl rfl ?_
        refine aw_goto d_Mod_allCodes_60 ?_
        have k9 := ih br34_ (s0 + 1) rfl
        rw [htl_s br34_] at k9
        first | (rw [if_pos hkk] at k9; exact k9) | (rw [if_neg hkk] at k9; exact k9)
      · skip
        have hkk : 2 ≤ (hs.2.1.getD s0 sz0).1 := of_decide_eq_true br47_
        refine aw_iconst (v := nI 2) d_Mod_allCodes_50 (by decide) ?_
        refine aw_goto d_Mod_allCodes_51 ?_
        refine aw_imulN d_Mod_allCodes_55 ?_
        refine aw_istore_n (i := 1) (lv2 := [(0, _), (1, _), (2, _)]) d_Mod_allCodes_56 rfl (by decide) rfl ?_
        refine aw_iincN (lv2 := [(0, _), (1, _), (2, _)]) d_Mod_allCodes_57 (by decide) rfl rfl ?_
        refine aw_goto d_Mod_allCodes_60 ?_
        have k9 := ih br34_ (s0 + 1) rfl
        rw [htl_s br34_] at k9
        first | (rw [if_pos hkk] at k9; exact k9) | (rw [if_neg hkk] at k9; exact k9)
  · skip
    refine aw_iload_n (i := 1) d_Mod_allCodes_12 rfl rfl ?_
    refine aw_aload_n (i := 0) d_Mod_allCodes_13 rfl rfl ?_
    refine mo_get (f := 2) hm d_Mod_allCodes_14 fl_Mod_9 rfl ?_
    refine aw_iload_n (i := 2) d_Mod_allCodes_17 rfl rfl ?_
    apply mo_ld (f := 2) (N := 12) hm d_Mod_allCodes_18 rfl rfl (by decide); omega; exact (hh.2.1 _ (by omega)).1
    refine aw_imulN d_Mod_allCodes_19 ?_
    refine aw_istore_n (i := 1) (lv2 := [(0, _), (1, _), (2, _)]) d_Mod_allCodes_20 rfl (by decide) rfl ?_
    refine aw_iincN (lv2 := [(0, _), (1, _), (2, _)]) d_Mod_allCodes_21 (by decide) rfl rfl ?_
    refine aw_goto d_Mod_allCodes_24 ?_
    have k9 := ih br9_ (s0 + 1) rfl
    rw [pks_take_s br9_] at k9
    exact k9

