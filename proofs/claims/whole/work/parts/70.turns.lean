theorem i2b24 {s : Nat} (h : s < 24) : (nI s).toInt8.toInt32 = nI s := by
  have k0 : ∀ s, s < 24 → (nI s).toInt8.toInt32 = nI s := by decide +kernel
  exact k0 s h
theorem nb24 {s : Nat} (h : s < 24) : vp_nar .byte (nI s) = nI s := by
  have k0 : ∀ s, s < 24 → vp_nar .byte (nI s) = nI s := by decide +kernel
  exact k0 s h
set_option maxHeartbeats 4000000 in
set_option maxRecDepth 20000 in
theorem c_Mod_turnsRound {G : aG} {nx : Nat} {h h0 : Nat → Option aC} {a : Nat} {A : Nat → Nat} {sc : Nat → Int32} {ar : Nat → Nat → Int32} (hm : MoF h0 h a A sc ar) {hs : HSt} (hh : MoH sc ar hs) (hv : VH hs) (hw : MoW sc ar hs) (hb : MoB ar hs) : AMet G m_Mod_turnsRound 0 0 0 [.ref a] (nx, h) (MR nx a h0 A (fun r sc2 ar2 => r = none ∧ Kp [] [31, 32, 33, 34] sc ar sc2 ar2 ∧ MoE ar2 hs)) := by
  have hp12 := hv.1.1
  have hs24 := hv.2.1
  have hall2 := hv.2.2.2.2.2.2.2
  have hh0 := hh
  have hw0 := hw
  have hb0 := hb
  refine amet_of pf_Mod_turnsRound (Nat.le_of_ble_eq_true rfl) ?_
  show AW G m_Mod_turnsRound 0 0 0 _ 0 [(0, .ref a)] [] (nx, h) 0 0
  refine aw_iconst (v := nI 0) d_Mod_turnsRound_0 (by decide) ?_
  refine aw_istore_n (i := 1) (lv2 := [(0, _), (1, _)]) d_Mod_turnsRound_1 rfl (by decide) rfl ?_
  refine mloop (h0 := h0) (a := a) (A := A) (hall hs + 1) (fun i h sc1 ar1 => AW G m_Mod_turnsRound 0 0 0 _ 2 [(0, .ref a), (1, .int (nI i))] [] (nx, h) 0 0) (fun i sc1 ar1 => Kp [] [31, 32, 33, 34] sc ar sc1 ar1 ∧ ∀ k, k < i → ar1 32 k = nI 0) ?_ 0 _ _ _ (Nat.zero_le _) hm ⟨Kp.rf, fun k hk => absurd hk (Nat.not_lt_zero _)⟩
  intro i h sc1 ar1 hi_i hm hI ih
  have hh := hh0.kp hI.1 rfl rfl
  have hw := hw0.kp hI.1 rfl rfl rfl
  have hb : MoB ar1 hs := fun c j hc hj => (congrFun ((hI.1).2 28 rfl) _).trans (hb0 c j hc hj)
  refine aw_iload_n (i := 1) d_Mod_turnsRound_2 rfl rfl ?_
  refine aw_aload_n (i := 0) d_Mod_turnsRound_3 rfl rfl ?_
  apply mo_gets (f := 26) hm d_Mod_turnsRound_4 fl_Mod_206 rfl; exact hw.1
  refine aw_icmpN_gt d_Mod_turnsRound_7 (by omega) (by omega) (fun br7_ => ?_) (fun br7_ => ?_)
  · skip
    refine aw_iconst (v := nI 0) d_Mod_turnsRound_23 (by decide) ?_
    refine aw_istore_n (i := 1) (lv2 := [(0, _), (1, _)]) d_Mod_turnsRound_24 rfl (by decide) rfl ?_
    refine mloop (h0 := h0) (a := a) (A := A) (hall hs) (fun i h sc1 ar1 => AW G m_Mod_turnsRound 0 0 0 _ 25 [(0, .ref a), (1, .int (nI i))] [] (nx, h) 0 0) (fun i sc1 ar1 => Kp [] [31, 32, 33, 34] sc ar sc1 ar1 ∧ ar1 32 0 = nI 0 ∧ ∀ t, t < hall hs → ar1 32 (t + 1) = nI (cnE hs t i 0)) ?_ 0 _ _ _ (Nat.zero_le _) hm ⟨hI.1, hI.2 0 (by omega), fun t ht => hI.2 (t + 1) (by omega)⟩
    intro i h sc1 ar1 hi_i hm hI ih2
    have hh := hh0.kp hI.1 rfl rfl
    have hw := hw0.kp hI.1 rfl rfl rfl
    have hb : MoB ar1 hs := fun c j hc hj => (congrFun ((hI.1).2 28 rfl) _).trans (hb0 c j hc hj)
    refine aw_iload_n (i := 1) d_Mod_turnsRound_25 rfl rfl ?_
    refine aw_aload_n (i := 0) d_Mod_turnsRound_26 rfl rfl ?_
    apply mo_gets (f := 26) hm d_Mod_turnsRound_27 fl_Mod_206 rfl; exact hw.1
    refine aw_icmpN_ge d_Mod_turnsRound_30 (by omega) (by omega) (fun br30_ => ?_) (fun br30_ => ?_)
    · skip
      have ei : i = hall hs := by omega
      subst ei
      refine aw_iconst (v := nI 0) d_Mod_turnsRound_83 (by decide) ?_
      refine aw_istore_n (i := 1) (lv2 := [(0, _), (1, _)]) d_Mod_turnsRound_84 rfl (by decide) rfl ?_
      refine mloop (h0 := h0) (a := a) (A := A) (hall hs) (fun i h sc1 ar1 => AW G m_Mod_turnsRound 0 0 0 _ 85 [(0, .ref a), (1, .int (nI i))] [] (nx, h) 0 0) (fun i sc1 ar1 => Kp [] [31, 32, 33, 34] sc ar sc1 ar1 ∧ (∀ t, t ≤ i → ar1 32 t = nI (bgn hs t)) ∧ (∀ t, i ≤ t → t < hall hs → ar1 32 (t + 1) = nI (colc hs TT t (hall hs))) ∧ (∀ t, t < i → ar1 31 t = nI (bgn hs t))) ?_ 0 _ _ _ (Nat.zero_le _) hm ⟨hI.1, fun t ht => by have e : t = 0 := (by omega); subst e; exact hI.2.1, fun t _ ht => hI.2.2 t ht, fun t ht => absurd ht (Nat.not_lt_zero _)⟩
      intro i h sc1 ar1 hi_i hm hI ih4
      have hh := hh0.kp hI.1 rfl rfl
      have hw := hw0.kp hI.1 rfl rfl rfl
      have hb : MoB ar1 hs := fun c j hc hj => (congrFun ((hI.1).2 28 rfl) _).trans (hb0 c j hc hj)
      refine aw_iload_n (i := 1) d_Mod_turnsRound_85 rfl rfl ?_
      refine aw_aload_n (i := 0) d_Mod_turnsRound_86 rfl rfl ?_
      apply mo_gets (f := 26) hm d_Mod_turnsRound_87 fl_Mod_206 rfl; exact hw.1
      refine aw_icmpN_ge d_Mod_turnsRound_90 (by omega) (by omega) (fun br90_ => ?_) (fun br90_ => ?_)
      · skip
        have ei : i = hall hs := by omega
        subst ei
        refine aw_iconst (v := nI 0) d_Mod_turnsRound_128 (by decide) ?_
        refine aw_istore_n (i := 1) (lv2 := [(0, _), (1, _)]) d_Mod_turnsRound_129 rfl (by decide) rfl ?_
        refine mloop (h0 := h0) (a := a) (A := A) (hall hs) (fun i h sc1 ar1 => AW G m_Mod_turnsRound 0 0 0 _ 130 [(0, .ref a), (1, .int (nI i))] [] (nx, h) 0 0) (fun i sc1 ar1 => Kp [] [31, 32, 33, 34] sc ar sc1 ar1 ∧ (∀ t, t ≤ hall hs → ar1 32 t = nI (bgn hs t)) ∧ E4 hs (ar1 31) (ar1 33) (ar1 34) i 0) ?_ 0 _ _ _ (Nat.zero_le _) hm ⟨hI.1, hI.2.1, ⟨fun t ht => by rw [hI.2.2.2 t ht, show cnE hs t 0 0 = 0 from rfl, Nat.add_zero], fun t ht k h1 h2 => by rw [show cnE hs t 0 0 = 0 from rfl] at h2; omega, fun c s hcs => by omega⟩⟩
        intro i h sc1 ar1 hi_i hm hI ih5
        have hh := hh0.kp hI.1 rfl rfl
        have hw := hw0.kp hI.1 rfl rfl rfl
        have hb : MoB ar1 hs := fun c j hc hj => (congrFun ((hI.1).2 28 rfl) _).trans (hb0 c j hc hj)
        refine aw_iload_n (i := 1) d_Mod_turnsRound_130 rfl rfl ?_
        refine aw_aload_n (i := 0) d_Mod_turnsRound_131 rfl rfl ?_
        apply mo_gets (f := 26) hm d_Mod_turnsRound_132 fl_Mod_206 rfl; exact hw.1
        refine aw_icmpN_ge d_Mod_turnsRound_135 (by omega) (by omega) (fun br135_ => ?_) (fun br135_ => ?_)
        · skip
          have ei : i = hall hs := by omega
          subst ei
          refine aw_vret d_Mod_turnsRound_211 rfl (Nat.le_refl _) (Nat.le_refl _) ?_
          exact ⟨_, _, _, rfl, hm, rfl, hI.1, hI.2.2.done hI.2.1⟩
        · skip
          refine aw_iconst (v := nI 0) d_Mod_turnsRound_138 (by decide) ?_
          refine aw_istore_n (i := 2) (lv2 := [(0, _), (1, _), (2, _)]) d_Mod_turnsRound_139 rfl (by decide) rfl ?_
          refine mloop (h0 := h0) (a := a) (A := A) (hs.2.1.length) (fun j h sc2 ar2 => AW G m_Mod_turnsRound 0 0 0 _ 140 [(0, .ref a), (1, .int (nI i)), (2, .int (nI j))] [] (nx, h) 0 0) (fun j sc2 ar2 => Kp [] [31, 32, 33, 34] sc ar sc2 ar2 ∧ (∀ t, t ≤ hall hs → ar2 32 t = nI (bgn hs t)) ∧ E4 hs (ar2 31) (ar2 33) (ar2 34) i j) ?_ 0 _ _ _ (Nat.zero_le _) hm hI
          intro j h sc2 ar2 hi_j hm hJ ih6
          have hh := hh0.kp hJ.1 rfl rfl
          have hw := hw0.kp hJ.1 rfl rfl rfl
          have hb : MoB ar2 hs := fun c j hc hj => (congrFun ((hJ.1).2 28 rfl) _).trans (hb0 c j hc hj)
          have hE := hJ.2.2
          refine aw_iload_n (i := 2) d_Mod_turnsRound_140 rfl rfl ?_
          refine aw_aload_n (i := 0) d_Mod_turnsRound_141 rfl rfl ?_
          apply mo_gets (f := 4) hm d_Mod_turnsRound_142 fl_Mod_164 rfl; exact hh.1.2.1
          refine aw_icmpN_ge d_Mod_turnsRound_145 (by omega) (by omega) (fun br145_ => ?_) (fun br145_ => ?_)
          · skip
            refine aw_iincN (lv2 := [(0, _), (1, _), (2, _)]) d_Mod_turnsRound_205 (by decide) rfl rfl ?_
            refine aw_goto d_Mod_turnsRound_208 ?_
            refine aw_drop (lv2 := [(0, _), (1, _)]) [0, 1] rfl ?_
            have ej : j = hs.2.1.length := by omega
            subst ej
            exact ih5 br135_ _ _ _ hm ⟨hJ.1, hJ.2.1, hE.next⟩
          · skip
            have hal := aft_lt hv br135_ br145_
            refine aw_aload_n (i := 0) d_Mod_turnsRound_148 rfl rfl ?_
            refine mo_get (f := 28) hm d_Mod_turnsRound_149 fl_Mod_79 rfl ?_
            refine aw_iload_n (i := 1) d_Mod_turnsRound_152 rfl rfl ?_
            refine aw_bipush (v := nI 24) d_Mod_turnsRound_153 (by decide) ?_
            refine aw_imulN d_Mod_turnsRound_155 ?_
            refine aw_iload_n (i := 2) d_Mod_turnsRound_156 rfl rfl ?_
            refine aw_iaddN d_Mod_turnsRound_157 ?_
            apply mo_ld (f := 28) (N := 480000) hm d_Mod_turnsRound_158 rfl rfl (by decide); omega; exact hb _ _ br135_ br145_
            refine aw_istore_n (i := 3) (lv2 := [(0, _), (1, _), (2, _), (3, _)]) d_Mod_turnsRound_159 rfl (by decide) rfl ?_
            refine aw_iload_n (i := 3) d_Mod_turnsRound_160 rfl rfl ?_
            refine aw_if_lt d_Mod_turnsRound_161 (fun br161_ => ?_) (fun br161_ => ?_)
            · skip
              have ho := bh_neg br161_ (by omega)
              refine aw_iincN (lv2 := [(0, _), (1, _), (2, _), (3, _)]) d_Mod_turnsRound_199 (by decide) rfl rfl ?_
              refine aw_goto d_Mod_turnsRound_202 ?_
              refine aw_drop (lv2 := [(0, _), (1, _), (2, _)]) [0, 1, 2] rfl ?_
              exact ih6 br145_ _ _ _ hm ⟨hJ.1, hJ.2.1, hE.skip ho⟩
            · skip
              have ho := bh_pos br161_
              rw [bh_t ho]
              obtain ⟨hE2, hk0⟩ := E4.step hv hE br135_ br145_ ho rfl rfl
              refine aw_aload_n (i := 0) d_Mod_turnsRound_164 rfl rfl ?_
              refine mo_get (f := 33) hm d_Mod_turnsRound_165 fl_Mod_95 rfl ?_
              refine aw_aload_n (i := 0) d_Mod_turnsRound_168 rfl rfl ?_
              refine mo_get (f := 31) hm d_Mod_turnsRound_169 fl_Mod_89 rfl ?_
              refine aw_iload_n (i := 3) d_Mod_turnsRound_172 rfl rfl ?_
              apply mo_ld (f := 31) (N := 20000) hm d_Mod_turnsRound_173 rfl rfl (by decide); omega; exact hE.1 _ hal
              refine aw_iload_n (i := 1) d_Mod_turnsRound_174 rfl rfl ?_
              apply mo_st (f := 33) (N := 480000) hm d_Mod_turnsRound_175 rfl rfl (by decide); exact hk0; intro h hm
              refine aw_aload_n (i := 0) d_Mod_turnsRound_176 rfl rfl ?_
              refine mo_get (f := 34) hm d_Mod_turnsRound_177 fl_Mod_98 rfl ?_
              refine aw_aload_n (i := 0) d_Mod_turnsRound_180 rfl rfl ?_
              refine mo_get (f := 31) hm d_Mod_turnsRound_181 fl_Mod_89 rfl ?_
              refine aw_iload_n (i := 3) d_Mod_turnsRound_184 rfl rfl ?_
              apply mo_ld (f := 31) (N := 20000) hm d_Mod_turnsRound_185 rfl rfl (by decide); omega; exact hE.1 _ hal
              refine aw_iload_n (i := 2) d_Mod_turnsRound_186 rfl rfl ?_
              refine aw_i2b d_Mod_turnsRound_187 ?_
              rw [i2b24 (by omega)]
              apply mo_bst hm d_Mod_turnsRound_188; exact hk0; exact nb24 (by omega); intro h hm
              refine aw_aload_n (i := 0) d_Mod_turnsRound_189 rfl rfl ?_
              refine mo_get (f := 31) hm d_Mod_turnsRound_190 fl_Mod_89 rfl ?_
              refine aw_iload_n (i := 3) d_Mod_turnsRound_193 rfl rfl ?_
              refine aw_dup2 d_Mod_turnsRound_194 rfl rfl ?_
              apply mo_ld (f := 31) (N := 20000) hm d_Mod_turnsRound_195 rfl rfl (by decide); omega; exact hE.1 _ hal
              refine aw_iconst (v := nI 1) d_Mod_turnsRound_196 (by decide) ?_
              refine aw_iaddN d_Mod_turnsRound_197 ?_
              apply mo_st (f := 31) (N := 20000) hm d_Mod_turnsRound_198 rfl rfl (by decide); omega; intro h hm
              refine aw_iincN (lv2 := [(0, _), (1, _), (2, _), (3, _)]) d_Mod_turnsRound_199 (by decide) rfl rfl ?_
              refine aw_goto d_Mod_turnsRound_202 ?_
              refine aw_drop (lv2 := [(0, _), (1, _), (2, _)]) [0, 1, 2] rfl ?_
              exact ih6 br145_ _ _ _ hm ⟨((hJ.1.tr (Kp.st rfl)).tr (Kp.st rfl)).tr (Kp.st rfl), hJ.2.1, hE2⟩
      · skip
        refine aw_aload_n (i := 0) d_Mod_turnsRound_93 rfl rfl ?_
        refine mo_get (f := 32) hm d_Mod_turnsRound_94 fl_Mod_92 rfl ?_
        refine aw_iload_n (i := 1) d_Mod_turnsRound_97 rfl rfl ?_
        refine aw_iconst (v := nI 1) d_Mod_turnsRound_98 (by decide) ?_
        refine aw_iaddN d_Mod_turnsRound_99 ?_
        refine aw_dup2 d_Mod_turnsRound_100 rfl rfl ?_
        apply mo_ld (f := 32) (N := 20001) hm d_Mod_turnsRound_101 rfl rfl (by decide); omega; exact hI.2.2.1 _ (Nat.le_refl _) br90_
        refine aw_aload_n (i := 0) d_Mod_turnsRound_102 rfl rfl ?_
        refine mo_get (f := 32) hm d_Mod_turnsRound_103 fl_Mod_92 rfl ?_
        refine aw_iload_n (i := 1) d_Mod_turnsRound_106 rfl rfl ?_
        apply mo_ld (f := 32) (N := 20001) hm d_Mod_turnsRound_107 rfl rfl (by decide); omega; exact hI.2.1 _ (Nat.le_refl _)
        refine aw_iaddN d_Mod_turnsRound_108 ?_
        apply mo_st (f := 32) (N := 20001) hm d_Mod_turnsRound_109 rfl rfl (by decide); omega; intro h hm
        refine aw_aload_n (i := 0) d_Mod_turnsRound_110 rfl rfl ?_
        refine mo_get (f := 31) hm d_Mod_turnsRound_111 fl_Mod_89 rfl ?_
        refine aw_iload_n (i := 1) d_Mod_turnsRound_114 rfl rfl ?_
        refine aw_aload_n (i := 0) d_Mod_turnsRound_115 rfl rfl ?_
        refine mo_get (f := 32) hm d_Mod_turnsRound_116 fl_Mod_92 rfl ?_
        refine aw_iload_n (i := 1) d_Mod_turnsRound_119 rfl rfl ?_
        apply mo_ld (f := 32) (N := 20001) hm d_Mod_turnsRound_120 rfl rfl (by decide); omega; exact (show _ = nI (bgn hs i) by simp only [ups, upd, if_true]; rw [if_neg (by omega)]; exact hI.2.1 _ (Nat.le_refl _))
        apply mo_st (f := 31) (N := 20000) hm d_Mod_turnsRound_121 rfl rfl (by decide); omega; intro h hm
        refine aw_iincN (lv2 := [(0, _), (1, _)]) d_Mod_turnsRound_122 (by decide) rfl rfl ?_
        refine aw_goto d_Mod_turnsRound_125 ?_
        refine ih4 br90_ _ _ _ hm ⟨(hI.1.tr (Kp.st rfl)).tr (Kp.st rfl), fun t ht => ?_, fun t h1 h2 => ?_, fun t ht => ?_⟩
        · show upd (ar1 32) (i + 1) _ t = _
          by_cases e : t = i + 1
          · subst e; rw [pk_us, bgn_s, Nat.add_comm]
          · rw [pk_un e]; exact hI.2.1 t (by omega)
        · show upd (ar1 32) (i + 1) _ (t + 1) = _
          rw [pk_un (by omega)]; exact hI.2.2.1 t (by omega) h2
        · show upd (ar1 31) i _ t = _
          by_cases e : t = i
          · subst e; rw [pk_us]
          · rw [pk_un e]; exact hI.2.2.2 t (by omega)
    · skip
      refine aw_iconst (v := nI 0) d_Mod_turnsRound_33 (by decide) ?_
      refine aw_istore_n (i := 2) (lv2 := [(0, _), (1, _), (2, _)]) d_Mod_turnsRound_34 rfl (by decide) rfl ?_
      refine mloop (h0 := h0) (a := a) (A := A) (hs.2.1.length) (fun j h sc2 ar2 => AW G m_Mod_turnsRound 0 0 0 _ 35 [(0, .ref a), (1, .int (nI i)), (2, .int (nI j))] [] (nx, h) 0 0) (fun j sc2 ar2 => Kp [] [31, 32, 33, 34] sc ar sc2 ar2 ∧ ar2 32 0 = nI 0 ∧ ∀ t, t < hall hs → ar2 32 (t + 1) = nI (cnE hs t i j)) ?_ 0 _ _ _ (Nat.zero_le _) hm hI
      intro j h sc2 ar2 hi_j hm hJ ih3
      have hh := hh0.kp hJ.1 rfl rfl
      have hw := hw0.kp hJ.1 rfl rfl rfl
      have hb : MoB ar2 hs := fun c j hc hj => (congrFun ((hJ.1).2 28 rfl) _).trans (hb0 c j hc hj)
      refine aw_iload_n (i := 2) d_Mod_turnsRound_35 rfl rfl ?_
      refine aw_aload_n (i := 0) d_Mod_turnsRound_36 rfl rfl ?_
      apply mo_gets (f := 4) hm d_Mod_turnsRound_37 fl_Mod_164 rfl; exact hh.1.2.1
      refine aw_icmpN_ge d_Mod_turnsRound_40 (by omega) (by omega) (fun br40_ => ?_) (fun br40_ => ?_)
      · skip
        refine aw_iincN (lv2 := [(0, _), (1, _), (2, _)]) d_Mod_turnsRound_77 (by decide) rfl rfl ?_
        refine aw_goto d_Mod_turnsRound_80 ?_
        refine aw_drop (lv2 := [(0, _), (1, _)]) [0, 1] rfl ?_
        have ej : j = hs.2.1.length := by omega
        subst ej
        exact ih2 br30_ _ _ _ hm hJ
      · skip
        have hal := aft_lt hv br30_ br40_
        refine aw_aload_n (i := 0) d_Mod_turnsRound_43 rfl rfl ?_
        refine mo_get (f := 28) hm d_Mod_turnsRound_44 fl_Mod_79 rfl ?_
        refine aw_iload_n (i := 1) d_Mod_turnsRound_47 rfl rfl ?_
        refine aw_bipush (v := nI 24) d_Mod_turnsRound_48 (by decide) ?_
        refine aw_imulN d_Mod_turnsRound_50 ?_
        refine aw_iload_n (i := 2) d_Mod_turnsRound_51 rfl rfl ?_
        refine aw_iaddN d_Mod_turnsRound_52 ?_
        apply mo_ld (f := 28) (N := 480000) hm d_Mod_turnsRound_53 rfl rfl (by decide); omega; exact hb _ _ br30_ br40_
        refine aw_istore_n (i := 3) (lv2 := [(0, _), (1, _), (2, _), (3, _)]) d_Mod_turnsRound_54 rfl (by decide) rfl ?_
        refine aw_iload_n (i := 3) d_Mod_turnsRound_55 rfl rfl ?_
        refine aw_if_lt d_Mod_turnsRound_56 (fun br56_ => ?_) (fun br56_ => ?_)
        · skip
          have ho := bh_neg br56_ (by omega)
          have hx : ∀ t, cnE hs t i (j + 1) = cnE hs t i j := fun t => cnE_s0 (Or.inl ho)
          refine aw_iincN (lv2 := [(0, _), (1, _), (2, _), (3, _)]) d_Mod_turnsRound_71 (by decide) rfl rfl ?_
          refine aw_goto d_Mod_turnsRound_74 ?_
          refine aw_drop (lv2 := [(0, _), (1, _), (2, _)]) [0, 1, 2] rfl ?_
          exact ih3 br40_ _ _ _ hm ⟨hJ.1, hJ.2.1, fun t ht => by rw [hx]; exact hJ.2.2 t ht⟩
        · skip
          have ho := bh_pos br56_
          rw [bh_t ho]
          refine aw_aload_n (i := 0) d_Mod_turnsRound_59 rfl rfl ?_
          refine mo_get (f := 32) hm d_Mod_turnsRound_60 fl_Mod_92 rfl ?_
          refine aw_iload_n (i := 3) d_Mod_turnsRound_63 rfl rfl ?_
          refine aw_iconst (v := nI 1) d_Mod_turnsRound_64 (by decide) ?_
          refine aw_iaddN d_Mod_turnsRound_65 ?_
          refine aw_dup2 d_Mod_turnsRound_66 rfl rfl ?_
          apply mo_ld (f := 32) (N := 20001) hm d_Mod_turnsRound_67 rfl rfl (by decide); omega; exact hJ.2.2 _ hal
          refine aw_iconst (v := nI 1) d_Mod_turnsRound_68 (by decide) ?_
          refine aw_iaddN d_Mod_turnsRound_69 ?_
          apply mo_st (f := 32) (N := 20001) hm d_Mod_turnsRound_70 rfl rfl (by decide); omega; intro h hm
          refine aw_iincN (lv2 := [(0, _), (1, _), (2, _), (3, _)]) d_Mod_turnsRound_71 (by decide) rfl rfl ?_
          refine aw_goto d_Mod_turnsRound_74 ?_
          refine aw_drop (lv2 := [(0, _), (1, _), (2, _)]) [0, 1, 2] rfl ?_
          refine ih3 br40_ _ _ _ hm ⟨hJ.1.tr (Kp.st rfl), ?_, fun t ht => ?_⟩
          · simp only [ups, upd, if_true]; rw [if_neg (by omega)]; exact hJ.2.1
          · by_cases e : t = aft hs i j
            · subst e; simp only [ups, upd, if_true]; rw [cnE_s1 ho rfl]
            · simp only [ups, upd, if_true]; rw [if_neg (by omega), cnE_s0 (Or.inr (by omega))]; exact hJ.2.2 t ht
  · skip
    refine aw_aload_n (i := 0) d_Mod_turnsRound_10 rfl rfl ?_
    refine mo_get (f := 32) hm d_Mod_turnsRound_11 fl_Mod_92 rfl ?_
    refine aw_iload_n (i := 1) d_Mod_turnsRound_14 rfl rfl ?_
    refine aw_iconst (v := nI 0) d_Mod_turnsRound_15 (by decide) ?_
    apply mo_st (f := 32) (N := 20001) hm d_Mod_turnsRound_16 rfl rfl (by decide); omega; intro h hm
    refine aw_iincN (lv2 := [(0, _), (1, _)]) d_Mod_turnsRound_17 (by decide) rfl rfl ?_
    refine aw_goto d_Mod_turnsRound_20 ?_
    refine ih (by omega) _ _ _ hm ⟨hI.1.tr (Kp.st rfl), fun k hk => ?_⟩
    by_cases e : k = i
    · subst e; simp only [ups, upd, if_true]
    · simp only [ups, upd, if_true, if_neg e]; exact hI.2 k (by omega)

