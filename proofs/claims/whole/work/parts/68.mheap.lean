/-- the reference's heap in its rows; the place q aside -/
def MHm (N : Nat) (ar : Nat → Nat → Int32) (n : Nat) (hp pl key : Nat → Nat) (seen : Nat → Bool) (q : Nat) : Prop := (∀ i, i < n → i ≠ q → ar 35 i = nI (hp i) ∧ hp i < N) ∧ (∀ c, c < N → ar 30 c = nI (key c) ∧ key c ≤ 268435456) ∧ (∀ c, c < N → ar 36 c = if seen c then nI (pl c) else -1)
theorem MHm.puts {N : Nat} {ar : Nat → Nat → Int32} {n : Nat} {hp pl key : Nat → Nat} {seen : Nat → Bool} {q c : Nat} (h : MHm N ar n hp pl key seen q) (hc : c < N) (hs : seen c = true) (q2 : Nat) : MHm N (ups (ups ar 35 (upd (ar 35) q (nI c))) 36 (upd (ar 36) c (nI q))) n (updn hp q c) (updn pl c q) key seen q2 := by
  refine ⟨fun i hi _ => ?_, fun d hd => h.2.1 d hd, fun d hd => ?_⟩
  · show upd (ar 35) q (nI c) i = _ ∧ _
    by_cases e : i = q
    · subst e; rw [pk_us, un_s]; exact ⟨rfl, hc⟩
    · rw [pk_un e, un_n e]; exact h.1 i hi e
  · show upd (ar 36) c (nI q) d = _
    by_cases e : d = c
    · subst e; rw [pk_us, un_s, if_pos hs]
    · rw [pk_un e, un_n e]; exact h.2.2 d hd
theorem MHm.any {N : Nat} {ar : Nat → Nat → Int32} {n : Nat} {hp pl key : Nat → Nat} {seen : Nat → Bool} (h : MHm N ar n hp pl key seen n) (q : Nat) : MHm N ar n hp pl key seen q := ⟨fun i hi _ => h.1 i hi (by omega), h.2⟩
theorem MHm.kp {N : Nat} {sc sc2 : Nat → Int32} {ar ar2 : Nat → Nat → Int32} {n : Nat} {hp pl key : Nat → Nat} {seen : Nat → Bool} {q : Nat} {Ls La : List Nat} (h : MHm N ar n hp pl key seen q) (hk : Kp Ls La sc ar sc2 ar2) (h1 : La.contains 30 = false) (h2 : La.contains 35 = false) (h3 : La.contains 36 = false) : MHm N ar2 n hp pl key seen q := by
  unfold MHm; rw [hk.2 _ h1, hk.2 _ h2, hk.2 _ h3]; exact h
set_option maxHeartbeats 4000000 in
set_option maxRecDepth 20000 in
theorem c_Mod_rises {G : aG} {nx : Nat} {h h0 : Nat → Option aC} {a : Nat} {A : Nat → Nat} {sc : Nat → Int32} {ar : Nat → Nat → Int32} (hm : MoF h0 h a A sc ar) {N n : Nat} {hp pl key : Nat → Nat} {seen : Nat → Bool} {C : Nat → Prop} (hN : N ≤ 20000) (hCs : ∀ c, C c → seen c = true) {x q : Nat} (hU : Hu n hp pl key C x q) (hM : MHm N ar n hp pl key seen q) (hxN : x < N) (hsx : seen x = true) (hpl : ar 36 x = nI q) (hn : n ≤ N) : AMet G m_Mod_rises 1 0 0 [.ref a, .int (nI x)] (nx, h) (MR nx a h0 A (fun r sc2 ar2 => r = none ∧ ∃ hp2 pl2, Hp n hp2 pl2 key C ∧ MHm N ar2 n hp2 pl2 key seen n ∧ Kp [] [35, 36] sc ar sc2 ar2)) := by
  refine amet_of pf_Mod_rises (Nat.le_of_ble_eq_true rfl) ?_
  show AW G m_Mod_rises 1 0 0 _ 0 [(0, .ref a), (1, .int (nI x))] [] (nx, h) 0 0
  refine aw_aload_n (i := 0) d_Mod_rises_0 rfl rfl ?_
  refine mo_get (f := 36) hm d_Mod_rises_1 fl_Mod_105 rfl ?_
  refine aw_iload_n (i := 1) d_Mod_rises_4 rfl rfl ?_
  apply mo_ld (f := 36) (N := 20000) hm d_Mod_rises_5 rfl rfl (by decide); omega; exact hpl
  refine aw_istore_n (i := 2) (lv2 := [(0, _), (1, _), (2, _)]) d_Mod_rises_6 rfl (by decide) rfl ?_
  refine mdown (h0 := h0) (a := a) (A := A) (fun q h sc1 ar1 => ∀ (hp pl : Nat → Nat), Kp [] [35, 36] sc ar sc1 ar1 ∧ Hu n hp pl key C x q ∧ MHm N ar1 n hp pl key seen q → AW G m_Mod_rises 1 0 0 _ 7 [(0, .ref a), (1, .int (nI x)), (2, .int (nI q))] [] (nx, h) 0 0) (fun _ _ _ => True) ?_ (q) _ _ _ hm trivial _ _ ⟨Kp.rf, hU, hM⟩
  intro q h sc1 ar1 hm _ ih hp pl hI
  obtain ⟨hK, hU, hM⟩ := hI
  have hqn := hU.1
  refine aw_iload_n (i := 2) d_Mod_rises_7 rfl rfl ?_
  refine aw_ifN_le d_Mod_rises_8 (by omega) (fun br8_ => ?_) (fun br8_ => ?_)
  · skip
    have hfin := hU.fin (fun h9 => by omega)
    refine aw_aload_n (i := 0) d_Mod_rises_59 rfl rfl ?_
    refine aw_iload_n (i := 2) d_Mod_rises_60 rfl rfl ?_
    refine aw_iload_n (i := 1) d_Mod_rises_61 rfl rfl ?_
    apply aw_callv_M0 (c_Mod_puts hm (q) (x) (by omega) (by omega)) d_Mod_rises_62 cl_Mod_241; exact hm.1.1; rfl; rfl; rfl; rfl; decide; exact Nat.le_of_ble_eq_true rfl; exact Nat.le_refl _; exact Nat.le_refl _
    rintro h _ _ hm ⟨rfl, rfl⟩
    refine aw_vret d_Mod_rises_65 rfl (Nat.le_refl _) (Nat.le_refl _) ?_
    exact ⟨_, _, _, rfl, hm, rfl, _, _, hfin, hM.puts hxN hsx _, (hK.tr (Kp.st rfl)).tr (Kp.st rfl)⟩
  · skip
    have hpa : (q - 1) / 2 < n := by omega
    have hpe := hM.1 _ hpa (by omega)
    have hke := hM.2.1 _ hpe.2
    have hkx := hM.2.1 _ hxN
    have hsp : seen (hp ((q - 1) / 2)) = true := hCs _ ((hU.2.2.2.2.2 _).mpr (Or.inr ⟨_, hpa, by omega, rfl⟩))
    refine aw_aload_n (i := 0) d_Mod_rises_11 rfl rfl ?_
    refine mo_get (f := 30) hm d_Mod_rises_12 fl_Mod_86 rfl ?_
    refine aw_aload_n (i := 0) d_Mod_rises_15 rfl rfl ?_
    refine mo_get (f := 35) hm d_Mod_rises_16 fl_Mod_102 rfl ?_
    refine aw_iload_n (i := 2) d_Mod_rises_19 rfl rfl ?_
    refine aw_iconst (v := nI 1) d_Mod_rises_20 (by decide) ?_
    refine aw_isubN d_Mod_rises_21 (by omega) ?_
    refine aw_iconst (v := nI 2) d_Mod_rises_22 (by decide) ?_
    refine aw_idivN d_Mod_rises_23 (by omega) (by omega) (by omega) ?_
    apply mo_ld (f := 35) (N := 20000) hm d_Mod_rises_24 rfl rfl (by decide); omega; exact hpe.1
    apply mo_ld (f := 30) (N := 20000) hm d_Mod_rises_25 rfl rfl (by decide); omega; exact hke.1
    refine aw_aload_n (i := 0) d_Mod_rises_26 rfl rfl ?_
    refine mo_get (f := 30) hm d_Mod_rises_27 fl_Mod_86 rfl ?_
    refine aw_iload_n (i := 1) d_Mod_rises_30 rfl rfl ?_
    apply mo_ld (f := 30) (N := 20000) hm d_Mod_rises_31 rfl rfl (by decide); omega; exact hkx.1
    refine aw_icmpN_le d_Mod_rises_32 (by omega) (by omega) (fun br32_ => ?_) (fun br32_ => ?_)
    · skip
      have hfin := hU.fin (fun h9 => br32_)
      refine aw_aload_n (i := 0) d_Mod_rises_59 rfl rfl ?_
      refine aw_iload_n (i := 2) d_Mod_rises_60 rfl rfl ?_
      refine aw_iload_n (i := 1) d_Mod_rises_61 rfl rfl ?_
      apply aw_callv_M0 (c_Mod_puts hm (q) (x) (by omega) (by omega)) d_Mod_rises_62 cl_Mod_241; exact hm.1.1; rfl; rfl; rfl; rfl; decide; exact Nat.le_of_ble_eq_true rfl; exact Nat.le_refl _; exact Nat.le_refl _
      rintro h _ _ hm ⟨rfl, rfl⟩
      refine aw_vret d_Mod_rises_65 rfl (Nat.le_refl _) (Nat.le_refl _) ?_
      exact ⟨_, _, _, rfl, hm, rfl, _, _, hfin, hM.puts hxN hsx _, (hK.tr (Kp.st rfl)).tr (Kp.st rfl)⟩
    · skip
      refine aw_aload_n (i := 0) d_Mod_rises_35 rfl rfl ?_
      refine aw_iload_n (i := 2) d_Mod_rises_36 rfl rfl ?_
      refine aw_aload_n (i := 0) d_Mod_rises_37 rfl rfl ?_
      refine mo_get (f := 35) hm d_Mod_rises_38 fl_Mod_102 rfl ?_
      refine aw_iload_n (i := 2) d_Mod_rises_41 rfl rfl ?_
      refine aw_iconst (v := nI 1) d_Mod_rises_42 (by decide) ?_
      refine aw_isubN d_Mod_rises_43 (by omega) ?_
      refine aw_iconst (v := nI 2) d_Mod_rises_44 (by decide) ?_
      refine aw_idivN d_Mod_rises_45 (by omega) (by omega) (by omega) ?_
      apply mo_ld (f := 35) (N := 20000) hm d_Mod_rises_46 rfl rfl (by decide); omega; exact hpe.1
      apply aw_callv_M0 (c_Mod_puts hm (q) (hp ((q - 1) / 2)) (by omega) (by omega)) d_Mod_rises_47 cl_Mod_241; exact hm.1.1; rfl; rfl; rfl; rfl; decide; exact Nat.le_of_ble_eq_true rfl; exact Nat.le_refl _; exact Nat.le_refl _
      rintro h _ _ hm ⟨rfl, rfl⟩
      refine aw_iload_n (i := 2) d_Mod_rises_50 rfl rfl ?_
      refine aw_iconst (v := nI 1) d_Mod_rises_51 (by decide) ?_
      refine aw_isubN d_Mod_rises_52 (by omega) ?_
      refine aw_iconst (v := nI 2) d_Mod_rises_53 (by decide) ?_
      refine aw_idivN d_Mod_rises_54 (by omega) (by omega) (by omega) ?_
      refine aw_istore_n (i := 2) (lv2 := [(0, _), (1, _), (2, _)]) d_Mod_rises_55 rfl (by decide) rfl ?_
      refine aw_goto d_Mod_rises_56 ?_
      exact ih _ _ _ _ (by omega) hm trivial _ _ ⟨(hK.tr (Kp.st rfl)).tr (Kp.st rfl), hU.step br8_ br32_, hM.puts hpe.2 hsp _⟩

set_option maxHeartbeats 4000000 in
set_option maxRecDepth 20000 in
theorem c_Mod_takes {G : aG} {nx : Nat} {h h0 : Nat → Option aC} {a : Nat} {A : Nat → Nat} {sc : Nat → Int32} {ar : Nat → Nat → Int32} (hm : MoF h0 h a A sc ar) {N n : Nat} {hp0 pl0 key : Nat → Nat} {seen : Nat → Bool} {C : Nat → Prop} (hN : N ≤ 20000) (hCs : ∀ c, C c → seen c = true) (hP : Hp (n + 1) hp0 pl0 key C) (hM : MHm N ar (n + 1) hp0 pl0 key seen (n + 1)) (hz : sc 37 = nI (n + 1)) (hn : n + 1 ≤ N) : AMet G m_Mod_takes 1 0 0 [.ref a] (nx, h) (MR nx a h0 A (fun r sc2 ar2 => r = some (.int (nI (hp0 0))) ∧ ∃ hp2 pl2, Hp n hp2 pl2 key (fun c => C c ∧ c ≠ hp0 0) ∧ MHm N ar2 n hp2 pl2 key seen n ∧ sc2 37 = nI n ∧ Kp [37] [35, 36] sc ar sc2 ar2)) := by
  have hz0 := hM.1 0 (by omega) (by omega)
  have hzn := hM.1 n (by omega) (by omega)
  have hxN := hzn.2
  have hsx := hCs _ ((hP.2.2 _).mpr ⟨n, by omega, rfl⟩)
  refine amet_of pf_Mod_takes (Nat.le_of_ble_eq_true rfl) ?_
  show AW G m_Mod_takes 1 0 0 _ 0 [(0, .ref a)] [] (nx, h) 0 0
  refine aw_aload_n (i := 0) d_Mod_takes_0 rfl rfl ?_
  refine mo_get (f := 35) hm d_Mod_takes_1 fl_Mod_102 rfl ?_
  refine aw_iconst (v := nI 0) d_Mod_takes_4 (by decide) ?_
  apply mo_ld (f := 35) (N := 20000) hm d_Mod_takes_5 rfl rfl (by decide); omega; exact hz0.1
  refine aw_istore_n (i := 1) (lv2 := [(0, _), (1, _)]) d_Mod_takes_6 rfl (by decide) rfl ?_
  refine aw_aload_n (i := 0) d_Mod_takes_7 rfl rfl ?_
  refine aw_dup d_Mod_takes_8 rfl ?_
  apply mo_gets (f := 37) hm d_Mod_takes_9 fl_Mod_245 rfl; exact hz
  refine aw_iconst (v := nI 1) d_Mod_takes_12 (by decide) ?_
  refine aw_isubN d_Mod_takes_13 (by omega) ?_
  apply mo_put (f := 37) hm d_Mod_takes_14 pl_Mod_245 (ms_37 _ _ _) (by decide) rfl rfl; intro h hm
  have hz : upd sc 37 (nI (n + 1 - 1)) 37 = nI n := rfl
  refine aw_aload_n (i := 0) d_Mod_takes_17 rfl rfl ?_
  apply mo_gets (f := 37) hm d_Mod_takes_18 fl_Mod_245 rfl; exact (show _ = nI n from rfl)
  refine aw_ifN_ne d_Mod_takes_21 (by omega) (fun br21_ => ?_) (fun br21_ => ?_)
  · skip
    have hd0 := hP.take (by omega)
    refine aw_aload_n (i := 0) d_Mod_takes_26 rfl rfl ?_
    refine mo_get (f := 35) hm d_Mod_takes_27 fl_Mod_102 rfl ?_
    refine aw_aload_n (i := 0) d_Mod_takes_30 rfl rfl ?_
    apply mo_gets (f := 37) hm d_Mod_takes_31 fl_Mod_245 rfl; exact (show _ = nI n from rfl)
    apply mo_ld (f := 35) (N := 20000) hm d_Mod_takes_34 rfl rfl (by decide); omega; exact hzn.1
    refine aw_istore_n (i := 2) (lv2 := [(0, _), (1, _), (2, _)]) d_Mod_takes_35 rfl (by decide) rfl ?_
    refine aw_iconst (v := nI 0) d_Mod_takes_36 (by decide) ?_
    refine aw_istore_n (i := 3) (lv2 := [(0, _), (1, _), (2, _), (3, _)]) d_Mod_takes_37 rfl (by decide) rfl ?_
    refine aw_iconst (v := nI 1) d_Mod_takes_38 (by decide) ?_
    refine aw_istore (lv2 := [(0, _), (1, _), (2, _), (3, _), (4, _)]) d_Mod_takes_39 (by decide) rfl ?_
    refine mdown (h0 := h0) (a := a) (A := A) (fun m h sc1 ar1 => ∀ (hp pl : Nat → Nat) (q : Nat) (b : Bool), m = 2 * (n - q) + (if b then 1 else 0) ∧ Kp [37] [35, 36] sc ar sc1 ar1 ∧ Hd n hp pl key (fun c => C c ∧ c ≠ hp0 0) (hp0 n) q ∧ MHm N ar1 n hp pl key seen q ∧ sc1 37 = nI n ∧ (b = false → ∀ i, 0 < i → i < n → (i - 1) / 2 = q → key (hp0 n) ≤ key (hp i)) → AW G m_Mod_takes 1 0 0 _ 41 [(0, .ref a), (1, .int (nI (hp0 0))), (2, .int (nI (hp0 n))), (3, .int (nI q)), (4, .int (bI b))] [] (nx, h) 0 0) (fun _ _ _ => True) ?_ (2 * (n - 0) + (if true then 1 else 0)) _ _ _ hm trivial _ _ 0 true ⟨rfl, Kp.put rfl, hd0, ⟨fun i hi _ => hM.1 i (by omega) (by omega), hM.2⟩, rfl, fun h9 => by cases h9⟩
    intro m h sc1 ar1 hm _ ih hp pl q b hI
    obtain ⟨hme, hK, hD, hM, hz, hend⟩ := hI
    have hqn := hD.1
    have hkx := hM.2.1 _ hxN
    refine aw_iload d_Mod_takes_41 rfl ?_
    refine aw_ifB_eq d_Mod_takes_43 (fun br43_ => ?_) (fun br43_ => ?_)
    · skip
      subst br43_
      have hfin := hD.fin (hend rfl)
      refine aw_aload_n (i := 0) d_Mod_takes_156 rfl rfl ?_
      refine aw_iload_n (i := 3) d_Mod_takes_157 rfl rfl ?_
      refine aw_iload_n (i := 2) d_Mod_takes_158 rfl rfl ?_
      apply aw_callv_M0 (c_Mod_puts hm (q) (hp0 n) (by omega) (by omega)) d_Mod_takes_159 cl_Mod_241; exact hm.1.1; rfl; rfl; rfl; rfl; decide; exact Nat.le_of_ble_eq_true rfl; exact Nat.le_refl _; exact Nat.le_refl _
      rintro h _ _ hm ⟨rfl, rfl⟩
      refine aw_iload_n (i := 1) d_Mod_takes_162 rfl rfl ?_
      refine aw_iret d_Mod_takes_163 rfl (Nat.le_refl _) (Nat.le_refl _) ?_
      exact ⟨_, _, _, rfl, hm, rfl, _, _, hfin, hM.puts hxN hsx _, hz, (hK.tr (Kp.st rfl)).tr (Kp.st rfl)⟩
    · skip
      subst br43_
      refine aw_iconst (v := nI 2) d_Mod_takes_46 (by decide) ?_
      refine aw_iload_n (i := 3) d_Mod_takes_47 rfl rfl ?_
      refine aw_imulN d_Mod_takes_48 ?_
      refine aw_iconst (v := nI 1) d_Mod_takes_49 (by decide) ?_
      refine aw_iaddN d_Mod_takes_50 ?_
      refine aw_istore (lv2 := [(0, _), (1, _), (2, _), (3, _), (4, _), (5, _)]) d_Mod_takes_51 (by decide) rfl ?_
      refine aw_iload d_Mod_takes_53 rfl ?_
      refine aw_iconst (v := nI 1) d_Mod_takes_55 (by decide) ?_
      refine aw_iaddN d_Mod_takes_56 ?_
      refine aw_aload_n (i := 0) d_Mod_takes_57 rfl rfl ?_
      apply mo_gets (f := 37) hm d_Mod_takes_58 fl_Mod_245 rfl; exact hz
      refine aw_icmpN_ge d_Mod_takes_61 (by omega) (by omega) (fun br61_ => ?_) (fun br61_ => ?_)
      · skip
        have hsib : ∀ i, 0 < i → i < n → (i - 1) / 2 = q → key (hp (2 * q + 1)) ≤ key (hp i) := fun i h0 hi hpa => by
          have e : i = 2 * q + 1 := by omega
          rw [e]; exact Nat.le_refl _
        refine aw_iload d_Mod_takes_96 rfl ?_
        refine aw_aload_n (i := 0) d_Mod_takes_98 rfl rfl ?_
        apply mo_gets (f := 37) hm d_Mod_takes_99 fl_Mod_245 rfl; exact hz
        refine aw_icmpN_ge d_Mod_takes_102 (by omega) (by omega) (fun br102_ => ?_) (fun br102_ => ?_)
        · skip
          have hend : ∀ i, 0 < i → i < n → (i - 1) / 2 = q → key (hp0 n) ≤ key (hp i) := fun i h0 hi hpa => by omega
          refine aw_iconst (v := nI 0) d_Mod_takes_130 (by decide) ?_
          refine aw_istore (lv2 := [(0, _), (1, _), (2, _), (3, _), (4, _), (5, _)]) d_Mod_takes_131 (by decide) rfl ?_
          refine aw_iload d_Mod_takes_133 rfl ?_
          refine aw_if_eq d_Mod_takes_135 (fun br135_ => ?_) (fun br135_ => absurd (by decide) br135_)
          refine aw_goto d_Mod_takes_153 ?_
          refine aw_drop (lv2 := [(0, _), (1, _), (2, _), (3, _), (4, _)]) [0, 1, 2, 3, 4] rfl ?_
          exact ih (2 * (n - q)) _ _ _ (by simp at hme; omega) hm trivial _ _ q false ⟨rfl, hK, hD, hM, hz, fun _ => hend⟩
        · skip
          have hCh := hM.1 _ br102_ (by omega)
          have hkC := hM.2.1 _ hCh.2
          have hsc := hCs _ (((hD.2.2.2.2.2 _).mpr (Or.inr ⟨_, br102_, by omega, rfl⟩)).1)
          refine aw_aload_n (i := 0) d_Mod_takes_105 rfl rfl ?_
          refine mo_get (f := 30) hm d_Mod_takes_106 fl_Mod_86 rfl ?_
          refine aw_aload_n (i := 0) d_Mod_takes_109 rfl rfl ?_
          refine mo_get (f := 35) hm d_Mod_takes_110 fl_Mod_102 rfl ?_
          refine aw_iload d_Mod_takes_113 rfl ?_
          apply mo_ld (f := 35) (N := 20000) hm d_Mod_takes_115 rfl rfl (by decide); omega; exact hCh.1
          apply mo_ld (f := 30) (N := 20000) hm d_Mod_takes_116 rfl rfl (by decide); omega; exact hkC.1
          refine aw_aload_n (i := 0) d_Mod_takes_117 rfl rfl ?_
          refine mo_get (f := 30) hm d_Mod_takes_118 fl_Mod_86 rfl ?_
          refine aw_iload_n (i := 2) d_Mod_takes_121 rfl rfl ?_
          apply mo_ld (f := 30) (N := 20000) hm d_Mod_takes_122 rfl rfl (by decide); omega; exact hkx.1
          refine aw_icmpN_ge d_Mod_takes_123 (by omega) (by omega) (fun br123_ => ?_) (fun br123_ => ?_)
          · skip
            have hend : ∀ i, 0 < i → i < n → (i - 1) / 2 = q → key (hp0 n) ≤ key (hp i) := fun i h0 hi hpa => Nat.le_trans br123_ (hsib i h0 hi hpa)
            refine aw_iconst (v := nI 0) d_Mod_takes_130 (by decide) ?_
            refine aw_istore (lv2 := [(0, _), (1, _), (2, _), (3, _), (4, _), (5, _)]) d_Mod_takes_131 (by decide) rfl ?_
            refine aw_iload d_Mod_takes_133 rfl ?_
            refine aw_if_eq d_Mod_takes_135 (fun br135_ => ?_) (fun br135_ => absurd (by decide) br135_)
            refine aw_goto d_Mod_takes_153 ?_
            refine aw_drop (lv2 := [(0, _), (1, _), (2, _), (3, _), (4, _)]) [0, 1, 2, 3, 4] rfl ?_
            exact ih (2 * (n - q)) _ _ _ (by simp at hme; omega) hm trivial _ _ q false ⟨rfl, hK, hD, hM, hz, fun _ => hend⟩
          · skip
            refine aw_iconst (v := nI 1) d_Mod_takes_126 (by decide) ?_
            refine aw_goto d_Mod_takes_127 ?_
            refine aw_istore (lv2 := [(0, _), (1, _), (2, _), (3, _), (4, _), (5, _)]) d_Mod_takes_131 (by decide) rfl ?_
            refine aw_iload d_Mod_takes_133 rfl ?_
            refine aw_if_eq d_Mod_takes_135 (fun br135_ => absurd br135_ (by decide)) (fun br135_ => ?_)
            refine aw_aload_n (i := 0) d_Mod_takes_138 rfl rfl ?_
            refine aw_iload_n (i := 3) d_Mod_takes_139 rfl rfl ?_
            refine aw_aload_n (i := 0) d_Mod_takes_140 rfl rfl ?_
            refine mo_get (f := 35) hm d_Mod_takes_141 fl_Mod_102 rfl ?_
            refine aw_iload d_Mod_takes_144 rfl ?_
            apply mo_ld (f := 35) (N := 20000) hm d_Mod_takes_146 rfl rfl (by decide); omega; exact hCh.1
            apply aw_callv_M0 (c_Mod_puts hm (q) (hp (2 * q + 1)) (by omega) (by omega)) d_Mod_takes_147 cl_Mod_241; exact hm.1.1; rfl; rfl; rfl; rfl; decide; exact Nat.le_of_ble_eq_true rfl; exact Nat.le_refl _; exact Nat.le_refl _
            rintro h _ _ hm ⟨rfl, rfl⟩
            refine aw_iload d_Mod_takes_150 rfl ?_
            refine aw_istore_n (i := 3) (lv2 := [(0, _), (1, _), (2, _), (3, _), (4, _), (5, _)]) d_Mod_takes_152 rfl (by decide) rfl ?_
            refine aw_goto d_Mod_takes_153 ?_
            refine aw_drop (lv2 := [(0, _), (1, _), (2, _), (3, _), (4, _)]) [0, 1, 2, 3, 4] rfl ?_
            exact ih (2 * (n - (2 * q + 1)) + 1) _ _ _ (by simp at hme; omega) hm trivial _ _ _ true ⟨rfl, (hK.tr (Kp.st rfl)).tr (Kp.st rfl), hD.step br102_ (by omega) (by omega) br123_ hsib, hM.puts hCh.2 hsc _, hz, fun h9 => by cases h9⟩
      · skip
        have hL := hM.1 (2 * q + 1) (by omega) (by omega)
        have hR := hM.1 (2 * q + 1 + 1) (by omega) (by omega)
        have hkL := hM.2.1 _ hL.2
        have hkR := hM.2.1 _ hR.2
        refine aw_aload_n (i := 0) d_Mod_takes_64 rfl rfl ?_
        refine mo_get (f := 30) hm d_Mod_takes_65 fl_Mod_86 rfl ?_
        refine aw_aload_n (i := 0) d_Mod_takes_68 rfl rfl ?_
        refine mo_get (f := 35) hm d_Mod_takes_69 fl_Mod_102 rfl ?_
        refine aw_iload d_Mod_takes_72 rfl ?_
        refine aw_iconst (v := nI 1) d_Mod_takes_74 (by decide) ?_
        refine aw_iaddN d_Mod_takes_75 ?_
        apply mo_ld (f := 35) (N := 20000) hm d_Mod_takes_76 rfl rfl (by decide); omega; exact hR.1
        apply mo_ld (f := 30) (N := 20000) hm d_Mod_takes_77 rfl rfl (by decide); omega; exact hkR.1
        refine aw_aload_n (i := 0) d_Mod_takes_78 rfl rfl ?_
        refine mo_get (f := 30) hm d_Mod_takes_79 fl_Mod_86 rfl ?_
        refine aw_aload_n (i := 0) d_Mod_takes_82 rfl rfl ?_
        refine mo_get (f := 35) hm d_Mod_takes_83 fl_Mod_102 rfl ?_
        refine aw_iload d_Mod_takes_86 rfl ?_
        apply mo_ld (f := 35) (N := 20000) hm d_Mod_takes_88 rfl rfl (by decide); omega; exact hL.1
        apply mo_ld (f := 30) (N := 20000) hm d_Mod_takes_89 rfl rfl (by decide); omega; exact hkL.1
        refine aw_icmpN_ge d_Mod_takes_90 (by omega) (by omega) (fun br90_ => ?_) (fun br90_ => ?_)
        · skip
          have hsib : ∀ i, 0 < i → i < n → (i - 1) / 2 = q → key (hp (2 * q + 1)) ≤ key (hp i) := fun i h0 hi hpa => by
            rcases (show i = 2 * q + 1 ∨ i = 2 * q + 1 + 1 by omega) with e | e
            · rw [e]; exact Nat.le_refl _
            · rw [e]; exact br90_
          refine aw_iload d_Mod_takes_96 rfl ?_
          refine aw_aload_n (i := 0) d_Mod_takes_98 rfl rfl ?_
          apply mo_gets (f := 37) hm d_Mod_takes_99 fl_Mod_245 rfl; exact hz
          refine aw_icmpN_ge d_Mod_takes_102 (by omega) (by omega) (fun br102_ => ?_) (fun br102_ => ?_)
          · skip
            have hend : ∀ i, 0 < i → i < n → (i - 1) / 2 = q → key (hp0 n) ≤ key (hp i) := fun i h0 hi hpa => by omega
            refine aw_iconst (v := nI 0) d_Mod_takes_130 (by decide) ?_
            refine aw_istore (lv2 := [(0, _), (1, _), (2, _), (3, _), (4, _), (5, _)]) d_Mod_takes_131 (by decide) rfl ?_
            refine aw_iload d_Mod_takes_133 rfl ?_
            refine aw_if_eq d_Mod_takes_135 (fun br135_ => ?_) (fun br135_ => absurd (by decide) br135_)
            refine aw_goto d_Mod_takes_153 ?_
            refine aw_drop (lv2 := [(0, _), (1, _), (2, _), (3, _), (4, _)]) [0, 1, 2, 3, 4] rfl ?_
            exact ih (2 * (n - q)) _ _ _ (by simp at hme; omega) hm trivial _ _ q false ⟨rfl, hK, hD, hM, hz, fun _ => hend⟩
          · skip
            have hCh := hM.1 _ br102_ (by omega)
            have hkC := hM.2.1 _ hCh.2
            have hsc := hCs _ (((hD.2.2.2.2.2 _).mpr (Or.inr ⟨_, br102_, by omega, rfl⟩)).1)
            refine aw_aload_n (i := 0) d_Mod_takes_105 rfl rfl ?_
            refine mo_get (f := 30) hm d_Mod_takes_106 fl_Mod_86 rfl ?_
            refine aw_aload_n (i := 0) d_Mod_takes_109 rfl rfl ?_
            refine mo_get (f := 35) hm d_Mod_takes_110 fl_Mod_102 rfl ?_
            refine aw_iload d_Mod_takes_113 rfl ?_
            apply mo_ld (f := 35) (N := 20000) hm d_Mod_takes_115 rfl rfl (by decide); omega; exact hCh.1
            apply mo_ld (f := 30) (N := 20000) hm d_Mod_takes_116 rfl rfl (by decide); omega; exact hkC.1
            refine aw_aload_n (i := 0) d_Mod_takes_117 rfl rfl ?_
            refine mo_get (f := 30) hm d_Mod_takes_118 fl_Mod_86 rfl ?_
            refine aw_iload_n (i := 2) d_Mod_takes_121 rfl rfl ?_
            apply mo_ld (f := 30) (N := 20000) hm d_Mod_takes_122 rfl rfl (by decide); omega; exact hkx.1
            refine aw_icmpN_ge d_Mod_takes_123 (by omega) (by omega) (fun br123_ => ?_) (fun br123_ => ?_)
            · skip
              have hend : ∀ i, 0 < i → i < n → (i - 1) / 2 = q → key (hp0 n) ≤ key (hp i) := fun i h0 hi hpa => Nat.le_trans br123_ (hsib i h0 hi hpa)
              refine aw_iconst (v := nI 0) d_Mod_takes_130 (by decide) ?_
              refine aw_istore (lv2 := [(0, _), (1, _), (2, _), (3, _), (4, _), (5, _)]) d_Mod_takes_131 (by decide) rfl ?_
              refine aw_iload d_Mod_takes_133 rfl ?_
              refine aw_if_eq d_Mod_takes_135 (fun br135_ => ?_) (fun br135_ => absurd (by decide) br135_)
              refine aw_goto d_Mod_takes_153 ?_
              refine aw_drop (lv2 := [(0, _), (1, _), (2, _), (3, _), (4, _)]) [0, 1, 2, 3, 4] rfl ?_
              exact ih (2 * (n - q)) _ _ _ (by simp at hme; omega) hm trivial _ _ q false ⟨rfl, hK, hD, hM, hz, fun _ => hend⟩
            · skip
              refine aw_iconst (v := nI 1) d_Mod_takes_126 (by decide) ?_
              refine aw_goto d_Mod_takes_127 ?_
              refine aw_istore (lv2 := [(0, _), (1, _), (2, _), (3, _), (4, _), (5, _)]) d_Mod_takes_131 (by decide) rfl ?_
              refine aw_iload d_Mod_takes_133 rfl ?_
              refine aw_if_eq d_Mod_takes_135 (fun br135_ => absurd br135_ (by decide)) (fun br135_ => ?_)
              refine aw_aload_n (i := 0) d_Mod_takes_138 rfl rfl ?_
              refine aw_iload_n (i := 3) d_Mod_takes_139 rfl rfl ?_
              refine aw_aload_n (i := 0) d_Mod_takes_140 rfl rfl ?_
              refine mo_get (f := 35) hm d_Mod_takes_141 fl_Mod_102 rfl ?_
              refine aw_iload d_Mod_takes_144 rfl ?_
              apply mo_ld (f := 35) (N := 20000) hm d_Mod_takes_146 rfl rfl (by decide); omega; exact hCh.1
              apply aw_callv_M0 (c_Mod_puts hm (q) (hp (2 * q + 1)) (by omega) (by omega)) d_Mod_takes_147 cl_Mod_241; exact hm.1.1; rfl; rfl; rfl; rfl; decide; exact Nat.le_of_ble_eq_true rfl; exact Nat.le_refl _; exact Nat.le_refl _
              rintro h _ _ hm ⟨rfl, rfl⟩
              refine aw_iload d_Mod_takes_150 rfl ?_
              refine aw_istore_n (i := 3) (lv2 := [(0, _), (1, _), (2, _), (3, _), (4, _), (5, _)]) d_Mod_takes_152 rfl (by decide) rfl ?_
              refine aw_goto d_Mod_takes_153 ?_
              refine aw_drop (lv2 := [(0, _), (1, _), (2, _), (3, _), (4, _)]) [0, 1, 2, 3, 4] rfl ?_
              exact ih (2 * (n - (2 * q + 1)) + 1) _ _ _ (by simp at hme; omega) hm trivial _ _ _ true ⟨rfl, (hK.tr (Kp.st rfl)).tr (Kp.st rfl), hD.step br102_ (by omega) (by omega) br123_ hsib, hM.puts hCh.2 hsc _, hz, fun h9 => by cases h9⟩
        · skip
          have hsib : ∀ i, 0 < i → i < n → (i - 1) / 2 = q → key (hp (2 * q + 1 + 1)) ≤ key (hp i) := fun i h0 hi hpa => by
            rcases (show i = 2 * q + 1 ∨ i = 2 * q + 1 + 1 by omega) with e | e
            · rw [e]; exact Nat.le_of_lt br90_
            · rw [e]; exact Nat.le_refl _
          refine aw_iincN (lv2 := [(0, _), (1, _), (2, _), (3, _), (4, _), (5, _)]) d_Mod_takes_93 (by decide) rfl rfl ?_
          refine aw_iload d_Mod_takes_96 rfl ?_
          refine aw_aload_n (i := 0) d_Mod_takes_98 rfl rfl ?_
          apply mo_gets (f := 37) hm d_Mod_takes_99 fl_Mod_245 rfl; exact hz
          refine aw_icmpN_ge d_Mod_takes_102 (by omega) (by omega) (fun br102_ => ?_) (fun br102_ => ?_)
          · skip
            have hend : ∀ i, 0 < i → i < n → (i - 1) / 2 = q → key (hp0 n) ≤ key (hp i) := fun i h0 hi hpa => by omega
            refine aw_iconst (v := nI 0) d_Mod_takes_130 (by decide) ?_
            refine aw_istore (lv2 := [(0, _), (1, _), (2, _), (3, _), (4, _), (5, _)]) d_Mod_takes_131 (by decide) rfl ?_
            refine aw_iload d_Mod_takes_133 rfl ?_
            refine aw_if_eq d_Mod_takes_135 (fun br135_ => ?_) (fun br135_ => absurd (by decide) br135_)
            refine aw_goto d_Mod_takes_153 ?_
            refine aw_drop (lv2 := [(0, _), (1, _), (2, _), (3, _), (4, _)]) [0, 1, 2, 3, 4] rfl ?_
            exact ih (2 * (n - q)) _ _ _ (by simp at hme; omega) hm trivial _ _ q false ⟨rfl, hK, hD, hM, hz, fun _ => hend⟩
          · skip
            have hCh := hM.1 _ br102_ (by omega)
            have hkC := hM.2.1 _ hCh.2
            have hsc := hCs _ (((hD.2.2.2.2.2 _).mpr (Or.inr ⟨_, br102_, by omega, rfl⟩)).1)
            refine aw_aload_n (i := 0) d_Mod_takes_105 rfl rfl ?_
            refine mo_get (f := 30) hm d_Mod_takes_106 fl_Mod_86 rfl ?_
            refine aw_aload_n (i := 0) d_Mod_takes_109 rfl rfl ?_
            refine mo_get (f := 35) hm d_Mod_takes_110 fl_Mod_102 rfl ?_
            refine aw_iload d_Mod_takes_113 rfl ?_
            apply mo_ld (f := 35) (N := 20000) hm d_Mod_takes_115 rfl rfl (by decide); omega; exact hCh.1
            apply mo_ld (f := 30) (N := 20000) hm d_Mod_takes_116 rfl rfl (by decide); omega; exact hkC.1
            refine aw_aload_n (i := 0) d_Mod_takes_117 rfl rfl ?_
            refine mo_get (f := 30) hm d_Mod_takes_118 fl_Mod_86 rfl ?_
            refine aw_iload_n (i := 2) d_Mod_takes_121 rfl rfl ?_
            apply mo_ld (f := 30) (N := 20000) hm d_Mod_takes_122 rfl rfl (by decide); omega; exact hkx.1
            refine aw_icmpN_ge d_Mod_takes_123 (by omega) (by omega) (fun br123_ => ?_) (fun br123_ => ?_)
            · skip
              have hend : ∀ i, 0 < i → i < n → (i - 1) / 2 = q → key (hp0 n) ≤ key (hp i) := fun i h0 hi hpa => Nat.le_trans br123_ (hsib i h0 hi hpa)
              refine aw_iconst (v := nI 0) d_Mod_takes_130 (by decide) ?_
              refine aw_istore (lv2 := [(0, _), (1, _), (2, _), (3, _), (4, _), (5, _)]) d_Mod_takes_131 (by decide) rfl ?_
              refine aw_iload d_Mod_takes_133 rfl ?_
              refine aw_if_eq d_Mod_takes_135 (fun br135_ => ?_) (fun br135_ => absurd (by decide) br135_)
              refine aw_goto d_Mod_takes_153 ?_
              refine aw_drop (lv2 := [(0, _), (1, _), (2, _), (3, _), (4, _)]) [0, 1, 2, 3, 4] rfl ?_
              exact ih (2 * (n - q)) _ _ _ (by simp at hme; omega) hm trivial _ _ q false ⟨rfl, hK, hD, hM, hz, fun _ => hend⟩
            · skip
              refine aw_iconst (v := nI 1) d_Mod_takes_126 (by decide) ?_
              refine aw_goto d_Mod_takes_127 ?_
              refine aw_istore (lv2 := [(0, _), (1, _), (2, _), (3, _), (4, _), (5, _)]) d_Mod_takes_131 (by decide) rfl ?_
              refine aw_iload d_Mod_takes_133 rfl ?_
              refine aw_if_eq d_Mod_takes_135 (fun br135_ => absurd br135_ (by decide)) (fun br135_ => ?_)
              refine aw_aload_n (i := 0) d_Mod_takes_138 rfl rfl ?_
              refine aw_iload_n (i := 3) d_Mod_takes_139 rfl rfl ?_
              refine aw_aload_n (i := 0) d_Mod_takes_140 rfl rfl ?_
              refine mo_get (f := 35) hm d_Mod_takes_141 fl_Mod_102 rfl ?_
              refine aw_iload d_Mod_takes_144 rfl ?_
              apply mo_ld (f := 35) (N := 20000) hm d_Mod_takes_146 rfl rfl (by decide); omega; exact hCh.1
              apply aw_callv_M0 (c_Mod_puts hm (q) (hp (2 * q + 1 + 1)) (by omega) (by omega)) d_Mod_takes_147 cl_Mod_241; exact hm.1.1; rfl; rfl; rfl; rfl; decide; exact Nat.le_of_ble_eq_true rfl; exact Nat.le_refl _; exact Nat.le_refl _
              rintro h _ _ hm ⟨rfl, rfl⟩
              refine aw_iload d_Mod_takes_150 rfl ?_
              refine aw_istore_n (i := 3) (lv2 := [(0, _), (1, _), (2, _), (3, _), (4, _), (5, _)]) d_Mod_takes_152 rfl (by decide) rfl ?_
              refine aw_goto d_Mod_takes_153 ?_
              refine aw_drop (lv2 := [(0, _), (1, _), (2, _), (3, _), (4, _)]) [0, 1, 2, 3, 4] rfl ?_
              exact ih (2 * (n - (2 * q + 1 + 1)) + 1) _ _ _ (by simp at hme; omega) hm trivial _ _ _ true ⟨rfl, (hK.tr (Kp.st rfl)).tr (Kp.st rfl), hD.step br102_ (by omega) (by omega) br123_ hsib, hM.puts hCh.2 hsc _, hz, fun h9 => by cases h9⟩
  · skip
    subst br21_
    have hend := hP.take0 hp0 pl0
    refine aw_iload_n (i := 1) d_Mod_takes_24 rfl rfl ?_
    refine aw_iret d_Mod_takes_25 rfl (Nat.le_refl _) (Nat.le_refl _) ?_
    exact ⟨_, _, _, rfl, hm, rfl, hp0, pl0, hend, ⟨fun i hi => by omega, hM.2⟩, rfl, Kp.put rfl⟩

