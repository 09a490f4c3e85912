theorem Dij.mono2 {hs : HSt} {key : Nat → Nat} {Q : Nat → Prop} {SL : List Nat} {x : Nat} {dn dn2 : Nat → Nat → Prop} (h : Dij hs key Q SL x dn) (hd : ∀ b j, b < hall hs → j < hs.2.1.length → opn hs b j = true → aft hs b j = x → dn2 b j → dn b j) : Dij hs key Q SL x dn2 := ⟨h.1, h.2.1, h.2.2.1, h.2.2.2.1, fun y hy b j hb hj ho ha hyx => h.2.2.2.2 y hy b j hb hj ho ha (fun e => hd b j hb hj ho (ha.trans e) (hyx e))⟩
theorem Hp.empty {hp pl key : Nat → Nat} {C : Nat → Prop} (h : Hp 0 hp pl key C) (c : Nat) : ¬ C c := fun q => by obtain ⟨i, hi, _⟩ := (h.2.2 c).mp q; omega
theorem isO_step {hs : HSt} (hv : VH hs) {c j : Nat} (hc : c < hall hs) (hj : j < hs.2.1.length) (ho : opn hs c j = true) (h : isO hs (aft hs c j) = true) : isO hs c = true := by
  have hal := aft_lt hv hc hj
  have h1 := (far_ok hv _ hal).1
  rw [if_pos (of_decide_eq_true h)] at h1
  have h2 := (far_ok hv c hc).1
  by_cases e : far hs c < FAR
  · exact decide_eq_true e
  · rw [if_neg e] at h2
    exact absurd (Way.step hc hj ho h1.1) (h2 _)
theorem lsI_n {hs : HSt} {c : Nat} (h : isO hs c = false) : lsI hs c = -2 := by unfold lsI; rw [h]; rfl
theorem lsI_y {hs : HSt} {c : Nat} (h : isO hs c = true) : lsI hs c = nI (far hs c) := by unfold lsI; rw [h]; rfl
theorem lsI_2 {hs : HSt} {c : Nat} (h : lsI hs c = -2) : isO hs c = false := by
  cases e : isO hs c
  · rfl
  · rw [lsI_y e] at h
    have : far hs c < FAR := of_decide_eq_true e
    exact absurd h (nI_ne2 (Nat.lt_trans this (by decide)))
theorem lsI_n2 {hs : HSt} {c : Nat} (h : ¬ lsI hs c = -2) : isO hs c = true := by
  cases e : isO hs c
  · exact absurd (lsI_n e) h
  · rfl
set_option maxHeartbeats 4000000 in
set_option maxRecDepth 20000 in
theorem c_Walk_measureB {G : aG} {nx : Nat} {h h0 : Nat → Option aC} {hs : HSt} {ad : AD} {A : Nat → Nat} {most : Nat} {fl : WFl} {L L2 : List Nat} {ar : Nat → Nat → Int32} {n : Nat} (hm : WkF h0 h hs ad A most fl L L2 ar n) (hv : VH hs) (hal2 : hall hs ≤ most) (hfl : fl.2.1 = false) (hC : CHT hs L ar) : AMet G m_Walk_measure 6 0 0 [.ref (A 0)] (nx, h) (fun r w => r = none ∧ ∃ h2 ar9 n9, w = (nx, h2) ∧ WkF h0 h2 hs ad A most (fl.1, true, fl.2.2) L L2 ar9 n9 ∧ MSR hs ar9 ∧ (∀ c ∈ L, ar9 0 c = nI (opb hs c)) ∧ ar9 1 = ar 1 ∧ ar9 2 = ar 2) := by
  have hp12 := hv.1.1
  have hs24 := hv.2.1
  have hall2 := hv.2.2.2.2.2.2.2
  have hmo := hm.mst
  refine amet_of pf_Walk_measure (Nat.le_of_ble_eq_true rfl) ?_
  show AW G m_Walk_measure 6 0 0 _ 0 [(0, .ref (A 0))] [] (nx, h) 0 0
  refine aw_aload_n (i := 0) d_Walk_measure_0 rfl rfl ?_
  apply aw_get d_Walk_measure_1 fl_Walk_58; exact hm.2.2.1.1; rfl
  refine aw_if_eq d_Walk_measure_4 (fun br4_ => ?_) (fun br4_ => absurd (show bI fl.2.1 = 0 by rw [hfl]; rfl) br4_)
  refine aw_aload_n (i := 0) d_Walk_measure_8 rfl rfl ?_
  apply aw_get d_Walk_measure_9 fl_Walk_50; exact hm.2.2.1.1; rfl
  apply aw_callv d_Walk_measure_12 cl_Walk_119 (c_Heap_begin hm.He hmo); exact hm.He.1; rfl; rfl; rfl; rfl; decide; exact (Nat.le_refl _); exact (Nat.le_refl _); exact Nat.le_of_ble_eq_true rfl
  rintro _ _ ⟨rfl, h2, fs2, rfl, hS2, fr2, hfs⟩
  have hm := hm.heap hv hS2 fr2
  refine aw_iconst (v := nI 0) d_Walk_measure_15 (by decide) ?_
  refine aw_istore_n (i := 1) (lv2 := [(0, _), (1, _)]) d_Walk_measure_16 rfl (by decide) rfl ?_
  refine Nat.strongRecOn (motive := fun m => ∀ (h1 : Nat → Option aC) (ar9 : Nat → Nat → Int32) (n9 : Nat) (hp pl : Nat → Nat) (i : Nat), (WkF h0 h1 hs ad A most fl L L2 ar9 n9 ∧ (∀ c, (c ∈ L ∨ c < i) → ar9 0 c = nI (opb hs c)) ∧ ar9 1 = ar 1 ∧ ar9 2 = ar 2 ∧ Hp n9 hp pl (kyi hs i) (fun c => c < i ∧ isE hs c = true) ∧ HeM (hall hs) (ar9 3) (ar9 4) (ar9 5) n9 hp (kyi hs i) n9 ∧ n9 ≤ hall hs ∧ i ≤ hall hs ∧ m = hall hs - i) → AW G m_Walk_measure 6 0 0 _ 17 [(0, .ref (A 0)), (1, .int (nI i))] [] (nx, h1) 0 0) (hall hs - 0) (fun m ih => ?_) _ _ 0 (fun c => c) (fun c => c) 0 ⟨hm, fun c hc => hc.elim (hC.2.2 c) (fun q => absurd q (Nat.not_lt_zero _)), rfl, rfl, ⟨fun i hi => absurd hi (Nat.not_lt_zero _), fun i _ hi => absurd hi (Nat.not_lt_zero _), fun c => ⟨fun q => absurd q.1 (Nat.not_lt_zero _), fun ⟨i, hi, _⟩ => absurd hi (Nat.not_lt_zero _)⟩⟩, ⟨fun i hi => absurd hi (Nat.not_lt_zero _), fun c hc => (hfs c (by omega)).trans (by unfold kyi; rw [if_neg (Nat.not_lt_zero _), if_neg (Nat.lt_irrefl _)])⟩, Nat.zero_le _, Nat.zero_le _, rfl⟩
  intro h1 ar9 n9 hp pl i hI
  obtain ⟨hm, hop, ha1, ha2, hHp, hM, hn, hil, hme⟩ := hI
  refine aw_iload_n (i := 1) d_Walk_measure_17 rfl rfl ?_
  refine aw_aload_n (i := 0) d_Walk_measure_18 rfl rfl ?_
  apply aw_get d_Walk_measure_19 fl_Walk_9; exact hm.2.2.1.1; rfl
  rw [hm.2.1]
  apply aw_get d_Walk_measure_22 fl_Walk_120; exact hm.1.1; rfl
  refine aw_icmpN_ge d_Walk_measure_25 (by omega) (by omega) (fun br25_ => ?_) (fun br25_ => ?_)
  · skip
    have ei : i = hall hs := by omega
    subst ei
    have hD0 := (Dij.init hs).ext (key2 := kyi hs (hall hs)) (fun c hc => if_pos hc)
    refine aw_drop (lv2 := [(0, _)]) [0] rfl ?_
    refine aw_iconst (v := nI 0) d_Walk_measure_87 (by decide) ?_
    refine aw_istore_n (i := 1) (lv2 := [(0, _), (1, _)]) d_Walk_measure_88 rfl (by decide) rfl ?_
    refine Nat.strongRecOn (motive := fun m => ∀ (h1 : Nat → Option aC) (ar9 : Nat → Nat → Int32) (n9 : Nat) (hp pl key : Nat → Nat) (Q : Nat → Prop) (SL : List Nat) (x0 : Nat) (dn : Nat → Nat → Prop) (i : Nat), (WkF h0 h1 hs ad A most fl L L2 ar9 n9 ∧ (∀ c, (c ∈ L ∨ c < hall hs) → ar9 0 c = nI (opb hs c)) ∧ ar9 1 = ar 1 ∧ ar9 2 = ar 2 ∧ Dij hs key Q SL x0 dn ∧ (∀ b j, b < hall hs → j < hs.2.1.length → opn hs b j = true → aft hs b j = x0 → dn b j) ∧ Hp n9 hp pl key Q ∧ HeM (hall hs) (ar9 3) (ar9 4) (ar9 5) n9 hp key n9 ∧ n9 ≤ hall hs ∧ SL.length = i ∧ m = hall hs - i) → AW G m_Walk_measure 6 0 0 _ 89 [(0, .ref (A 0)), (1, .int (nI i))] [] (nx, h1) 0 0) (hall hs - 0) (fun m ih2 => ?_) _ ar9 n9 hp pl _ _ [] (hall hs) _ 0 ⟨hm, fun c hc => hop c (hc.elim Or.inl Or.inr), ha1, ha2, hD0, fun _ _ _ _ _ _ => trivial, hHp, hM, hn, rfl, rfl⟩
    intro h1 ar9 n9 hp pl key Q SL x0 dn i hI
    obtain ⟨hm, hop, ha1, ha2, hD, hdn, hHp, hM, hn, hSL, hme⟩ := hI
    have hsl := hD.sl
    refine aw_iload_n (i := 1) d_Walk_measure_89 rfl rfl ?_
    refine aw_aload_n (i := 0) d_Walk_measure_90 rfl rfl ?_
    apply aw_get d_Walk_measure_91 fl_Walk_9; exact hm.2.2.1.1; rfl
    rw [hm.2.1]
    apply aw_get d_Walk_measure_94 fl_Walk_120; exact hm.1.1; rfl
    refine aw_icmpN_ge d_Walk_measure_97 (by omega) (by omega) (fun br97_ => ?_) (fun br97_ => ?_)
    · skip
      have hQ0 : ∀ c, ¬ Q c := hD.full (by omega)
      refine aw_aload_n (i := 0) d_Walk_measure_152 rfl rfl ?_
      refine aw_iconst (v := nI 1) d_Walk_measure_153 (by decide) ?_
      apply aw_put d_Walk_measure_154 pl_Walk_58; exact hm.2.2.1.1; exact Nat.le_of_ble_eq_true rfl; rfl; rfl
      refine aw_nm hm.2.2.1.1 ?_
      intro h1 e1_ f1_ o1_
      have hm := hm.flg (fl2 := (fl.1, true, fl.2.2)) hv e1_ f1_
      refine aw_vret d_Walk_measure_157 rfl (Nat.le_refl _) (Nat.le_refl _) ?_
      refine ⟨rfl, _, ar9, _, rfl, hm, ⟨fun c hc => hop c (Or.inr hc), fun c hc => ?_⟩, fun c hc => hop c (Or.inl hc), ha1, ha2⟩
      rw [hM.2 c hc]
      exact lsI_of (hD.done hv hdn hQ0 c hc) (hD.1 c hc).2.2.2.1
    · skip
      refine aw_aload_n (i := 0) d_Walk_measure_100 rfl rfl ?_
      apply aw_get d_Walk_measure_101 fl_Walk_50; exact hm.2.2.1.1; rfl
      apply aw_callv_p (c_Heap_isEmpty hm.He hmo (by omega)) d_Walk_measure_104 cl_Walk_133; exact hm.He.1; rfl; rfl; rfl; rfl; decide; exact Nat.le_of_ble_eq_true rfl; exact (Nat.le_refl _); exact (Nat.le_refl _)
      refine aw_ifB_ne d_Walk_measure_107 (fun br107_ => ?_) (fun br107_ => ?_)
      · skip
        have en : n9 = 0 := of_decide_eq_true br107_
        subst en
        have hQ0 : ∀ c, ¬ Q c := hHp.empty
        refine aw_aload_n (i := 0) d_Walk_measure_152 rfl rfl ?_
        refine aw_iconst (v := nI 1) d_Walk_measure_153 (by decide) ?_
        apply aw_put d_Walk_measure_154 pl_Walk_58; exact hm.2.2.1.1; exact Nat.le_of_ble_eq_true rfl; rfl; rfl
        refine aw_nm hm.2.2.1.1 ?_
        intro h1 e1_ f1_ o1_
        have hm := hm.flg (fl2 := (fl.1, true, fl.2.2)) hv e1_ f1_
        refine aw_vret d_Walk_measure_157 rfl (Nat.le_refl _) (Nat.le_refl _) ?_
        refine ⟨rfl, _, ar9, _, rfl, hm, ⟨fun c hc => hop c (Or.inr hc), fun c hc => ?_⟩, fun c hc => hop c (Or.inl hc), ha1, ha2⟩
        rw [hM.2 c hc]
        exact lsI_of (hD.done hv hdn hQ0 c hc) (hD.1 c hc).2.2.2.1
      · skip
        obtain ⟨n8, rfl⟩ : ∃ k, n9 = k + 1 := ⟨n9 - 1, by have := of_decide_eq_false br107_; omega⟩
        have hq0 := (hHp.2.2 (hp 0)).mpr ⟨0, by omega, rfl⟩
        have hmin : ∀ q, Q q → key (hp 0) ≤ key q := fun q hq => by
          obtain ⟨z, hz, rfl⟩ := (hHp.2.2 q).mp hq
          exact hHp.min z hz
        have hxl := (hD.2.1 _ hq0).1
        have hkk := (hD.1 _ hxl).2.2.2.2 (((hD.1 _ hxl).2.2.1).mpr (Or.inr hq0))
        have hD2 := hD.take hdn hq0 hmin
        have hord := hD.2.2.2.1
        refine aw_aload_n (i := 0) d_Walk_measure_110 rfl rfl ?_
        apply aw_get d_Walk_measure_111 fl_Walk_50; exact hm.2.2.1.1; rfl
        apply aw_callv d_Walk_measure_114 cl_Walk_137 (c_Heap_take hm.He hmo hal2 hn hHp hM (fun c hc => ((hD.1 c (hD.2.1 c hc).1).2.2.1).mpr (Or.inr hc))); exact hm.He.1; rfl; rfl; rfl; rfl; decide; exact (Nat.le_refl _); exact (Nat.le_refl _); exact Nat.le_of_ble_eq_true rfl
        rintro _ _ ⟨rfl, h2, fc2, fp2, hp2, pl2, rfl, hS2, fr2, hHp2, hM2⟩
        have hm3 := hm.heap hv hS2 fr2
        generalize hp 0 = x at *
        show AW G m_Walk_measure 6 0 0 _ 117 _ (.int (nI x) :: []) _ 0 0
        refine aw_istore_n (i := 2) (lv2 := [(0, _), (1, _), (2, _)]) d_Walk_measure_117 rfl (by decide) rfl ?_
        refine aw_iconst (v := nI 0) d_Walk_measure_118 (by decide) ?_
        refine aw_istore_n (i := 3) (lv2 := [(0, _), (1, _), (2, _), (3, _)]) d_Walk_measure_119 rfl (by decide) rfl ?_
        refine Nat.strongRecOn (motive := fun m2 => ∀ (h1 : Nat → Option aC) (ar9 : Nat → Nat → Int32) (n9 : Nat) (hp pl key : Nat → Nat) (Q : Nat → Prop) (SL : List Nat) (j : Nat), (WkF h0 h1 hs ad A most fl L L2 ar9 n9 ∧ (∀ c, (c ∈ L ∨ c < hall hs) → ar9 0 c = nI (opb hs c)) ∧ ar9 1 = ar 1 ∧ ar9 2 = ar 2 ∧ Dij hs key Q SL x (fun _ s => s < j) ∧ Hp n9 hp pl key Q ∧ HeM (hall hs) (ar9 3) (ar9 4) (ar9 5) n9 hp key n9 ∧ n9 ≤ hall hs ∧ SL.length = i + 1 ∧ x ∈ SL ∧ (∀ s ∈ SL, key s ≤ key x) ∧ key x ≤ 100 * (SL.length - 1) ∧ j ≤ hs.2.1.length ∧ m2 = hs.2.1.length - j) → AW G m_Walk_measure 6 0 0 _ 120 [(0, .ref (A 0)), (1, .int (nI i)), (2, .int (nI x)), (3, .int (nI j))] [] (nx, h1) 0 0) (hs.2.1.length - 0) (fun m2 ih3 => ?_) _ _ n8 hp2 pl2 key _ (SL ++ [x]) 0 ⟨hm3, hop, ha1, ha2, hD2.mono (fun b s _ _ q => absurd q (Nat.not_lt_zero _)), hHp2, hM2, by omega, by simp [hSL], by simp, fun s hs2 => ?_, by simpa using hkk, Nat.zero_le _, rfl⟩
        rotate_left
        · rcases List.mem_append.mp hs2 with q | q
          · exact hord s q x hq0
          · rw [List.mem_singleton.mp q]; exact Nat.le_refl _
        intro h1 ar9 n9 hp pl key Q SL j hJ
        obtain ⟨hm, hop, ha1, ha2, hD, hHp, hM, hn, hSL, hxm, hxs, hxk, hjl, hm2⟩ := hJ
        have hsl := hD.sl
        refine aw_iload_n (i := 3) d_Walk_measure_120 rfl rfl ?_
        refine aw_aload_n (i := 0) d_Walk_measure_121 rfl rfl ?_
        apply aw_get d_Walk_measure_122 fl_Walk_9; exact hm.2.2.1.1; rfl
        rw [hm.2.1]
        apply aw_get d_Walk_measure_125 fl_Walk_93; exact hm.1.1; rfl
        apply aw_callv_p (ho_ns hm.1) d_Walk_measure_128 cl_Walk_97; exact (ho_sl hm.1).choose_spec; rfl; rfl; rfl; rfl; decide; exact Nat.le_of_ble_eq_true rfl; exact (Nat.le_refl _); exact (Nat.le_refl _)
        refine aw_icmpN_ge d_Walk_measure_131 (by omega) (by omega) (fun br131_ => ?_) (fun br131_ => ?_)
        · skip
          have ej : j = hs.2.1.length := by omega
          subst ej
          refine aw_iincN (lv2 := [(0, _), (1, _), (2, _), (3, _)]) d_Walk_measure_146 (by decide) rfl rfl ?_
          refine aw_goto d_Walk_measure_149 ?_
          refine aw_drop (lv2 := [(0, _), (1, _)]) [0, 1] rfl ?_
          exact ih2 (hall hs - (i + 1)) (by omega) _ ar9 n9 hp pl key Q SL x _ (i + 1) ⟨hm, hop, ha1, ha2, hD, fun _ _ _ hj9 _ _ => hj9, hHp, hM, hn, hSL, rfl⟩
        · skip
          refine aw_aload_n (i := 0) d_Walk_measure_134 rfl rfl ?_
          refine aw_iload_n (i := 2) d_Walk_measure_135 rfl rfl ?_
          refine aw_iload_n (i := 3) d_Walk_measure_136 rfl rfl ?_
          apply aw_callv d_Walk_measure_137 cl_Walk_140 (c_Walk_offerAhead hm hv (x := x) (j := j) br131_ hal2 (fun c hc => hop c (Or.inr hc)) hD hHp hM hn hxm hxs hxk); exact hm.2.2.1.1; rfl; rfl; rfl; rfl; decide; exact (Nat.le_refl _); exact (Nat.le_refl _); exact Nat.le_of_ble_eq_true rfl
          rintro _ _ ⟨rfl, h2, ar8, n7, hp3, pl3, key3, Q3, rfl, hm3, hD3, hHp3, hM3, hn3, hxm3, hxs3, hxk3, har3⟩
          refine aw_iincN (lv2 := [(0, _), (1, _), (2, _), (3, _)]) d_Walk_measure_140 (by decide) rfl rfl ?_
          refine aw_goto d_Walk_measure_143 ?_
          refine ih3 _ (by omega) _ ar8 n7 hp3 pl3 key3 Q3 SL (j + 1) ⟨hm3, fun c hc => by rw [har3 0 (by decide)]; exact hop c hc, (har3 1 (by decide)).trans ha1, (har3 2 (by decide)).trans ha2, hD3.mono2 (fun b s hb2 hs2 ho2 ha9 q => ?_), hHp3, hM3, hn3, hSL, hxm3, hxs3, hxk3, br131_, rfl⟩
          by_cases e : s = j
          · exact Or.inr ⟨e, ho2, ha9⟩
          · exact Or.inl (by omega)
  · skip
    refine aw_aload_n (i := 0) d_Walk_measure_28 rfl rfl ?_
    refine aw_iload_n (i := 1) d_Walk_measure_29 rfl rfl ?_
    apply aw_callv_p (w_fits hm hv (c := i) (by omega)) d_Walk_measure_30 cl_Walk_82; exact hm.2.2.1.1; rfl; rfl; rfl; rfl; decide; exact Nat.le_of_ble_eq_true rfl; exact (Nat.le_refl _); exact (Nat.le_refl _)
    refine aw_if_eq d_Walk_measure_33 (fun br33_ => absurd br33_ (by decide)) (fun br33_ => ?_)
    refine aw_aload_n (i := 0) d_Walk_measure_36 rfl rfl ?_
    apply aw_get d_Walk_measure_37 fl_Walk_30; exact hm.2.2.1.1; rfl
    refine aw_iload_n (i := 1) d_Walk_measure_40 rfl rfl ?_
    apply aw_callv_p (c_Line_has hm.Lr (c := i) (by omega)) d_Walk_measure_41 cl_Walk_123; exact hm.Lr.ob.choose_spec; rfl; rfl; rfl; rfl; decide; exact Nat.le_of_ble_eq_true rfl; exact (Nat.le_refl _); exact (Nat.le_refl _)
    refine aw_ifB_ne d_Walk_measure_44 (fun br44_ => ?_) (fun br44_ => ?_)
    · skip
      refine aw_aload_n (i := 0) d_Walk_measure_61 rfl rfl ?_
      apply aw_get d_Walk_measure_62 fl_Walk_9; exact hm.2.2.1.1; rfl
      rw [hm.2.1]
      refine aw_iload_n (i := 1) d_Walk_measure_65 rfl rfl ?_
      apply aw_callv_p (c_House_isEnd hm.1 hv (c := i) (by omega)) d_Walk_measure_66 cl_Walk_126; exact hm.1.1; rfl; rfl; rfl; rfl; decide; exact Nat.le_of_ble_eq_true rfl; exact (Nat.le_refl _); exact (Nat.le_refl _)
      refine aw_ifB_eq d_Walk_measure_69 (fun br69_ => ?_) (fun br69_ => ?_)
      · skip
        refine aw_iincN (lv2 := [(0, _), (1, _)]) d_Walk_measure_81 (by decide) rfl rfl ?_
        refine aw_goto d_Walk_measure_84 ?_
        have hop2 : ∀ c, (c ∈ L ∨ c < i + 1) → ar9 0 c = nI (opb hs c) := fun c hc => by
          by_cases e : c = i
          · rw [e]; exact hop i (Or.inl (of_decide_eq_true br44_))
          · exact hop c (hc.elim Or.inl (fun q => Or.inr (by omega)))
        exact ih (hall hs - (i + 1)) (by omega) _ _ n9 hp pl (i + 1) ⟨hm, hop2, ha1, ha2, by rw [← kyi_f br69_]; exact hHp.iff (iE_n br69_), by rw [← kyi_f br69_]; exact hM, hn, br25_, rfl⟩
      · skip
        refine aw_aload_n (i := 0) d_Walk_measure_72 rfl rfl ?_
        apply aw_get d_Walk_measure_73 fl_Walk_50; exact hm.2.2.1.1; rfl
        refine aw_iload_n (i := 1) d_Walk_measure_76 rfl rfl ?_
        refine aw_iconst (v := nI 0) d_Walk_measure_77 (by decide) ?_
        apply aw_callv d_Walk_measure_78 cl_Walk_129 (c_Heap_offer hm.He hmo (x := i) (v := 0) hal2 hn hHp hM (fun c hc => kyi_C hc) kyi_le br25_ (by decide) (fun _ q => by rw [kyi_i] at q; exact absurd q (Nat.lt_irrefl _))); exact hm.He.1; rfl; rfl; rfl; rfl; decide; exact (Nat.le_refl _); exact (Nat.le_refl _); exact Nat.le_of_ble_eq_true rfl
        rintro _ _ ⟨rfl, h2, fs2, fc2, fp2, n2, hp2, pl2, rfl, hS2, fr2, hn2, hHp2, hM2⟩
        have hm3 := hm.heap hv hS2 fr2
        have hlt0 : 0 < kyi hs i i := by rw [kyi_i]; decide
        rw [if_pos hlt0, kyi_t br69_] at hHp2 hM2
        rw [if_pos hlt0] at hHp2
        refine aw_iincN (lv2 := [(0, _), (1, _)]) d_Walk_measure_81 (by decide) rfl rfl ?_
        refine aw_goto d_Walk_measure_84 ?_
        have hop2 : ∀ c, (c ∈ L ∨ c < i + 1) → ar9 0 c = nI (opb hs c) := fun c hc => by
          by_cases e : c = i
          · rw [e]; exact hop i (Or.inl (of_decide_eq_true br44_))
          · exact hop c (hc.elim Or.inl (fun q => Or.inr (by omega)))
        exact ih (hall hs - (i + 1)) (by omega) _ _ n2 hp2 pl2 (i + 1) ⟨hm3, hop2, ha1, ha2, hHp2.iff (iE_s br69_), hM2, hn2, br25_, rfl⟩
    · skip
      refine aw_aload_n (i := 0) d_Walk_measure_47 rfl rfl ?_
      apply aw_get d_Walk_measure_48 fl_Walk_34; exact hm.2.2.1.1; rfl
      refine aw_iload_n (i := 1) d_Walk_measure_51 rfl rfl ?_
      refine aw_aload_n (i := 0) d_Walk_measure_52 rfl rfl ?_
      apply aw_get d_Walk_measure_53 fl_Walk_9; exact hm.2.2.1.1; rfl
      rw [hm.2.1]
      refine aw_iload_n (i := 1) d_Walk_measure_56 rfl rfl ?_
      apply aw_callv_p (c_House_openSteps hm.1 hv br25_) d_Walk_measure_57 cl_Walk_86; exact hm.1.1; rfl; rfl; rfl; rfl; decide; exact Nat.le_of_ble_eq_true rfl; exact (Nat.le_refl _); exact (Nat.le_refl _)
      rw [ops_eq]
      apply wk_st0 hm hv d_Walk_measure_60; omega; intro h hm
      refine aw_aload_n (i := 0) d_Walk_measure_61 rfl rfl ?_
      apply aw_get d_Walk_measure_62 fl_Walk_9; exact hm.2.2.1.1; rfl
      rw [hm.2.1]
      refine aw_iload_n (i := 1) d_Walk_measure_65 rfl rfl ?_
      apply aw_callv_p (c_House_isEnd hm.1 hv (c := i) (by omega)) d_Walk_measure_66 cl_Walk_126; exact hm.1.1; rfl; rfl; rfl; rfl; decide; exact Nat.le_of_ble_eq_true rfl; exact (Nat.le_refl _); exact (Nat.le_refl _)
      refine aw_ifB_eq d_Walk_measure_69 (fun br69_ => ?_) (fun br69_ => ?_)
      · skip
        refine aw_iincN (lv2 := [(0, _), (1, _)]) d_Walk_measure_81 (by decide) rfl rfl ?_
        refine aw_goto d_Walk_measure_84 ?_
        have hop2 : ∀ c, (c ∈ L ∨ c < i + 1) → (ups ar9 0 (upd (ar9 0) i (nI (opb hs i)))) 0 c = nI (opb hs c) := fun c hc => by
          show upd (ar9 0) i _ c = _
          by_cases e : c = i
          · rw [e, pk_us]
          · rw [pk_un e]; exact hop c (hc.elim Or.inl (fun q => Or.inr (by omega)))
        exact ih (hall hs - (i + 1)) (by omega) _ _ n9 hp pl (i + 1) ⟨hm, hop2, ha1, ha2, by rw [← kyi_f br69_]; exact hHp.iff (iE_n br69_), by rw [← kyi_f br69_]; exact hM, hn, br25_, rfl⟩
      · skip
        refine aw_aload_n (i := 0) d_Walk_measure_72 rfl rfl ?_
        apply aw_get d_Walk_measure_73 fl_Walk_50; exact hm.2.2.1.1; rfl
        refine aw_iload_n (i := 1) d_Walk_measure_76 rfl rfl ?_
        refine aw_iconst (v := nI 0) d_Walk_measure_77 (by decide) ?_
        apply aw_callv d_Walk_measure_78 cl_Walk_129 (c_Heap_offer hm.He hmo (x := i) (v := 0) hal2 hn hHp hM (fun c hc => kyi_C hc) kyi_le br25_ (by decide) (fun _ q => by rw [kyi_i] at q; exact absurd q (Nat.lt_irrefl _))); exact hm.He.1; rfl; rfl; rfl; rfl; decide; exact (Nat.le_refl _); exact (Nat.le_refl _); exact Nat.le_of_ble_eq_true rfl
        rintro _ _ ⟨rfl, h2, fs2, fc2, fp2, n2, hp2, pl2, rfl, hS2, fr2, hn2, hHp2, hM2⟩
        have hm3 := hm.heap hv hS2 fr2
        have hlt0 : 0 < kyi hs i i := by rw [kyi_i]; decide
        rw [if_pos hlt0, kyi_t br69_] at hHp2 hM2
        rw [if_pos hlt0] at hHp2
        refine aw_iincN (lv2 := [(0, _), (1, _)]) d_Walk_measure_81 (by decide) rfl rfl ?_
        refine aw_goto d_Walk_measure_84 ?_
        have hop2 : ∀ c, (c ∈ L ∨ c < i + 1) → (ups ar9 0 (upd (ar9 0) i (nI (opb hs i)))) 0 c = nI (opb hs c) := fun c hc => by
          show upd (ar9 0) i _ c = _
          by_cases e : c = i
          · rw [e, pk_us]
          · rw [pk_un e]; exact hop c (hc.elim Or.inl (fun q => Or.inr (by omega)))
        exact ih (hall hs - (i + 1)) (by omega) _ _ n2 hp2 pl2 (i + 1) ⟨hm3, hop2, ha1, ha2, hHp2.iff (iE_s br69_), hM2, hn2, br25_, rfl⟩

set_option maxHeartbeats 4000000 in
set_option maxRecDepth 20000 in
theorem c_Walk_measureA {G : aG} {nx : Nat} {h h0 : Nat → Option aC} {hs : HSt} {ad : AD} {A : Nat → Nat} {most : Nat} {fl : WFl} {L L2 : List Nat} {ar : Nat → Nat → Int32} {n : Nat} (hm : WkF h0 h hs ad A most fl L L2 ar n) (hv : VH hs) (hfl : fl.2.1 = true) : AMet G m_Walk_measure 6 0 0 [.ref (A 0)] (nx, h) (R0 (nx, h)) := by
  have hp12 := hv.1.1
  have hs24 := hv.2.1
  have hall2 := hv.2.2.2.2.2.2.2
  have hmo := hm.mst
  refine amet_of pf_Walk_measure (Nat.le_of_ble_eq_true rfl) ?_
  show AW G m_Walk_measure 6 0 0 _ 0 [(0, .ref (A 0))] [] (nx, h) 0 0
  refine aw_aload_n (i := 0) d_Walk_measure_0 rfl rfl ?_
  apply aw_get d_Walk_measure_1 fl_Walk_58; exact hm.2.2.1.1; rfl
  refine aw_if_eq d_Walk_measure_4 (fun br4_ => absurd br4_ (show ¬ bI fl.2.1 = 0 by rw [hfl]; decide)) (fun br4_ => ?_)
  refine aw_vret d_Walk_measure_7 rfl (Nat.le_refl _) (Nat.le_refl _) ?_
  exact ⟨rfl, rfl⟩

set_option maxHeartbeats 4000000 in
set_option maxRecDepth 20000 in
theorem c_Walk_firstStep {G : aG} {nx : Nat} {h h0 : Nat → Option aC} {hs : HSt} {ad : AD} {A : Nat → Nat} {most : Nat} {fl : WFl} {L L2 : List Nat} {ar : Nat → Nat → Int32} {n : Nat} (hm : WkF h0 h hs ad A most fl L L2 ar n) (hv : VH hs) {c : Nat} (hc : c < hall hs) (hal2 : hall hs ≤ most) (hS : MSR hs ar) : AMet G m_Walk_firstStep 6 0 0 [.ref (A 0), .int (nI c)] (nx, h) (RV (.int (fsI (hnp hs c) hs.2.1.length)) (nx, h)) := by
  have hp12 := hv.1.1
  have hs24 := hv.2.1
  have hall2 := hv.2.2.2.2.2.2.2
  have hmo := hm.mst
  refine amet_of pf_Walk_firstStep (Nat.le_of_ble_eq_true rfl) ?_
  show AW G m_Walk_firstStep 6 0 0 _ 0 [(0, .ref (A 0)), (1, .int (nI c))] [] (nx, h) 0 0
  refine aw_iconst (v := nI 0) d_Walk_firstStep_0 (by decide) ?_
  refine aw_istore_n (i := 2) (lv2 := [(0, _), (1, _), (2, _)]) d_Walk_firstStep_1 rfl (by decide) rfl ?_
  show AW G m_Walk_firstStep 6 0 0 _ 2 [(0, .ref (A 0)), (1, .int (nI c)), (2, .int (nI 0))] [] (nx, h) 0 0
  refine upto (σ := Nat) (fun i => AW G m_Walk_firstStep 6 0 0 _ 2 [(0, .ref (A 0)), (1, .int (nI c)), (2, .int (nI i))] [] (nx, h) 0 0) (fun i s => i = s ∧ ∀ k, k < i → hnp hs c k = false) (hs.2.1.length) ?_ 0 0 (Nat.zero_le _) ⟨rfl, fun k hk => absurd hk (Nat.not_lt_zero _)⟩
  intro i s9 hi_i hI_i ih_i
  obtain ⟨rfl, hI_i⟩ := hI_i
  refine aw_iload_n (i := 2) d_Walk_firstStep_2 rfl rfl ?_
  refine aw_aload_n (i := 0) d_Walk_firstStep_3 rfl rfl ?_
  apply aw_get d_Walk_firstStep_4 fl_Walk_9; exact hm.2.2.1.1; rfl
  rw [hm.2.1]
  apply aw_get d_Walk_firstStep_7 fl_Walk_93; exact hm.1.1; rfl
  apply aw_callv_p (ho_ns hm.1) d_Walk_firstStep_10 cl_Walk_97; exact (ho_sl hm.1).choose_spec; rfl; rfl; rfl; rfl; decide; exact Nat.le_of_ble_eq_true rfl; exact (Nat.le_refl _); exact (Nat.le_refl _)
  refine aw_icmpN_ge d_Walk_firstStep_13 (by omega) (by omega) (fun br13_ => ?_) (fun br13_ => ?_)
  · skip
    have ei : i = hs.2.1.length := by omega
    subst ei
    refine aw_iconst (v := -1) d_Walk_firstStep_80 (by decide) ?_
    refine aw_iret d_Walk_firstStep_81 rfl (Nat.le_refl _) (Nat.le_refl _) ?_
    exact ⟨by rw [fsI_f hI_i], rfl⟩
  · skip
    refine aw_aload_n (i := 0) d_Walk_firstStep_16 rfl rfl ?_
    refine aw_iload_n (i := 1) d_Walk_firstStep_17 rfl rfl ?_
    refine aw_iload_n (i := 2) d_Walk_firstStep_18 rfl rfl ?_
    apply aw_callv_p (c_Walk_isOpen hm hv (c := c) (j := i) (by omega) br13_ (hS.1 _ hc)) d_Walk_firstStep_19 cl_Walk_102; exact hm.2.2.1.1; rfl; rfl; rfl; rfl; decide; exact Nat.le_of_ble_eq_true rfl; exact (Nat.le_refl _); exact (Nat.le_refl _)
    refine aw_ifB_eq d_Walk_firstStep_22 (fun br22_ => ?_) (fun br22_ => ?_)
    · skip
      have hno : hnp hs c i = false := by unfold hnp; rw [br22_]; rfl
      refine aw_iincN (lv2 := [(0, _), (1, _), (2, _)]) d_Walk_firstStep_74 (by decide) rfl rfl ?_
      refine aw_goto d_Walk_firstStep_77 ?_
      have hall9 : ∀ k, k < i + 1 → hnp hs c k = false := by
        intro k hk
        by_cases e : k = i
        · subst e; exact hno
        · exact hI_i k (by omega)
      first
        | exact ih_i br13_ (i + 1) ⟨rfl, hall9⟩
        | (refine aw_drop (lv2 := [(0, _), (1, _), (2, _)]) [0, 1, 2] rfl ?_
           exact ih_i br13_ (i + 1) ⟨rfl, hall9⟩)
    · skip
      have hal := aft_lt hv hc br13_
      obtain ⟨na, ga, k1, k2, k3⟩ := ho_sc hm.1 br13_
      have hfa := far_bd (far_ok hv) hal
      have hfc := far_bd (far_ok hv) hc
      have htk : tks hs i ≤ 100 := (hv.s br13_).2.2.2.2.1
      refine aw_aload_n (i := 0) d_Walk_firstStep_25 rfl rfl ?_
      refine aw_aload_n (i := 0) d_Walk_firstStep_26 rfl rfl ?_
      apply aw_get d_Walk_firstStep_27 fl_Walk_9; exact hm.2.2.1.1; rfl
      rw [hm.2.1]
      refine aw_iload_n (i := 1) d_Walk_firstStep_30 rfl rfl ?_
      refine aw_iload_n (i := 2) d_Walk_firstStep_31 rfl rfl ?_
      apply aw_callv_p (c_House_codeAfter hm.1 hv hc br13_) d_Walk_firstStep_32 cl_Walk_164; exact hm.1.1; rfl; rfl; rfl; rfl; decide; exact Nat.le_of_ble_eq_true rfl; exact (Nat.le_refl _); exact (Nat.le_refl _)
      apply aw_callv_p (c_Walk_leastSum hm hv (c := aft hs c i) (by omega)) d_Walk_firstStep_35 cl_Walk_166; exact hm.2.2.1.1; rfl; rfl; rfl; rfl; decide; exact Nat.le_of_ble_eq_true rfl; exact (Nat.le_refl _); exact (Nat.le_refl _)
      rw [hS.2 _ hal]
      refine aw_istore_n (i := 3) (lv2 := [(0, _), (1, _), (2, _), (3, _)]) d_Walk_firstStep_38 rfl (by decide) rfl ?_
      refine aw_iload_n (i := 3) d_Walk_firstStep_39 rfl rfl ?_
      refine aw_bipush (v := -2) d_Walk_firstStep_40 (by decide) ?_
      refine aw_icmp_eq d_Walk_firstStep_42 (fun br42_ => ?_) (fun br42_ => ?_)
      · skip
        have hno : hnp hs c i = false := by unfold hnp; rw [lsI_2 br42_]; simp
        refine aw_iincN (lv2 := [(0, _), (1, _), (2, _), (3, _)]) d_Walk_firstStep_74 (by decide) rfl rfl ?_
        refine aw_goto d_Walk_firstStep_77 ?_
        have hall9 : ∀ k, k < i + 1 → hnp hs c k = false := by
          intro k hk
          by_cases e : k = i
          · subst e; exact hno
          · exact hI_i k (by omega)
        first
          | exact ih_i br13_ (i + 1) ⟨rfl, hall9⟩
          | (refine aw_drop (lv2 := [(0, _), (1, _), (2, _)]) [0, 1, 2] rfl ?_
             exact ih_i br13_ (i + 1) ⟨rfl, hall9⟩)
      · skip
        have hoa := lsI_n2 br42_
        have hoc := isO_step hv hc br13_ br22_ hoa
        have hfl2 : far hs (aft hs c i) < 268435456 := of_decide_eq_true hoa
        rw [lsI_y hoa]
        refine aw_iload_n (i := 3) d_Walk_firstStep_45 rfl rfl ?_
        refine aw_aload_n (i := 0) d_Walk_firstStep_46 rfl rfl ?_
        apply aw_get d_Walk_firstStep_47 fl_Walk_9; exact hm.2.2.1.1; rfl
        rw [hm.2.1]
        apply aw_get d_Walk_firstStep_50 fl_Walk_93; exact hm.1.1; rfl
        refine aw_iload_n (i := 2) d_Walk_firstStep_53 rfl rfl ?_
        apply aw_callv_p (ho_gs hm.1 (j := i) br13_) d_Walk_firstStep_54 cl_Walk_106; exact (ho_sl hm.1).choose_spec; rfl; rfl; rfl; rfl; decide; exact Nat.le_of_ble_eq_true rfl; exact (Nat.le_refl _); exact (Nat.le_refl _)
        apply aw_cast d_Walk_firstStep_57; exact k1; rfl; exact cc_Walk_110
        apply aw_get d_Walk_firstStep_60 fl_Walk_149; exact k1; rfl
        refine aw_iaddN d_Walk_firstStep_63 ?_
        refine aw_aload_n (i := 0) d_Walk_firstStep_64 rfl rfl ?_
        refine aw_iload_n (i := 1) d_Walk_firstStep_65 rfl rfl ?_
        apply aw_callv_p (c_Walk_leastSum hm hv (c := c) (by omega)) d_Walk_firstStep_66 cl_Walk_166; exact hm.2.2.1.1; rfl; rfl; rfl; rfl; decide; exact Nat.le_of_ble_eq_true rfl; exact (Nat.le_refl _); exact (Nat.le_refl _)
        rw [hS.2 _ hc, lsI_y hoc]
        refine aw_icmpN_ne d_Walk_firstStep_69 (by show _ + tks hs i < _; omega) (by omega) (fun br69_ => ?_) (fun br69_ => ?_)
        · skip
          have hno : hnp hs c i = false := by unfold hnp; rw [decide_eq_false (show ¬ far hs (aft hs c i) + tks hs i = far hs c from br69_), Bool.and_false]
          refine aw_iincN (lv2 := [(0, _), (1, _), (2, _), (3, _)]) d_Walk_firstStep_74 (by decide) rfl rfl ?_
          refine aw_goto d_Walk_firstStep_77 ?_
          have hall9 : ∀ k, k < i + 1 → hnp hs c k = false := by
            intro k hk
            by_cases e : k = i
            · subst e; exact hno
            · exact hI_i k (by omega)
          first
            | exact ih_i br13_ (i + 1) ⟨rfl, hall9⟩
            | (refine aw_drop (lv2 := [(0, _), (1, _), (2, _)]) [0, 1, 2] rfl ?_
               exact ih_i br13_ (i + 1) ⟨rfl, hall9⟩)
        · skip
          have hyes : hnp hs c i = true := by unfold hnp; rw [br22_, hoa, decide_eq_true (show far hs (aft hs c i) + tks hs i = far hs c from br69_)]; rfl
          refine aw_iload_n (i := 2) d_Walk_firstStep_72 rfl rfl ?_
          refine aw_iret d_Walk_firstStep_73 rfl (Nat.le_refl _) (Nat.le_refl _) ?_
          exact ⟨by rw [fsI_t br13_ hI_i hyes], rfl⟩

set_option maxHeartbeats 4000000 in
set_option maxRecDepth 20000 in
theorem c_Walk_stepToLost {G : aG} {nx : Nat} {h h0 : Nat → Option aC} {hs : HSt} {ad : AD} {A : Nat → Nat} {most : Nat} {fl : WFl} {L L2 : List Nat} {ar : Nat → Nat → Int32} {n : Nat} (hm : WkF h0 h hs ad A most fl L L2 ar n) (hv : VH hs) {c : Nat} (hc : c < hall hs) (hal2 : hall hs ≤ most) (hS : MSR hs ar) : AMet G m_Walk_stepToLost 6 0 0 [.ref (A 0), .int (nI c)] (nx, h) (RV (.int (fsI (tps hs c) hs.2.1.length)) (nx, h)) := by
  have hp12 := hv.1.1
  have hs24 := hv.2.1
  have hall2 := hv.2.2.2.2.2.2.2
  have hmo := hm.mst
  refine amet_of pf_Walk_stepToLost (Nat.le_of_ble_eq_true rfl) ?_
  show AW G m_Walk_stepToLost 6 0 0 _ 0 [(0, .ref (A 0)), (1, .int (nI c))] [] (nx, h) 0 0
  refine aw_iconst (v := nI 0) d_Walk_stepToLost_0 (by decide) ?_
  refine aw_istore_n (i := 2) (lv2 := [(0, _), (1, _), (2, _)]) d_Walk_stepToLost_1 rfl (by decide) rfl ?_
  show AW G m_Walk_stepToLost 6 0 0 _ 2 [(0, .ref (A 0)), (1, .int (nI c)), (2, .int (nI 0))] [] (nx, h) 0 0
  refine upto (σ := Nat) (fun i => AW G m_Walk_stepToLost 6 0 0 _ 2 [(0, .ref (A 0)), (1, .int (nI c)), (2, .int (nI i))] [] (nx, h) 0 0) (fun i s => i = s ∧ ∀ k, k < i → tps hs c k = false) (hs.2.1.length) ?_ 0 0 (Nat.zero_le _) ⟨rfl, fun k hk => absurd hk (Nat.not_lt_zero _)⟩
  intro i s9 hi_i hI_i ih_i
  obtain ⟨rfl, hI_i⟩ := hI_i
  refine aw_iload_n (i := 2) d_Walk_stepToLost_2 rfl rfl ?_
  refine aw_aload_n (i := 0) d_Walk_stepToLost_3 rfl rfl ?_
  apply aw_get d_Walk_stepToLost_4 fl_Walk_9; exact hm.2.2.1.1; rfl
  rw [hm.2.1]
  apply aw_get d_Walk_stepToLost_7 fl_Walk_93; exact hm.1.1; rfl
  apply aw_callv_p (ho_ns hm.1) d_Walk_stepToLost_10 cl_Walk_97; exact (ho_sl hm.1).choose_spec; rfl; rfl; rfl; rfl; decide; exact Nat.le_of_ble_eq_true rfl; exact (Nat.le_refl _); exact (Nat.le_refl _)
  refine aw_icmpN_ge d_Walk_stepToLost_13 (by omega) (by omega) (fun br13_ => ?_) (fun br13_ => ?_)
  · skip
    have ei : i = hs.2.1.length := by omega
    subst ei
    refine aw_iconst (v := -1) d_Walk_stepToLost_51 (by decide) ?_
    refine aw_iret d_Walk_stepToLost_52 rfl (Nat.le_refl _) (Nat.le_refl _) ?_
    exact ⟨by rw [fsI_f hI_i], rfl⟩
  · skip
    refine aw_aload_n (i := 0) d_Walk_stepToLost_16 rfl rfl ?_
    refine aw_iload_n (i := 1) d_Walk_stepToLost_17 rfl rfl ?_
    refine aw_iload_n (i := 2) d_Walk_stepToLost_18 rfl rfl ?_
    apply aw_callv_p (c_Walk_isOpen hm hv (c := c) (j := i) (by omega) br13_ (hS.1 _ hc)) d_Walk_stepToLost_19 cl_Walk_102; exact hm.2.2.1.1; rfl; rfl; rfl; rfl; decide; exact Nat.le_of_ble_eq_true rfl; exact (Nat.le_refl _); exact (Nat.le_refl _)
    refine aw_ifB_eq d_Walk_stepToLost_22 (fun br22_ => ?_) (fun br22_ => ?_)
    · skip
      have hno : tps hs c i = false := by unfold tps; rw [br22_]; rfl
      refine aw_iincN (lv2 := [(0, _), (1, _), (2, _)]) d_Walk_stepToLost_45 (by decide) rfl rfl ?_
      refine aw_goto d_Walk_stepToLost_48 ?_
      have hall9 : ∀ k, k < i + 1 → tps hs c k = false := by
        intro k hk
        by_cases e : k = i
        · subst e; exact hno
        · exact hI_i k (by omega)
      first
        | exact ih_i br13_ (i + 1) ⟨rfl, hall9⟩
        | (refine aw_drop (lv2 := [(0, _), (1, _), (2, _)]) [0, 1, 2] rfl ?_
           exact ih_i br13_ (i + 1) ⟨rfl, hall9⟩)
    · skip
      have hal := aft_lt hv hc br13_
      refine aw_aload_n (i := 0) d_Walk_stepToLost_25 rfl rfl ?_
      refine aw_aload_n (i := 0) d_Walk_stepToLost_26 rfl rfl ?_
      apply aw_get d_Walk_stepToLost_27 fl_Walk_9; exact hm.2.2.1.1; rfl
      rw [hm.2.1]
      refine aw_iload_n (i := 1) d_Walk_stepToLost_30 rfl rfl ?_
      refine aw_iload_n (i := 2) d_Walk_stepToLost_31 rfl rfl ?_
      apply aw_callv_p (c_House_codeAfter hm.1 hv hc br13_) d_Walk_stepToLost_32 cl_Walk_164; exact hm.1.1; rfl; rfl; rfl; rfl; decide; exact Nat.le_of_ble_eq_true rfl; exact (Nat.le_refl _); exact (Nat.le_refl _)
      apply aw_callv_p (c_Walk_leastSum hm hv (c := aft hs c i) (by omega)) d_Walk_stepToLost_35 cl_Walk_166; exact hm.2.2.1.1; rfl; rfl; rfl; rfl; decide; exact Nat.le_of_ble_eq_true rfl; exact (Nat.le_refl _); exact (Nat.le_refl _)
      rw [hS.2 _ hal]
      refine aw_bipush (v := -2) d_Walk_stepToLost_38 (by decide) ?_
      refine aw_icmp_ne d_Walk_stepToLost_40 (fun br40_ => ?_) (fun br40_ => ?_)
      · skip
        have hno : tps hs c i = false := by unfold tps; rw [lsI_n2 br40_]; simp
        refine aw_iincN (lv2 := [(0, _), (1, _), (2, _)]) d_Walk_stepToLost_45 (by decide) rfl rfl ?_
        refine aw_goto d_Walk_stepToLost_48 ?_
        have hall9 : ∀ k, k < i + 1 → tps hs c k = false := by
          intro k hk
          by_cases e : k = i
          · subst e; exact hno
          · exact hI_i k (by omega)
        first
          | exact ih_i br13_ (i + 1) ⟨rfl, hall9⟩
          | (refine aw_drop (lv2 := [(0, _), (1, _), (2, _)]) [0, 1, 2] rfl ?_
             exact ih_i br13_ (i + 1) ⟨rfl, hall9⟩)
      · skip
        have hyes : tps hs c i = true := by unfold tps; rw [br22_, lsI_2 br40_]; rfl
        refine aw_iload_n (i := 2) d_Walk_stepToLost_43 rfl rfl ?_
        refine aw_iret d_Walk_stepToLost_44 rfl (Nat.le_refl _) (Nat.le_refl _) ?_
        exact ⟨by rw [fsI_t br13_ hI_i hyes], rfl⟩

theorem fsI_m1 {p : Nat → Bool} {n : Nat} (hn : n < 2 ^ 31) : fsI p n = -1 ↔ ∀ k, k < n → p k = false := by
  constructor
  · intro h
    unfold fsI at h
    cases e : (List.range n).find? p with
    | none =>
      rw [List.find?_eq_none] at e
      intro k hk
      have := e k (List.mem_range.mpr hk)
      simpa using this
    | some i =>
      rw [e] at h
      have hi := List.mem_range.mp (List.mem_of_find?_eq_some e)
      exact absurd h (nI_nm1 (by omega))
  · exact fsI_f
theorem rch_mem {hs : HSt} {L : List Nat} {ar : Nat → Nat → Int32} (hC : CHT hs L ar) (c : Nat) : decide (c ∈ L) = rch hs c := by
  rw [Bool.eq_iff_iff, decide_eq_true_eq, hC.2.1 c]; exact rcs_iff.symm
set_option maxHeartbeats 4000000 in
set_option maxRecDepth 20000 in
theorem c_Walk_leastTrap {G : aG} {nx : Nat} {h h0 : Nat → Option aC} {hs : HSt} {ad : AD} {A : Nat → Nat} {most : Nat} {fl : WFl} {L L2 : List Nat} {ar : Nat → Nat → Int32} {n : Nat} (hm : WkF h0 h hs ad A most fl L L2 ar n) (hv : VH hs) (hC : CHT hs L ar) (hal2 : hall hs ≤ most) (hS : MSR hs ar) : AMet G m_Walk_leastTrap 7 0 0 [.ref (A 0)] (nx, h) (RV (.int (fsI (tpc hs) (hall hs))) (nx, h)) := by
  have hp12 := hv.1.1
  have hs24 := hv.2.1
  have hall2 := hv.2.2.2.2.2.2.2
  have hmo := hm.mst
  refine amet_of pf_Walk_leastTrap (Nat.le_of_ble_eq_true rfl) ?_
  show AW G m_Walk_leastTrap 7 0 0 _ 0 [(0, .ref (A 0))] [] (nx, h) 0 0
  refine aw_iconst (v := nI 0) d_Walk_leastTrap_0 (by decide) ?_
  refine aw_istore_n (i := 1) (lv2 := [(0, _), (1, _)]) d_Walk_leastTrap_1 rfl (by decide) rfl ?_
  show AW G m_Walk_leastTrap 7 0 0 _ 2 [(0, .ref (A 0)), (1, .int (nI 0))] [] (nx, h) 0 0
  refine upto (σ := Nat) (fun i => AW G m_Walk_leastTrap 7 0 0 _ 2 [(0, .ref (A 0)), (1, .int (nI i))] [] (nx, h) 0 0) (fun i s => i = s ∧ ∀ k, k < i → tpc hs k = false) (hall hs) ?_ 0 0 (Nat.zero_le _) ⟨rfl, fun k hk => absurd hk (Nat.not_lt_zero _)⟩
  intro i s9 hi_i hI_i ih_i
  obtain ⟨rfl, hI_i⟩ := hI_i
  refine aw_iload_n (i := 1) d_Walk_leastTrap_2 rfl rfl ?_
  refine aw_aload_n (i := 0) d_Walk_leastTrap_3 rfl rfl ?_
  apply aw_get d_Walk_leastTrap_4 fl_Walk_9; exact hm.2.2.1.1; rfl
  rw [hm.2.1]
  apply aw_get d_Walk_leastTrap_7 fl_Walk_120; exact hm.1.1; rfl
  refine aw_icmpN_ge d_Walk_leastTrap_10 (by omega) (by omega) (fun br10_ => ?_) (fun br10_ => ?_)
  · skip
    have ei : i = hall hs := by omega
    subst ei
    refine aw_iconst (v := -1) d_Walk_leastTrap_51 (by decide) ?_
    refine aw_iret d_Walk_leastTrap_52 rfl (Nat.le_refl _) (Nat.le_refl _) ?_
    exact ⟨by rw [fsI_f hI_i], rfl⟩
  · skip
    refine aw_aload_n (i := 0) d_Walk_leastTrap_13 rfl rfl ?_
    apply aw_get d_Walk_leastTrap_14 fl_Walk_30; exact hm.2.2.1.1; rfl
    refine aw_iload_n (i := 1) d_Walk_leastTrap_17 rfl rfl ?_
    apply aw_callv_p (c_Line_has hm.Lr (c := i) (by omega)) d_Walk_leastTrap_18 cl_Walk_123; exact hm.Lr.ob.choose_spec; rfl; rfl; rfl; rfl; decide; exact Nat.le_of_ble_eq_true rfl; exact (Nat.le_refl _); exact (Nat.le_refl _)
    rw [rch_mem hC i]
    refine aw_ifB_eq d_Walk_leastTrap_21 (fun br21_ => ?_) (fun br21_ => ?_)
    · skip
      have hno : tpc hs i = false := tpc_n (fun q => by rw [br21_] at q; cases q)
      refine aw_iincN (lv2 := [(0, _), (1, _)]) d_Walk_leastTrap_45 (by decide) rfl rfl ?_
      refine aw_goto d_Walk_leastTrap_48 ?_
      have hall9 : ∀ k, k < i + 1 → tpc hs k = false := by
        intro k hk
        by_cases e : k = i
        · subst e; exact hno
        · exact hI_i k (by omega)
      first
        | exact ih_i br10_ (i + 1) ⟨rfl, hall9⟩
        | (refine aw_drop (lv2 := [(0, _), (1, _)]) [0, 1] rfl ?_
           exact ih_i br10_ (i + 1) ⟨rfl, hall9⟩)
    · skip
      refine aw_aload_n (i := 0) d_Walk_leastTrap_24 rfl rfl ?_
      refine aw_iload_n (i := 1) d_Walk_leastTrap_25 rfl rfl ?_
      apply aw_callv_p (c_Walk_leastSum hm hv (c := i) (by omega)) d_Walk_leastTrap_26 cl_Walk_166; exact hm.2.2.1.1; rfl; rfl; rfl; rfl; decide; exact Nat.le_of_ble_eq_true rfl; exact (Nat.le_refl _); exact (Nat.le_refl _)
      rw [hS.2 _ br10_]
      refine aw_bipush (v := -2) d_Walk_leastTrap_29 (by decide) ?_
      refine aw_icmp_eq d_Walk_leastTrap_31 (fun br31_ => ?_) (fun br31_ => ?_)
      · skip
        have hno : tpc hs i = false := tpc_n (fun _ q => by rw [lsI_2 br31_] at q; cases q)
        refine aw_iincN (lv2 := [(0, _), (1, _)]) d_Walk_leastTrap_45 (by decide) rfl rfl ?_
        refine aw_goto d_Walk_leastTrap_48 ?_
        have hall9 : ∀ k, k < i + 1 → tpc hs k = false := by
          intro k hk
          by_cases e : k = i
          · subst e; exact hno
          · exact hI_i k (by omega)
        first
          | exact ih_i br10_ (i + 1) ⟨rfl, hall9⟩
          | (refine aw_drop (lv2 := [(0, _), (1, _)]) [0, 1] rfl ?_
             exact ih_i br10_ (i + 1) ⟨rfl, hall9⟩)
      · skip
        refine aw_aload_n (i := 0) d_Walk_leastTrap_34 rfl rfl ?_
        refine aw_iload_n (i := 1) d_Walk_leastTrap_35 rfl rfl ?_
        apply aw_callv_p (c_Walk_stepToLost hm hv (c := i) br10_ hal2 hS) d_Walk_leastTrap_36 cl_Walk_169; exact hm.2.2.1.1; rfl; rfl; rfl; rfl; decide; exact Nat.le_of_ble_eq_true rfl; exact (Nat.le_refl _); exact (Nat.le_refl _)
        refine aw_iconst (v := -1) d_Walk_leastTrap_39 (by decide) ?_
        refine aw_icmp_eq d_Walk_leastTrap_40 (fun br40_ => ?_) (fun br40_ => ?_)
        · skip
          have hno : tpc hs i = false := tpc_n (fun _ _ => (fsI_m1 (by omega)).mp br40_)
          refine aw_iincN (lv2 := [(0, _), (1, _)]) d_Walk_leastTrap_45 (by decide) rfl rfl ?_
          refine aw_goto d_Walk_leastTrap_48 ?_
          have hall9 : ∀ k, k < i + 1 → tpc hs k = false := by
            intro k hk
            by_cases e : k = i
            · subst e; exact hno
            · exact hI_i k (by omega)
          first
            | exact ih_i br10_ (i + 1) ⟨rfl, hall9⟩
            | (refine aw_drop (lv2 := [(0, _), (1, _)]) [0, 1] rfl ?_
               exact ih_i br10_ (i + 1) ⟨rfl, hall9⟩)
        · skip
          have hyes : tpc hs i = true := by
            unfold tpc
            rw [br21_, lsI_n2 br31_]
            cases e : (List.range hs.2.1.length).any (tps hs i)
            · exfalso
              refine br40_ (fsI_f (fun k hk => ?_))
              cases e2 : tps hs i k
              · rfl
              · rw [List.any_eq_true.mpr ⟨k, List.mem_range.mpr hk, e2⟩] at e; cases e
            · rfl
          refine aw_iload_n (i := 1) d_Walk_leastTrap_43 rfl rfl ?_
          refine aw_iret d_Walk_leastTrap_44 rfl (Nat.le_refl _) (Nat.le_refl _) ?_
          exact ⟨by rw [fsI_t br10_ hI_i hyes], rfl⟩

theorem lost_cnt {hs : HSt} {L : List Nat} {ar : Nat → Nat → Int32} (hv : VH hs) (hC : CHT hs L ar) : cnt (fun c => !isO hs c) L = ctn (lostp hs) (hall hs) := by
  refine len_eq (hC.1.filter _) (fun c => ?_)
  rw [List.mem_filter, hC.2.1 c]
  unfold lostp
  simp only [Bool.and_eq_true]
  constructor
  · rintro ⟨h1, h2⟩; exact ⟨h1.lt hv, rcs_iff.mpr h1, h2⟩
  · rintro ⟨h1, h2, h3⟩; exact ⟨rcs_iff.mp h2, h3⟩
theorem CHT.at {hs : HSt} {L : List Nat} {ar : Nat → Nat → Int32} (hv : VH hs) (hC : CHT hs L ar) {i : Nat} (hi : i < L.length) : L[i] < hall hs := ((hC.2.1 _).mp (List.getElem_mem hi)).lt hv
theorem CHT.len {hs : HSt} {L : List Nat} {ar : Nat → Nat → Int32} (hv : VH hs) (hC : CHT hs L ar) : L.length ≤ hall hs := nd_len hC.1 (fun c hc => ((hC.2.1 c).mp hc).lt hv)
set_option maxHeartbeats 4000000 in
set_option maxRecDepth 20000 in
theorem c_Walk_countLost {G : aG} {nx : Nat} {h h0 : Nat → Option aC} {hs : HSt} {ad : AD} {A : Nat → Nat} {most : Nat} {fl : WFl} {L L2 : List Nat} {ar : Nat → Nat → Int32} {n : Nat} (hm : WkF h0 h hs ad A most fl L L2 ar n) (hv : VH hs) (hC : CHT hs L ar) (hal2 : hall hs ≤ most) (hS : MSR hs ar) : AMet G m_Walk_countLost 2 0 0 [.ref (A 0)] (nx, h) (RV (.int (nI (ctn (lostp hs) (hall hs)))) (nx, h)) := by
  have hp12 := hv.1.1
  have hs24 := hv.2.1
  have hall2 := hv.2.2.2.2.2.2.2
  have hmo := hm.mst
  have hLl := hC.len hv
  refine amet_of pf_Walk_countLost (Nat.le_of_ble_eq_true rfl) ?_
  show AW G m_Walk_countLost 2 0 0 _ 0 [(0, .ref (A 0))] [] (nx, h) 0 0
  refine aw_iconst (v := nI 0) d_Walk_countLost_0 (by decide) ?_
  refine aw_istore_n (i := 1) (lv2 := [(0, _), (1, _)]) d_Walk_countLost_1 rfl (by decide) rfl ?_
  refine aw_iconst (v := nI 0) d_Walk_countLost_2 (by decide) ?_
  refine aw_istore_n (i := 2) (lv2 := [(0, _), (1, _), (2, _)]) d_Walk_countLost_3 rfl (by decide) rfl ?_
  show AW G m_Walk_countLost 2 0 0 _ 4 [(0, .ref (A 0)), (1, .int (nI (cnt (fun c => !isO hs c) (L.take 0)))), (2, .int (nI 0))] [] (nx, h) 0 0
  refine upto (σ := Nat) (fun i => AW G m_Walk_countLost 2 0 0 _ 4 [(0, .ref (A 0)), (1, .int (nI (cnt (fun c => !isO hs c) (L.take i)))), (2, .int (nI i))] [] (nx, h) 0 0) (fun i s => i = s ∧ True) (L.length) ?_ 0 0 (Nat.zero_le _) ⟨rfl, trivial⟩
  intro i s9 hi_i hI_i ih_i
  obtain ⟨rfl, hI_i⟩ := hI_i
  refine aw_iload_n (i := 2) d_Walk_countLost_4 rfl rfl ?_
  refine aw_aload_n (i := 0) d_Walk_countLost_5 rfl rfl ?_
  apply aw_get d_Walk_countLost_6 fl_Walk_30; exact hm.2.2.1.1; rfl
  refine li_size hm.Lr d_Walk_countLost_9 fl_Walk_75 ?_
  refine aw_icmpN_ge d_Walk_countLost_12 (by omega) (by omega) (fun br12_ => ?_) (fun br12_ => ?_)
  · skip
    have ei : i = L.length := by omega
    subst ei
    rw [List.take_length, lost_cnt hv hC]
    refine aw_iload_n (i := 1) d_Walk_countLost_46 rfl rfl ?_
    refine aw_iret d_Walk_countLost_47 rfl (Nat.le_refl _) (Nat.le_refl _) ?_
    exact ⟨rfl, rfl⟩
  · skip
    have hcl := hC.at hv br12_
    have hat := cnt_take (fun c => !isO hs c) L i br12_
    refine aw_iload_n (i := 1) d_Walk_countLost_15 rfl rfl ?_
    refine aw_aload_n (i := 0) d_Walk_countLost_16 rfl rfl ?_
    refine aw_aload_n (i := 0) d_Walk_countLost_17 rfl rfl ?_
    apply aw_get d_Walk_countLost_18 fl_Walk_30; exact hm.2.2.1.1; rfl
    refine aw_iload_n (i := 2) d_Walk_countLost_21 rfl rfl ?_
    apply aw_callv_p (c_Line_codeAt hm.Lr (i := i) br12_) d_Walk_countLost_22 cl_Walk_78; exact hm.Lr.ob.choose_spec; rfl; rfl; rfl; rfl; decide; exact Nat.le_of_ble_eq_true rfl; exact (Nat.le_refl _); exact (Nat.le_refl _)
    apply aw_callv_p (c_Walk_leastSum hm hv (c := L[i]) (by omega)) d_Walk_countLost_25 cl_Walk_166; exact hm.2.2.1.1; rfl; rfl; rfl; rfl; decide; exact Nat.le_of_ble_eq_true rfl; exact (Nat.le_refl _); exact (Nat.le_refl _)
    rw [hS.2 _ hcl]
    refine aw_bipush (v := -2) d_Walk_countLost_28 (by decide) ?_
    refine aw_icmp_ne d_Walk_countLost_30 (fun br30_ => ?_) (fun br30_ => ?_)
    · skip
      have hst : cnt (fun c => !isO hs c) (L.take (i + 1)) = cnt (fun c => !isO hs c) (L.take i) + 0 := by rw [hat, lsI_n2 br30_]; rfl
      refine aw_iconst (v := nI 0) d_Walk_countLost_37 (by decide) ?_
      refine aw_iaddN d_Walk_countLost_38 ?_
      refine aw_istore_n (i := 1) (lv2 := [(0, _), (1, _), (2, _)]) d_Walk_countLost_39 rfl (by decide) rfl ?_
      refine aw_iincN (lv2 := [(0, _), (1, _), (2, _)]) d_Walk_countLost_40 (by decide) rfl rfl ?_
      refine aw_goto d_Walk_countLost_43 ?_
      have k9 := ih_i br12_ (i + 1) ⟨rfl, trivial⟩
      rw [hst] at k9
      exact k9
    · skip
      have hst : cnt (fun c => !isO hs c) (L.take (i + 1)) = cnt (fun c => !isO hs c) (L.take i) + 1 := by rw [hat, lsI_2 br30_]; rfl
      refine aw_iconst (v := nI 1) d_Walk_countLost_33 (by decide) ?_
      refine aw_goto d_Walk_countLost_34 ?_
      refine aw_iaddN d_Walk_countLost_38 ?_
      refine aw_istore_n (i := 1) (lv2 := [(0, _), (1, _), (2, _)]) d_Walk_countLost_39 rfl (by decide) rfl ?_
      refine aw_iincN (lv2 := [(0, _), (1, _), (2, _)]) d_Walk_countLost_40 (by decide) rfl rfl ?_
      refine aw_goto d_Walk_countLost_43 ?_
      have k9 := ih_i br12_ (i + 1) ⟨rfl, trivial⟩
      rw [hst] at k9
      exact k9

def usF (hs : HSt) (l : List Nat) : Nat := l.foldl (fun b c => b ||| opb hs c) 0
theorem usF_s {hs : HSt} {l : List Nat} {i : Nat} (hi : i < l.length) : usF hs (l.take (i + 1)) = usF hs (l.take i) ||| opb hs l[i] := by
  unfold usF; rw [List.take_succ_eq_append_getElem hi, List.foldl_append]; rfl
theorem usF_bit {hs : HSt} {s : Nat} (hs2 : s < hs.2.1.length) : ∀ (l : List Nat) (z : Nat), (l.foldl (fun b c => b ||| opb hs c) z).testBit s = (z.testBit s || l.any (fun c => opn hs c s))
  | [], z => by simp
  | c :: l, z => by rw [List.foldl_cons, usF_bit hs2 l, Nat.testBit_or, opb_bit hs2, List.any_cons, Bool.or_assoc]
theorem usF_lt {hs : HSt} (hv : VH hs) : ∀ (l : List Nat) (z : Nat), z < 2 ^ 24 → l.foldl (fun b c => b ||| opb hs c) z < 2 ^ 24
  | [], z, h => h
  | c :: l, z, h => usF_lt hv l _ (Nat.or_lt_two_pow h (orb_lt2 _ hv.2.1))
set_option maxHeartbeats 4000000 in
set_option maxRecDepth 20000 in
theorem c_Walk_usedSteps {G : aG} {nx : Nat} {h h0 : Nat → Option aC} {hs : HSt} {ad : AD} {A : Nat → Nat} {most : Nat} {fl : WFl} {L L2 : List Nat} {ar : Nat → Nat → Int32} {n : Nat} (hm : WkF h0 h hs ad A most fl L L2 ar n) (hv : VH hs) (hC : CHT hs L ar) (hal2 : hall hs ≤ most) : AMet G m_Walk_usedSteps 1 0 0 [.ref (A 0)] (nx, h) (RV (.int (nI (usF hs L))) (nx, h)) := by
  have hp12 := hv.1.1
  have hs24 := hv.2.1
  have hall2 := hv.2.2.2.2.2.2.2
  have hmo := hm.mst
  have hLl := hC.len hv
  refine amet_of pf_Walk_usedSteps (Nat.le_of_ble_eq_true rfl) ?_
  show AW G m_Walk_usedSteps 1 0 0 _ 0 [(0, .ref (A 0))] [] (nx, h) 0 0
  refine aw_iconst (v := nI 0) d_Walk_usedSteps_0 (by decide) ?_
  refine aw_istore_n (i := 1) (lv2 := [(0, _), (1, _)]) d_Walk_usedSteps_1 rfl (by decide) rfl ?_
  refine aw_iconst (v := nI 0) d_Walk_usedSteps_2 (by decide) ?_
  refine aw_istore_n (i := 2) (lv2 := [(0, _), (1, _), (2, _)]) d_Walk_usedSteps_3 rfl (by decide) rfl ?_
  show AW G m_Walk_usedSteps 1 0 0 _ 4 [(0, .ref (A 0)), (1, .int (nI (usF hs (L.take 0)))), (2, .int (nI 0))] [] (nx, h) 0 0
  refine upto (σ := Nat) (fun i => AW G m_Walk_usedSteps 1 0 0 _ 4 [(0, .ref (A 0)), (1, .int (nI (usF hs (L.take i)))), (2, .int (nI i))] [] (nx, h) 0 0) (fun i s => i = s ∧ True) (L.length) ?_ 0 0 (Nat.zero_le _) ⟨rfl, trivial⟩
  intro i s9 hi_i hI_i ih_i
  obtain ⟨rfl, hI_i⟩ := hI_i
  refine aw_iload_n (i := 2) d_Walk_usedSteps_4 rfl rfl ?_
  refine aw_aload_n (i := 0) d_Walk_usedSteps_5 rfl rfl ?_
  apply aw_get d_Walk_usedSteps_6 fl_Walk_30; exact hm.2.2.1.1; rfl
  refine li_size hm.Lr d_Walk_usedSteps_9 fl_Walk_75 ?_
  refine aw_icmpN_ge d_Walk_usedSteps_12 (by omega) (by omega) (fun br12_ => ?_) (fun br12_ => ?_)
  · skip
    have ei : i = L.length := by omega
    subst ei
    rw [List.take_length]
    refine aw_iload_n (i := 1) d_Walk_usedSteps_51 rfl rfl ?_
    refine aw_iret d_Walk_usedSteps_52 rfl (Nat.le_refl _) (Nat.le_refl _) ?_
    exact ⟨rfl, rfl⟩
  · skip
    have hcl := hC.at hv br12_
    refine aw_aload_n (i := 0) d_Walk_usedSteps_15 rfl rfl ?_
    apply aw_get d_Walk_usedSteps_16 fl_Walk_30; exact hm.2.2.1.1; rfl
    refine aw_iload_n (i := 2) d_Walk_usedSteps_19 rfl rfl ?_
    apply aw_callv_p (c_Line_codeAt hm.Lr (i := i) br12_) d_Walk_usedSteps_20 cl_Walk_78; exact hm.Lr.ob.choose_spec; rfl; rfl; rfl; rfl; decide; exact Nat.le_of_ble_eq_true rfl; exact (Nat.le_refl _); exact (Nat.le_refl _)
    refine aw_istore_n (i := 3) (lv2 := [(0, _), (1, _), (2, _), (3, _)]) d_Walk_usedSteps_23 rfl (by decide) rfl ?_
    refine aw_iload_n (i := 1) d_Walk_usedSteps_24 rfl rfl ?_
    refine aw_aload_n (i := 0) d_Walk_usedSteps_25 rfl rfl ?_
    refine aw_iload_n (i := 3) d_Walk_usedSteps_26 rfl rfl ?_
    apply aw_callv_p (w_fits hm hv (c := L[i]) (by omega)) d_Walk_usedSteps_27 cl_Walk_82; exact hm.2.2.1.1; rfl; rfl; rfl; rfl; decide; exact Nat.le_of_ble_eq_true rfl; exact (Nat.le_refl _); exact (Nat.le_refl _)
    refine aw_if_eq d_Walk_usedSteps_30 (fun br30_ => absurd br30_ (by decide)) (fun br30_ => ?_)
    refine aw_aload_n (i := 0) d_Walk_usedSteps_33 rfl rfl ?_
    apply aw_get d_Walk_usedSteps_34 fl_Walk_34; exact hm.2.2.1.1; rfl
    refine aw_iload_n (i := 3) d_Walk_usedSteps_37 rfl rfl ?_
    apply ci_ld d_Walk_usedSteps_38; exact hm.a0; (have := hm.mst; omega); omega; exact hC.2.2 _ (List.getElem_mem br12_)
    refine aw_goto d_Walk_usedSteps_39 ?_
    refine aw_ior d_Walk_usedSteps_43 ?_
    rw [fa_or]
    refine aw_istore_n (i := 1) (lv2 := [(0, _), (1, _), (2, _), (3, _)]) d_Walk_usedSteps_44 rfl (by decide) rfl ?_
    refine aw_iincN (lv2 := [(0, _), (1, _), (2, _), (3, _)]) d_Walk_usedSteps_45 (by decide) rfl rfl ?_
    refine aw_goto d_Walk_usedSteps_48 ?_
    refine aw_drop (lv2 := [(0, _), (1, _), (2, _)]) [0, 1, 2] rfl ?_
    have k9 := ih_i br12_ (i + 1) ⟨rfl, trivial⟩
    rw [usF_s br12_] at k9
    exact k9

