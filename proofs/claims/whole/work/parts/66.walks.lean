def bh (hs : HSt) (c j : Nat) : Int32 := if opn hs c j then nI (aft hs c j) else -1
theorem bh_t {hs : HSt} {c j : Nat} (h : opn hs c j = true) : bh hs c j = nI (aft hs c j) := if_pos h
theorem bh_f {hs : HSt} {c j : Nat} (h : opn hs c j = false) : bh hs c j = -1 := if_neg (by rw [h]; decide)
theorem bh_neg {hs : HSt} {c j : Nat} (h : bh hs c j < 0) (ha : aft hs c j < 2 ^ 31) : opn hs c j = false := by
  cases e : opn hs c j
  · rfl
  · rw [bh_t e] at h; exact absurd h (nI_pos ha)
theorem bh_pos {hs : HSt} {c j : Nat} (h : ¬ bh hs c j < 0) : opn hs c j = true := by
  cases e : opn hs c j
  · rw [bh_f e] at h; exact absurd (by decide) h
  · rfl
def MoB (ar : Nat → Nat → Int32) (hs : HSt) : Prop := ∀ c j, c < hall hs → j < hs.2.1.length → ar 28 (c * 24 + j) = bh hs c j
noncomputable def rcs (hs : HSt) (sh : Nat → Bool) (c : Nat) : Bool := @decide (Rch hs sh c) (Classical.propDecidable _)
theorem rcs_iff {hs : HSt} {sh : Nat → Bool} {c : Nat} : rcs hs sh c = true ↔ Rch hs sh c := by unfold rcs; exact @decide_eq_true_iff _ (Classical.propDecidable _)
noncomputable def rch (hs : HSt) (c : Nat) : Bool := rcs hs (fun _ => false) c
def QF (hs : HSt) (sh : Nat → Bool) (fm : Nat) (ar1 : Nat → Nat → Int32) (L : List Nat) (i j : Nat) : Prop := Bfs hs sh L i j ∧ (∀ k, k < L.length → ar1 31 k = nI (L.getD k 0)) ∧ (∀ c, c < hall hs → ar1 fm c = bI (L.contains c))
theorem QF.skip {hs : HSt} {sh : Nat → Bool} {fm : Nat} {ar1 : Nat → Nat → Int32} {L : List Nat} {i j : Nat} (h : QF hs sh fm ar1 L i j) (hn : opn hs (L.getD i 0) j = true → sh (aft hs (L.getD i 0) j) = false → aft hs (L.getD i 0) j ∈ L) : QF hs sh fm ar1 L i (j + 1) := ⟨h.1.skip hn, h.2⟩
theorem QF.next {hs : HSt} {sh : Nat → Bool} {fm : Nat} {ar1 : Nat → Nat → Int32} {L : List Nat} {i j : Nat} (h : QF hs sh fm ar1 L i j) (hj : hs.2.1.length ≤ j) : QF hs sh fm ar1 L (i + 1) 0 := ⟨h.1.next hj, h.2⟩
theorem QF.join {hs : HSt} {sh : Nat → Bool} {fm : Nat} {ar1 ar2 : Nat → Nat → Int32} {L : List Nat} {i j t : Nat} (h : QF hs sh fm ar1 L i j) (hi : i < L.length) (hj : j < hs.2.1.length) (ho : opn hs (L.getD i 0) j = true) (ht : aft hs (L.getD i 0) j = t) (hs2 : sh t = false) (hn : t ∉ L) (e1 : ar2 31 = upd (ar1 31) L.length (nI t)) (e2 : ar2 fm = upd (ar1 fm) t (nI 1)) : QF hs sh fm ar2 (L ++ [t]) i (j + 1) := by
  subst ht
  refine ⟨h.1.join hi hj ho hs2 hn, fun k hk => ?_, fun c hc => ?_⟩
  · rw [e1]
    by_cases e : k = L.length
    · subst e; rw [pk_us]; simp [List.getD_eq_getElem?_getD]
    · have hk2 : k < L.length := by simp at hk; omega
      rw [pk_un e, h.2.1 k hk2]; simp [List.getD_eq_getElem?_getD, List.getElem?_append_left hk2]
  · rw [e2]
    by_cases e : c = aft hs (L.getD i 0) j
    · subst e; rw [pk_us, List.contains_iff_mem.mpr (by simp)]; rfl
    · rw [pk_un e, h.2.2 c hc]
      have : (L ++ [aft hs (L.getD i 0) j]).contains c = L.contains c := by
        rw [Bool.eq_iff_iff, List.contains_iff_mem, List.contains_iff_mem, List.mem_append, List.mem_singleton]; simp only [e, or_false]
      rw [this]
theorem QF.rcs {hs : HSt} {sh : Nat → Bool} {fm : Nat} {ar1 : Nat → Nat → Int32} {L : List Nat} {i : Nat} (h : QF hs sh fm ar1 L i 0) (hi : L.length ≤ i) (c : Nat) : L.contains c = rcs hs sh c := by
  rw [Bool.eq_iff_iff, List.contains_iff_mem, rcs_iff]; exact h.1.done hi c
theorem cf_mem {L : List Nat} {c : Nat} (h : L.contains c = false) : c ∉ L := fun q => by rw [List.contains_iff_mem.mpr q] at h; cases h
set_option maxHeartbeats 4000000 in
set_option maxRecDepth 20000 in
theorem c_Mod_walks {G : aG} {nx : Nat} {h h0 : Nat → Option aC} {a : Nat} {A : Nat → Nat} {sc : Nat → Int32} {ar : Nat → Nat → Int32} (hm : MoF h0 h a A sc ar) {hs : HSt} (hh : MoH sc ar hs) (hv : VH hs) (hw : MoW sc ar hs) (hb : MoB ar hs) (hf : sc 27 = nI (hsta hs)) : AMet G m_Mod_walks 0 0 0 [.ref a] (nx, h) (MR nx a h0 A (fun r sc2 ar2 => r = none ∧ Kp [] [29, 31] sc ar sc2 ar2 ∧ ∀ c, c < hall hs → ar2 29 c = bI (rch hs c))) := by
  have hp12 := hv.1.1
  have hs24 := hv.2.1
  have hall2 := hv.2.2.2.2.2.2.2
  have hh0 := hh
  have hw0 := hw
  have hf0 := hf
  have hb0 := hb
  have hst := hsta_lt hv
  refine amet_of pf_Mod_walks (Nat.le_of_ble_eq_true rfl) ?_
  show AW G m_Mod_walks 0 0 0 _ 0 [(0, .ref a)] [] (nx, h) 0 0
  refine aw_iconst (v := nI 0) d_Mod_walks_0 (by decide) ?_
  refine aw_istore_n (i := 1) (lv2 := [(0, _), (1, _)]) d_Mod_walks_1 rfl (by decide) rfl ?_
  refine mloop (h0 := h0) (a := a) (A := A) (hall hs) (fun i h sc1 ar1 => AW G m_Mod_walks 0 0 0 _ 2 [(0, .ref a), (1, .int (nI i))] [] (nx, h) 0 0) (fun i sc1 ar1 => Kp [] [29, 31] sc ar sc1 ar1 ∧ ∀ k, k < i → ar1 29 k = bI (decide (k = hsta hs))) ?_ 0 _ _ _ (Nat.zero_le _) hm ⟨Kp.rf, fun k hk => absurd hk (Nat.not_lt_zero _)⟩
  intro i h sc1 ar1 hi_i hm hI ih
  have hh := hh0.kp hI.1 rfl rfl
  have hw := hw0.kp hI.1 rfl rfl rfl
  have hf := (hI.1.1 27 rfl).trans hf0
  refine aw_iload_n (i := 1) d_Mod_walks_2 rfl rfl ?_
  refine aw_aload_n (i := 0) d_Mod_walks_3 rfl rfl ?_
  apply mo_gets (f := 26) hm d_Mod_walks_4 fl_Mod_206 rfl; exact hw.1
  refine aw_icmpN_ge d_Mod_walks_7 (by omega) (by omega) (fun br7_ => ?_) (fun br7_ => ?_)
  · skip
    have ei : i = hall hs := by omega
    subst ei
    refine aw_aload_n (i := 0) d_Mod_walks_35 rfl rfl ?_
    refine mo_get (f := 31) hm d_Mod_walks_36 fl_Mod_89 rfl ?_
    refine aw_iconst (v := nI 0) d_Mod_walks_39 (by decide) ?_
    refine aw_aload_n (i := 0) d_Mod_walks_40 rfl rfl ?_
    apply mo_gets (f := 27) hm d_Mod_walks_41 fl_Mod_209 rfl; exact hf
    apply mo_st (f := 31) (N := 20000) hm d_Mod_walks_44 rfl rfl (by decide); omega; intro h hm
    refine aw_iconst (v := nI 1) d_Mod_walks_45 (by decide) ?_
    refine aw_istore_n (i := 1) (lv2 := [(0, _), (1, _)]) d_Mod_walks_46 rfl (by decide) rfl ?_
    refine aw_iconst (v := nI 0) d_Mod_walks_47 (by decide) ?_
    refine aw_istore_n (i := 2) (lv2 := [(0, _), (1, _), (2, _)]) d_Mod_walks_48 rfl (by decide) rfl ?_
    refine mloop (h0 := h0) (a := a) (A := A) (hall hs) (fun i h sc1 ar1 => ∀ (L : List Nat), Kp [] [29, 31] sc ar sc1 ar1 ∧ QF hs (fun _ => false) 29 ar1 L i 0 → AW G m_Mod_walks 0 0 0 _ 49 [(0, .ref a), (1, .int (nI L.length)), (2, .int (nI i))] [] (nx, h) 0 0) (fun _ _ _ => True) ?_ 0 _ _ _ (Nat.zero_le _) hm trivial [hsta hs] ⟨hI.1.tr (Kp.st rfl), Bfs.init rfl, fun k hk => ?_, fun c hc => ?_⟩
    rotate_left
    · have e : k = 0 := by simp at hk; omega
      subst e; rfl
    · show ar1 29 c = _; rw [hI.2 c hc]; congr 1; rw [Bool.eq_iff_iff, List.contains_iff_mem]; simp
    intro i h sc1 ar1 hi_i hm _ ih2 L hI
    have hh := hh0.kp hI.1 rfl rfl
    have hw := hw0.kp hI.1 rfl rfl rfl
    have hb := (hI.1.2 28 rfl)
    refine aw_iload_n (i := 2) d_Mod_walks_49 rfl rfl ?_
    refine aw_iload_n (i := 1) d_Mod_walks_50 rfl rfl ?_
    refine aw_icmpN_ge d_Mod_walks_51 (by omega) (by have := hI.2.1.len hv; omega) (fun br51_ => ?_) (fun br51_ => ?_)
    · skip
      refine aw_vret d_Mod_walks_128 rfl (Nat.le_refl _) (Nat.le_refl _) ?_
      exact ⟨_, _, _, rfl, hm, rfl, hI.1, fun c hc => by rw [hI.2.2.2 c hc, hI.2.rcs br51_]; rfl⟩
    · skip
      refine aw_iconst (v := nI 0) d_Mod_walks_54 (by decide) ?_
      refine aw_istore_n (i := 3) (lv2 := [(0, _), (1, _), (2, _), (3, _)]) d_Mod_walks_55 rfl (by decide) rfl ?_
      refine mloop (h0 := h0) (a := a) (A := A) (hs.2.1.length) (fun j h sc2 ar2 => ∀ (L : List Nat), i < L.length ∧ Kp [] [29, 31] sc ar sc2 ar2 ∧ QF hs (fun _ => false) 29 ar2 L i j → AW G m_Mod_walks 0 0 0 _ 56 [(0, .ref a), (1, .int (nI L.length)), (2, .int (nI i)), (3, .int (nI j))] [] (nx, h) 0 0) (fun _ _ _ => True) ?_ 0 _ _ _ (Nat.zero_le _) hm trivial L ⟨br51_, hI.1, hI.2⟩
      intro j h sc2 ar2 hi_j hm _ ih3 L hJ
      obtain ⟨hiL, hK, hQ⟩ := hJ
      have hLl := hQ.1.len hv
      have hcL := hQ.1.at hv hiL
      have hh := hh0.kp hK rfl rfl
      have hb : MoB ar2 hs := fun c j hc hj => (congrFun (hK.2 28 rfl) _).trans (hb0 c j hc hj)
      refine aw_iload_n (i := 3) d_Mod_walks_56 rfl rfl ?_
      refine aw_aload_n (i := 0) d_Mod_walks_57 rfl rfl ?_
      apply mo_gets (f := 4) hm d_Mod_walks_58 fl_Mod_164 rfl; exact hh.1.2.1
      refine aw_icmpN_ge d_Mod_walks_61 (by omega) (by omega) (fun br61_ => ?_) (fun br61_ => ?_)
      · skip
        refine aw_iincN (lv2 := [(0, _), (1, _), (2, _), (3, _)]) d_Mod_walks_122 (by decide) rfl rfl ?_
        refine aw_goto d_Mod_walks_125 ?_
        refine aw_drop (lv2 := [(0, _), (1, _), (2, _)]) [0, 1, 2] rfl ?_
        exact ih2 (by omega) _ _ _ hm trivial L ⟨hK, hQ.next br61_⟩
      · skip
        have hal := aft_lt hv hcL br61_
        refine aw_aload_n (i := 0) d_Mod_walks_64 rfl rfl ?_
        refine mo_get (f := 28) hm d_Mod_walks_65 fl_Mod_79 rfl ?_
        refine aw_aload_n (i := 0) d_Mod_walks_68 rfl rfl ?_
        refine mo_get (f := 31) hm d_Mod_walks_69 fl_Mod_89 rfl ?_
        refine aw_iload_n (i := 2) d_Mod_walks_72 rfl rfl ?_
        apply mo_ld (f := 31) (N := 20000) hm d_Mod_walks_73 rfl rfl (by decide); omega; exact hQ.2.1 _ hiL
        refine aw_bipush (v := nI 24) d_Mod_walks_74 (by decide) ?_
        refine aw_imulN d_Mod_walks_76 ?_
        refine aw_iload_n (i := 3) d_Mod_walks_77 rfl rfl ?_
        refine aw_iaddN d_Mod_walks_78 ?_
        apply mo_ld (f := 28) (N := 480000) hm d_Mod_walks_79 rfl rfl (by decide); omega; exact hb _ _ hcL br61_
        refine aw_istore (lv2 := [(0, _), (1, _), (2, _), (3, _), (4, _)]) d_Mod_walks_80 (by decide) rfl ?_
        refine aw_iload d_Mod_walks_82 rfl ?_
        refine aw_if_lt d_Mod_walks_84 (fun br84_ => ?_) (fun br84_ => ?_)
        · skip
          have ho := bh_neg br84_ (by omega)
          have hQ2 := hQ.skip (fun q => by rw [ho] at q; cases q)
          refine aw_iincN (lv2 := [(0, _), (1, _), (2, _), (3, _), (4, _)]) d_Mod_walks_116 (by decide) rfl rfl ?_
          refine aw_goto d_Mod_walks_119 ?_
          refine aw_drop (lv2 := [(0, _), (1, _), (2, _), (3, _)]) [0, 1, 2, 3] rfl ?_
          first
            | (have k9 := ih3 br61_ _ _ _ hm trivial (L ++ [aft hs (L.getD i 0) j]) ⟨by rw [hl2]; omega, hK2, hQ2⟩; rw [hl2] at k9; exact k9)
            | exact ih3 br61_ _ _ _ hm trivial L ⟨hiL, hK, hQ2⟩
        · skip
          have ho := bh_pos br84_
          rw [bh_t ho]
          refine aw_aload_n (i := 0) d_Mod_walks_87 rfl rfl ?_
          refine mo_get (f := 29) hm d_Mod_walks_88 fl_Mod_82 rfl ?_
          refine aw_iload d_Mod_walks_91 rfl ?_
          apply mo_zld (f := 29) (N := 20000) hm d_Mod_walks_93 rfl rfl (by decide); omega; exact hQ.2.2 _ hal
          refine aw_ifB_ne d_Mod_walks_94 (fun br94_ => ?_) (fun br94_ => ?_)
          · skip
            have hQ2 := hQ.skip (fun _ _ => List.contains_iff_mem.mp br94_)
            refine aw_iincN (lv2 := [(0, _), (1, _), (2, _), (3, _), (4, _)]) d_Mod_walks_116 (by decide) rfl rfl ?_
            refine aw_goto d_Mod_walks_119 ?_
            refine aw_drop (lv2 := [(0, _), (1, _), (2, _), (3, _)]) [0, 1, 2, 3] rfl ?_
            first
              | (have k9 := ih3 br61_ _ _ _ hm trivial (L ++ [aft hs (L.getD i 0) j]) ⟨by rw [hl2]; omega, hK2, hQ2⟩; rw [hl2] at k9; exact k9)
              | exact ih3 br61_ _ _ _ hm trivial L ⟨hiL, hK, hQ2⟩
          · skip
            refine aw_aload_n (i := 0) d_Mod_walks_97 rfl rfl ?_
            refine mo_get (f := 29) hm d_Mod_walks_98 fl_Mod_82 rfl ?_
            refine aw_iload d_Mod_walks_101 rfl ?_
            refine aw_iconst (v := nI 1) d_Mod_walks_103 (by decide) ?_
            apply mo_zst (f := 29) (N := 20000) hm d_Mod_walks_104 rfl rfl (by decide); omega; exact (by decide); intro h hm
            refine aw_aload_n (i := 0) d_Mod_walks_105 rfl rfl ?_
            refine mo_get (f := 31) hm d_Mod_walks_106 fl_Mod_89 rfl ?_
            refine aw_iload_n (i := 1) d_Mod_walks_109 rfl rfl ?_
            refine aw_iload d_Mod_walks_110 rfl ?_
            apply mo_st (f := 31) (N := 20000) hm d_Mod_walks_112 rfl rfl (by decide); (have := hQ.1.len hv; have hn_ := (hQ.join hiL br61_ ho rfl rfl (cf_mem br94_) (ar2 := ups (ups ar2 29 (upd (ar2 29) (aft hs (L.getD i 0) j) (nI 1))) 31 (upd (ar2 31) L.length (nI (aft hs (L.getD i 0) j)))) rfl rfl).1.len hv; simp at hn_; omega); intro h hm
            have hQ2 := hQ.join hiL br61_ ho rfl rfl (cf_mem br94_) (ar2 := ups (ups ar2 29 (upd (ar2 29) (aft hs (L.getD i 0) j) (nI 1))) 31 (upd (ar2 31) L.length (nI (aft hs (L.getD i 0) j)))) rfl rfl
            have hK2 := (hK.tr (Kp.st (f := 29) (g := upd (ar2 29) (aft hs (L.getD i 0) j) (nI 1)) rfl)).tr (Kp.st (f := 31) (g := upd (ar2 31) L.length (nI (aft hs (L.getD i 0) j))) rfl)
            have hl2 : (L ++ [aft hs (L.getD i 0) j]).length = L.length + 1 := by simp
            refine aw_iincN (lv2 := [(0, _), (1, _), (2, _), (3, _), (4, _)]) d_Mod_walks_113 (by decide) rfl rfl ?_
            refine aw_iincN (lv2 := [(0, _), (1, _), (2, _), (3, _), (4, _)]) d_Mod_walks_116 (by decide) rfl rfl ?_
            refine aw_goto d_Mod_walks_119 ?_
            refine aw_drop (lv2 := [(0, _), (1, _), (2, _), (3, _)]) [0, 1, 2, 3] rfl ?_
            first
              | (have k9 := ih3 br61_ _ _ _ hm trivial (L ++ [aft hs (L.getD i 0) j]) ⟨by rw [hl2]; omega, hK2, hQ2⟩; rw [hl2] at k9; exact k9)
              | exact ih3 br61_ _ _ _ hm trivial L ⟨hiL, hK, hQ2⟩
  · skip
    refine aw_aload_n (i := 0) d_Mod_walks_10 rfl rfl ?_
    refine mo_get (f := 29) hm d_Mod_walks_11 fl_Mod_82 rfl ?_
    refine aw_iload_n (i := 1) d_Mod_walks_14 rfl rfl ?_
    refine aw_iload_n (i := 1) d_Mod_walks_15 rfl rfl ?_
    refine aw_aload_n (i := 0) d_Mod_walks_16 rfl rfl ?_
    apply mo_gets (f := 27) hm d_Mod_walks_17 fl_Mod_209 rfl; exact hf
    refine aw_icmpN_ne d_Mod_walks_20 (by omega) (by omega) (fun br20_ => ?_) (fun br20_ => ?_)
    · skip
      have hb_ : nI 0 = bI (decide (i = hsta hs)) := by rw [decide_eq_false br20_]; rfl
      refine aw_iconst (v := nI 0) d_Mod_walks_27 (by decide) ?_
      apply mo_zst (f := 29) (N := 20000) hm d_Mod_walks_28 rfl rfl (by decide); omega; exact (by decide); intro h hm
      refine aw_iincN (lv2 := [(0, _), (1, _)]) d_Mod_walks_29 (by decide) rfl rfl ?_
      refine aw_goto d_Mod_walks_32 ?_
      refine ih br7_ _ _ _ hm ⟨hI.1.tr (Kp.st rfl), fun k hk => ?_⟩
      by_cases e : k = i
      · subst e; simp only [ups, upd, if_true]; exact hb_
      · simp only [ups, upd, if_true, if_neg e]; exact hI.2 k (by omega)
    · skip
      have hb_ : nI 1 = bI (decide (i = hsta hs)) := by rw [decide_eq_true br20_]; rfl
      refine aw_iconst (v := nI 1) d_Mod_walks_23 (by decide) ?_
      refine aw_goto d_Mod_walks_24 ?_
      apply mo_zst (f := 29) (N := 20000) hm d_Mod_walks_28 rfl rfl (by decide); omega; exact (by decide); intro h hm
      refine aw_iincN (lv2 := [(0, _), (1, _)]) d_Mod_walks_29 (by decide) rfl rfl ?_
      refine aw_goto d_Mod_walks_32 ?_
      refine ih br7_ _ _ _ hm ⟨hI.1.tr (Kp.st rfl), fun k hk => ?_⟩
      by_cases e : k = i
      · subst e; simp only [ups, upd, if_true]; exact hb_
      · simp only [ups, upd, if_true, if_neg e]; exact hI.2 k (by omega)

