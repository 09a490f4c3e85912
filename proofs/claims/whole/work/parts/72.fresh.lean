/-- what fresh() leaves in the rows -/
def MoK (ar : Nat → Nat → Int32) (hs : HSt) : Prop := MoB ar hs ∧ (∀ c, c < hall hs → ar 29 c = bI (rch hs c)) ∧ (∀ c, c < hall hs → ar 30 c = nI (far hs c))
def MoC (sc : Nat → Int32) (ar : Nat → Nat → Int32) (hs : HSt) : Prop := ∃ st : Bool, sc 23 = bI st ∧ (st = false → MoK ar hs)
def MoFr (sc : Nat → Int32) (ar : Nat → Nat → Int32) (hs : HSt) : Prop := MoW sc ar hs ∧ sc 27 = nI (hsta hs) ∧ MoK ar hs
/-- the reference's whole state -/
def MoA (sc : Nat → Int32) (ar : Nat → Nat → Int32) (hs : HSt) (gs : List GSt) (lg : List (Nat × Nat × Nat)) (xs : List Int32) : Prop := MoH sc ar hs ∧ MoG ar gs ∧ MoL sc ar lg ∧ MoR sc ar xs ∧ MoC sc ar hs
theorem MoK.kp {sc sc2 : Nat → Int32} {ar ar2 : Nat → Nat → Int32} {hs : HSt} {Ls La : List Nat} (hg : MoK ar hs) (hk : Kp Ls La sc ar sc2 ar2) (h2 : ([28, 29, 30].all fun x => !La.contains x) = true) : MoK ar2 hs := by
  simp only [List.all_cons, List.all_nil, Bool.and_eq_true, Bool.not_eq_true'] at h2
  obtain ⟨b1, b2, b3, -⟩ := h2
  unfold MoK MoB; rw [hk.2 _ b1, hk.2 _ b2, hk.2 _ b3]; exact hg
theorem MoC.kp {sc sc2 : Nat → Int32} {ar ar2 : Nat → Nat → Int32} {hs : HSt} {Ls La : List Nat} (hg : MoC sc ar hs) (hk : Kp Ls La sc ar sc2 ar2) (h1 : Ls.contains 23 = false) (h2 : ([28, 29, 30].all fun x => !La.contains x) = true) : MoC sc2 ar2 hs := by
  obtain ⟨st, e1, e2⟩ := hg
  exact ⟨st, (hk.1 _ h1).trans e1, fun e => (e2 e).kp hk h2⟩
theorem MoFr.kp {sc sc2 : Nat → Int32} {ar ar2 : Nat → Nat → Int32} {hs : HSt} {Ls La : List Nat} (hg : MoFr sc ar hs) (hk : Kp Ls La sc ar sc2 ar2) (h1 : ([26, 27].all fun x => !Ls.contains x) = true) (h2 : ([24, 25, 28, 29, 30].all fun x => !La.contains x) = true) : MoFr sc2 ar2 hs := by
  simp only [List.all_cons, List.all_nil, Bool.and_eq_true, Bool.not_eq_true'] at h1 h2
  obtain ⟨a1, a2, -⟩ := h1
  obtain ⟨b1, b2, b3, b4, b5, -⟩ := h2
  exact ⟨hg.1.kp hk a1 b1 b2, (hk.1 _ a2).trans hg.2.1, hg.2.2.kp hk (by simp only [List.all_cons, List.all_nil, Bool.and_eq_true, Bool.not_eq_true']; exact ⟨b3, b4, b5, trivial⟩)⟩
theorem MoA.kpR {sc sc2 : Nat → Int32} {ar ar2 : Nat → Nat → Int32} {hs : HSt} {gs : List GSt} {lg : List (Nat × Nat × Nat)} {xs xs2 : List Int32} {Ls La : List Nat} (hg : MoA sc ar hs gs lg xs) (hr : MoR sc2 ar2 xs2) (hk : Kp Ls La sc ar sc2 ar2) (h1 : ([1, 4, 15, 18, 23, 50].all fun x => !Ls.contains x) = true) (h2 : ([2, 3, 5, 6, 7, 8, 9, 10, 11, 12, 13, 14, 16, 17, 19, 20, 21, 22, 28, 29, 30, 44, 45, 46, 47, 48, 49, 51, 52, 53].all fun x => !La.contains x) = true) : MoA sc2 ar2 hs gs lg xs2 := by
  simp only [List.all_cons, List.all_nil, Bool.and_eq_true, Bool.not_eq_true'] at h1 h2
  obtain ⟨a1, a2, a3, a4, a5, a6, -⟩ := h1
  obtain ⟨b1, b2, b3, b4, b5, b6, b7, b8, b9, b10, b11, b12, b13, b14, b15, b16, b17, b18, c1, c2, c3, d1, d2, d3, d4, d5, d6, e1, e2, e3, -⟩ := h2
  refine ⟨hg.1.kp hk ?_ ?_, hg.2.1.kp hk ?_, hg.2.2.1.kp hk a6 ?_, hr, hg.2.2.2.2.kp hk a5 ?_⟩
  · simp only [List.all_cons, List.all_nil, Bool.and_eq_true, Bool.not_eq_true']; exact ⟨a1, a2, a3, a4, trivial⟩
  · simp only [List.all_cons, List.all_nil, Bool.and_eq_true, Bool.not_eq_true']; exact ⟨b1, b2, b3, b4, b5, b6, b7, b8, b9, b10, b11, b12, b13, b14, b15, b16, b17, b18, trivial⟩
  · simp only [List.all_cons, List.all_nil, Bool.and_eq_true, Bool.not_eq_true']; exact ⟨d1, d2, d3, d4, d5, d6, trivial⟩
  · simp only [List.all_cons, List.all_nil, Bool.and_eq_true, Bool.not_eq_true']; exact ⟨e1, e2, e3, trivial⟩
  · simp only [List.all_cons, List.all_nil, Bool.and_eq_true, Bool.not_eq_true']; exact ⟨c1, c2, c3, trivial⟩
theorem MoA.kp {sc sc2 : Nat → Int32} {ar ar2 : Nat → Nat → Int32} {hs : HSt} {gs : List GSt} {lg : List (Nat × Nat × Nat)} {xs : List Int32} {Ls La : List Nat} (hg : MoA sc ar hs gs lg xs) (hk : Kp Ls La sc ar sc2 ar2) (h1 : ([1, 4, 15, 18, 23, 50].all fun x => !Ls.contains x) = true) (h2 : ([2, 3, 5, 6, 7, 8, 9, 10, 11, 12, 13, 14, 16, 17, 19, 20, 21, 22, 28, 29, 30, 44, 45, 46, 47, 48, 49, 51, 52, 53].all fun x => !La.contains x) = true) (h3 : Ls.contains 39 = false) (h4 : La.contains 38 = false) : MoA sc2 ar2 hs gs lg xs := hg.kpR (hg.2.2.2.1.kp hk h3 h4) hk h1 h2
theorem MoA.fr {sc sc2 : Nat → Int32} {ar ar2 : Nat → Nat → Int32} {hs : HSt} {gs : List GSt} {lg : List (Nat × Nat × Nat)} {xs : List Int32} (hg : MoA sc ar hs gs lg xs) (hk : Kp [23, 26, 27, 37] [24, 25, 28, 29, 30, 31, 32, 33, 34, 35, 36] sc ar sc2 ar2) (hc : MoC sc2 ar2 hs) : MoA sc2 ar2 hs gs lg xs := ⟨hg.1.kp hk rfl rfl, hg.2.1.kp hk rfl, hg.2.2.1.kp hk rfl rfl, hg.2.2.2.1.kp hk rfl rfl, hc⟩
set_option maxHeartbeats 4000000 in
set_option maxRecDepth 20000 in
theorem c_Mod_fresh {G : aG} {nx : Nat} {h h0 : Nat → Option aC} {a : Nat} {A : Nat → Nat} {sc : Nat → Int32} {ar : Nat → Nat → Int32} (hm : MoF h0 h a A sc ar) {hs : HSt} {gs : List GSt} {lg : List (Nat × Nat × Nat)} {xs : List Int32} (hq : MoA sc ar hs gs lg xs) (hv : VH hs) : AMet G m_Mod_fresh 3 0 0 [.ref a] (nx, h) (MR nx a h0 A (fun r sc2 ar2 => r = none ∧ MoA sc2 ar2 hs gs lg xs ∧ MoFr sc2 ar2 hs ∧ sc2 0 = sc 0)) := by
  have hp12 := hv.1.1
  have hs24 := hv.2.1
  have hall2 := hv.2.2.2.2.2.2.2
  have hh0 := hq.1
  refine amet_of pf_Mod_fresh (Nat.le_of_ble_eq_true rfl) ?_
  show AW G m_Mod_fresh 3 0 0 _ 0 [(0, .ref a)] [] (nx, h) 0 0
  refine aw_aload_n (i := 0) d_Mod_fresh_0 rfl rfl ?_
  apply aw_callv_M0 (c_Mod_weigh hm hq.1 hv) d_Mod_fresh_1 cl_Mod_228; exact hm.1.1; rfl; rfl; rfl; rfl; decide; exact Nat.le_of_ble_eq_true rfl; exact Nat.le_refl _; exact Nat.le_refl _
  rintro h sc1 ar1 hm ⟨hw, hf, hK⟩
  obtain ⟨st, hst1, hst2⟩ := hq.2.2.2.2
  have h23 := (hK.1 23 rfl).trans hst1
  refine aw_aload_n (i := 0) d_Mod_fresh_4 rfl rfl ?_
  apply mo_gets (f := 23) hm d_Mod_fresh_5 fl_Mod_68 rfl; exact h23
  refine aw_ifB_ne d_Mod_fresh_8 (fun br8_ => ?_) (fun br8_ => ?_)
  · skip
    refine aw_aload_n (i := 0) d_Mod_fresh_12 rfl rfl ?_
    refine aw_iconst (v := nI 0) d_Mod_fresh_13 (by decide) ?_
    apply mo_put (f := 23) hm d_Mod_fresh_14 pl_Mod_68 (ms_23 _ _ _) (by decide) rfl rfl; intro h hm
    refine aw_drop (lv2 := [(0, _)]) [0] rfl ?_
    refine aw_iconst (v := nI 0) d_Mod_fresh_17 (by decide) ?_
    refine aw_istore_n (i := 1) (lv2 := [(0, _), (1, _)]) d_Mod_fresh_18 rfl (by decide) rfl ?_
    refine mloop (h0 := h0) (a := a) (A := A) (hall hs) (fun i h sc1 ar1 => AW G m_Mod_fresh 3 0 0 _ 19 [(0, .ref a), (1, .int (nI i))] [] (nx, h) 0 0) (fun i sc1 ar1 => Kp [23, 26, 27, 37] [24, 25, 28, 29, 30, 31, 32, 33, 34, 35, 36] sc ar sc1 ar1 ∧ MoW sc1 ar1 hs ∧ sc1 27 = nI (hsta hs) ∧ sc1 23 = nI 0 ∧ ∀ c j, c < i → j < hs.2.1.length → ar1 28 (c * 24 + j) = bh hs c j) ?_ 0 _ _ _ (Nat.zero_le _) hm ⟨(hK.up (by decide) (by decide)).tr (Kp.put rfl), hw.kp (Kp.put (Ls := [23]) (La := []) rfl) rfl rfl rfl, hf, rfl, fun c j hc => absurd hc (Nat.not_lt_zero _)⟩
    intro i h sc1 ar1 hi_i hm hI ih
    have hh := hh0.kp hI.1 rfl rfl
    have hw := hI.2.1
    refine aw_iload_n (i := 1) d_Mod_fresh_19 rfl rfl ?_
    refine aw_aload_n (i := 0) d_Mod_fresh_20 rfl rfl ?_
    apply mo_gets (f := 26) hm d_Mod_fresh_21 fl_Mod_206 rfl; exact hw.1
    refine aw_icmpN_ge d_Mod_fresh_24 (by omega) (by omega) (fun br24_ => ?_) (fun br24_ => ?_)
    · skip
      have ei : i = hall hs := by omega
      subst ei
      have hb : MoB ar1 hs := fun c j hc hj => hI.2.2.2.2 c j hc hj
      refine aw_aload_n (i := 0) d_Mod_fresh_70 rfl rfl ?_
      apply aw_callv_M0 (c_Mod_walks hm hh hv hw hb hI.2.2.1) d_Mod_fresh_71 cl_Mod_235; exact hm.1.1; rfl; rfl; rfl; rfl; decide; exact Nat.le_of_ble_eq_true rfl; exact Nat.le_refl _; exact Nat.le_refl _
      rintro h sc2 ar2 hm ⟨hK2, h29⟩
      have hh := hh.kp hK2 rfl rfl
      have hw := hw.kp hK2 rfl rfl rfl
      have hb : MoB ar2 hs := fun c j hc hj => (congrFun (hK2.2 28 rfl) _).trans (hb c j hc hj)
      refine aw_aload_n (i := 0) d_Mod_fresh_74 rfl rfl ?_
      apply aw_callv_M0 (c_Mod_measures hm hh hv hw hb) d_Mod_fresh_75 cl_Mod_238; exact hm.1.1; rfl; rfl; rfl; rfl; decide; exact Nat.le_of_ble_eq_true rfl; exact Nat.le_refl _; exact Nat.le_refl _
      rintro h sc3 ar3 hm ⟨hK3, h30⟩
      have hw := hw.kp hK3 rfl rfl rfl
      have hb : MoB ar3 hs := fun c j hc hj => (congrFun (hK3.2 28 rfl) _).trans (hb c j hc hj)
      have hk9 : MoK ar3 hs := ⟨hb, fun c hc => (congrFun (hK3.2 29 rfl) _).trans (h29 c hc), h30⟩
      have hK9 := (hI.1.tr (hK2.up (by decide) (by decide))).tr (hK3.up (by decide) (by decide))
      refine aw_vret d_Mod_fresh_78 rfl (Nat.le_refl _) (Nat.le_refl _) ?_
      exact ⟨_, _, _, rfl, hm, rfl, hq.fr hK9 ⟨false, ((hK3.1 23 rfl).trans (hK2.1 23 rfl)).trans hI.2.2.2.1, fun _ => hk9⟩, ⟨hw, ((hK3.1 27 rfl).trans (hK2.1 27 rfl)).trans hI.2.2.1, hk9⟩, hK9.1 0 rfl⟩
    · skip
      refine aw_iconst (v := nI 0) d_Mod_fresh_27 (by decide) ?_
      refine aw_istore_n (i := 2) (lv2 := [(0, _), (1, _), (2, _)]) d_Mod_fresh_28 rfl (by decide) rfl ?_
      refine mloop (h0 := h0) (a := a) (A := A) (hs.2.1.length) (fun j h sc2 ar2 => AW G m_Mod_fresh 3 0 0 _ 29 [(0, .ref a), (1, .int (nI i)), (2, .int (nI j))] [] (nx, h) 0 0) (fun j sc2 ar2 => Kp [23, 26, 27, 37] [24, 25, 28, 29, 30, 31, 32, 33, 34, 35, 36] sc ar sc2 ar2 ∧ MoW sc2 ar2 hs ∧ sc2 27 = nI (hsta hs) ∧ sc2 23 = nI 0 ∧ (∀ c j, c < i → j < hs.2.1.length → ar2 28 (c * 24 + j) = bh hs c j) ∧ ∀ s, s < j → ar2 28 (i * 24 + s) = bh hs i s) ?_ 0 _ _ _ (Nat.zero_le _) hm ⟨hI.1, hI.2.1, hI.2.2.1, hI.2.2.2.1, hI.2.2.2.2, fun s hs2 => absurd hs2 (Nat.not_lt_zero _)⟩
      intro j h sc2 ar2 hi_j hm hJ ih2
      have hh := hh0.kp hJ.1 rfl rfl
      have hw := hJ.2.1
      refine aw_iload_n (i := 2) d_Mod_fresh_29 rfl rfl ?_
      refine aw_aload_n (i := 0) d_Mod_fresh_30 rfl rfl ?_
      apply mo_gets (f := 4) hm d_Mod_fresh_31 fl_Mod_164 rfl; exact hh.1.2.1
      refine aw_icmpN_ge d_Mod_fresh_34 (by omega) (by omega) (fun br34_ => ?_) (fun br34_ => ?_)
      · skip
        refine aw_iincN (lv2 := [(0, _), (1, _), (2, _)]) d_Mod_fresh_64 (by decide) rfl rfl ?_
        refine aw_goto d_Mod_fresh_67 ?_
        refine aw_drop (lv2 := [(0, _), (1, _)]) [0, 1] rfl ?_
        refine ih br24_ _ _ _ hm ⟨hJ.1, hJ.2.1, hJ.2.2.1, hJ.2.2.2.1, fun c s hc hs2 => ?_⟩
        by_cases e : c = i
        · subst e; exact hJ.2.2.2.2.2 s (by omega)
        · exact hJ.2.2.2.2.1 c s (by omega) hs2
      · skip
        refine aw_aload_n (i := 0) d_Mod_fresh_37 rfl rfl ?_
        refine mo_get (f := 28) hm d_Mod_fresh_38 fl_Mod_79 rfl ?_
        refine aw_iload_n (i := 1) d_Mod_fresh_41 rfl rfl ?_
        refine aw_bipush (v := nI 24) d_Mod_fresh_42 (by decide) ?_
        refine aw_imulN d_Mod_fresh_44 ?_
        refine aw_iload_n (i := 2) d_Mod_fresh_45 rfl rfl ?_
        refine aw_iaddN d_Mod_fresh_46 ?_
        refine aw_aload_n (i := 0) d_Mod_fresh_47 rfl rfl ?_
        refine aw_iload_n (i := 1) d_Mod_fresh_48 rfl rfl ?_
        refine aw_iload_n (i := 2) d_Mod_fresh_49 rfl rfl ?_
        refine aw_aload_n (i := 0) d_Mod_fresh_50 rfl rfl ?_
        apply mo_gets (f := 18) hm d_Mod_fresh_51 fl_Mod_52 rfl; exact hh.1.2.2.2
        apply aw_callv_p (c_Mod_done hm.1 hh hw hv br24_ br34_ hv.2.2.2.2.2.2.1) d_Mod_fresh_54 cl_Mod_231; exact hm.1.1; rfl; rfl; rfl; rfl; decide; exact Nat.le_of_ble_eq_true rfl; exact (Nat.le_refl _); exact (Nat.le_refl _)
        apply mo_st (f := 28) (N := 480000) hm d_Mod_fresh_57 rfl rfl (by decide); omega; intro h hm
        refine aw_iincN (lv2 := [(0, _), (1, _), (2, _)]) d_Mod_fresh_58 (by decide) rfl rfl ?_
        refine aw_goto d_Mod_fresh_61 ?_
        refine ih2 br34_ _ _ _ hm ⟨hJ.1.tr (Kp.st rfl), hJ.2.1.kp (Kp.st (Ls := []) (La := [28]) rfl) rfl rfl rfl, hJ.2.2.1, hJ.2.2.2.1, fun c s hc hs2 => ?_, fun s hs2 => ?_⟩
        · show upd (ar2 28) (i * 24 + j) _ _ = _
          rw [pk_un (by omega)]; exact hJ.2.2.2.2.1 c s hc hs2
        · show upd (ar2 28) (i * 24 + j) _ _ = _
          by_cases e : s = j
          · subst e; rw [pk_us]; rfl
          · rw [pk_un (by omega)]; exact hJ.2.2.2.2.2 s (by omega)
  · skip
    refine aw_vret d_Mod_fresh_11 rfl (Nat.le_refl _) (Nat.le_refl _) ?_
    have hk2 := (hst2 br8_).kp hK rfl
    exact ⟨_, _, _, rfl, hm, rfl, hq.fr (hK.up (by decide) (by decide)) ⟨false, by rw [h23, br8_], fun _ => hk2⟩, ⟨hw, hf, hk2⟩, hK.1 0 rfl⟩

def isC (hs : HSt) (x : Int32) : Bool := decide (0 ≤ x ∧ x < nI (hall hs))
set_option maxHeartbeats 4000000 in
set_option maxRecDepth 20000 in
theorem c_Mod_isCode {G : aG} {nx : Nat} {h h0 : Nat → Option aC} {a : Nat} {A : Nat → Nat} {sc : Nat → Int32} {ar : Nat → Nat → Int32} (hm : MoF h0 h a A sc ar) {hs : HSt} {gs : List GSt} {lg : List (Nat × Nat × Nat)} {xs : List Int32} (hq : MoA sc ar hs gs lg xs) (hv : VH hs) (x : Int32) : AMet G m_Mod_isCode 4 0 0 [.ref a, .int x] (nx, h) (MR nx a h0 A (fun r sc2 ar2 => r = some (.int (bI (isC hs x))) ∧ MoA sc2 ar2 hs gs lg xs ∧ MoFr sc2 ar2 hs ∧ sc2 0 = sc 0)) := by
  have hp12 := hv.1.1
  have hs24 := hv.2.1
  have hall2 := hv.2.2.2.2.2.2.2
  refine amet_of pf_Mod_isCode (Nat.le_of_ble_eq_true rfl) ?_
  show AW G m_Mod_isCode 4 0 0 _ 0 [(0, .ref a), (1, .int x)] [] (nx, h) 0 0
  refine aw_aload_n (i := 0) d_Mod_isCode_0 rfl rfl ?_
  apply aw_callv_M0 (c_Mod_fresh hm hq hv) d_Mod_isCode_1 cl_Mod_259; exact hm.1.1; rfl; rfl; rfl; rfl; decide; exact Nat.le_of_ble_eq_true rfl; exact Nat.le_refl _; exact Nat.le_refl _
  rintro h sc1 ar1 hm ⟨hq, hf, h0_⟩
  have hw := hf.1
  refine aw_iload_n (i := 1) d_Mod_isCode_4 rfl rfl ?_
  refine aw_i2l d_Mod_isCode_5 ?_
  refine aw_lconst (v := 0) d_Mod_isCode_6 (by decide) ?_
  refine aw_aload_n (i := 0) d_Mod_isCode_7 rfl rfl ?_
  apply mo_gets (f := 26) hm d_Mod_isCode_8 fl_Mod_206 rfl; exact hw.1
  refine aw_iconst (v := 1) d_Mod_isCode_11 (by decide) ?_
  refine aw_isub d_Mod_isCode_12 ?_
  refine aw_i2l d_Mod_isCode_13 ?_
  apply aw_calls_p (c_Mod_in _ _ _) d_Mod_isCode_14 cl_Mod_156; rfl; rfl; decide; exact Nat.le_of_ble_eq_true rfl; exact (Nat.le_refl _); exact (Nat.le_refl _)
  rw [in_ixd (by omega)]
  refine aw_zret d_Mod_isCode_17 rfl (bI_nz _) (Nat.le_refl _) (Nat.le_refl _) ?_
  exact ⟨_, _, _, rfl, hm, rfl, hq, hf, h0_⟩

