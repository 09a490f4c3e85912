/-! sensors that lie -/
theorem AMet.deep {G : aG} {M : MI} {d d2 mc ms : Nat} {av : List Value} {w : aH} {Q : Option Value → aH → Prop} (h : AMet G M d mc ms av w Q) (hd : d ≤ d2) : AMet G M d2 mc ms av w Q := fun l rm h1 h2 h3 h4 => h l rm (Nat.le_trans hd h1) (Nat.le_trans (Nat.mul_le_mul_left 60 hd) h2) h3 h4
theorem shr_n {b p : Nat} (hb : b < 2 ^ 31) (hp : p < 31) : nI b >>> (nI p &&& 31) = nI (b / 2 ^ p) := pk_shrN hb _ _ (s_l p (by omega))
theorem and_1 {b : Nat} (hb : b < 2 ^ 32) : nI b &&& nI 1 = nI (b % 2) := pk_andN hb 1 (by decide)
theorem tb_1 {b p : Nat} : (b / 2 ^ p % 2 = 1) ↔ b.testBit p = true := by rw [Nat.testBit_eq_decide_div_mod_eq]; simp
theorem tb_0 {b p : Nat} : ¬ (b / 2 ^ p % 2 = 1) ↔ b.testBit p = false := by rw [Nat.testBit_eq_decide_div_mod_eq]; simp
def rdg (hs : HSt) (p : Nat) : Int32 := (hs.1.getD p pz).2.2.2.2.2
def hasR (hs : HSt) (p : Nat) : Bool := !decide (rdg hs p = -1)
def lie (hs : HSt) (c p : Nat) : Bool := hasR hs p && !decide (rdg hs p = nI (dg (pks hs.1) c p))
def okc (hs : HSt) (b c n : Nat) : Bool := (List.range n).all (fun p => !lie hs c p || b.testBit p)
theorem okc_s {hs : HSt} {b c n : Nat} : okc hs b c (n + 1) = (okc hs b c n && (!lie hs c n || b.testBit n)) := by unfold okc; rw [List.range_succ, List.all_append]; simp
theorem okc_f {hs : HSt} {b c i n : Nat} (h : okc hs b c i = false) (hi : i ≤ n) : okc hs b c n = false := by
  unfold okc at h ⊢
  obtain ⟨x, h1, h2⟩ := List.all_eq_false.mp h
  exact List.all_eq_false.mpr ⟨x, List.mem_range.mpr (by have := List.mem_range.mp h1; omega), h2⟩
noncomputable def tld (hs : HSt) (b c : Nat) : Bool := rch hs c && okc hs b c hs.1.length
noncomputable def asT (hs : HSt) (b : Nat) : Nat := ctn (tld hs b) (hall hs)
theorem rdg_neg {hs : HSt} (hx : VX hs) (hv : VH hs) {p : Nat} (hp : p < hs.1.length) (h : rdg hs p < 0) : hasR hs p = false := by
  unfold hasR
  rcases (hx p hp).2.2 with q | ⟨e, e1, e2⟩
  · rw [decide_eq_true (show rdg hs p = -1 from q)]; rfl
  · have := hv.1.k hp
    rw [show rdg hs p = nI e from e2] at h
    exact absurd h (nI_pos (by omega))
theorem rdg_pos {hs : HSt} (hx : VX hs) {p : Nat} (hp : p < hs.1.length) (h : ¬ rdg hs p < 0) : hasR hs p = true ∧ ∃ e, e < (hs.1.getD p pz).1 ∧ rdg hs p = nI e := by
  rcases (hx p hp).2.2 with q | q
  · rw [show rdg hs p = -1 from q] at h; exact absurd (by decide) h
  · refine ⟨?_, q⟩
    unfold hasR
    rw [decide_eq_false]; rfl
    intro q2; rw [q2] at h; exact h (by decide)
set_option maxHeartbeats 4000000 in
set_option maxRecDepth 20000 in
theorem c_Mod_asTold {G : aG} {nx : Nat} {h h0 : Nat → Option aC} {a : Nat} {A : Nat → Nat} {sc : Nat → Int32} {ar : Nat → Nat → Int32} (hm : MoF h0 h a A sc ar) {hs : HSt} (hh : MoH sc ar hs) (hv : VH hs) (hx : VX hs) (hw : MoW sc ar hs) (h29 : ∀ c, c < hall hs → ar 29 c = bI (rch hs c)) {b : Nat} (hb : b < 2 ^ 20) : AMet G m_Mod_asTold 1 0 0 [.ref a, .int (nI b)] (nx, h) (RV (.int (nI (asT hs b))) (nx, h)) := by
  have hp12 := hv.1.1
  have hs24 := hv.2.1
  have hall2 := hv.2.2.2.2.2.2.2
  refine amet_of pf_Mod_asTold (Nat.le_of_ble_eq_true rfl) ?_
  show AW G m_Mod_asTold 1 0 0 _ 0 [(0, .ref a), (1, .int (nI b))] [] (nx, h) 0 0
  refine aw_iconst (v := nI 0) d_Mod_asTold_0 (by decide) ?_
  refine aw_istore_n (i := 2) (lv2 := [(0, _), (1, _), (2, _)]) d_Mod_asTold_1 rfl (by decide) rfl ?_
  refine aw_iconst (v := nI 0) d_Mod_asTold_2 (by decide) ?_
  refine aw_istore_n (i := 3) (lv2 := [(0, _), (1, _), (2, _), (3, _)]) d_Mod_asTold_3 rfl (by decide) rfl ?_
  show AW G m_Mod_asTold 1 0 0 _ 4 [(0, .ref a), (1, .int (nI b)), (2, .int (nI (ctn (tld hs b) 0))), (3, .int (nI 0))] [] (nx, h) 0 0
  refine upto (σ := Nat) (fun i => AW G m_Mod_asTold 1 0 0 _ 4 [(0, .ref a), (1, .int (nI b)), (2, .int (nI (ctn (tld hs b) i))), (3, .int (nI i))] [] (nx, h) 0 0) (fun i s => i = s ∧ True) (hall hs) ?_ 0 0 (Nat.zero_le _) ⟨rfl, trivial⟩
  intro i s9 hi_i hI_i ih_i
  obtain ⟨rfl, hI_i⟩ := hI_i
  refine aw_iload_n (i := 3) d_Mod_asTold_4 rfl rfl ?_
  refine aw_aload_n (i := 0) d_Mod_asTold_5 rfl rfl ?_
  apply mo_gets (f := 26) hm d_Mod_asTold_6 fl_Mod_206 rfl; exact hw.1
  refine aw_icmpN_ge d_Mod_asTold_9 (by omega) (by omega) (fun br9_ => ?_) (fun br9_ => ?_)
  · skip
    have ei : i = hall hs := by omega
    subst ei
    refine aw_iload_n (i := 2) d_Mod_asTold_106 rfl rfl ?_
    refine aw_iret d_Mod_asTold_107 rfl (Nat.le_refl _) (Nat.le_refl _) ?_
    exact ⟨rfl, rfl⟩
  · skip
    refine aw_aload_n (i := 0) d_Mod_asTold_12 rfl rfl ?_
    refine mo_get (f := 29) hm d_Mod_asTold_13 fl_Mod_82 rfl ?_
    refine aw_iload_n (i := 3) d_Mod_asTold_16 rfl rfl ?_
    apply mo_zld (f := 29) (N := 20000) hm d_Mod_asTold_17 rfl rfl (by decide); omega; exact h29 _ br9_
    refine aw_istore (lv2 := [(0, _), (1, _), (2, _), (3, _), (4, _)]) d_Mod_asTold_18 (by decide) rfl ?_
    refine aw_iconst (v := nI 0) d_Mod_asTold_20 (by decide) ?_
    refine aw_istore (lv2 := [(0, _), (1, _), (2, _), (3, _), (4, _), (5, _)]) d_Mod_asTold_21 (by decide) rfl ?_
    show AW G m_Mod_asTold 1 0 0 _ 23 [(0, .ref a), (1, .int (nI b)), (2, .int (nI (ctn (tld hs b) i))), (3, .int (nI i)), (4, .int (bI (rch hs i))), (5, .int (nI 0))] [] (nx, h) 0 0
    rw [show rch hs i = (rch hs i && okc hs b i 0) from by simp [okc]]
    refine upto (σ := Nat) (fun j => AW G m_Mod_asTold 1 0 0 _ 23 [(0, .ref a), (1, .int (nI b)), (2, .int (nI (ctn (tld hs b) i))), (3, .int (nI i)), (4, .int (bI (rch hs i && okc hs b i j))), (5, .int (nI j))] [] (nx, h) 0 0) (fun j s => j = s ∧ True) (hs.1.length) ?_ 0 0 (Nat.zero_le _) ⟨rfl, trivial⟩
    intro j s9 hi_j hI_j ih_j
    obtain ⟨rfl, hI_j⟩ := hI_j
    refine aw_iload d_Mod_asTold_23 rfl ?_
    refine aw_aload_n (i := 0) d_Mod_asTold_25 rfl rfl ?_
    apply mo_gets (f := 1) hm d_Mod_asTold_26 fl_Mod_153 rfl; exact hh.1.1
    refine aw_icmpN_ge d_Mod_asTold_29 (by omega) (by omega) (fun br29_ => ?_) (fun br29_ => ?_)
    · skip
      have ej : j = hs.1.length := by omega
      subst ej
      have htl : tld hs b i = (rch hs i && okc hs b i hs.1.length) := rfl
      refine aw_iload_n (i := 2) d_Mod_asTold_87 rfl rfl ?_
      refine aw_iload d_Mod_asTold_88 rfl ?_
      refine aw_ifB_eq d_Mod_asTold_90 (fun br90_ => ?_) (fun br90_ => ?_)
      · skip
        have hct : ctn (tld hs b) (i + 1) = ctn (tld hs b) i + (if tld hs b i then 1 else 0) := rfl
        rw [htl, br90_] at hct
        refine aw_iconst (v := nI 0) d_Mod_asTold_97 (by decide) ?_
        refine aw_iaddN d_Mod_asTold_98 ?_
        refine aw_istore_n (i := 2) (lv2 := [(0, _), (1, _), (2, _), (3, _), (4, _), (5, _)]) d_Mod_asTold_99 rfl (by decide) rfl ?_
        refine aw_iincN (lv2 := [(0, _), (1, _), (2, _), (3, _), (4, _), (5, _)]) d_Mod_asTold_100 (by decide) rfl rfl ?_
        refine aw_goto d_Mod_asTold_103 ?_
        refine aw_drop (lv2 := [(0, _), (1, _), (2, _), (3, _)]) [0, 1, 2, 3] rfl ?_
        have k9 := ih_i br9_ (i + 1) ⟨rfl, trivial⟩
        rw [hct] at k9
        exact k9
      · skip
        have hct : ctn (tld hs b) (i + 1) = ctn (tld hs b) i + (if tld hs b i then 1 else 0) := rfl
        rw [htl, br90_] at hct
        refine aw_iconst (v := nI 1) d_Mod_asTold_93 (by decide) ?_
        refine aw_goto d_Mod_asTold_94 ?_
        refine aw_iaddN d_Mod_asTold_98 ?_
        refine aw_istore_n (i := 2) (lv2 := [(0, _), (1, _), (2, _), (3, _), (4, _), (5, _)]) d_Mod_asTold_99 rfl (by decide) rfl ?_
        refine aw_iincN (lv2 := [(0, _), (1, _), (2, _), (3, _), (4, _), (5, _)]) d_Mod_asTold_100 (by decide) rfl rfl ?_
        refine aw_goto d_Mod_asTold_103 ?_
        refine aw_drop (lv2 := [(0, _), (1, _), (2, _), (3, _)]) [0, 1, 2, 3] rfl ?_
        have k9 := ih_i br9_ (i + 1) ⟨rfl, trivial⟩
        rw [hct] at k9
        exact k9
    · skip
      refine aw_iload d_Mod_asTold_32 rfl ?_
      refine aw_ifB_eq d_Mod_asTold_34 (fun br34_ => ?_) (fun br34_ => ?_)
      · skip
        have htl : tld hs b i = (rch hs i && okc hs b i j) := by
          rw [br34_]
          unfold tld
          simp only [Bool.and_eq_false_iff] at br34_ ⊢
          rcases br34_ with q | q
          · exact Or.inl q
          · exact Or.inr (okc_f q hi_j)
        refine aw_iload_n (i := 2) d_Mod_asTold_87 rfl rfl ?_
        refine aw_iload d_Mod_asTold_88 rfl ?_
        refine aw_ifB_eq d_Mod_asTold_90 (fun br90_ => ?_) (fun br90_ => ?_)
        · skip
          have hct : ctn (tld hs b) (i + 1) = ctn (tld hs b) i + (if tld hs b i then 1 else 0) := rfl
          rw [htl, br90_] at hct
          refine aw_iconst (v := nI 0) d_Mod_asTold_97 (by decide) ?_
          refine aw_iaddN d_Mod_asTold_98 ?_
          refine aw_istore_n (i := 2) (lv2 := [(0, _), (1, _), (2, _), (3, _), (4, _), (5, _)]) d_Mod_asTold_99 rfl (by decide) rfl ?_
          refine aw_iincN (lv2 := [(0, _), (1, _), (2, _), (3, _), (4, _), (5, _)]) d_Mod_asTold_100 (by decide) rfl rfl ?_
          refine aw_goto d_Mod_asTold_103 ?_
          refine aw_drop (lv2 := [(0, _), (1, _), (2, _), (3, _)]) [0, 1, 2, 3] rfl ?_
          have k9 := ih_i br9_ (i + 1) ⟨rfl, trivial⟩
          rw [hct] at k9
          exact k9
        · skip
          have hct : ctn (tld hs b) (i + 1) = ctn (tld hs b) i + (if tld hs b i then 1 else 0) := rfl
          rw [htl, br90_] at hct
          refine aw_iconst (v := nI 1) d_Mod_asTold_93 (by decide) ?_
          refine aw_goto d_Mod_asTold_94 ?_
          refine aw_iaddN d_Mod_asTold_98 ?_
          refine aw_istore_n (i := 2) (lv2 := [(0, _), (1, _), (2, _), (3, _), (4, _), (5, _)]) d_Mod_asTold_99 rfl (by decide) rfl ?_
          refine aw_iincN (lv2 := [(0, _), (1, _), (2, _), (3, _), (4, _), (5, _)]) d_Mod_asTold_100 (by decide) rfl rfl ?_
          refine aw_goto d_Mod_asTold_103 ?_
          refine aw_drop (lv2 := [(0, _), (1, _), (2, _), (3, _)]) [0, 1, 2, 3] rfl ?_
          have k9 := ih_i br9_ (i + 1) ⟨rfl, trivial⟩
          rw [hct] at k9
          exact k9
      · skip
        have hrd : ar 22 j = rdg hs j := (hh.2.1 _ br29_).2.2.2.2.2
        simp only [Bool.and_eq_true] at br34_
        refine aw_aload_n (i := 0) d_Mod_asTold_37 rfl rfl ?_
        refine mo_get (f := 22) hm d_Mod_asTold_38 fl_Mod_65 rfl ?_
        refine aw_iload d_Mod_asTold_41 rfl ?_
        apply mo_ld (f := 22) (N := 12) hm d_Mod_asTold_43 rfl rfl (by decide); omega; exact hrd
        refine aw_if_lt d_Mod_asTold_44 (fun br44_ => ?_) (fun br44_ => ?_)
        · skip
          have hst : (rch hs i && okc hs b i (j + 1)) = true := by rw [okc_s, br34_.1, br34_.2]; unfold lie; rw [rdg_neg hx hv br29_ br44_]; rfl
          refine aw_iconst (v := nI 1) d_Mod_asTold_74 (by decide) ?_
          refine aw_goto d_Mod_asTold_75 ?_
          refine aw_istore (lv2 := [(0, _), (1, _), (2, _), (3, _), (4, _), (5, _)]) d_Mod_asTold_79 (by decide) rfl ?_
          refine aw_iincN (lv2 := [(0, _), (1, _), (2, _), (3, _), (4, _), (5, _)]) d_Mod_asTold_81 (by decide) rfl rfl ?_
          refine aw_goto d_Mod_asTold_84 ?_
          have k9 := ih_j br29_ (j + 1) ⟨rfl, trivial⟩
          rw [hst] at k9
          exact k9
        · skip
          obtain ⟨hR, e, he1, he2⟩ := rdg_pos hx br29_ br44_
          have hkj := hv.1.k br29_
          have hdl := dg_lt i j (by rw [pk_len]; exact br29_) hv.1.pos
          rw [pk_at br29_] at hdl
          refine aw_iload_n (i := 1) d_Mod_asTold_47 rfl rfl ?_
          refine aw_iload d_Mod_asTold_48 rfl ?_
          refine aw_ishr d_Mod_asTold_50 ?_
          rw [shr_n (by omega) (by omega)]
          refine aw_iconst (v := nI 1) d_Mod_asTold_51 (by decide) ?_
          refine aw_iand d_Mod_asTold_52 ?_
          rw [and_1 (Nat.lt_of_le_of_lt (Nat.div_le_self _ _) (by omega))]
          refine aw_iconst (v := nI 1) d_Mod_asTold_53 (by decide) ?_
          refine aw_icmpN_eq d_Mod_asTold_54 (by omega) (by omega) (fun br54_ => ?_) (fun br54_ => ?_)
          · skip
            have hst : (rch hs i && okc hs b i (j + 1)) = true := by rw [okc_s, br34_.1, br34_.2, tb_1.mp br54_]; simp
            refine aw_iconst (v := nI 1) d_Mod_asTold_74 (by decide) ?_
            refine aw_goto d_Mod_asTold_75 ?_
            refine aw_istore (lv2 := [(0, _), (1, _), (2, _), (3, _), (4, _), (5, _)]) d_Mod_asTold_79 (by decide) rfl ?_
            refine aw_iincN (lv2 := [(0, _), (1, _), (2, _), (3, _), (4, _), (5, _)]) d_Mod_asTold_81 (by decide) rfl rfl ?_
            refine aw_goto d_Mod_asTold_84 ?_
            have k9 := ih_j br29_ (j + 1) ⟨rfl, trivial⟩
            rw [hst] at k9
            exact k9
          · skip
            refine aw_aload_n (i := 0) d_Mod_asTold_57 rfl rfl ?_
            refine aw_iload_n (i := 3) d_Mod_asTold_58 rfl rfl ?_
            refine aw_iload d_Mod_asTold_59 rfl ?_
            apply aw_callv_p (c_Mod_stateOf hm.1 hh hw hv (c := i) (by omega) br29_) d_Mod_asTold_61 cl_Mod_212; exact hm.1.1; rfl; rfl; rfl; rfl; decide; exact Nat.le_of_ble_eq_true rfl; exact (Nat.le_refl _); exact (Nat.le_refl _)
            refine aw_aload_n (i := 0) d_Mod_asTold_64 rfl rfl ?_
            refine mo_get (f := 22) hm d_Mod_asTold_65 fl_Mod_65 rfl ?_
            refine aw_iload d_Mod_asTold_68 rfl ?_
            apply mo_ld (f := 22) (N := 12) hm d_Mod_asTold_70 rfl rfl (by decide); omega; exact (hrd.trans he2)
            refine aw_icmpN_ne d_Mod_asTold_71 (by omega) (by omega) (fun br71_ => ?_) (fun br71_ => ?_)
            · skip
              have hst : (rch hs i && okc hs b i (j + 1)) = false := by
                have hl : lie hs i j = true := by unfold lie; rw [hR, he2, decide_eq_false (fun q => br71_ ((nI_eq (by omega) (by omega)).mp q).symm)]; rfl
                rw [okc_s, hl, tb_0.mp br54_]; simp
              refine aw_iconst (v := nI 0) d_Mod_asTold_78 (by decide) ?_
              refine aw_istore (lv2 := [(0, _), (1, _), (2, _), (3, _), (4, _), (5, _)]) d_Mod_asTold_79 (by decide) rfl ?_
              refine aw_iincN (lv2 := [(0, _), (1, _), (2, _), (3, _), (4, _), (5, _)]) d_Mod_asTold_81 (by decide) rfl rfl ?_
              refine aw_goto d_Mod_asTold_84 ?_
              have k9 := ih_j br29_ (j + 1) ⟨rfl, trivial⟩
              rw [hst] at k9
              exact k9
            · skip
              have hst : (rch hs i && okc hs b i (j + 1)) = true := by
                have hl : lie hs i j = false := by unfold lie; rw [he2, decide_eq_true (congrArg nI br71_.symm)]; simp
                rw [okc_s, br34_.1, br34_.2, hl]; rfl
              refine aw_iconst (v := nI 1) d_Mod_asTold_74 (by decide) ?_
              refine aw_goto d_Mod_asTold_75 ?_
              refine aw_istore (lv2 := [(0, _), (1, _), (2, _), (3, _), (4, _), (5, _)]) d_Mod_asTold_79 (by decide) rfl ?_
              refine aw_iincN (lv2 := [(0, _), (1, _), (2, _), (3, _), (4, _), (5, _)]) d_Mod_asTold_81 (by decide) rfl rfl ?_
              refine aw_goto d_Mod_asTold_84 ?_
              have k9 := ih_j br29_ (j + 1) ⟨rfl, trivial⟩
              rw [hst] at k9
              exact k9

noncomputable def lyG (hs : HSt) : Nat → Nat → Nat → Nat
  | 0, _, set => if asT hs set = 0 then 0 else set ||| 4096
  | _ + 1, 0, _ => 0
  | m + 1, k + 1, set => if (if hasR hs (hs.1.length - (k + 1)) then lyG hs m k (set ||| 2 ^ (hs.1.length - (k + 1))) else 0) = 0 then lyG hs (m + 1) k set else (if hasR hs (hs.1.length - (k + 1)) then lyG hs m k (set ||| 2 ^ (hs.1.length - (k + 1))) else 0)
theorem lyG_0 {hs : HSt} {k set : Nat} : lyG hs 0 k set = if asT hs set = 0 then 0 else set ||| 4096 := by
  cases k <;> simp [lyG]
theorem lyG_z {hs : HSt} {m set : Nat} : lyG hs (m + 1) 0 set = 0 := by simp [lyG]
theorem lyG_s {hs : HSt} {m i set : Nat} (hi : i < hs.1.length) : lyG hs (m + 1) (hs.1.length - i) set = if (if hasR hs i then lyG hs m (hs.1.length - (i + 1)) (set ||| 2 ^ i) else 0) = 0 then lyG hs (m + 1) (hs.1.length - (i + 1)) set else (if hasR hs i then lyG hs m (hs.1.length - (i + 1)) (set ||| 2 ^ i) else 0) := by
  obtain ⟨k, hk⟩ : ∃ k, hs.1.length - i = k + 1 := ⟨hs.1.length - i - 1, by omega⟩
  have e1 : hs.1.length - (i + 1) = k := by omega
  have e2 : hs.1.length - (k + 1) = i := by omega
  rw [hk, e1]
  show (if (if hasR hs (hs.1.length - (k + 1)) then lyG hs m k (set ||| 2 ^ (hs.1.length - (k + 1))) else 0) = 0 then _ else _) = _
  rw [e2]
theorem or_bd {x p : Nat} (hx : x < 4096) (hp : p < 12) : x ||| 2 ^ p < 4096 := Nat.or_lt_two_pow (n := 12) hx (Nat.pow_lt_pow_right (by decide) hp)
theorem lyG_bd {hs : HSt} (hv : VH hs) : ∀ (k m set : Nat), k ≤ hs.1.length → set < 4096 → lyG hs m k set < 8192
  | 0, 0, set, _, h => by
    rw [lyG_0]
    split
    · decide
    · exact Nat.or_lt_two_pow (n := 13) (by omega) (by decide)
  | 0, m + 1, set, _, h => by rw [lyG_z]; decide
  | k + 1, 0, set, _, h => by
    rw [lyG_0]
    split
    · decide
    · exact Nat.or_lt_two_pow (n := 13) (by omega) (by decide)
  | k + 1, m + 1, set, hk, h => by
    have hp12 := hv.1.1
    have h1 := lyG_bd hv k m (set ||| 2 ^ (hs.1.length - (k + 1))) (by omega) (or_bd h (by omega))
    have h2 := lyG_bd hv k (m + 1) set (by omega) h
    show (if (if hasR hs (hs.1.length - (k + 1)) then lyG hs m k (set ||| 2 ^ (hs.1.length - (k + 1))) else 0) = 0 then _ else _) < _
    split <;> (try split) <;> first | exact h1 | exact h2 | decide
set_option maxHeartbeats 4000000 in
set_option maxRecDepth 20000 in
theorem c_Mod_lying0 {G : aG} {nx : Nat} {h h0 : Nat → Option aC} {a : Nat} {A : Nat → Nat} {sc : Nat → Int32} {ar : Nat → Nat → Int32} (hm : MoF h0 h a A sc ar) {hs : HSt} (hh : MoH sc ar hs) (hv : VH hs) (hx : VX hs) (hw : MoW sc ar hs) (h29 : ∀ c, c < hall hs → ar 29 c = bI (rch hs c)) {f b : Nat} (hf : f ≤ hs.1.length) (hb : b < 4096) : AMet G m_Mod_lying 2 0 0 [.ref a, .int (nI 0), .int (nI f), .int (nI b)] (nx, h) (RV (.int (nI (lyG hs 0 (hs.1.length - f) b))) (nx, h)) := by
  have hp12 := hv.1.1
  have hs24 := hv.2.1
  have hall2 := hv.2.2.2.2.2.2.2
  refine amet_of pf_Mod_lying (Nat.le_of_ble_eq_true rfl) ?_
  show AW G m_Mod_lying 2 0 0 _ 0 [(0, .ref a), (1, .int (nI 0)), (2, .int (nI f)), (3, .int (nI b))] [] (nx, h) 0 0
  refine aw_iload_n (i := 1) d_Mod_lying_0 rfl rfl ?_
  refine aw_if_ne d_Mod_lying_1 (fun br1_ => absurd rfl br1_) (fun br1_ => ?_)
  refine aw_aload_n (i := 0) d_Mod_lying_4 rfl rfl ?_
  refine aw_iload_n (i := 3) d_Mod_lying_5 rfl rfl ?_
  apply aw_callv_p (c_Mod_asTold hm hh hv hx hw h29 (b := b) (by omega)) d_Mod_lying_6 cl_Mod_286; exact hm.1.1; rfl; rfl; rfl; rfl; decide; exact Nat.le_of_ble_eq_true rfl; exact (Nat.le_refl _); exact (Nat.le_refl _)
  refine aw_ifN_le d_Mod_lying_9 (by have := ctn_le (tld hs b) (hall hs); unfold asT; omega) (fun br9_ => ?_) (fun br9_ => ?_)
  · skip
    have hr_ : lyG hs 0 (hs.1.length - f) b = 0 := by rw [lyG_0, if_pos (by omega)]
    refine aw_iconst (v := nI 0) d_Mod_lying_20 (by decide) ?_
    refine aw_iret d_Mod_lying_21 rfl (Nat.le_refl _) (Nat.le_refl _) ?_
    exact ⟨by rw [hr_], rfl⟩
  · skip
    have hr_ : lyG hs 0 (hs.1.length - f) b = b ||| 4096 := by rw [lyG_0, if_neg (by omega)]
    refine aw_iload_n (i := 3) d_Mod_lying_12 rfl rfl ?_
    refine aw_sipush (v := nI 4096) d_Mod_lying_13 (by decide) ?_
    refine aw_ior d_Mod_lying_16 ?_
    rw [fa_or]
    refine aw_goto d_Mod_lying_17 ?_
    refine aw_iret d_Mod_lying_21 rfl (Nat.le_refl _) (Nat.le_refl _) ?_
    exact ⟨by rw [hr_], rfl⟩

set_option maxHeartbeats 4000000 in
set_option maxRecDepth 20000 in
theorem c_Mod_lying1 {G : aG} {nx : Nat} {h h0 : Nat → Option aC} {a : Nat} {A : Nat → Nat} {sc : Nat → Int32} {ar : Nat → Nat → Int32} (hm : MoF h0 h a A sc ar) {hs : HSt} (hh : MoH sc ar hs) (hv : VH hs) (hx : VX hs) (hw : MoW sc ar hs) (h29 : ∀ c, c < hall hs → ar 29 c = bI (rch hs c)) {f b : Nat} (hf : f ≤ hs.1.length) (hb : b < 4096) : AMet G m_Mod_lying 3 0 0 [.ref a, .int (nI 1), .int (nI f), .int (nI b)] (nx, h) (RV (.int (nI (lyG hs 1 (hs.1.length - f) b))) (nx, h)) := by
  have hp12 := hv.1.1
  have hs24 := hv.2.1
  have hall2 := hv.2.2.2.2.2.2.2
  refine amet_of pf_Mod_lying (Nat.le_of_ble_eq_true rfl) ?_
  show AW G m_Mod_lying 3 0 0 _ 0 [(0, .ref a), (1, .int (nI 1)), (2, .int (nI f)), (3, .int (nI b))] [] (nx, h) 0 0
  refine aw_iload_n (i := 1) d_Mod_lying_0 rfl rfl ?_
  refine aw_if_ne d_Mod_lying_1 (fun br1_ => ?_) (fun br1_ => absurd br1_ (by decide))
  refine aw_iload_n (i := 2) d_Mod_lying_22 rfl rfl ?_
  refine aw_istore (lv2 := [(0, _), (1, _), (2, _), (3, _), (4, _)]) d_Mod_lying_23 (by decide) rfl ?_
  refine upto (σ := Nat) (fun i => AW G m_Mod_lying 3 0 0 _ 25 [(0, .ref a), (1, .int (nI 1)), (2, .int (nI f)), (3, .int (nI b)), (4, .int (nI i))] [] (nx, h) 0 0) (fun i s => i = s ∧ f ≤ i ∧ lyG hs 1 (hs.1.length - f) b = lyG hs 1 (hs.1.length - i) b) hs.1.length ?_ f f hf ⟨rfl, Nat.le_refl _, rfl⟩
  intro i s9 hi_i hI_i ih_i
  obtain ⟨rfl, hfi, hI_i⟩ := hI_i
  refine aw_iload d_Mod_lying_25 rfl ?_
  refine aw_aload_n (i := 0) d_Mod_lying_27 rfl rfl ?_
  apply mo_gets (f := 1) hm d_Mod_lying_28 fl_Mod_153 rfl; exact hh.1.1
  refine aw_icmpN_ge d_Mod_lying_31 (by omega) (by omega) (fun br31_ => ?_) (fun br31_ => ?_)
  · skip
    have ei : i = hs.1.length := by omega
    subst ei
    have hr_ : lyG hs 1 (hs.1.length - f) b = 0 := by rw [hI_i, Nat.sub_self]; exact lyG_z
    refine aw_iconst (v := nI 0) d_Mod_lying_81 (by decide) ?_
    refine aw_iret d_Mod_lying_82 rfl (Nat.le_refl _) (Nat.le_refl _) ?_
    exact ⟨by rw [hr_], rfl⟩
  · skip
    have hrd : ar 22 i = rdg hs i := (hh.2.1 _ br31_).2.2.2.2.2
    have hly := lyG_s (m := 0) (set := b) br31_
    have hob := or_bd hb (show i < 12 by omega)
    have hlb := lyG_bd hv (hs.1.length - (i + 1)) 0 (b ||| 2 ^ i) (by omega) hob
    refine aw_aload_n (i := 0) d_Mod_lying_34 rfl rfl ?_
    refine mo_get (f := 22) hm d_Mod_lying_35 fl_Mod_65 rfl ?_
    refine aw_iload d_Mod_lying_38 rfl ?_
    apply mo_ld (f := 22) (N := 12) hm d_Mod_lying_40 rfl rfl (by decide); omega; exact hrd
    refine aw_if_ge d_Mod_lying_41 (fun br41_ => ?_) (fun br41_ => ?_)
    · skip
      obtain ⟨hR, e, he1, he2⟩ := rdg_pos hx br31_ (fun q => absurd br41_ (Int32.not_le.mpr q))
      rw [hR] at hly
      simp only [if_true] at hly
      refine aw_aload_n (i := 0) d_Mod_lying_48 rfl rfl ?_
      refine aw_iload_n (i := 1) d_Mod_lying_49 rfl rfl ?_
      refine aw_iconst (v := nI 1) d_Mod_lying_50 (by decide) ?_
      refine aw_isubN d_Mod_lying_51 (by omega) ?_
      refine aw_iload d_Mod_lying_52 rfl ?_
      refine aw_iconst (v := nI 1) d_Mod_lying_54 (by decide) ?_
      refine aw_iaddN d_Mod_lying_55 ?_
      refine aw_iload_n (i := 3) d_Mod_lying_56 rfl rfl ?_
      refine aw_iconst (v := 1) d_Mod_lying_57 (by decide) ?_
      refine aw_iload d_Mod_lying_58 rfl ?_
      refine aw_ishl d_Mod_lying_60 ?_
      rw [sh_1 (by omega)]
      refine aw_ior d_Mod_lying_61 ?_
      rw [fa_or]
      apply aw_callv_p (c_Mod_lying0 hm hh hv hx hw h29 (f := i + 1) (b := b ||| 2 ^ i) (by omega) hob) d_Mod_lying_62 cl_Mod_289; exact hm.1.1; rfl; rfl; rfl; rfl; decide; exact Nat.le_of_ble_eq_true rfl; exact (Nat.le_refl _); exact (Nat.le_refl _)
      refine aw_istore (lv2 := [(0, _), (1, _), (2, _), (3, _), (4, _), (5, _)]) d_Mod_lying_65 (by decide) rfl ?_
      refine aw_iload d_Mod_lying_67 rfl ?_
      refine aw_ifN_eq d_Mod_lying_69 (by omega) (fun br69_ => ?_) (fun br69_ => ?_)
      · skip
        rw [if_pos br69_] at hly
        refine aw_iincN (lv2 := [(0, _), (1, _), (2, _), (3, _), (4, _), (5, _)]) d_Mod_lying_75 (by decide) rfl rfl ?_
        refine aw_goto d_Mod_lying_78 ?_
        refine aw_drop (lv2 := [(0, _), (1, _), (2, _), (3, _), (4, _)]) [0, 1, 2, 3, 4] rfl ?_
        exact ih_i br31_ (i + 1) ⟨rfl, by omega, hI_i.trans hly⟩
      · skip
        rw [if_neg br69_] at hly
        have hr_ : lyG hs 1 (hs.1.length - f) b = lyG hs 0 (hs.1.length - (i + 1)) (b ||| 2 ^ i) := hI_i.trans hly
        refine aw_iload d_Mod_lying_72 rfl ?_
        refine aw_iret d_Mod_lying_74 rfl (Nat.le_refl _) (Nat.le_refl _) ?_
        exact ⟨by rw [hr_], rfl⟩
    · skip
      rw [rdg_neg hx hv br31_ (Int32.not_le.mp br41_)] at hly
      simp only [Bool.false_eq_true, if_false, if_true] at hly
      refine aw_iconst (v := nI 0) d_Mod_lying_44 (by decide) ?_
      refine aw_goto d_Mod_lying_45 ?_
      refine aw_istore (lv2 := [(0, _), (1, _), (2, _), (3, _), (4, _), (5, _)]) d_Mod_lying_65 (by decide) rfl ?_
      refine aw_iload d_Mod_lying_67 rfl ?_
      refine aw_if_eq d_Mod_lying_69 (fun br69_ => ?_) (fun br69_ => absurd rfl br69_)
      refine aw_iincN (lv2 := [(0, _), (1, _), (2, _), (3, _), (4, _), (5, _)]) d_Mod_lying_75 (by decide) rfl rfl ?_
      refine aw_goto d_Mod_lying_78 ?_
      refine aw_drop (lv2 := [(0, _), (1, _), (2, _), (3, _), (4, _)]) [0, 1, 2, 3, 4] rfl ?_
      exact ih_i br31_ (i + 1) ⟨rfl, by omega, hI_i.trans hly⟩

set_option maxHeartbeats 4000000 in
set_option maxRecDepth 20000 in
theorem c_Mod_lying2 {G : aG} {nx : Nat} {h h0 : Nat → Option aC} {a : Nat} {A : Nat → Nat} {sc : Nat → Int32} {ar : Nat → Nat → Int32} (hm : MoF h0 h a A sc ar) {hs : HSt} (hh : MoH sc ar hs) (hv : VH hs) (hx : VX hs) (hw : MoW sc ar hs) (h29 : ∀ c, c < hall hs → ar 29 c = bI (rch hs c)) {f b : Nat} (hf : f ≤ hs.1.length) (hb : b < 4096) : AMet G m_Mod_lying 4 0 0 [.ref a, .int (nI 2), .int (nI f), .int (nI b)] (nx, h) (RV (.int (nI (lyG hs 2 (hs.1.length - f) b))) (nx, h)) := by
  have hp12 := hv.1.1
  have hs24 := hv.2.1
  have hall2 := hv.2.2.2.2.2.2.2
  refine amet_of pf_Mod_lying (Nat.le_of_ble_eq_true rfl) ?_
  show AW G m_Mod_lying 4 0 0 _ 0 [(0, .ref a), (1, .int (nI 2)), (2, .int (nI f)), (3, .int (nI b))] [] (nx, h) 0 0
  refine aw_iload_n (i := 1) d_Mod_lying_0 rfl rfl ?_
  refine aw_if_ne d_Mod_lying_1 (fun br1_ => ?_) (fun br1_ => absurd br1_ (by decide))
  refine aw_iload_n (i := 2) d_Mod_lying_22 rfl rfl ?_
  refine aw_istore (lv2 := [(0, _), (1, _), (2, _), (3, _), (4, _)]) d_Mod_lying_23 (by decide) rfl ?_
  refine upto (σ := Nat) (fun i => AW G m_Mod_lying 4 0 0 _ 25 [(0, .ref a), (1, .int (nI 2)), (2, .int (nI f)), (3, .int (nI b)), (4, .int (nI i))] [] (nx, h) 0 0) (fun i s => i = s ∧ f ≤ i ∧ lyG hs 2 (hs.1.length - f) b = lyG hs 2 (hs.1.length - i) b) hs.1.length ?_ f f hf ⟨rfl, Nat.le_refl _, rfl⟩
  intro i s9 hi_i hI_i ih_i
  obtain ⟨rfl, hfi, hI_i⟩ := hI_i
  refine aw_iload d_Mod_lying_25 rfl ?_
  refine aw_aload_n (i := 0) d_Mod_lying_27 rfl rfl ?_
  apply mo_gets (f := 1) hm d_Mod_lying_28 fl_Mod_153 rfl; exact hh.1.1
  refine aw_icmpN_ge d_Mod_lying_31 (by omega) (by omega) (fun br31_ => ?_) (fun br31_ => ?_)
  · skip
    have ei : i = hs.1.length := by omega
    subst ei
    have hr_ : lyG hs 2 (hs.1.length - f) b = 0 := by rw [hI_i, Nat.sub_self]; exact lyG_z
    refine aw_iconst (v := nI 0) d_Mod_lying_81 (by decide) ?_
    refine aw_iret d_Mod_lying_82 rfl (Nat.le_refl _) (Nat.le_refl _) ?_
    exact ⟨by rw [hr_], rfl⟩
  · skip
    have hrd : ar 22 i = rdg hs i := (hh.2.1 _ br31_).2.2.2.2.2
    have hly := lyG_s (m := 1) (set := b) br31_
    have hob := or_bd hb (show i < 12 by omega)
    have hlb := lyG_bd hv (hs.1.length - (i + 1)) 1 (b ||| 2 ^ i) (by omega) hob
    refine aw_aload_n (i := 0) d_Mod_lying_34 rfl rfl ?_
    refine mo_get (f := 22) hm d_Mod_lying_35 fl_Mod_65 rfl ?_
    refine aw_iload d_Mod_lying_38 rfl ?_
    apply mo_ld (f := 22) (N := 12) hm d_Mod_lying_40 rfl rfl (by decide); omega; exact hrd
    refine aw_if_ge d_Mod_lying_41 (fun br41_ => ?_) (fun br41_ => ?_)
    · skip
      obtain ⟨hR, e, he1, he2⟩ := rdg_pos hx br31_ (fun q => absurd br41_ (Int32.not_le.mpr q))
      rw [hR] at hly
      simp only [if_true] at hly
      refine aw_aload_n (i := 0) d_Mod_lying_48 rfl rfl ?_
      refine aw_iload_n (i := 1) d_Mod_lying_49 rfl rfl ?_
      refine aw_iconst (v := nI 1) d_Mod_lying_50 (by decide) ?_
      refine aw_isubN d_Mod_lying_51 (by omega) ?_
      refine aw_iload d_Mod_lying_52 rfl ?_
      refine aw_iconst (v := nI 1) d_Mod_lying_54 (by decide) ?_
      refine aw_iaddN d_Mod_lying_55 ?_
      refine aw_iload_n (i := 3) d_Mod_lying_56 rfl rfl ?_
      refine aw_iconst (v := 1) d_Mod_lying_57 (by decide) ?_
      refine aw_iload d_Mod_lying_58 rfl ?_
      refine aw_ishl d_Mod_lying_60 ?_
      rw [sh_1 (by omega)]
      refine aw_ior d_Mod_lying_61 ?_
      rw [fa_or]
      apply aw_callv_p (c_Mod_lying1 hm hh hv hx hw h29 (f := i + 1) (b := b ||| 2 ^ i) (by omega) hob) d_Mod_lying_62 cl_Mod_289; exact hm.1.1; rfl; rfl; rfl; rfl; decide; exact Nat.le_of_ble_eq_true rfl; exact (Nat.le_refl _); exact (Nat.le_refl _)
      refine aw_istore (lv2 := [(0, _), (1, _), (2, _), (3, _), (4, _), (5, _)]) d_Mod_lying_65 (by decide) rfl ?_
      refine aw_iload d_Mod_lying_67 rfl ?_
      refine aw_ifN_eq d_Mod_lying_69 (by omega) (fun br69_ => ?_) (fun br69_ => ?_)
      · skip
        rw [if_pos br69_] at hly
        refine aw_iincN (lv2 := [(0, _), (1, _), (2, _), (3, _), (4, _), (5, _)]) d_Mod_lying_75 (by decide) rfl rfl ?_
        refine aw_goto d_Mod_lying_78 ?_
        refine aw_drop (lv2 := [(0, _), (1, _), (2, _), (3, _), (4, _)]) [0, 1, 2, 3, 4] rfl ?_
        exact ih_i br31_ (i + 1) ⟨rfl, by omega, hI_i.trans hly⟩
      · skip
        rw [if_neg br69_] at hly
        have hr_ : lyG hs 2 (hs.1.length - f) b = lyG hs 1 (hs.1.length - (i + 1)) (b ||| 2 ^ i) := hI_i.trans hly
        refine aw_iload d_Mod_lying_72 rfl ?_
        refine aw_iret d_Mod_lying_74 rfl (Nat.le_refl _) (Nat.le_refl _) ?_
        exact ⟨by rw [hr_], rfl⟩
    · skip
      rw [rdg_neg hx hv br31_ (Int32.not_le.mp br41_)] at hly
      simp only [Bool.false_eq_true, if_false, if_true] at hly
      refine aw_iconst (v := nI 0) d_Mod_lying_44 (by decide) ?_
      refine aw_goto d_Mod_lying_45 ?_
      refine aw_istore (lv2 := [(0, _), (1, _), (2, _), (3, _), (4, _), (5, _)]) d_Mod_lying_65 (by decide) rfl ?_
      refine aw_iload d_Mod_lying_67 rfl ?_
      refine aw_if_eq d_Mod_lying_69 (fun br69_ => ?_) (fun br69_ => absurd rfl br69_)
      refine aw_iincN (lv2 := [(0, _), (1, _), (2, _), (3, _), (4, _), (5, _)]) d_Mod_lying_75 (by decide) rfl rfl ?_
      refine aw_goto d_Mod_lying_78 ?_
      refine aw_drop (lv2 := [(0, _), (1, _), (2, _), (3, _), (4, _)]) [0, 1, 2, 3, 4] rfl ?_
      exact ih_i br31_ (i + 1) ⟨rfl, by omega, hI_i.trans hly⟩

set_option maxHeartbeats 4000000 in
set_option maxRecDepth 20000 in
theorem c_Mod_lying3 {G : aG} {nx : Nat} {h h0 : Nat → Option aC} {a : Nat} {A : Nat → Nat} {sc : Nat → Int32} {ar : Nat → Nat → Int32} (hm : MoF h0 h a A sc ar) {hs : HSt} (hh : MoH sc ar hs) (hv : VH hs) (hx : VX hs) (hw : MoW sc ar hs) (h29 : ∀ c, c < hall hs → ar 29 c = bI (rch hs c)) {f b : Nat} (hf : f ≤ hs.1.length) (hb : b < 4096) : AMet G m_Mod_lying 5 0 0 [.ref a, .int (nI 3), .int (nI f), .int (nI b)] (nx, h) (RV (.int (nI (lyG hs 3 (hs.1.length - f) b))) (nx, h)) := by
  have hp12 := hv.1.1
  have hs24 := hv.2.1
  have hall2 := hv.2.2.2.2.2.2.2
  refine amet_of pf_Mod_lying (Nat.le_of_ble_eq_true rfl) ?_
  show AW G m_Mod_lying 5 0 0 _ 0 [(0, .ref a), (1, .int (nI 3)), (2, .int (nI f)), (3, .int (nI b))] [] (nx, h) 0 0
  refine aw_iload_n (i := 1) d_Mod_lying_0 rfl rfl ?_
  refine aw_if_ne d_Mod_lying_1 (fun br1_ => ?_) (fun br1_ => absurd br1_ (by decide))
  refine aw_iload_n (i := 2) d_Mod_lying_22 rfl rfl ?_
  refine aw_istore (lv2 := [(0, _), (1, _), (2, _), (3, _), (4, _)]) d_Mod_lying_23 (by decide) rfl ?_
  refine upto (σ := Nat) (fun i => AW G m_Mod_lying 5 0 0 _ 25 [(0, .ref a), (1, .int (nI 3)), (2, .int (nI f)), (3, .int (nI b)), (4, .int (nI i))] [] (nx, h) 0 0) (fun i s => i = s ∧ f ≤ i ∧ lyG hs 3 (hs.1.length - f) b = lyG hs 3 (hs.1.length - i) b) hs.1.length ?_ f f hf ⟨rfl, Nat.le_refl _, rfl⟩
  intro i s9 hi_i hI_i ih_i
  obtain ⟨rfl, hfi, hI_i⟩ := hI_i
  refine aw_iload d_Mod_lying_25 rfl ?_
  refine aw_aload_n (i := 0) d_Mod_lying_27 rfl rfl ?_
  apply mo_gets (f := 1) hm d_Mod_lying_28 fl_Mod_153 rfl; exact hh.1.1
  refine aw_icmpN_ge d_Mod_lying_31 (by omega) (by omega) (fun br31_ => ?_) (fun br31_ => ?_)
  · skip
    have ei : i = hs.1.length := by omega
    subst ei
    have hr_ : lyG hs 3 (hs.1.length - f) b = 0 := by rw [hI_i, Nat.sub_self]; exact lyG_z
    refine aw_iconst (v := nI 0) d_Mod_lying_81 (by decide) ?_
    refine aw_iret d_Mod_lying_82 rfl (Nat.le_refl _) (Nat.le_refl _) ?_
    exact ⟨by rw [hr_], rfl⟩
  · skip
    have hrd : ar 22 i = rdg hs i := (hh.2.1 _ br31_).2.2.2.2.2
    have hly := lyG_s (m := 2) (set := b) br31_
    have hob := or_bd hb (show i < 12 by omega)
    have hlb := lyG_bd hv (hs.1.length - (i + 1)) 2 (b ||| 2 ^ i) (by omega) hob
    refine aw_aload_n (i := 0) d_Mod_lying_34 rfl rfl ?_
    refine mo_get (f := 22) hm d_Mod_lying_35 fl_Mod_65 rfl ?_
    refine aw_iload d_Mod_lying_38 rfl ?_
    apply mo_ld (f := 22) (N := 12) hm d_Mod_lying_40 rfl rfl (by decide); omega; exact hrd
    refine aw_if_ge d_Mod_lying_41 (fun br41_ => ?_) (fun br41_ => ?_)
    · skip
      obtain ⟨hR, e, he1, he2⟩ := rdg_pos hx br31_ (fun q => absurd br41_ (Int32.not_le.mpr q))
      rw [hR] at hly
      simp only [if_true] at hly
      refine aw_aload_n (i := 0) d_Mod_lying_48 rfl rfl ?_
      refine aw_iload_n (i := 1) d_Mod_lying_49 rfl rfl ?_
      refine aw_iconst (v := nI 1) d_Mod_lying_50 (by decide) ?_
      refine aw_isubN d_Mod_lying_51 (by omega) ?_
      refine aw_iload d_Mod_lying_52 rfl ?_
      refine aw_iconst (v := nI 1) d_Mod_lying_54 (by decide) ?_
      refine aw_iaddN d_Mod_lying_55 ?_
      refine aw_iload_n (i := 3) d_Mod_lying_56 rfl rfl ?_
      refine aw_iconst (v := 1) d_Mod_lying_57 (by decide) ?_
      refine aw_iload d_Mod_lying_58 rfl ?_
      refine aw_ishl d_Mod_lying_60 ?_
      rw [sh_1 (by omega)]
      refine aw_ior d_Mod_lying_61 ?_
      rw [fa_or]
      apply aw_callv_p (c_Mod_lying2 hm hh hv hx hw h29 (f := i + 1) (b := b ||| 2 ^ i) (by omega) hob) d_Mod_lying_62 cl_Mod_289; exact hm.1.1; rfl; rfl; rfl; rfl; decide; exact Nat.le_of_ble_eq_true rfl; exact (Nat.le_refl _); exact (Nat.le_refl _)
      refine aw_istore (lv2 := [(0, _), (1, _), (2, _), (3, _), (4, _), (5, _)]) d_Mod_lying_65 (by decide) rfl ?_
      refine aw_iload d_Mod_lying_67 rfl ?_
      refine aw_ifN_eq d_Mod_lying_69 (by omega) (fun br69_ => ?_) (fun br69_ => ?_)
      · skip
        rw [if_pos br69_] at hly
        refine aw_iincN (lv2 := [(0, _), (1, _), (2, _), (3, _), (4, _), (5, _)]) d_Mod_lying_75 (by decide) rfl rfl ?_
        refine aw_goto d_Mod_lying_78 ?_
        refine aw_drop (lv2 := [(0, _), (1, _), (2, _), (3, _), (4, _)]) [0, 1, 2, 3, 4] rfl ?_
        exact ih_i br31_ (i + 1) ⟨rfl, by omega, hI_i.trans hly⟩
      · skip
        rw [if_neg br69_] at hly
        have hr_ : lyG hs 3 (hs.1.length - f) b = lyG hs 2 (hs.1.length - (i + 1)) (b ||| 2 ^ i) := hI_i.trans hly
        refine aw_iload d_Mod_lying_72 rfl ?_
        refine aw_iret d_Mod_lying_74 rfl (Nat.le_refl _) (Nat.le_refl _) ?_
        exact ⟨by rw [hr_], rfl⟩
    · skip
      rw [rdg_neg hx hv br31_ (Int32.not_le.mp br41_)] at hly
      simp only [Bool.false_eq_true, if_false, if_true] at hly
      refine aw_iconst (v := nI 0) d_Mod_lying_44 (by decide) ?_
      refine aw_goto d_Mod_lying_45 ?_
      refine aw_istore (lv2 := [(0, _), (1, _), (2, _), (3, _), (4, _), (5, _)]) d_Mod_lying_65 (by decide) rfl ?_
      refine aw_iload d_Mod_lying_67 rfl ?_
      refine aw_if_eq d_Mod_lying_69 (fun br69_ => ?_) (fun br69_ => absurd rfl br69_)
      refine aw_iincN (lv2 := [(0, _), (1, _), (2, _), (3, _), (4, _), (5, _)]) d_Mod_lying_75 (by decide) rfl rfl ?_
      refine aw_goto d_Mod_lying_78 ?_
      refine aw_drop (lv2 := [(0, _), (1, _), (2, _), (3, _), (4, _)]) [0, 1, 2, 3, 4] rfl ?_
      exact ih_i br31_ (i + 1) ⟨rfl, by omega, hI_i.trans hly⟩

theorem c_lying {G : aG} {nx : Nat} {h h0 : Nat → Option aC} {a : Nat} {A : Nat → Nat} {sc : Nat → Int32} {ar : Nat → Nat → Int32} (hm : MoF h0 h a A sc ar) {hs : HSt} (hh : MoH sc ar hs) (hv : VH hs) (hx : VX hs) (hw : MoW sc ar hs) (h29 : ∀ c, c < hall hs → ar 29 c = bI (rch hs c)) {m : Nat} (hm3 : m ≤ 3) : AMet G m_Mod_lying 5 0 0 [.ref a, .int (nI m), .int (nI 0), .int (nI 0)] (nx, h) (RV (.int (nI (lyG hs m hs.1.length 0))) (nx, h)) := by
  match m, hm3 with
  | 0, _ => exact (c_Mod_lying0 hm hh hv hx hw h29 (f := 0) (b := 0) (Nat.zero_le _) (by decide)).deep (by decide)
  | 1, _ => exact (c_Mod_lying1 hm hh hv hx hw h29 (f := 0) (b := 0) (Nat.zero_le _) (by decide)).deep (by decide)
  | 2, _ => exact (c_Mod_lying2 hm hh hv hx hw h29 (f := 0) (b := 0) (Nat.zero_le _) (by decide)).deep (by decide)
  | 3, _ => exact c_Mod_lying3 hm hh hv hx hw h29 (f := 0) (b := 0) (Nat.zero_le _) (by decide)
  | m + 4, h => omega
noncomputable def lrM (hs : HSt) : Option Nat := (List.range 4).find? (fun m => decide (lyG hs m hs.1.length 0 ≠ 0))
def bts (b n : Nat) : List Nat := (List.range n).filter (fun p => b.testBit p)
theorem bts_s {b n : Nat} : bts b (n + 1) = bts b n ++ (if b.testBit n then [n] else []) := by
  unfold bts
  rw [List.range_succ, List.filter_append]
  congr 1
  cases e : b.testBit n <;> simp [e]
theorem bts_len (b n : Nat) : (bts b n).length ≤ n := by
  have := List.length_filter_le (fun p => b.testBit p) (List.range n)
  simpa [bts] using this
noncomputable def lrA (hs : HSt) : Int32 := match lrM hs with
  | none => -2
  | some m => nI m
noncomputable def lrX (hs : HSt) (xs : List Int32) : List Int32 := match lrM hs with
  | none => xs
  | some m => (bts (lyG hs m hs.1.length 0) hs.1.length).map nI ++ [nI (asT hs (lyG hs m hs.1.length 0))]
set_option maxHeartbeats 4000000 in
set_option maxRecDepth 20000 in
theorem c_Mod_liars {G : aG} {nx : Nat} {h h0 : Nat → Option aC} {a : Nat} {A : Nat → Nat} {sc : Nat → Int32} {ar : Nat → Nat → Int32} (hm : MoF h0 h a A sc ar) {hs : HSt} {gs : List GSt} {lg : List (Nat × Nat × Nat)} {xs : List Int32} (hq : MoA sc ar hs gs lg xs) (hv : VH hs) (hx : VX hs) : AMet G m_Mod_liars 6 0 0 [.ref a] (nx, h) (MR nx a h0 A (fun r sc2 ar2 => r = some (.int (lrA hs)) ∧ sc2 0 = 0 ∧ MoA sc2 ar2 hs gs lg (lrX hs xs))) := by
  have hp12 := hv.1.1
  have hs24 := hv.2.1
  have hall2 := hv.2.2.2.2.2.2.2
  have hq0 := hq
  refine amet_of pf_Mod_liars (Nat.le_of_ble_eq_true rfl) ?_
  show AW G m_Mod_liars 6 0 0 _ 0 [(0, .ref a)] [] (nx, h) 0 0
  refine aw_aload_n (i := 0) d_Mod_liars_0 rfl rfl ?_
  refine aw_iconst (v := nI 0) d_Mod_liars_1 (by decide) ?_
  apply mo_put (f := 0) hm d_Mod_liars_2 pl_Mod_150 (ms_0 _ _ _) (by decide) rfl rfl; intro h hm
  have hq := hq0.kp (Kp.put (Ls := [0]) (La := []) (f := 0) (x := nI 0) rfl) rfl rfl rfl rfl
  have hh := hq.1
  have hg := hq.2.1
  have hr := hq.2.2.2.1
  refine aw_aload_n (i := 0) d_Mod_liars_5 rfl rfl ?_
  apply aw_callv_M0 (c_Mod_fresh hm hq hv) d_Mod_liars_6 cl_Mod_259; exact hm.1.1; rfl; rfl; rfl; rfl; decide; exact Nat.le_of_ble_eq_true rfl; exact Nat.le_refl _; exact Nat.le_refl _
  rintro h sc1 ar1 hm ⟨hq, hf, h0_⟩
  have hh := hq.1
  have hw := hf.1
  have h29 := hf.2.2.2.1
  have hf0 := hf
  have hq1 := hq
  refine aw_iconst (v := nI 0) d_Mod_liars_9 (by decide) ?_
  refine aw_istore_n (i := 1) (lv2 := [(0, _), (1, _)]) d_Mod_liars_10 rfl (by decide) rfl ?_
  show AW G m_Mod_liars 6 0 0 _ 11 [(0, .ref a), (1, .int (nI 0))] [] (nx, h) 0 0
  refine upto (σ := Nat) (fun i => AW G m_Mod_liars 6 0 0 _ 11 [(0, .ref a), (1, .int (nI i))] [] (nx, h) 0 0) (fun i s => i = s ∧ ∀ k, k < i → decide (lyG hs k hs.1.length 0 ≠ 0) = false) (4) ?_ 0 0 (Nat.zero_le _) ⟨rfl, fun k hk => absurd hk (Nat.not_lt_zero _)⟩
  intro i s9 hi_i hI_i ih_i
  obtain ⟨rfl, hI_i⟩ := hI_i
  refine aw_iload_n (i := 1) d_Mod_liars_11 rfl rfl ?_
  refine aw_iconst (v := nI 3) d_Mod_liars_12 (by decide) ?_
  refine aw_icmpN_gt d_Mod_liars_13 (by omega) (by omega) (fun br13_ => ?_) (fun br13_ => ?_)
  · skip
    have ei : i = 4 := by omega
    subst ei
    have hM : lrM hs = none := find_rng0 hI_i
    refine aw_bipush (v := -2) d_Mod_liars_83 (by decide) ?_
    refine aw_iret d_Mod_liars_85 rfl (Nat.le_refl _) (Nat.le_refl _) ?_
    exact ⟨_, _, _, rfl, hm, by unfold lrA; rw [hM], h0_.trans rfl, by unfold lrX; rw [hM]; exact hq⟩
  · skip
    have hlb := lyG_bd hv hs.1.length i 0 (Nat.le_refl _) (by decide)
    refine aw_aload_n (i := 0) d_Mod_liars_16 rfl rfl ?_
    refine aw_iload_n (i := 1) d_Mod_liars_17 rfl rfl ?_
    refine aw_iconst (v := nI 0) d_Mod_liars_18 (by decide) ?_
    refine aw_iconst (v := nI 0) d_Mod_liars_19 (by decide) ?_
    apply aw_callv_p (c_lying hm hh hv hx hw h29 (m := i) (by omega)) d_Mod_liars_20 cl_Mod_289; exact hm.1.1; rfl; rfl; rfl; rfl; decide; exact Nat.le_of_ble_eq_true rfl; exact (Nat.le_refl _); exact (Nat.le_refl _)
    refine aw_istore_n (i := 2) (lv2 := [(0, _), (1, _), (2, _)]) d_Mod_liars_23 rfl (by decide) rfl ?_
    refine aw_iload_n (i := 2) d_Mod_liars_24 rfl rfl ?_
    refine aw_ifN_ne d_Mod_liars_25 (by omega) (fun br25_ => ?_) (fun br25_ => ?_)
    · skip
      have hM : lrM hs = some i := find_rng (show i < 4 by omega) hI_i (decide_eq_true br25_)
      have hbl := bts_len (lyG hs i hs.1.length 0) hs.1.length
      refine aw_aload_n (i := 0) d_Mod_liars_31 rfl rfl ?_
      refine aw_iconst (v := nI 0) d_Mod_liars_32 (by decide) ?_
      apply mo_put (f := 39) hm d_Mod_liars_33 pl_Mod_203 (ms_39 _ _ _) (by decide) rfl rfl; intro h hm
      refine aw_iconst (v := nI 0) d_Mod_liars_36 (by decide) ?_
      refine aw_istore_n (i := 3) (lv2 := [(0, _), (1, _), (2, _), (3, _)]) d_Mod_liars_37 rfl (by decide) rfl ?_
      refine mloop (h0 := h0) (a := a) (A := A) (hs.1.length) (fun j h sc2 ar2 => AW G m_Mod_liars 6 0 0 _ 38 [(0, .ref a), (1, .int (nI i)), (2, .int (nI (lyG hs i hs.1.length 0))), (3, .int (nI j))] [] (nx, h) 0 0) (fun j sc2 ar2 => Kp [39] [38] sc1 ar1 sc2 ar2 ∧ MoR sc2 ar2 ((bts (lyG hs i hs.1.length 0) j).map nI)) ?_ 0 _ _ _ (Nat.zero_le _) hm ⟨Kp.put rfl, ⟨rfl, Nat.zero_le _, fun k hk => absurd hk (Nat.not_lt_zero _)⟩⟩
      intro j h sc2 ar2 hi_j hm hJ ih_j
      have hf := hf0.kp hJ.1 rfl rfl
      have hw := hf.1
      have hh := hq1.1.kp hJ.1 rfl rfl
      have h29 := hf.2.2.2.1
      have hbj := bts_len (lyG hs i hs.1.length 0) j
      refine aw_iload_n (i := 3) d_Mod_liars_38 rfl rfl ?_
      refine aw_aload_n (i := 0) d_Mod_liars_39 rfl rfl ?_
      apply mo_gets (f := 1) hm d_Mod_liars_40 fl_Mod_153 rfl; exact hh.1.1
      refine aw_icmpN_ge d_Mod_liars_43 (by omega) (by omega) (fun br43_ => ?_) (fun br43_ => ?_)
      · skip
        have ej : j = hs.1.length := by omega
        subst ej
        refine aw_aload_n (i := 0) d_Mod_liars_66 rfl rfl ?_
        refine aw_aload_n (i := 0) d_Mod_liars_67 rfl rfl ?_
        refine aw_iload_n (i := 2) d_Mod_liars_68 rfl rfl ?_
        apply aw_callv_p (c_Mod_asTold hm hh hv hx hw h29 (b := lyG hs i hs.1.length 0) (by omega)) d_Mod_liars_69 cl_Mod_286; exact hm.1.1; rfl; rfl; rfl; rfl; decide; exact Nat.le_of_ble_eq_true rfl; exact (Nat.le_refl _); exact (Nat.le_refl _)
        apply aw_callv_M0 (c_Mod_tells hm hJ.2 (by simp; omega) (nI (asT hs (lyG hs i hs.1.length 0)))) d_Mod_liars_72 cl_Mod_275; exact hm.1.1; rfl; rfl; rfl; rfl; decide; exact Nat.le_of_ble_eq_true rfl; exact Nat.le_refl _; exact Nat.le_refl _
        rintro h sc3 ar3 hm ⟨hR3, hK3⟩
        refine aw_iload_n (i := 1) d_Mod_liars_75 rfl rfl ?_
        refine aw_iret d_Mod_liars_76 rfl (Nat.le_refl _) (Nat.le_refl _) ?_
        have hqq := hq1.kpR hR3 (hJ.1.tr hK3) rfl rfl
        exact ⟨_, _, _, rfl, hm, by unfold lrA; rw [hM], (hK3.1 0 rfl).trans ((hJ.1.1 0 rfl).trans (h0_.trans rfl)), by unfold lrX; rw [hM]; exact hqq⟩
      · skip
        refine aw_iload_n (i := 2) d_Mod_liars_46 rfl rfl ?_
        refine aw_iload_n (i := 3) d_Mod_liars_47 rfl rfl ?_
        refine aw_ishr d_Mod_liars_48 ?_
        rw [shr_n (by omega) (by omega)]
        refine aw_iconst (v := nI 1) d_Mod_liars_49 (by decide) ?_
        refine aw_iand d_Mod_liars_50 ?_
        rw [and_1 (Nat.lt_of_le_of_lt (Nat.div_le_self _ _) (by omega))]
        refine aw_iconst (v := nI 1) d_Mod_liars_51 (by decide) ?_
        refine aw_icmpN_ne d_Mod_liars_52 (by omega) (by omega) (fun br52_ => ?_) (fun br52_ => ?_)
        · skip
          have hbs : bts (lyG hs i hs.1.length 0) (j + 1) = bts (lyG hs i hs.1.length 0) j := by rw [bts_s, tb_0.mp br52_]; simp
          refine aw_iincN (lv2 := [(0, _), (1, _), (2, _), (3, _)]) d_Mod_liars_60 (by decide) rfl rfl ?_
          refine aw_goto d_Mod_liars_63 ?_
          exact ih_j br43_ _ _ _ hm ⟨hJ.1, by rw [hbs]; exact hJ.2⟩
        · skip
          have hbs : bts (lyG hs i hs.1.length 0) (j + 1) = bts (lyG hs i hs.1.length 0) j ++ [j] := by rw [bts_s, tb_1.mp br52_]; simp
          refine aw_aload_n (i := 0) d_Mod_liars_55 rfl rfl ?_
          refine aw_iload_n (i := 3) d_Mod_liars_56 rfl rfl ?_
          apply aw_callv_M0 (c_Mod_tells hm hJ.2 (by simp; omega) (nI j)) d_Mod_liars_57 cl_Mod_275; exact hm.1.1; rfl; rfl; rfl; rfl; decide; exact Nat.le_of_ble_eq_true rfl; exact Nat.le_refl _; exact Nat.le_refl _
          rintro h sc3 ar3 hm ⟨hR3, hK3⟩
          refine aw_iincN (lv2 := [(0, _), (1, _), (2, _), (3, _)]) d_Mod_liars_60 (by decide) rfl rfl ?_
          refine aw_goto d_Mod_liars_63 ?_
          exact ih_j br43_ _ _ _ hm ⟨hJ.1.tr hK3, by rw [hbs, List.map_append]; exact hR3⟩
    · skip
      have hno : decide (lyG hs i hs.1.length 0 ≠ 0) = false := by rw [br25_]; rfl
      refine aw_goto d_Mod_liars_28 ?_
      refine aw_iincN (lv2 := [(0, _), (1, _), (2, _)]) d_Mod_liars_77 (by decide) rfl rfl ?_
      refine aw_goto d_Mod_liars_80 ?_
      refine aw_drop (lv2 := [(0, _), (1, _)]) [0, 1] rfl ?_
      exact ih_i (by omega) (i + 1) ⟨rfl, fun k hk => by
        by_cases e : k = i
        · subst e; exact hno
        · exact hI_i k (by omega)⟩

