/-! props are brought back -/
theorem orb_bit (p : Nat → Bool) : ∀ (n q : Nat), (orb p n).testBit q = (decide (q < n) && p q)
  | 0, q => by simp [orb]
  | n + 1, q => by
    have ih := orb_bit p n q
    show (if p n then _ else _ : Nat).testBit q = _
    by_cases e : q = n
    · subst e
      cases e2 : p q
      · rw [if_neg (by decide), ih]; simp
      · rw [if_pos rfl, Nat.testBit_or, Nat.testBit_two_pow_self]; simp
    · have h2 : (2 ^ n).testBit q = false := Nat.testBit_two_pow_of_ne (fun z => e z.symm)
      have h3 : decide (q < n + 1) = decide (q < n) := decide_eq_decide.mpr (by omega)
      cases e2 : p n
      · rw [if_neg (by decide), ih, h3]
      · rw [if_pos rfl, Nat.testBit_or, h2, ih, h3, Bool.or_false]
theorem orb_lt (p : Nat → Bool) {n : Nat} (hn : n ≤ 12) : orb p n < 4096 := Nat.lt_pow_two_of_testBit (n := 12) _ (fun i hi => by rw [orb_bit]; simp; omega)
def frs (hs : HSt) (p : Nat) : Nat := (hs.1.getD p pz).2.1
def awy (hs : HSt) (c p : Nat) : Bool := !decide (dg (pks hs.1) c p = frs hs p)
def awm (hs : HSt) (c : Nat) : Nat := orb (awy hs c) hs.1.length
def dgS (hs : HSt) (c S q : Nat) : Nat := if S.testBit q then frs hs q else dg (pks hs.1) c q
def rlS (hs : HSt) (c S p : Nat) : Bool := decide ((hs.1.getD p pz).2.2.1 = -1) || decide (nI (dgS hs c S (xN (hs.1.getD p pz).2.2.1)) = (hs.1.getD p pz).2.2.2.1)
def OrdB (hs : HSt) (c : Nat) : Nat → List Nat → Prop
  | S, [] => S = awm hs c
  | S, p :: t => p < hs.1.length ∧ awy hs c p = true ∧ S.testBit p = false ∧ rlS hs c S p = true ∧ OrdB hs c (S ||| 2 ^ p) t
def WkP (hs : HSt) (c S : Nat) : Prop := ∃ ps, OrdB hs c S ps
noncomputable def wkb (hs : HSt) (c S : Nat) : Bool := @decide (WkP hs c S) (Classical.propDecidable _)
theorem wkb_iff {hs : HSt} {c S : Nat} : wkb hs c S = true ↔ WkP hs c S := by unfold wkb; exact @decide_eq_true_iff _ (Classical.propDecidable _)
theorem wkb_f {hs : HSt} {c S : Nat} (h : ¬ WkP hs c S) : wkb hs c S = false := by
  cases e : wkb hs c S
  · rfl
  · exact absurd (wkb_iff.mp e) h
noncomputable def cnd (hs : HSt) (c S p : Nat) : Bool := awy hs c p && !S.testBit p && rlS hs c S p && wkb hs c (S ||| 2 ^ p)
noncomputable def wkq (hs : HSt) (c S i : Nat) : Bool := decide (S = awm hs c) || (List.range i).any (cnd hs c S)
theorem wkq_s {hs : HSt} {c S i : Nat} : wkq hs c S (i + 1) = (wkq hs c S i || cnd hs c S i) := by unfold wkq; rw [List.range_succ, List.any_append, ← Bool.or_assoc]; simp
theorem wkq_le {hs : HSt} {c S i : Nat} (hi : i ≤ hs.1.length) (h : wkq hs c S i = true) : wkb hs c S = true := by
  unfold wkq at h
  simp only [Bool.or_eq_true, decide_eq_true_eq, List.any_eq_true, List.mem_range] at h
  rcases h with q | ⟨p, h1, h2⟩
  · exact wkb_iff.mpr ⟨[], q⟩
  · unfold cnd at h2
    simp only [Bool.and_eq_true, Bool.not_eq_true'] at h2
    obtain ⟨ps, hps⟩ := wkb_iff.mp h2.2
    exact wkb_iff.mpr ⟨p :: ps, by omega, h2.1.1.1, h2.1.1.2, h2.1.2, hps⟩
theorem wkq_all {hs : HSt} {c S : Nat} (h : wkb hs c S = true) : wkq hs c S hs.1.length = true := by
  obtain ⟨ps, hps⟩ := wkb_iff.mp h
  unfold wkq
  simp only [Bool.or_eq_true, decide_eq_true_eq, List.any_eq_true, List.mem_range]
  cases ps with
  | nil => exact Or.inl hps
  | cons p t =>
    obtain ⟨h1, h2, h3, h4, h5⟩ := hps
    refine Or.inr ⟨p, h1, ?_⟩
    unfold cnd
    rw [h2, h3, h4, wkb_iff.mpr ⟨t, h5⟩]; rfl
theorem ord_sub {hs : HSt} {c : Nat} : ∀ {ps : List Nat} {S : Nat}, OrdB hs c S ps → ∀ q, S.testBit q = true → (awm hs c).testBit q = true
  | [], S, h, q, hq => by rw [← (show S = awm hs c from h)]; exact hq
  | p :: t, S, h, q, hq => ord_sub h.2.2.2.2 q (by rw [Nat.testBit_or, hq]; rfl)
theorem wk_sub {hs : HSt} {c S : Nat} (h : wkb hs c S = true) : ∀ q, S.testBit q = true → (awm hs c).testBit q = true := by
  obtain ⟨ps, hps⟩ := wkb_iff.mp h
  exact ord_sub hps
theorem wkq_nsub {hs : HSt} {c S : Nat} (h : ¬ ∀ q, S.testBit q = true → (awm hs c).testBit q = true) (i : Nat) (hi : i ≤ hs.1.length) : wkq hs c S i = false ∧ wkb hs c S = false := by
  have hb : wkb hs c S = false := by
    cases e : wkb hs c S
    · rfl
    · exact absurd (wk_sub e) h
  refine ⟨?_, hb⟩
  cases e : wkq hs c S i
  · rfl
  · rw [wkq_le hi e] at hb; cases hb
theorem nI_and (a b : Nat) (ha : a < 2 ^ 31) (hb : b < 2 ^ 31) : nI a &&& nI b = nI (a &&& b) := by
  apply Int32.toBitVec_inj.mp
  rw [Int32.toBitVec_and]
  apply BitVec.eq_of_toNat_eq
  rw [BitVec.toNat_and, pk_tn (by omega), pk_tn (by omega), pk_tn (by have := Nat.and_le_left (n := a) (m := b); omega)]
theorem andn_0 {x y : Int32} : x &&& (y ^^^ (-1)) = 0 ↔ x &&& y = x := by
  rw [← Int32.toBitVec_inj, ← Int32.toBitVec_inj, Int32.toBitVec_and, Int32.toBitVec_and, Int32.toBitVec_xor]
  have e1 : (-1 : Int32).toBitVec = BitVec.allOnes 32 := by decide
  have e0 : (0 : Int32).toBitVec = 0#32 := by decide
  rw [e1, e0]
  generalize x.toBitVec = u
  generalize y.toBitVec = v
  constructor
  · intro h
    apply BitVec.eq_of_getLsbD_eq
    intro i hi
    have := congrArg (fun z => z.getLsbD i) h
    simp only [BitVec.getLsbD_and, BitVec.getLsbD_xor, BitVec.getLsbD_allOnes, hi, decide_true, BitVec.getLsbD_zero] at this
    rw [BitVec.getLsbD_and]
    cases h1 : u.getLsbD i <;> cases h2 : v.getLsbD i <;> simp_all
  · intro h
    apply BitVec.eq_of_getLsbD_eq
    intro i hi
    have := congrArg (fun z => z.getLsbD i) h
    simp only [BitVec.getLsbD_and] at this
    simp only [BitVec.getLsbD_and, BitVec.getLsbD_xor, BitVec.getLsbD_allOnes, hi, decide_true, BitVec.getLsbD_zero]
    cases h1 : u.getLsbD i <;> cases h2 : v.getLsbD i <;> simp_all
theorem andn_sub {m b : Nat} (hm : m < 4096) (hb : b < 4096) : nI m &&& (nI b ^^^ (-1)) = 0 ↔ ∀ q, m.testBit q = true → b.testBit q = true := by
  rw [andn_0, nI_and _ _ (by omega) (by omega), nI_eq (by have := Nat.and_le_left (n := m) (m := b); omega) (by omega)]
  constructor
  · intro h q hq
    rw [← h, Nat.testBit_and] at hq
    simp only [Bool.and_eq_true] at hq
    exact hq.2
  · intro h
    apply Nat.eq_of_testBit_eq
    intro q
    rw [Nat.testBit_and]
    cases e : m.testBit q
    · rfl
    · rw [h q e]; rfl
theorem or_gt {S p : Nat} (h : S.testBit p = false) : S < S ||| 2 ^ p := by
  have h1 : S ≤ S ||| 2 ^ p := Nat.left_le_or
  rcases Nat.lt_or_eq_of_le h1 with q | q
  · exact q
  · have : (S ||| 2 ^ p).testBit p = true := by rw [Nat.testBit_or, Nat.testBit_two_pow_self, Bool.or_true]
    rw [← q, h] at this; cases this
noncomputable def bkF (hs : HSt) (c : Nat) : Nat → Nat → List Nat
  | 0, _ => []
  | n + 1, S => if S = awm hs c then [] else match (List.range hs.1.length).find? (cnd hs c S) with
    | none => []
    | some p => p :: bkF hs c n (S ||| 2 ^ p)
theorem bkF_e {hs : HSt} {c n : Nat} : bkF hs c n (awm hs c) = [] := by
  cases n with
  | zero => rfl
  | succ n => show (if _ then _ else _) = _; rw [if_pos rfl]
theorem bkF_s {hs : HSt} {c n S p : Nat} (h : S ≠ awm hs c) (hp : (List.range hs.1.length).find? (cnd hs c S) = some p) : bkF hs c (n + 1) S = p :: bkF hs c n (S ||| 2 ^ p) := by
  show (if _ then _ else _) = _
  rw [if_neg h]
  show (match (List.range hs.1.length).find? (cnd hs c S) with | none => [] | some p => p :: bkF hs c n (S ||| 2 ^ p)) = _
  rw [hp]
noncomputable def bkA (hs : HSt) (x : Int32) : Int32 := if isC hs x then (if wkb hs (xN x) 0 then nI (bkF hs (xN x) 4096 0).length else -2) else -1
noncomputable def bkX (hs : HSt) (xs : List Int32) (x : Int32) : List Int32 := if isC hs x && wkb hs (xN x) 0 then (bkF hs (xN x) 4096 0).map nI else xs
theorem awm_bit {hs : HSt} {c q : Nat} : (awm hs c).testBit q = (decide (q < hs.1.length) && awy hs c q) := orb_bit _ _ _
set_option maxHeartbeats 4000000 in
set_option maxRecDepth 20000 in
theorem c_Mod_isPutBack {G : aG} {nx : Nat} {h h0 : Nat → Option aC} {a : Nat} {A : Nat → Nat} {sc : Nat → Int32} {ar : Nat → Nat → Int32} (hm : MoF h0 h a A sc ar) {hs : HSt} (hh : MoH sc ar hs) (hv : VH hs) (hx : VX hs) (hw : MoW sc ar hs) {c p S : Nat} (hc : c < hall hs) (hp : p < hs.1.length) (hS : S < 4096) : AMet G m_Mod_isPutBack 1 0 0 [.ref a, .int (nI c), .int (nI p), .int (nI S)] (nx, h) (RV (.int (bI (rlS hs c S p))) (nx, h)) := by
  have hp12 := hv.1.1
  have hs24 := hv.2.1
  have hall2 := hv.2.2.2.2.2.2.2
  refine amet_of pf_Mod_isPutBack (Nat.le_of_ble_eq_true rfl) ?_
  show AW G m_Mod_isPutBack 1 0 0 _ 0 [(0, .ref a), (1, .int (nI c)), (2, .int (nI p)), (3, .int (nI S))] [] (nx, h) 0 0
  refine aw_aload_n (i := 0) d_Mod_isPutBack_0 rfl rfl ?_
  refine mo_get (f := 19) hm d_Mod_isPutBack_1 fl_Mod_56 rfl ?_
  refine aw_iload_n (i := 2) d_Mod_isPutBack_4 rfl rfl ?_
  apply mo_ld (f := 19) (N := 12) hm d_Mod_isPutBack_5 rfl rfl (by decide); omega; exact (hh.2.1 _ hp).2.2.1
  refine aw_istore (lv2 := [(0, _), (1, _), (2, _), (3, _), (4, _)]) d_Mod_isPutBack_6 (by decide) rfl ?_
  refine aw_iload d_Mod_isPutBack_8 rfl ?_
  refine aw_if_lt d_Mod_isPutBack_10 (fun br10_ => ?_) (fun br10_ => ?_)
  · skip
    have hr_ : rlS hs c S p = true := by
      unfold rlS
      rcases (hx p hp).1 with q | ⟨y, s, q1, q2, q3, q4, q5⟩
      · rw [decide_eq_true q]; rfl
      · rw [q4] at br10_; exact absurd br10_ (nI_pos (by omega))
    refine aw_iconst (v := nI 1) d_Mod_isPutBack_49 (by decide) ?_
    refine aw_goto d_Mod_isPutBack_50 ?_
    refine aw_zret d_Mod_isPutBack_54 rfl rfl (Nat.le_refl _) (Nat.le_refl _) ?_
    exact ⟨by rw [hr_]; rfl, rfl⟩
  · skip
    obtain ⟨y, s, hy, hyp, hsy, e4, e5⟩ := (hx p hp).1.resolve_left (fun q => by rw [q] at br10_; exact absurd (by decide) br10_)
    rw [e4]
    have hky := hv.1.k hy
    have hdl := dg_lt c y (by rw [pk_len]; exact hy) hv.1.pos
    rw [pk_at hy] at hdl
    have hne : ¬ (hs.1.getD p pz).2.2.1 = -1 := fun q => by rw [q] at br10_; exact absurd (by decide) br10_
    have hrs : ar 20 p = nI s := ((hh.2.1 _ hp).2.2.2.1 hne).trans e5
    have hrl : rlS hs c S p = decide (dgS hs c S y = s) := by
      unfold rlS
      rw [decide_eq_false hne, e4, e5, xN_nI (by omega), Bool.false_or]
      refine decide_eq_decide.mpr (nI_eq ?_ (by omega))
      unfold dgS frs; split <;> omega
    refine aw_iload_n (i := 3) d_Mod_isPutBack_13 rfl rfl ?_
    refine aw_iload d_Mod_isPutBack_14 rfl ?_
    refine aw_ishr d_Mod_isPutBack_16 ?_
    rw [shr_n (by omega) (by omega)]
    refine aw_iconst (v := nI 1) d_Mod_isPutBack_17 (by decide) ?_
    refine aw_iand d_Mod_isPutBack_18 ?_
    rw [and_1 (Nat.lt_of_le_of_lt (Nat.div_le_self _ _) (by omega))]
    refine aw_iconst (v := nI 1) d_Mod_isPutBack_19 (by decide) ?_
    refine aw_icmpN_ne d_Mod_isPutBack_20 (by omega) (by omega) (fun br20_ => ?_) (fun br20_ => ?_)
    · skip
      have hdS : dgS hs c S y = dg (pks hs.1) c y := by unfold dgS; rw [tb_0.mp br20_]; rfl
      refine aw_aload_n (i := 0) d_Mod_isPutBack_33 rfl rfl ?_
      refine aw_iload_n (i := 1) d_Mod_isPutBack_34 rfl rfl ?_
      refine aw_iload d_Mod_isPutBack_35 rfl ?_
      apply aw_callv_p (c_Mod_stateOf hm.1 hh hw hv (c := c) (i := y) (by omega) hy) d_Mod_isPutBack_37 cl_Mod_212; exact hm.1.1; rfl; rfl; rfl; rfl; decide; exact Nat.le_of_ble_eq_true rfl; exact (Nat.le_refl _); exact (Nat.le_refl _)
      refine aw_aload_n (i := 0) d_Mod_isPutBack_40 rfl rfl ?_
      refine mo_get (f := 20) hm d_Mod_isPutBack_41 fl_Mod_59 rfl ?_
      refine aw_iload_n (i := 2) d_Mod_isPutBack_44 rfl rfl ?_
      apply mo_ld (f := 20) (N := 12) hm d_Mod_isPutBack_45 rfl rfl (by decide); omega; exact hrs
      refine aw_icmpN_ne d_Mod_isPutBack_46 (by omega) (by omega) (fun br46_ => ?_) (fun br46_ => ?_)
      · skip
        have hr_ : rlS hs c S p = false := by rw [hrl, hdS, decide_eq_false br46_]
        refine aw_iconst (v := nI 0) d_Mod_isPutBack_53 (by decide) ?_
        refine aw_zret d_Mod_isPutBack_54 rfl rfl (Nat.le_refl _) (Nat.le_refl _) ?_
        exact ⟨by rw [hr_]; rfl, rfl⟩
      · skip
        have hr_ : rlS hs c S p = true := by rw [hrl, hdS, decide_eq_true br46_]
        refine aw_iconst (v := nI 1) d_Mod_isPutBack_49 (by decide) ?_
        refine aw_goto d_Mod_isPutBack_50 ?_
        refine aw_zret d_Mod_isPutBack_54 rfl rfl (Nat.le_refl _) (Nat.le_refl _) ?_
        exact ⟨by rw [hr_]; rfl, rfl⟩
    · skip
      have hdS : dgS hs c S y = (hs.1.getD y pz).2.1 := by unfold dgS frs; rw [tb_1.mp br20_]; rfl
      refine aw_aload_n (i := 0) d_Mod_isPutBack_23 rfl rfl ?_
      refine mo_get (f := 3) hm d_Mod_isPutBack_24 fl_Mod_13 rfl ?_
      refine aw_iload d_Mod_isPutBack_27 rfl ?_
      apply mo_ld (f := 3) (N := 12) hm d_Mod_isPutBack_29 rfl rfl (by decide); omega; exact (hh.2.1 _ hy).2.1
      refine aw_goto d_Mod_isPutBack_30 ?_
      refine aw_aload_n (i := 0) d_Mod_isPutBack_40 rfl rfl ?_
      refine mo_get (f := 20) hm d_Mod_isPutBack_41 fl_Mod_59 rfl ?_
      refine aw_iload_n (i := 2) d_Mod_isPutBack_44 rfl rfl ?_
      apply mo_ld (f := 20) (N := 12) hm d_Mod_isPutBack_45 rfl rfl (by decide); omega; exact hrs
      refine aw_icmpN_ne d_Mod_isPutBack_46 (by omega) (by omega) (fun br46_ => ?_) (fun br46_ => ?_)
      · skip
        have hr_ : rlS hs c S p = false := by rw [hrl, hdS, decide_eq_false br46_]
        refine aw_iconst (v := nI 0) d_Mod_isPutBack_53 (by decide) ?_
        refine aw_zret d_Mod_isPutBack_54 rfl rfl (Nat.le_refl _) (Nat.le_refl _) ?_
        exact ⟨by rw [hr_]; rfl, rfl⟩
      · skip
        have hr_ : rlS hs c S p = true := by rw [hrl, hdS, decide_eq_true br46_]
        refine aw_iconst (v := nI 1) d_Mod_isPutBack_49 (by decide) ?_
        refine aw_goto d_Mod_isPutBack_50 ?_
        refine aw_zret d_Mod_isPutBack_54 rfl rfl (Nat.le_refl _) (Nat.le_refl _) ?_
        exact ⟨by rw [hr_]; rfl, rfl⟩

set_option maxHeartbeats 4000000 in
set_option maxRecDepth 20000 in
theorem c_Mod_back {G : aG} {nx : Nat} {h h0 : Nat → Option aC} {a : Nat} {A : Nat → Nat} {sc : Nat → Int32} {ar : Nat → Nat → Int32} (hm : MoF h0 h a A sc ar) {hs : HSt} {gs : List GSt} {lg : List (Nat × Nat × Nat)} {xs : List Int32} (hq : MoA sc ar hs gs lg xs) (hv : VH hs) (hx : VX hs) (x : Int32) : AMet G m_Mod_back 6 0 0 [.ref a, .int x] (nx, h) (MR nx a h0 A (fun r sc2 ar2 => r = some (.int (bkA hs x)) ∧ sc2 0 = 0 ∧ MoA sc2 ar2 hs gs lg (bkX hs xs x))) := by
  have hp12 := hv.1.1
  have hs24 := hv.2.1
  have hall2 := hv.2.2.2.2.2.2.2
  have hq0 := hq
  refine amet_of pf_Mod_back (Nat.le_of_ble_eq_true rfl) ?_
  show AW G m_Mod_back 6 0 0 _ 0 [(0, .ref a), (1, .int x)] [] (nx, h) 0 0
  refine aw_aload_n (i := 0) d_Mod_back_0 rfl rfl ?_
  refine aw_iconst (v := nI 0) d_Mod_back_1 (by decide) ?_
  apply mo_put (f := 0) hm d_Mod_back_2 pl_Mod_150 (ms_0 _ _ _) (by decide) rfl rfl; intro h hm
  have hq := hq0.kp (Kp.put (Ls := [0]) (La := []) (f := 0) (x := nI 0) rfl) rfl rfl rfl rfl
  have hh := hq.1
  have hg := hq.2.1
  have hr := hq.2.2.2.1
  refine aw_aload_n (i := 0) d_Mod_back_5 rfl rfl ?_
  refine aw_iload_n (i := 1) d_Mod_back_6 rfl rfl ?_
  apply aw_callv_MI (c_Mod_isCode hm hq hv x) d_Mod_back_7 cl_Mod_265; exact hm.1.1; rfl; rfl; rfl; rfl; decide; exact Nat.le_of_ble_eq_true rfl; exact Nat.le_refl _; exact Nat.le_refl _
  rintro h sc1 ar1 hm ⟨hq, hf, h0_⟩
  have hh := hq.1
  have hw := hf.1
  have hb := hf.2.2.1
  have h29 := hf.2.2.2.1
  have h30 := hf.2.2.2.2
  refine aw_ifB_ne d_Mod_back_10 (fun br10_ => ?_) (fun br10_ => ?_)
  · skip
    obtain ⟨c, hc, rfl, hxc⟩ := isC_ex br10_ hv
    have hf0 := hf
    have hq1 := hq
    have hpow : 2 ^ hs.1.length ≤ 4096 := Nat.pow_le_pow_right (n := 2) (j := 12) (by decide) hp12
    have hawl := orb_lt (awy hs c) hp12
    have hawl2 : awm hs c < 4096 := hawl
    refine aw_iconst (v := nI 0) d_Mod_back_15 (by decide) ?_
    refine aw_istore_n (i := 2) (lv2 := [(0, _), (1, _), (2, _)]) d_Mod_back_16 rfl (by decide) rfl ?_
    refine aw_iconst (v := nI 0) d_Mod_back_17 (by decide) ?_
    refine aw_istore_n (i := 3) (lv2 := [(0, _), (1, _), (2, _), (3, _)]) d_Mod_back_18 rfl (by decide) rfl ?_
    show AW G m_Mod_back 6 0 0 _ 19 [(0, .ref a), (1, .int (nI c)), (2, .int (nI (orb (awy hs c) 0))), (3, .int (nI 0))] [] (nx, h) 0 0
    refine upto (σ := Nat) (fun i => AW G m_Mod_back 6 0 0 _ 19 [(0, .ref a), (1, .int (nI c)), (2, .int (nI (orb (awy hs c) i))), (3, .int (nI i))] [] (nx, h) 0 0) (fun i s => i = s ∧ True) (hs.1.length) ?_ 0 0 (Nat.zero_le _) ⟨rfl, trivial⟩
    intro i s9 hi_i hI_i ih_i
    obtain ⟨rfl, hI_i⟩ := hI_i
    refine aw_iload_n (i := 3) d_Mod_back_19 rfl rfl ?_
    refine aw_aload_n (i := 0) d_Mod_back_20 rfl rfl ?_
    apply mo_gets (f := 1) hm d_Mod_back_21 fl_Mod_153 rfl; exact hh.1.1
    refine aw_icmpN_ge d_Mod_back_24 (by omega) (by omega) (fun br24_ => ?_) (fun br24_ => ?_)
    · skip
      have ei : i = hs.1.length := by omega
      subst ei
      refine aw_iconst (v := 1) d_Mod_back_58 (by decide) ?_
      refine aw_aload_n (i := 0) d_Mod_back_59 rfl rfl ?_
      apply mo_gets (f := 1) hm d_Mod_back_60 fl_Mod_153 rfl; exact hh.1.1
      refine aw_ishl d_Mod_back_63 ?_
      rw [sh_1 (by omega)]
      refine aw_iconst (v := nI 1) d_Mod_back_64 (by decide) ?_
      refine aw_isubN d_Mod_back_65 (Nat.two_pow_pos _) ?_
      refine aw_istore_n (i := 3) (lv2 := [(0, _), (1, _), (2, _), (3, _)]) d_Mod_back_66 rfl (by decide) rfl ?_
      have hpw := Nat.two_pow_pos hs.1.length
      obtain ⟨z9, hz9⟩ : ∃ z, 2 ^ hs.1.length = z + 1 := ⟨2 ^ hs.1.length - 1, by omega⟩
      rw [show nI (2 ^ hs.1.length - 1) = nI (2 ^ hs.1.length) + (-1) from by rw [hz9, pk_m1]; rfl]
      refine mdown (h0 := h0) (a := a) (A := A) (fun n h sc2 ar2 => (Kp [] [43] sc1 ar1 sc2 ar2 ∧ n ≤ 2 ^ hs.1.length ∧ (∀ T, n ≤ T → T < 2 ^ hs.1.length → ar2 43 T = bI (wkb hs c T))) → AW G m_Mod_back 6 0 0 _ 67 [(0, .ref a), (1, .int (nI c)), (2, .int (nI (awm hs c))), (3, .int (nI n + (-1)))] [] (nx, h) 0 0) (fun _ _ _ => True) ?_ (2 ^ hs.1.length) _ _ _ hm trivial ⟨Kp.rf, Nat.le_refl _, fun T h1 h2 => by omega⟩
      intro n h sc2 ar2 hm _ ih2 hI
      obtain ⟨hK, hn, hT⟩ := hI
      have hf := hf0.kp hK rfl rfl
      have hw := hf.1
      have hh := hq1.1.kp hK rfl rfl
      refine aw_iload_n (i := 3) d_Mod_back_67 rfl rfl ?_
      refine aw_if_lt d_Mod_back_68 (fun br68_ => ?_) (fun br68_ => ?_)
      · skip
        have en : n = 0 := by
          cases n with
          | zero => rfl
          | succ z => rw [pk_m1] at br68_; exact absurd br68_ (nI_pos (by omega))
        subst en
        refine aw_drop (lv2 := [(0, _), (1, _), (2, _)]) [0, 1, 2] rfl ?_
        have hw0 := hT 0 (Nat.le_refl _) (Nat.two_pow_pos _)
        refine aw_aload_n (i := 0) d_Mod_back_175 rfl rfl ?_
        refine mo_get (f := 43) hm d_Mod_back_176 fl_Mod_120 rfl ?_
        refine aw_iconst (v := nI 0) d_Mod_back_179 (by decide) ?_
        apply mo_ld (f := 43) (N := 4096) hm d_Mod_back_180 rfl rfl (by decide); omega; exact hw0
        refine aw_ifB_ne d_Mod_back_181 (fun br181_ => ?_) (fun br181_ => ?_)
        · skip
          refine aw_aload_n (i := 0) d_Mod_back_187 rfl rfl ?_
          refine aw_iconst (v := nI 0) d_Mod_back_188 (by decide) ?_
          apply mo_put (f := 39) hm d_Mod_back_189 pl_Mod_203 (ms_39 _ _ _) (by decide) rfl rfl; intro h hm
          refine aw_iconst (v := nI 0) d_Mod_back_192 (by decide) ?_
          refine aw_istore_n (i := 3) (lv2 := [(0, _), (1, _), (2, _), (3, _)]) d_Mod_back_193 rfl (by decide) rfl ?_
          refine mdown (h0 := h0) (a := a) (A := A) (fun m h sc3 ar3 => ∀ (S : Nat) (pre : List Nat), Kp [39] [38, 43] sc1 ar1 sc3 ar3 ∧ (∀ T, 0 ≤ T → T < 2 ^ hs.1.length → ar3 43 T = bI (wkb hs c T)) ∧ MoR sc3 ar3 (pre.map nI) ∧ pre.length ≤ S ∧ S < 4096 ∧ wkb hs c S = true ∧ (∃ f, bkF hs c 4096 0 = pre ++ bkF hs c f S ∧ 4096 ≤ f + S) ∧ m = 4096 - S → AW G m_Mod_back 6 0 0 _ 194 [(0, .ref a), (1, .int (nI c)), (2, .int (nI (awm hs c))), (3, .int (nI S))] [] (nx, h) 0 0) (fun _ _ _ => True) ?_ (4096) _ _ _ hm trivial 0 [] ⟨(hK.up (by decide) (by decide)).tr (Kp.put rfl), fun T h1 h2 => hT T h1 h2, ⟨rfl, Nat.zero_le _, fun k hk => absurd hk (Nat.not_lt_zero _)⟩, Nat.zero_le _, by decide, br181_, ⟨4096, rfl, Nat.le_refl _⟩, rfl⟩
          intro m h sc3 ar3 hm _ ih4 S pre hI
          obtain ⟨hK, hT, hR, hpS, hS, hwS, ⟨fu, hfu, hfu2⟩, hme⟩ := hI
          have hf := hf0.kp hK rfl rfl
          have hw := hf.1
          have hh := hq1.1.kp hK rfl rfl
          refine aw_iload_n (i := 3) d_Mod_back_194 rfl rfl ?_
          refine aw_iload_n (i := 2) d_Mod_back_195 rfl rfl ?_
          refine aw_icmpN_eq d_Mod_back_196 (by omega) (by omega) (fun br196_ => ?_) (fun br196_ => ?_)
          · skip
            have hfin : bkF hs c 4096 0 = pre := by rw [hfu, br196_, bkF_e, List.append_nil]
            refine aw_aload_n (i := 0) d_Mod_back_268 rfl rfl ?_
            apply mo_gets (f := 39) hm d_Mod_back_269 fl_Mod_203 rfl; exact hR.1
            refine aw_iret d_Mod_back_272 rfl (Nat.le_refl _) (Nat.le_refl _) ?_
            have hqq := hq1.kpR hR hK rfl rfl
            exact ⟨_, _, _, rfl, hm, by unfold bkA; rw [br10_, hxc, show wkb hs c 0 = true from br181_, hfin, List.length_map]; rfl, (hK.1 0 rfl).trans (h0_.trans rfl), by unfold bkX; rw [br10_, hxc, show wkb hs c 0 = true from br181_, hfin]; exact hqq⟩
          · skip
            obtain ⟨p0, hp0l, hp0⟩ : ∃ p, p < hs.1.length ∧ cnd hs c S p = true := by
              have := wkq_all hwS
              unfold wkq at this
              rw [decide_eq_false br196_, Bool.false_or] at this
              obtain ⟨p, q1, q2⟩ := List.any_eq_true.mp this
              exact ⟨p, List.mem_range.mp q1, q2⟩
            have hSl : S < 2 ^ hs.1.length := Nat.lt_pow_two_of_testBit _ (fun i hi => by
              cases e : S.testBit i
              · rfl
              · have := wk_sub hwS i e
                rw [awm_bit] at this
                simp at this; omega)
            refine aw_iconst (v := nI 0) d_Mod_back_199 (by decide) ?_
            refine aw_istore (lv2 := [(0, _), (1, _), (2, _), (3, _), (4, _)]) d_Mod_back_200 (by decide) rfl ?_
            refine upto (σ := Nat) (fun p => AW G m_Mod_back 6 0 0 _ 202 [(0, .ref a), (1, .int (nI c)), (2, .int (nI (awm hs c))), (3, .int (nI S)), (4, .int (nI p))] [] (nx, h) 0 0) (fun p s => p = s ∧ ∀ k, k < p → cnd hs c S k = false) hs.1.length ?_ 0 0 (Nat.zero_le _) ⟨rfl, fun k hk => absurd hk (Nat.not_lt_zero _)⟩
            intro p s9 hi_p hI_p ih_p
            obtain ⟨rfl, hI_p⟩ := hI_p
            have hpl : p < hs.1.length := Nat.lt_of_le_of_ne hi_p (fun e => by rw [hI_p p0 (by omega)] at hp0; cases hp0)
            refine aw_iload_n (i := 2) d_Mod_back_202 rfl rfl ?_
            refine aw_iload d_Mod_back_203 rfl ?_
            refine aw_ishr d_Mod_back_205 ?_
            rw [shr_n (by omega) (by omega)]
            refine aw_iconst (v := nI 1) d_Mod_back_206 (by decide) ?_
            refine aw_iand d_Mod_back_207 ?_
            rw [and_1 (Nat.lt_of_le_of_lt (Nat.div_le_self _ _) (by omega))]
            refine aw_ifN_eq d_Mod_back_208 (by omega) (fun br208_ => ?_) (fun br208_ => ?_)
            · skip
              have hno : cnd hs c S p = false := by unfold cnd; rw [show awy hs c p = false from by have := awm_bit (hs := hs) (c := c) (q := p); rw [tb_0.mp (show ¬ awm hs c / 2 ^ p % 2 = 1 by omega), decide_eq_true hpl] at this; simpa using this.symm]; rfl
              refine aw_iincN (lv2 := [(0, _), (1, _), (2, _), (3, _), (4, _)]) d_Mod_back_246 (by decide) rfl rfl ?_
              refine aw_goto d_Mod_back_249 ?_
              exact ih_p hpl (p + 1) ⟨rfl, fun k hk => by
                by_cases e : k = p
                · subst e; exact hno
                · exact hI_p k (by omega)⟩
            · skip
              have haw : awy hs c p = true := by have := awm_bit (hs := hs) (c := c) (q := p); rw [tb_1.mp (show awm hs c / 2 ^ p % 2 = 1 by omega), decide_eq_true hpl] at this; simpa using this.symm
              refine aw_iload_n (i := 3) d_Mod_back_211 rfl rfl ?_
              refine aw_iload d_Mod_back_212 rfl ?_
              refine aw_ishr d_Mod_back_214 ?_
              rw [shr_n (by omega) (by omega)]
              refine aw_iconst (v := nI 1) d_Mod_back_215 (by decide) ?_
              refine aw_iand d_Mod_back_216 ?_
              rw [and_1 (Nat.lt_of_le_of_lt (Nat.div_le_self _ _) (by omega))]
              refine aw_iconst (v := nI 1) d_Mod_back_217 (by decide) ?_
              refine aw_icmpN_eq d_Mod_back_218 (by omega) (by omega) (fun br218_ => ?_) (fun br218_ => ?_)
              · skip
                have hno : cnd hs c S p = false := by unfold cnd; rw [tb_1.mp br218_]; simp
                refine aw_iincN (lv2 := [(0, _), (1, _), (2, _), (3, _), (4, _)]) d_Mod_back_246 (by decide) rfl rfl ?_
                refine aw_goto d_Mod_back_249 ?_
                exact ih_p hpl (p + 1) ⟨rfl, fun k hk => by
                  by_cases e : k = p
                  · subst e; exact hno
                  · exact hI_p k (by omega)⟩
              · skip
                have hbm := tb_0.mp br218_
                have hgt := or_gt hbm
                have hoL : S ||| 2 ^ p < 2 ^ hs.1.length := Nat.or_lt_two_pow hSl (Nat.pow_lt_pow_right (by decide) hpl)
                refine aw_aload_n (i := 0) d_Mod_back_221 rfl rfl ?_
                refine aw_iload_n (i := 1) d_Mod_back_222 rfl rfl ?_
                refine aw_iload d_Mod_back_223 rfl ?_
                refine aw_iload_n (i := 3) d_Mod_back_225 rfl rfl ?_
                apply aw_callv_p (c_Mod_isPutBack hm hh hv hx hw (c := c) (p := p) (S := S) hc hpl hS) d_Mod_back_226 cl_Mod_292; exact hm.1.1; rfl; rfl; rfl; rfl; decide; exact Nat.le_of_ble_eq_true rfl; exact (Nat.le_refl _); exact (Nat.le_refl _)
                refine aw_ifB_eq d_Mod_back_229 (fun br229_ => ?_) (fun br229_ => ?_)
                · skip
                  have hno : cnd hs c S p = false := by unfold cnd; rw [br229_]; simp
                  refine aw_iincN (lv2 := [(0, _), (1, _), (2, _), (3, _), (4, _)]) d_Mod_back_246 (by decide) rfl rfl ?_
                  refine aw_goto d_Mod_back_249 ?_
                  exact ih_p hpl (p + 1) ⟨rfl, fun k hk => by
                    by_cases e : k = p
                    · subst e; exact hno
                    · exact hI_p k (by omega)⟩
                · skip
                  refine aw_aload_n (i := 0) d_Mod_back_232 rfl rfl ?_
                  refine mo_get (f := 43) hm d_Mod_back_233 fl_Mod_120 rfl ?_
                  refine aw_iload_n (i := 3) d_Mod_back_236 rfl rfl ?_
                  refine aw_iconst (v := 1) d_Mod_back_237 (by decide) ?_
                  refine aw_iload d_Mod_back_238 rfl ?_
                  refine aw_ishl d_Mod_back_240 ?_
                  rw [sh_1 (by omega)]
                  refine aw_ior d_Mod_back_241 ?_
                  rw [fa_or]
                  apply mo_ld (f := 43) (N := 4096) hm d_Mod_back_242 rfl rfl (by decide); omega; exact hT _ (Nat.zero_le _) hoL
                  refine aw_ifB_ne d_Mod_back_243 (fun br243_ => ?_) (fun br243_ => ?_)
                  · skip
                    have hyes : cnd hs c S p = true := by unfold cnd; rw [haw, hbm, br229_, br243_]; rfl
                    have hfd := find_rng hpl hI_p hyes
                    refine aw_aload_n (i := 0) d_Mod_back_252 rfl rfl ?_
                    refine aw_iload d_Mod_back_253 rfl ?_
                    apply aw_callv_M0 (c_Mod_tells hm hR (by simp; omega) (nI p)) d_Mod_back_255 cl_Mod_275; exact hm.1.1; rfl; rfl; rfl; rfl; decide; exact Nat.le_of_ble_eq_true rfl; exact Nat.le_refl _; exact Nat.le_refl _
                    rintro h sc4 ar4 hm ⟨hR4, hK4⟩
                    refine aw_iload_n (i := 3) d_Mod_back_258 rfl rfl ?_
                    refine aw_iconst (v := 1) d_Mod_back_259 (by decide) ?_
                    refine aw_iload d_Mod_back_260 rfl ?_
                    refine aw_ishl d_Mod_back_262 ?_
                    rw [sh_1 (by omega)]
                    refine aw_ior d_Mod_back_263 ?_
                    rw [fa_or]
                    refine aw_istore_n (i := 3) (lv2 := [(0, _), (1, _), (2, _), (3, _), (4, _)]) d_Mod_back_264 rfl (by decide) rfl ?_
                    refine aw_goto d_Mod_back_265 ?_
                    refine aw_drop (lv2 := [(0, _), (1, _), (2, _), (3, _)]) [0, 1, 2, 3] rfl ?_
                    refine ih4 (4096 - (S ||| 2 ^ p)) _ _ _ (by omega) hm trivial (S ||| 2 ^ p) (pre ++ [p]) ⟨hK.tr (hK4.up (by decide) (by decide)), fun T h1 h2 => (congrFun (hK4.2 43 rfl) _).trans (hT T h1 h2), by rw [List.map_append]; exact hR4, by simp; omega, by omega, br243_, ?_, rfl⟩
                    obtain ⟨f, rfl⟩ : ∃ k, fu = k + 1 := ⟨fu - 1, by omega⟩
                    exact ⟨f, by rw [hfu, bkF_s br196_ hfd]; simp, by omega⟩
                  · skip
                    have hno : cnd hs c S p = false := by unfold cnd; rw [br243_, Bool.and_false]
                    refine aw_iincN (lv2 := [(0, _), (1, _), (2, _), (3, _), (4, _)]) d_Mod_back_246 (by decide) rfl rfl ?_
                    refine aw_goto d_Mod_back_249 ?_
                    exact ih_p hpl (p + 1) ⟨rfl, fun k hk => by
                      by_cases e : k = p
                      · subst e; exact hno
                      · exact hI_p k (by omega)⟩
        · skip
          refine aw_bipush (v := -2) d_Mod_back_184 (by decide) ?_
          refine aw_iret d_Mod_back_186 rfl (Nat.le_refl _) (Nat.le_refl _) ?_
          exact ⟨_, _, _, rfl, hm, by unfold bkA; rw [br10_, hxc, br181_]; rfl, (hK.1 0 rfl).trans (h0_.trans rfl), by unfold bkX; rw [hxc, br181_, Bool.and_false]; exact hq1.kp hK rfl rfl rfl rfl⟩
      · skip
        obtain ⟨m, rfl⟩ : ∃ m, n = m + 1 := by
          cases n with
          | zero => exact absurd (by decide) br68_
          | succ z => exact ⟨z, rfl⟩
        rw [pk_m1]
        refine aw_aload_n (i := 0) d_Mod_back_71 rfl rfl ?_
        refine mo_get (f := 43) hm d_Mod_back_72 fl_Mod_120 rfl ?_
        refine aw_iload_n (i := 3) d_Mod_back_75 rfl rfl ?_
        refine aw_iload_n (i := 3) d_Mod_back_76 rfl rfl ?_
        refine aw_iload_n (i := 2) d_Mod_back_77 rfl rfl ?_
        refine aw_icmpN_ne d_Mod_back_78 (by omega) (by omega) (fun br78_ => ?_) (fun br78_ => ?_)
        · skip
          have he_ : nI 0 = bI (wkq hs c m 0) := by unfold wkq; rw [decide_eq_false br78_]; rfl
          refine aw_iconst (v := nI 0) d_Mod_back_85 (by decide) ?_
          apply mo_st (f := 43) (N := 4096) hm d_Mod_back_86 rfl rfl (by decide); omega; intro h hm
          refine aw_iconst (v := nI 0) d_Mod_back_87 (by decide) ?_
          refine aw_istore (lv2 := [(0, _), (1, _), (2, _), (3, _), (4, _)]) d_Mod_back_88 (by decide) rfl ?_
          refine mloop (h0 := h0) (a := a) (A := A) (hs.1.length) (fun i h sc3 ar3 => AW G m_Mod_back 6 0 0 _ 90 [(0, .ref a), (1, .int (nI c)), (2, .int (nI (awm hs c))), (3, .int (nI m)), (4, .int (nI i))] [] (nx, h) 0 0) (fun i sc3 ar3 => Kp [] [43] sc1 ar1 sc3 ar3 ∧ (∀ T, m + 1 ≤ T → T < 2 ^ hs.1.length → ar3 43 T = bI (wkb hs c T)) ∧ ar3 43 m = bI (wkq hs c m i)) ?_ 0 _ _ _ (Nat.zero_le _) hm ⟨hK.tr (Kp.st rfl), fun T h1 h2 => by show upd (ar2 43) m _ T = _; rw [pk_un (by omega)]; exact hT T h1 h2, by show upd (ar2 43) m _ m = _; rw [pk_us]; exact he_⟩
          intro i h sc3 ar3 hi_i hm hJ ih3
          obtain ⟨hK, hT, hwm⟩ := hJ
          have hf := hf0.kp hK rfl rfl
          have hw := hf.1
          have hh := hq1.1.kp hK rfl rfl
          refine aw_iload d_Mod_back_90 rfl ?_
          refine aw_aload_n (i := 0) d_Mod_back_92 rfl rfl ?_
          apply mo_gets (f := 1) hm d_Mod_back_93 fl_Mod_153 rfl; exact hh.1.1
          refine aw_icmpN_ge d_Mod_back_96 (by omega) (by omega) (fun br96_ => ?_) (fun br96_ => ?_)
          · skip
            have ei : i = hs.1.length := by omega
            subst ei
            have hfin : wkq hs c m hs.1.length = wkb hs c m := by
              cases e : wkb hs c m
              · cases e2 : wkq hs c m hs.1.length
                · rfl
                · rw [wkq_le (Nat.le_refl _) e2] at e; cases e
              · exact wkq_all e
            refine aw_iinc (v := _ + (-1)) (lv2 := [(0, _), (1, _), (2, _), (3, _), (4, _)]) d_Mod_back_169 (by decide) rfl rfl rfl ?_
            refine aw_goto d_Mod_back_172 ?_
            refine aw_drop (lv2 := [(0, _), (1, _), (2, _), (3, _)]) [0, 1, 2, 3] rfl ?_
            exact ih2 m _ _ _ (by omega) hm trivial ⟨hK, by omega, fun T h1 h2 => by
              by_cases e : T = m
              · subst e; rw [hwm, hfin]
              · exact hT T (by omega) h2⟩
          · skip
            refine aw_iload_n (i := 3) d_Mod_back_99 rfl rfl ?_
            refine aw_iload_n (i := 2) d_Mod_back_100 rfl rfl ?_
            refine aw_iconst (v := -1) d_Mod_back_101 (by decide) ?_
            refine aw_ixor d_Mod_back_102 ?_
            refine aw_iand d_Mod_back_103 ?_
            refine aw_if_ne d_Mod_back_104 (fun br104_ => ?_) (fun br104_ => ?_)
            · skip
              have hfin : wkq hs c m i = wkb hs c m := by
                have := wkq_nsub (fun q => br104_ ((andn_sub (by omega) hawl2).mpr q)) i hi_i
                rw [this.1, this.2]
              refine aw_iinc (v := _ + (-1)) (lv2 := [(0, _), (1, _), (2, _), (3, _), (4, _)]) d_Mod_back_169 (by decide) rfl rfl rfl ?_
              refine aw_goto d_Mod_back_172 ?_
              refine aw_drop (lv2 := [(0, _), (1, _), (2, _), (3, _)]) [0, 1, 2, 3] rfl ?_
              exact ih2 m _ _ _ (by omega) hm trivial ⟨hK, by omega, fun T h1 h2 => by
                by_cases e : T = m
                · subst e; rw [hwm, hfin]
                · exact hT T (by omega) h2⟩
            · skip
              refine aw_aload_n (i := 0) d_Mod_back_107 rfl rfl ?_
              refine mo_get (f := 43) hm d_Mod_back_108 fl_Mod_120 rfl ?_
              refine aw_iload_n (i := 3) d_Mod_back_111 rfl rfl ?_
              apply mo_ld (f := 43) (N := 4096) hm d_Mod_back_112 rfl rfl (by decide); omega; exact hwm
              refine aw_ifB_ne d_Mod_back_113 (fun br113_ => ?_) (fun br113_ => ?_)
              · skip
                have hfin : wkq hs c m i = wkb hs c m := by rw [br113_, wkq_le hi_i br113_]
                refine aw_iinc (v := _ + (-1)) (lv2 := [(0, _), (1, _), (2, _), (3, _), (4, _)]) d_Mod_back_169 (by decide) rfl rfl rfl ?_
                refine aw_goto d_Mod_back_172 ?_
                refine aw_drop (lv2 := [(0, _), (1, _), (2, _), (3, _)]) [0, 1, 2, 3] rfl ?_
                exact ih2 m _ _ _ (by omega) hm trivial ⟨hK, by omega, fun T h1 h2 => by
                  by_cases e : T = m
                  · subst e; rw [hwm, hfin]
                  · exact hT T (by omega) h2⟩
              · skip
                refine aw_iload_n (i := 2) d_Mod_back_116 rfl rfl ?_
                refine aw_iload d_Mod_back_117 rfl ?_
                refine aw_ishr d_Mod_back_119 ?_
                rw [shr_n (by omega) (by omega)]
                refine aw_iconst (v := nI 1) d_Mod_back_120 (by decide) ?_
                refine aw_iand d_Mod_back_121 ?_
                rw [and_1 (Nat.lt_of_le_of_lt (Nat.div_le_self _ _) (by omega))]
                refine aw_iconst (v := nI 1) d_Mod_back_122 (by decide) ?_
                refine aw_icmpN_ne d_Mod_back_123 (by omega) (by omega) (fun br123_ => ?_) (fun br123_ => ?_)
                · skip
                  have hst : wkq hs c m (i + 1) = wkq hs c m i := by rw [wkq_s]; unfold cnd; rw [show awy hs c i = false from by have := awm_bit (hs := hs) (c := c) (q := i); rw [tb_0.mp br123_, decide_eq_true br96_] at this; simpa using this.symm]; simp
                  refine aw_iincN (lv2 := [(0, _), (1, _), (2, _), (3, _), (4, _)]) d_Mod_back_163 (by decide) rfl rfl ?_
                  refine aw_goto d_Mod_back_166 ?_
                  exact ih3 br96_ _ _ _ hm ⟨hK, hT, by rw [hst]; exact hwm⟩
                · skip
                  have haw : awy hs c i = true := by have := awm_bit (hs := hs) (c := c) (q := i); rw [tb_1.mp br123_, decide_eq_true br96_] at this; simpa using this.symm
                  refine aw_iload_n (i := 3) d_Mod_back_126 rfl rfl ?_
                  refine aw_iload d_Mod_back_127 rfl ?_
                  refine aw_ishr d_Mod_back_129 ?_
                  rw [shr_n (by omega) (by omega)]
                  refine aw_iconst (v := nI 1) d_Mod_back_130 (by decide) ?_
                  refine aw_iand d_Mod_back_131 ?_
                  rw [and_1 (Nat.lt_of_le_of_lt (Nat.div_le_self _ _) (by omega))]
                  refine aw_ifN_ne d_Mod_back_132 (by omega) (fun br132_ => ?_) (fun br132_ => ?_)
                  · skip
                    have hst : wkq hs c m (i + 1) = wkq hs c m i := by rw [wkq_s]; unfold cnd; rw [tb_1.mp (show m / 2 ^ i % 2 = 1 by omega)]; simp
                    refine aw_iincN (lv2 := [(0, _), (1, _), (2, _), (3, _), (4, _)]) d_Mod_back_163 (by decide) rfl rfl ?_
                    refine aw_goto d_Mod_back_166 ?_
                    exact ih3 br96_ _ _ _ hm ⟨hK, hT, by rw [hst]; exact hwm⟩
                  · skip
                    have hbm : m.testBit i = false := tb_0.mp (show ¬ m / 2 ^ i % 2 = 1 by omega)
                    have hgt := or_gt hbm
                    have hoL : m ||| 2 ^ i < 2 ^ hs.1.length := Nat.or_lt_two_pow (by omega) (Nat.pow_lt_pow_right (by decide) br96_)
                    refine aw_aload_n (i := 0) d_Mod_back_135 rfl rfl ?_
                    refine aw_iload_n (i := 1) d_Mod_back_136 rfl rfl ?_
                    refine aw_iload d_Mod_back_137 rfl ?_
                    refine aw_iload_n (i := 3) d_Mod_back_139 rfl rfl ?_
                    apply aw_callv_p (c_Mod_isPutBack hm hh hv hx hw (c := c) (p := i) (S := m) hc br96_ (by omega)) d_Mod_back_140 cl_Mod_292; exact hm.1.1; rfl; rfl; rfl; rfl; decide; exact Nat.le_of_ble_eq_true rfl; exact (Nat.le_refl _); exact (Nat.le_refl _)
                    refine aw_ifB_eq d_Mod_back_143 (fun br143_ => ?_) (fun br143_ => ?_)
                    · skip
                      have hst : wkq hs c m (i + 1) = wkq hs c m i := by rw [wkq_s]; unfold cnd; rw [br143_]; simp
                      refine aw_iincN (lv2 := [(0, _), (1, _), (2, _), (3, _), (4, _)]) d_Mod_back_163 (by decide) rfl rfl ?_
                      refine aw_goto d_Mod_back_166 ?_
                      exact ih3 br96_ _ _ _ hm ⟨hK, hT, by rw [hst]; exact hwm⟩
                    · skip
                      have hst : wkq hs c m (i + 1) = wkb hs c (m ||| 2 ^ i) := by rw [wkq_s, br113_]; unfold cnd; rw [haw, hbm, br143_]; rfl
                      refine aw_aload_n (i := 0) d_Mod_back_146 rfl rfl ?_
                      refine mo_get (f := 43) hm d_Mod_back_147 fl_Mod_120 rfl ?_
                      refine aw_iload_n (i := 3) d_Mod_back_150 rfl rfl ?_
                      refine aw_aload_n (i := 0) d_Mod_back_151 rfl rfl ?_
                      refine mo_get (f := 43) hm d_Mod_back_152 fl_Mod_120 rfl ?_
                      refine aw_iload_n (i := 3) d_Mod_back_155 rfl rfl ?_
                      refine aw_iconst (v := 1) d_Mod_back_156 (by decide) ?_
                      refine aw_iload d_Mod_back_157 rfl ?_
                      refine aw_ishl d_Mod_back_159 ?_
                      rw [sh_1 (by omega)]
                      refine aw_ior d_Mod_back_160 ?_
                      rw [fa_or]
                      apply mo_ld (f := 43) (N := 4096) hm d_Mod_back_161 rfl rfl (by decide); omega; exact hT _ (by omega) hoL
                      apply mo_st (f := 43) (N := 4096) hm d_Mod_back_162 rfl rfl (by decide); omega; intro h hm
                      refine aw_iincN (lv2 := [(0, _), (1, _), (2, _), (3, _), (4, _)]) d_Mod_back_163 (by decide) rfl rfl ?_
                      refine aw_goto d_Mod_back_166 ?_
                      refine ih3 br96_ _ _ _ hm ⟨hK.tr (Kp.st rfl), fun T h1 h2 => ?_, ?_⟩
                      · show upd (ar3 43) m _ T = _; rw [pk_un (by omega)]; exact hT T h1 h2
                      · show upd (ar3 43) m _ m = _; rw [pk_us, hst]
        · skip
          have he_ : nI 1 = bI (wkq hs c m 0) := by unfold wkq; rw [decide_eq_true br78_]; rfl
          refine aw_iconst (v := nI 1) d_Mod_back_81 (by decide) ?_
          refine aw_goto d_Mod_back_82 ?_
          apply mo_st (f := 43) (N := 4096) hm d_Mod_back_86 rfl rfl (by decide); omega; intro h hm
          refine aw_iconst (v := nI 0) d_Mod_back_87 (by decide) ?_
          refine aw_istore (lv2 := [(0, _), (1, _), (2, _), (3, _), (4, _)]) d_Mod_back_88 (by decide) rfl ?_
          refine mloop (h0 := h0) (a := a) (A := A) (hs.1.length) (fun i h sc3 ar3 => AW G m_Mod_back 6 0 0 _ 90 [(0, .ref a), (1, .int (nI c)), (2, .int (nI (awm hs c))), (3, .int (nI m)), (4, .int (nI i))] [] (nx, h) 0 0) (fun i sc3 ar3 => Kp [] [43] sc1 ar1 sc3 ar3 ∧ (∀ T, m + 1 ≤ T → T < 2 ^ hs.1.length → ar3 43 T = bI (wkb hs c T)) ∧ ar3 43 m = bI (wkq hs c m i)) ?_ 0 _ _ _ (Nat.zero_le _) hm ⟨hK.tr (Kp.st rfl), fun T h1 h2 => by show upd (ar2 43) m _ T = _; rw [pk_un (by omega)]; exact hT T h1 h2, by show upd (ar2 43) m _ m = _; rw [pk_us]; exact he_⟩
          intro i h sc3 ar3 hi_i hm hJ ih3
          obtain ⟨hK, hT, hwm⟩ := hJ
          have hf := hf0.kp hK rfl rfl
          have hw := hf.1
          have hh := hq1.1.kp hK rfl rfl
          refine aw_iload d_Mod_back_90 rfl ?_
          refine aw_aload_n (i := 0) d_Mod_back_92 rfl rfl ?_
          apply mo_gets (f := 1) hm d_Mod_back_93 fl_Mod_153 rfl; exact hh.1.1
          refine aw_icmpN_ge d_Mod_back_96 (by omega) (by omega) (fun br96_ => ?_) (fun br96_ => ?_)
          · skip
            have ei : i = hs.1.length := by omega
            subst ei
            have hfin : wkq hs c m hs.1.length = wkb hs c m := by
              cases e : wkb hs c m
              · cases e2 : wkq hs c m hs.1.length
                · rfl
                · rw [wkq_le (Nat.le_refl _) e2] at e; cases e
              · exact wkq_all e
            refine aw_iinc (v := _ + (-1)) (lv2 := [(0, _), (1, _), (2, _), (3, _), (4, _)]) d_Mod_back_169 (by decide) rfl rfl rfl ?_
            refine aw_goto d_Mod_back_172 ?_
            refine aw_drop (lv2 := [(0, _), (1, _), (2, _), (3, _)]) [0, 1, 2, 3] rfl ?_
            exact ih2 m _ _ _ (by omega) hm trivial ⟨hK, by omega, fun T h1 h2 => by
              by_cases e : T = m
              · subst e; rw [hwm, hfin]
              · exact hT T (by omega) h2⟩
          · skip
            refine aw_iload_n (i := 3) d_Mod_back_99 rfl rfl ?_
            refine aw_iload_n (i := 2) d_Mod_back_100 rfl rfl ?_
            refine aw_iconst (v := -1) d_Mod_back_101 (by decide) ?_
            refine aw_ixor d_Mod_back_102 ?_
            refine aw_iand d_Mod_back_103 ?_
            refine aw_if_ne d_Mod_back_104 (fun br104_ => ?_) (fun br104_ => ?_)
            · skip
              have hfin : wkq hs c m i = wkb hs c m := by
                have := wkq_nsub (fun q => br104_ ((andn_sub (by omega) hawl2).mpr q)) i hi_i
                rw [this.1, this.2]
              refine aw_iinc (v := _ + (-1)) (lv2 := [(0, _), (1, _), (2, _), (3, _), (4, _)]) d_Mod_back_169 (by decide) rfl rfl rfl ?_
              refine aw_goto d_Mod_back_172 ?_
              refine aw_drop (lv2 := [(0, _), (1, _), (2, _), (3, _)]) [0, 1, 2, 3] rfl ?_
              exact ih2 m _ _ _ (by omega) hm trivial ⟨hK, by omega, fun T h1 h2 => by
                by_cases e : T = m
                · subst e; rw [hwm, hfin]
                · exact hT T (by omega) h2⟩
            · skip
              refine aw_aload_n (i := 0) d_Mod_back_107 rfl rfl ?_
              refine mo_get (f := 43) hm d_Mod_back_108 fl_Mod_120 rfl ?_
              refine aw_iload_n (i := 3) d_Mod_back_111 rfl rfl ?_
              apply mo_ld (f := 43) (N := 4096) hm d_Mod_back_112 rfl rfl (by decide); omega; exact hwm
              refine aw_ifB_ne d_Mod_back_113 (fun br113_ => ?_) (fun br113_ => ?_)
              · skip
                have hfin : wkq hs c m i = wkb hs c m := by rw [br113_, wkq_le hi_i br113_]
                refine aw_iinc (v := _ + (-1)) (lv2 := [(0, _), (1, _), (2, _), (3, _), (4, _)]) d_Mod_back_169 (by decide) rfl rfl rfl ?_
                refine aw_goto d_Mod_back_172 ?_
                refine aw_drop (lv2 := [(0, _), (1, _), (2, _), (3, _)]) [0, 1, 2, 3] rfl ?_
                exact ih2 m _ _ _ (by omega) hm trivial ⟨hK, by omega, fun T h1 h2 => by
                  by_cases e : T = m
                  · subst e; rw [hwm, hfin]
                  · exact hT T (by omega) h2⟩
              · skip
                refine aw_iload_n (i := 2) d_Mod_back_116 rfl rfl ?_
                refine aw_iload d_Mod_back_117 rfl ?_
                refine aw_ishr d_Mod_back_119 ?_
                rw [shr_n (by omega) (by omega)]
                refine aw_iconst (v := nI 1) d_Mod_back_120 (by decide) ?_
                refine aw_iand d_Mod_back_121 ?_
                rw [and_1 (Nat.lt_of_le_of_lt (Nat.div_le_self _ _) (by omega))]
                refine aw_iconst (v := nI 1) d_Mod_back_122 (by decide) ?_
                refine aw_icmpN_ne d_Mod_back_123 (by omega) (by omega) (fun br123_ => ?_) (fun br123_ => ?_)
                · skip
                  have hst : wkq hs c m (i + 1) = wkq hs c m i := by rw [wkq_s]; unfold cnd; rw [show awy hs c i = false from by have := awm_bit (hs := hs) (c := c) (q := i); rw [tb_0.mp br123_, decide_eq_true br96_] at this; simpa using this.symm]; simp
                  refine aw_iincN (lv2 := [(0, _), (1, _), (2, _), (3, _), (4, _)]) d_Mod_back_163 (by decide) rfl rfl ?_
                  refine aw_goto d_Mod_back_166 ?_
                  exact ih3 br96_ _ _ _ hm ⟨hK, hT, by rw [hst]; exact hwm⟩
                · skip
                  have haw : awy hs c i = true := by have := awm_bit (hs := hs) (c := c) (q := i); rw [tb_1.mp br123_, decide_eq_true br96_] at this; simpa using this.symm
                  refine aw_iload_n (i := 3) d_Mod_back_126 rfl rfl ?_
                  refine aw_iload d_Mod_back_127 rfl ?_
                  refine aw_ishr d_Mod_back_129 ?_
                  rw [shr_n (by omega) (by omega)]
                  refine aw_iconst (v := nI 1) d_Mod_back_130 (by decide) ?_
                  refine aw_iand d_Mod_back_131 ?_
                  rw [and_1 (Nat.lt_of_le_of_lt (Nat.div_le_self _ _) (by omega))]
                  refine aw_ifN_ne d_Mod_back_132 (by omega) (fun br132_ => ?_) (fun br132_ => ?_)
                  · skip
                    have hst : wkq hs c m (i + 1) = wkq hs c m i := by rw [wkq_s]; unfold cnd; rw [tb_1.mp (show m / 2 ^ i % 2 = 1 by omega)]; simp
                    refine aw_iincN (lv2 := [(0, _), (1, _), (2, _), (3, _), (4, _)]) d_Mod_back_163 (by decide) rfl rfl ?_
                    refine aw_goto d_Mod_back_166 ?_
                    exact ih3 br96_ _ _ _ hm ⟨hK, hT, by rw [hst]; exact hwm⟩
                  · skip
                    have hbm : m.testBit i = false := tb_0.mp (show ¬ m / 2 ^ i % 2 = 1 by omega)
                    have hgt := or_gt hbm
                    have hoL : m ||| 2 ^ i < 2 ^ hs.1.length := Nat.or_lt_two_pow (by omega) (Nat.pow_lt_pow_right (by decide) br96_)
                    refine aw_aload_n (i := 0) d_Mod_back_135 rfl rfl ?_
                    refine aw_iload_n (i := 1) d_Mod_back_136 rfl rfl ?_
                    refine aw_iload d_Mod_back_137 rfl ?_
                    refine aw_iload_n (i := 3) d_Mod_back_139 rfl rfl ?_
                    apply aw_callv_p (c_Mod_isPutBack hm hh hv hx hw (c := c) (p := i) (S := m) hc br96_ (by omega)) d_Mod_back_140 cl_Mod_292; exact hm.1.1; rfl; rfl; rfl; rfl; decide; exact Nat.le_of_ble_eq_true rfl; exact (Nat.le_refl _); exact (Nat.le_refl _)
                    refine aw_ifB_eq d_Mod_back_143 (fun br143_ => ?_) (fun br143_ => ?_)
                    · skip
                      have hst : wkq hs c m (i + 1) = wkq hs c m i := by rw [wkq_s]; unfold cnd; rw [br143_]; simp
                      refine aw_iincN (lv2 := [(0, _), (1, _), (2, _), (3, _), (4, _)]) d_Mod_back_163 (by decide) rfl rfl ?_
                      refine aw_goto d_Mod_back_166 ?_
                      exact ih3 br96_ _ _ _ hm ⟨hK, hT, by rw [hst]; exact hwm⟩
                    · skip
                      have hst : wkq hs c m (i + 1) = wkb hs c (m ||| 2 ^ i) := by rw [wkq_s, br113_]; unfold cnd; rw [haw, hbm, br143_]; rfl
                      refine aw_aload_n (i := 0) d_Mod_back_146 rfl rfl ?_
                      refine mo_get (f := 43) hm d_Mod_back_147 fl_Mod_120 rfl ?_
                      refine aw_iload_n (i := 3) d_Mod_back_150 rfl rfl ?_
                      refine aw_aload_n (i := 0) d_Mod_back_151 rfl rfl ?_
                      refine mo_get (f := 43) hm d_Mod_back_152 fl_Mod_120 rfl ?_
                      refine aw_iload_n (i := 3) d_Mod_back_155 rfl rfl ?_
                      refine aw_iconst (v := 1) d_Mod_back_156 (by decide) ?_
                      refine aw_iload d_Mod_back_157 rfl ?_
                      refine aw_ishl d_Mod_back_159 ?_
                      rw [sh_1 (by omega)]
                      refine aw_ior d_Mod_back_160 ?_
                      rw [fa_or]
                      apply mo_ld (f := 43) (N := 4096) hm d_Mod_back_161 rfl rfl (by decide); omega; exact hT _ (by omega) hoL
                      apply mo_st (f := 43) (N := 4096) hm d_Mod_back_162 rfl rfl (by decide); omega; intro h hm
                      refine aw_iincN (lv2 := [(0, _), (1, _), (2, _), (3, _), (4, _)]) d_Mod_back_163 (by decide) rfl rfl ?_
                      refine aw_goto d_Mod_back_166 ?_
                      refine ih3 br96_ _ _ _ hm ⟨hK.tr (Kp.st rfl), fun T h1 h2 => ?_, ?_⟩
                      · show upd (ar3 43) m _ T = _; rw [pk_un (by omega)]; exact hT T h1 h2
                      · show upd (ar3 43) m _ m = _; rw [pk_us, hst]
    · skip
      have hkj := hv.1.k br24_
      have hdl := dg_lt c i (by rw [pk_len]; exact br24_) hv.1.pos
      rw [pk_at br24_] at hdl
      refine aw_iload_n (i := 2) d_Mod_back_27 rfl rfl ?_
      refine aw_aload_n (i := 0) d_Mod_back_28 rfl rfl ?_
      refine aw_iload_n (i := 1) d_Mod_back_29 rfl rfl ?_
      refine aw_iload_n (i := 3) d_Mod_back_30 rfl rfl ?_
      apply aw_callv_p (c_Mod_stateOf hm.1 hh hw hv (c := c) (i := i) (by omega) br24_) d_Mod_back_31 cl_Mod_212; exact hm.1.1; rfl; rfl; rfl; rfl; decide; exact Nat.le_of_ble_eq_true rfl; exact (Nat.le_refl _); exact (Nat.le_refl _)
      refine aw_aload_n (i := 0) d_Mod_back_34 rfl rfl ?_
      refine mo_get (f := 3) hm d_Mod_back_35 fl_Mod_13 rfl ?_
      refine aw_iload_n (i := 3) d_Mod_back_38 rfl rfl ?_
      apply mo_ld (f := 3) (N := 12) hm d_Mod_back_39 rfl rfl (by decide); omega; exact (hh.2.1 _ br24_).2.1
      refine aw_icmpN_eq d_Mod_back_40 (by omega) (by omega) (fun br40_ => ?_) (fun br40_ => ?_)
      · skip
        have hst : orb (awy hs c) (i + 1) = orb (awy hs c) i ||| 0 := by show (if _ then _ else _) = _; rw [show awy hs c i = false from by unfold awy frs; rw [decide_eq_true br40_]; rfl]; simp
        refine aw_iconst (v := nI 0) d_Mod_back_49 (by decide) ?_
        refine aw_ior d_Mod_back_50 ?_
        rw [fa_or]
        refine aw_istore_n (i := 2) (lv2 := [(0, _), (1, _), (2, _), (3, _)]) d_Mod_back_51 rfl (by decide) rfl ?_
        refine aw_iincN (lv2 := [(0, _), (1, _), (2, _), (3, _)]) d_Mod_back_52 (by decide) rfl rfl ?_
        refine aw_goto d_Mod_back_55 ?_
        have k9 := ih_i br24_ (i + 1) ⟨rfl, trivial⟩
        rw [hst] at k9
        exact k9
      · skip
        have hst : orb (awy hs c) (i + 1) = orb (awy hs c) i ||| 2 ^ i := by show (if _ then _ else _) = _; rw [show awy hs c i = true from by unfold awy frs; rw [decide_eq_false br40_]; rfl]; rfl
        refine aw_iconst (v := 1) d_Mod_back_43 (by decide) ?_
        refine aw_iload_n (i := 3) d_Mod_back_44 rfl rfl ?_
        refine aw_ishl d_Mod_back_45 ?_
        rw [sh_1 (by omega)]
        refine aw_goto d_Mod_back_46 ?_
        refine aw_ior d_Mod_back_50 ?_
        rw [fa_or]
        refine aw_istore_n (i := 2) (lv2 := [(0, _), (1, _), (2, _), (3, _)]) d_Mod_back_51 rfl (by decide) rfl ?_
        refine aw_iincN (lv2 := [(0, _), (1, _), (2, _), (3, _)]) d_Mod_back_52 (by decide) rfl rfl ?_
        refine aw_goto d_Mod_back_55 ?_
        have k9 := ih_i br24_ (i + 1) ⟨rfl, trivial⟩
        rw [hst] at k9
        exact k9
  · skip
    refine aw_iconst (v := -1) d_Mod_back_13 (by decide) ?_
    refine aw_iret d_Mod_back_14 rfl (Nat.le_refl _) (Nat.le_refl _) ?_
    exact ⟨_, _, _, rfl, hm, by unfold bkA; rw [br10_]; rfl, h0_.trans rfl, by unfold bkX; rw [br10_]; exact hq⟩

