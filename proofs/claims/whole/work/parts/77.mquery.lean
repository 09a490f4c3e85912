def ctn (p : Nat → Bool) : Nat → Nat
  | 0 => 0
  | n + 1 => ctn p n + (if p n then 1 else 0)
theorem ctn_le (p : Nat → Bool) : ∀ n, ctn p n ≤ n
  | 0 => Nat.le_refl _
  | n + 1 => by
    have := ctn_le p n
    show ctn p n + _ ≤ _
    split <;> omega
def opC (hs : HSt) (c : Nat) : Bool := true
noncomputable def isO (hs : HSt) (c : Nat) : Bool := decide (far hs c < FAR)
noncomputable def lsI (hs : HSt) (c : Nat) : Int32 := if isO hs c then nI (far hs c) else -2
def fsI (p : Nat → Bool) (n : Nat) : Int32 := match (List.range n).find? p with
  | some i => nI i
  | none => -1
theorem find_rng {p : Nat → Bool} {n i : Nat} (hi : i < n) (h : ∀ k, k < i → p k = false) (hp : p i = true) : (List.range n).find? p = some i := by
  rw [List.find?_range_eq_some]
  exact ⟨hp, List.mem_range.mpr hi, fun k hk => by rw [h k hk]; rfl⟩
theorem find_rng0 {p : Nat → Bool} {n : Nat} (h : ∀ k, k < n → p k = false) : (List.range n).find? p = none := by
  rw [List.find?_eq_none]
  intro k hk
  rw [h k (List.mem_range.mp hk)]; decide
theorem fsI_t {p : Nat → Bool} {n i : Nat} (hi : i < n) (h : ∀ k, k < i → p k = false) (hp : p i = true) : fsI p n = nI i := by unfold fsI; rw [find_rng hi h hp]
theorem fsI_f {p : Nat → Bool} {n : Nat} (h : ∀ k, k < n → p k = false) : fsI p n = -1 := by unfold fsI; rw [find_rng0 h]
noncomputable def hnp (hs : HSt) (c s : Nat) : Bool := opn hs c s && isO hs (aft hs c s) && decide (far hs (aft hs c s) + tks hs s = far hs c)
noncomputable def hnt (hs : HSt) (c : Nat) : Option Nat := (List.range hs.2.1.length).find? (hnp hs c)
theorem isC_ex {hs : HSt} {x : Int32} (h : isC hs x = true) (hv : VH hs) : ∃ c, c < hall hs ∧ x = nI c ∧ xN x = c := by
  have hall2 := hv.2.2.2.2.2.2.2
  obtain ⟨c, hc, rfl⟩ := dec_ix h (by omega)
  exact ⟨c, hc, rfl, xN_nI (by omega)⟩
/-- the least sums -/
theorem far_E {hs : HSt} {c : Nat} (hc : c < hall hs) (he : isE hs c = true) : far hs c = 0 := by
  have h : LstR hs c (some 0) := ⟨Way.fin hc he, fun v' _ => Nat.zero_le _⟩
  unfold far; rw [lst_eq h]; rfl
theorem opn_nE {hs : HSt} {c j : Nat} (h : opn hs c j = true) : isE hs c = false := by
  unfold opn at h
  simp only [Bool.and_eq_true, Bool.not_eq_true'] at h
  exact h.1
/-- a way of one step more or none -/
theorem Way.inv {hs : HSt} {c v : Nat} (h : Way hs c v) : (c < hall hs ∧ isE hs c = true ∧ v = 0) ∨ ∃ j w, c < hall hs ∧ j < hs.2.1.length ∧ opn hs c j = true ∧ Way hs (aft hs c j) w ∧ v = w + tks hs j := by
  have := h (fun c v => Way hs c v ∧ ((c < hall hs ∧ isE hs c = true ∧ v = 0) ∨ ∃ j w, c < hall hs ∧ j < hs.2.1.length ∧ opn hs c j = true ∧ Way hs (aft hs c j) w ∧ v = w + tks hs j)) (fun c hc he => ⟨Way.fin hc he, Or.inl ⟨hc, he, rfl⟩⟩) (fun c j v hc hj ho ih => ⟨Way.step hc hj ho ih.1, Or.inr ⟨j, v, hc, hj, ho, ih.1, rfl⟩⟩)
  exact this.2
/-- far is the least sum of a way, or FAR -/
def FarOK (hs : HSt) : Prop := ∀ c, c < hall hs → LstR hs c (if far hs c < FAR then some (far hs c) else none) ∧ far hs c ≤ FAR
theorem tks_pos {hs : HSt} (hv : VH hs) {j : Nat} (hj : j < hs.2.1.length) : 1 ≤ tks hs j := (hv.s hj).2.2.2.1
theorem far_0 {hs : HSt} (hv : VH hs) (hF : FarOK hs) {c : Nat} (hc : c < hall hs) (h : far hs c = 0) : isE hs c = true := by
  have h1 := (hF c hc).1
  rw [h, if_pos (by decide)] at h1
  rcases h1.1.inv with q | ⟨j, w, q1, q2, q3, q4, q5⟩
  · exact q.2.1
  · have := tks_pos hv q2; omega
theorem far_step {hs : HSt} (hv : VH hs) (hF : FarOK hs) {c : Nat} (hc : c < hall hs) (h : isO hs c = true) (he : isE hs c = false) : ∃ s, s < hs.2.1.length ∧ hnp hs c s = true := by
  have hlt : far hs c < FAR := of_decide_eq_true h
  have h1 := (hF c hc).1
  rw [if_pos hlt] at h1
  rcases h1.1.inv with q | ⟨j, w, q1, q2, q3, q4, q5⟩
  · rw [q.2.1] at he; cases he
  · have hal := aft_lt hv hc q2
    have h2 := (hF _ hal).1
    by_cases e : far hs (aft hs c j) < FAR
    · rw [if_pos e] at h2
      have h3 := h2.2 w q4
      have h4 := h1.2 _ (Way.step hc q2 q3 h2.1)
      refine ⟨j, q2, ?_⟩
      unfold hnp isO
      rw [q3, decide_eq_true e, decide_eq_true (by omega)]; rfl
    · rw [if_neg e] at h2
      exact absurd q4 (h2 w)
theorem hnt_some {hs : HSt} {c s : Nat} (h : hnt hs c = some s) : s < hs.2.1.length ∧ hnp hs c s = true := by
  unfold hnt at h
  exact ⟨List.mem_range.mp (List.mem_of_find?_eq_some h), List.find?_some h⟩
noncomputable def wayL (hs : HSt) : Nat → Nat → List Nat
  | 0, _ => []
  | n + 1, c => match hnt hs c with
    | none => []
    | some s => s :: wayL hs n (aft hs c s)
theorem hnt_E {hs : HSt} {c : Nat} (he : isE hs c = true) : hnt hs c = none := by
  unfold hnt
  refine find_rng0 (fun k _ => ?_)
  unfold hnp opn
  rw [he]; rfl
set_option maxHeartbeats 4000000 in
set_option maxRecDepth 20000 in
theorem c_Mod_reached {G : aG} {nx : Nat} {h h0 : Nat → Option aC} {a : Nat} {A : Nat → Nat} {sc : Nat → Int32} {ar : Nat → Nat → Int32} (hm : MoF h0 h a A sc ar) {hs : HSt} {gs : List GSt} {lg : List (Nat × Nat × Nat)} {xs : List Int32} (hq : MoA sc ar hs gs lg xs) (hv : VH hs) : AMet G m_Mod_reached 4 0 0 [.ref a] (nx, h) (MR nx a h0 A (fun r sc2 ar2 => r = some (.int (nI (ctn (rch hs) (hall hs)))) ∧ sc2 0 = 0 ∧ MoA sc2 ar2 hs gs lg xs)) := by
  have hp12 := hv.1.1
  have hs24 := hv.2.1
  have hall2 := hv.2.2.2.2.2.2.2
  have hq0 := hq
  refine amet_of pf_Mod_reached (Nat.le_of_ble_eq_true rfl) ?_
  show AW G m_Mod_reached 4 0 0 _ 0 [(0, .ref a)] [] (nx, h) 0 0
  refine aw_aload_n (i := 0) d_Mod_reached_0 rfl rfl ?_
  refine aw_iconst (v := nI 0) d_Mod_reached_1 (by decide) ?_
  apply mo_put (f := 0) hm d_Mod_reached_2 pl_Mod_150 (ms_0 _ _ _) (by decide) rfl rfl; intro h hm
  have hq := hq0.kp (Kp.put (Ls := [0]) (La := []) (f := 0) (x := nI 0) rfl) rfl rfl rfl rfl
  have hh := hq.1
  have hg := hq.2.1
  have hr := hq.2.2.2.1
  refine aw_aload_n (i := 0) d_Mod_reached_5 rfl rfl ?_
  apply aw_callv_M0 (c_Mod_fresh hm hq hv) d_Mod_reached_6 cl_Mod_259; exact hm.1.1; rfl; rfl; rfl; rfl; decide; exact Nat.le_of_ble_eq_true rfl; exact Nat.le_refl _; exact Nat.le_refl _
  rintro h sc1 ar1 hm ⟨hq, hf, h0_⟩
  have hh := hq.1
  have hw := hf.1
  have hb := hf.2.2.1
  have h29 := hf.2.2.2.1
  have h30 := hf.2.2.2.2
  refine aw_iconst (v := nI 0) d_Mod_reached_9 (by decide) ?_
  refine aw_istore_n (i := 1) (lv2 := [(0, _), (1, _)]) d_Mod_reached_10 rfl (by decide) rfl ?_
  refine aw_iconst (v := nI 0) d_Mod_reached_11 (by decide) ?_
  refine aw_istore_n (i := 2) (lv2 := [(0, _), (1, _), (2, _)]) d_Mod_reached_12 rfl (by decide) rfl ?_
  show AW G m_Mod_reached 4 0 0 _ 13 [(0, .ref a), (1, .int (nI (ctn (rch hs) 0))), (2, .int (nI 0))] [] (nx, h) 0 0
  refine upto (σ := Nat) (fun i => AW G m_Mod_reached 4 0 0 _ 13 [(0, .ref a), (1, .int (nI (ctn (rch hs) i))), (2, .int (nI i))] [] (nx, h) 0 0) (fun i s => i = s ∧ True) (hall hs) ?_ 0 0 (Nat.zero_le _) ⟨rfl, trivial⟩
  intro i s9 hi_i hI_i ih_i
  obtain ⟨rfl, hI_i⟩ := hI_i
  refine aw_iload_n (i := 2) d_Mod_reached_13 rfl rfl ?_
  refine aw_aload_n (i := 0) d_Mod_reached_14 rfl rfl ?_
  apply mo_gets (f := 26) hm d_Mod_reached_15 fl_Mod_206 rfl; exact hw.1
  refine aw_icmpN_ge d_Mod_reached_18 (by omega) (by omega) (fun br18_ => ?_) (fun br18_ => ?_)
  · skip
    have ei : i = hall hs := by omega
    subst ei
    refine aw_iload_n (i := 1) d_Mod_reached_44 rfl rfl ?_
    refine aw_iret d_Mod_reached_45 rfl (Nat.le_refl _) (Nat.le_refl _) ?_
    exact ⟨_, _, _, rfl, hm, rfl, h0_.trans rfl, hq⟩
  · skip
    refine aw_iload_n (i := 1) d_Mod_reached_21 rfl rfl ?_
    refine aw_aload_n (i := 0) d_Mod_reached_22 rfl rfl ?_
    refine mo_get (f := 29) hm d_Mod_reached_23 fl_Mod_82 rfl ?_
    refine aw_iload_n (i := 2) d_Mod_reached_26 rfl rfl ?_
    apply mo_zld (f := 29) (N := 20000) hm d_Mod_reached_27 rfl rfl (by decide); omega; exact h29 _ br18_
    refine aw_ifB_eq d_Mod_reached_28 (fun br28_ => ?_) (fun br28_ => ?_)
    · skip
      have hst : ctn (rch hs) (i + 1) = ctn (rch hs) i + 0 := by show _ + _ = _; rw [br28_]; rfl
      refine aw_iconst (v := nI 0) d_Mod_reached_35 (by decide) ?_
      refine aw_iaddN d_Mod_reached_36 ?_
      refine aw_istore_n (i := 1) (lv2 := [(0, _), (1, _), (2, _)]) d_Mod_reached_37 rfl (by decide) rfl ?_
      refine aw_iincN (lv2 := [(0, _), (1, _), (2, _)]) d_Mod_reached_38 (by decide) rfl rfl ?_
      refine aw_goto d_Mod_reached_41 ?_
      have k9 := ih_i br18_ (i + 1) ⟨rfl, trivial⟩
      rw [hst] at k9
      exact k9
    · skip
      have hst : ctn (rch hs) (i + 1) = ctn (rch hs) i + 1 := by show _ + _ = _; rw [br28_]; rfl
      refine aw_iconst (v := nI 1) d_Mod_reached_31 (by decide) ?_
      refine aw_goto d_Mod_reached_32 ?_
      refine aw_iaddN d_Mod_reached_36 ?_
      refine aw_istore_n (i := 1) (lv2 := [(0, _), (1, _), (2, _)]) d_Mod_reached_37 rfl (by decide) rfl ?_
      refine aw_iincN (lv2 := [(0, _), (1, _), (2, _)]) d_Mod_reached_38 (by decide) rfl rfl ?_
      refine aw_goto d_Mod_reached_41 ?_
      have k9 := ih_i br18_ (i + 1) ⟨rfl, trivial⟩
      rw [hst] at k9
      exact k9

set_option maxHeartbeats 4000000 in
set_option maxRecDepth 20000 in
theorem c_Mod_comes {G : aG} {nx : Nat} {h h0 : Nat → Option aC} {a : Nat} {A : Nat → Nat} {sc : Nat → Int32} {ar : Nat → Nat → Int32} (hm : MoF h0 h a A sc ar) {hs : HSt} {gs : List GSt} {lg : List (Nat × Nat × Nat)} {xs : List Int32} (hq : MoA sc ar hs gs lg xs) (hv : VH hs) (x : Int32) : AMet G m_Mod_comes 5 0 0 [.ref a, .int x] (nx, h) (MR nx a h0 A (fun r sc2 ar2 => r = some (.int (if isC hs x then bI (rch hs (xN x)) else -1)) ∧ sc2 0 = 0 ∧ MoA sc2 ar2 hs gs lg xs)) := by
  have hp12 := hv.1.1
  have hs24 := hv.2.1
  have hall2 := hv.2.2.2.2.2.2.2
  have hq0 := hq
  refine amet_of pf_Mod_comes (Nat.le_of_ble_eq_true rfl) ?_
  show AW G m_Mod_comes 5 0 0 _ 0 [(0, .ref a), (1, .int x)] [] (nx, h) 0 0
  refine aw_aload_n (i := 0) d_Mod_comes_0 rfl rfl ?_
  refine aw_iconst (v := nI 0) d_Mod_comes_1 (by decide) ?_
  apply mo_put (f := 0) hm d_Mod_comes_2 pl_Mod_150 (ms_0 _ _ _) (by decide) rfl rfl; intro h hm
  have hq := hq0.kp (Kp.put (Ls := [0]) (La := []) (f := 0) (x := nI 0) rfl) rfl rfl rfl rfl
  have hh := hq.1
  have hg := hq.2.1
  have hr := hq.2.2.2.1
  refine aw_aload_n (i := 0) d_Mod_comes_5 rfl rfl ?_
  refine aw_iload_n (i := 1) d_Mod_comes_6 rfl rfl ?_
  apply aw_callv_MI (c_Mod_isCode hm hq hv x) d_Mod_comes_7 cl_Mod_265; exact hm.1.1; rfl; rfl; rfl; rfl; decide; exact Nat.le_of_ble_eq_true rfl; exact Nat.le_refl _; exact Nat.le_refl _
  rintro h sc1 ar1 hm ⟨hq, hf, h0_⟩
  have hh := hq.1
  have hw := hf.1
  have hb := hf.2.2.1
  have h29 := hf.2.2.2.1
  have h30 := hf.2.2.2.2
  refine aw_ifB_ne d_Mod_comes_10 (fun br10_ => ?_) (fun br10_ => ?_)
  · skip
    obtain ⟨c, hc, rfl, hxc⟩ := isC_ex br10_ hv
    refine aw_aload_n (i := 0) d_Mod_comes_17 rfl rfl ?_
    refine mo_get (f := 29) hm d_Mod_comes_18 fl_Mod_82 rfl ?_
    refine aw_iload_n (i := 1) d_Mod_comes_21 rfl rfl ?_
    apply mo_zld (f := 29) (N := 20000) hm d_Mod_comes_22 rfl rfl (by decide); omega; exact h29 _ hc
    refine aw_ifB_eq d_Mod_comes_23 (fun br23_ => ?_) (fun br23_ => ?_)
    · skip
      refine aw_iconst (v := nI 0) d_Mod_comes_30 (by decide) ?_
      refine aw_iret d_Mod_comes_31 rfl (Nat.le_refl _) (Nat.le_refl _) ?_
      exact ⟨_, _, _, rfl, hm, by rw [br10_, if_pos rfl, hxc, br23_]; rfl, h0_.trans rfl, hq⟩
    · skip
      refine aw_iconst (v := nI 1) d_Mod_comes_26 (by decide) ?_
      refine aw_goto d_Mod_comes_27 ?_
      refine aw_iret d_Mod_comes_31 rfl (Nat.le_refl _) (Nat.le_refl _) ?_
      exact ⟨_, _, _, rfl, hm, by rw [br10_, if_pos rfl, hxc, br23_]; rfl, h0_.trans rfl, hq⟩
  · skip
    refine aw_iconst (v := -1) d_Mod_comes_13 (by decide) ?_
    refine aw_goto d_Mod_comes_14 ?_
    refine aw_iret d_Mod_comes_31 rfl (Nat.le_refl _) (Nat.le_refl _) ?_
    exact ⟨_, _, _, rfl, hm, by rw [br10_]; rfl, h0_.trans rfl, hq⟩

theorem bh_nn {hs : HSt} {c j : Nat} (h : ¬ bh hs c j < 0) : opn hs c j = true := bh_pos h
set_option maxHeartbeats 4000000 in
set_option maxRecDepth 20000 in
theorem c_Mod_open {G : aG} {nx : Nat} {h h0 : Nat → Option aC} {a : Nat} {A : Nat → Nat} {sc : Nat → Int32} {ar : Nat → Nat → Int32} (hm : MoF h0 h a A sc ar) {hs : HSt} {gs : List GSt} {lg : List (Nat × Nat × Nat)} {xs : List Int32} (hq : MoA sc ar hs gs lg xs) (hv : VH hs) (x : Int32) : AMet G m_Mod_open 5 0 0 [.ref a, .int x] (nx, h) (MR nx a h0 A (fun r sc2 ar2 => r = some (.int (if isC hs x then nI (orb (opn hs (xN x)) hs.2.1.length) else -1)) ∧ sc2 0 = 0 ∧ MoA sc2 ar2 hs gs lg xs)) := by
  have hp12 := hv.1.1
  have hs24 := hv.2.1
  have hall2 := hv.2.2.2.2.2.2.2
  have hq0 := hq
  refine amet_of pf_Mod_open (Nat.le_of_ble_eq_true rfl) ?_
  show AW G m_Mod_open 5 0 0 _ 0 [(0, .ref a), (1, .int x)] [] (nx, h) 0 0
  refine aw_aload_n (i := 0) d_Mod_open_0 rfl rfl ?_
  refine aw_iconst (v := nI 0) d_Mod_open_1 (by decide) ?_
  apply mo_put (f := 0) hm d_Mod_open_2 pl_Mod_150 (ms_0 _ _ _) (by decide) rfl rfl; intro h hm
  have hq := hq0.kp (Kp.put (Ls := [0]) (La := []) (f := 0) (x := nI 0) rfl) rfl rfl rfl rfl
  have hh := hq.1
  have hg := hq.2.1
  have hr := hq.2.2.2.1
  refine aw_aload_n (i := 0) d_Mod_open_5 rfl rfl ?_
  refine aw_iload_n (i := 1) d_Mod_open_6 rfl rfl ?_
  apply aw_callv_MI (c_Mod_isCode hm hq hv x) d_Mod_open_7 cl_Mod_265; exact hm.1.1; rfl; rfl; rfl; rfl; decide; exact Nat.le_of_ble_eq_true rfl; exact Nat.le_refl _; exact Nat.le_refl _
  rintro h sc1 ar1 hm ⟨hq, hf, h0_⟩
  have hh := hq.1
  have hw := hf.1
  have hb := hf.2.2.1
  have h29 := hf.2.2.2.1
  have h30 := hf.2.2.2.2
  refine aw_ifB_ne d_Mod_open_10 (fun br10_ => ?_) (fun br10_ => ?_)
  · skip
    obtain ⟨c, hc, rfl, hxc⟩ := isC_ex br10_ hv
    refine aw_iconst (v := nI 0) d_Mod_open_15 (by decide) ?_
    refine aw_istore_n (i := 2) (lv2 := [(0, _), (1, _), (2, _)]) d_Mod_open_16 rfl (by decide) rfl ?_
    refine aw_iconst (v := nI 0) d_Mod_open_17 (by decide) ?_
    refine aw_istore_n (i := 3) (lv2 := [(0, _), (1, _), (2, _), (3, _)]) d_Mod_open_18 rfl (by decide) rfl ?_
    show AW G m_Mod_open 5 0 0 _ 19 [(0, .ref a), (1, .int (nI c)), (2, .int (nI (orb (opn hs c) 0))), (3, .int (nI 0))] [] (nx, h) 0 0
    refine upto (σ := Nat) (fun i => AW G m_Mod_open 5 0 0 _ 19 [(0, .ref a), (1, .int (nI c)), (2, .int (nI (orb (opn hs c) i))), (3, .int (nI i))] [] (nx, h) 0 0) (fun i s => i = s ∧ True) (hs.2.1.length) ?_ 0 0 (Nat.zero_le _) ⟨rfl, trivial⟩
    intro i s9 hi_i hI_i ih_i
    obtain ⟨rfl, hI_i⟩ := hI_i
    refine aw_iload_n (i := 3) d_Mod_open_19 rfl rfl ?_
    refine aw_aload_n (i := 0) d_Mod_open_20 rfl rfl ?_
    apply mo_gets (f := 4) hm d_Mod_open_21 fl_Mod_164 rfl; exact hh.1.2.1
    refine aw_icmpN_ge d_Mod_open_24 (by omega) (by omega) (fun br24_ => ?_) (fun br24_ => ?_)
    · skip
      have ei : i = hs.2.1.length := by omega
      subst ei
      refine aw_iload_n (i := 2) d_Mod_open_57 rfl rfl ?_
      refine aw_iret d_Mod_open_58 rfl (Nat.le_refl _) (Nat.le_refl _) ?_
      exact ⟨_, _, _, rfl, hm, by rw [br10_, if_pos rfl, hxc], h0_.trans rfl, hq⟩
    · skip
      have hal := aft_lt hv hc br24_
      refine aw_iload_n (i := 2) d_Mod_open_27 rfl rfl ?_
      refine aw_aload_n (i := 0) d_Mod_open_28 rfl rfl ?_
      refine mo_get (f := 28) hm d_Mod_open_29 fl_Mod_79 rfl ?_
      refine aw_iload_n (i := 1) d_Mod_open_32 rfl rfl ?_
      refine aw_bipush (v := nI 24) d_Mod_open_33 (by decide) ?_
      refine aw_imulN d_Mod_open_35 ?_
      refine aw_iload_n (i := 3) d_Mod_open_36 rfl rfl ?_
      refine aw_iaddN d_Mod_open_37 ?_
      apply mo_ld (f := 28) (N := 480000) hm d_Mod_open_38 rfl rfl (by decide); omega; exact hb _ _ hc br24_
      refine aw_if_lt d_Mod_open_39 (fun br39_ => ?_) (fun br39_ => ?_)
      · skip
        have hst : orb (opn hs c) (i + 1) = orb (opn hs c) i ||| 0 := by have ho := bh_neg br39_ (by omega); show (if _ then _ else _) = _; rw [ho]; simp
        refine aw_iconst (v := nI 0) d_Mod_open_48 (by decide) ?_
        refine aw_ior d_Mod_open_49 ?_
        rw [fa_or]
        refine aw_istore_n (i := 2) (lv2 := [(0, _), (1, _), (2, _), (3, _)]) d_Mod_open_50 rfl (by decide) rfl ?_
        refine aw_iincN (lv2 := [(0, _), (1, _), (2, _), (3, _)]) d_Mod_open_51 (by decide) rfl rfl ?_
        refine aw_goto d_Mod_open_54 ?_
        have k9 := ih_i br24_ (i + 1) ⟨rfl, trivial⟩
        rw [hst] at k9
        exact k9
      · skip
        have hst : orb (opn hs c) (i + 1) = orb (opn hs c) i ||| 2 ^ i := by have ho := bh_pos br39_; show (if _ then _ else _) = _; rw [ho]; rfl
        refine aw_iconst (v := 1) d_Mod_open_42 (by decide) ?_
        refine aw_iload_n (i := 3) d_Mod_open_43 rfl rfl ?_
        refine aw_ishl d_Mod_open_44 ?_
        rw [sh_1 (by omega)]
        refine aw_goto d_Mod_open_45 ?_
        refine aw_ior d_Mod_open_49 ?_
        rw [fa_or]
        refine aw_istore_n (i := 2) (lv2 := [(0, _), (1, _), (2, _), (3, _)]) d_Mod_open_50 rfl (by decide) rfl ?_
        refine aw_iincN (lv2 := [(0, _), (1, _), (2, _), (3, _)]) d_Mod_open_51 (by decide) rfl rfl ?_
        refine aw_goto d_Mod_open_54 ?_
        have k9 := ih_i br24_ (i + 1) ⟨rfl, trivial⟩
        rw [hst] at k9
        exact k9
  · skip
    refine aw_iconst (v := -1) d_Mod_open_13 (by decide) ?_
    refine aw_iret d_Mod_open_14 rfl (Nat.le_refl _) (Nat.le_refl _) ?_
    exact ⟨_, _, _, rfl, hm, by rw [br10_]; rfl, h0_.trans rfl, hq⟩

set_option maxHeartbeats 4000000 in
set_option maxRecDepth 20000 in
theorem c_Mod_behind {G : aG} {nx : Nat} {h h0 : Nat → Option aC} {a : Nat} {A : Nat → Nat} {sc : Nat → Int32} {ar : Nat → Nat → Int32} (hm : MoF h0 h a A sc ar) {hs : HSt} {gs : List GSt} {lg : List (Nat × Nat × Nat)} {xs : List Int32} (hq : MoA sc ar hs gs lg xs) (hv : VH hs) (x s : Int32) : AMet G m_Mod_behind 5 0 0 [.ref a, .int x, .int s] (nx, h) (MR nx a h0 A (fun r sc2 ar2 => r = some (.int (if isC hs x && isSx hs s then bh hs (xN x) (xN s) else -1)) ∧ sc2 0 = 0 ∧ MoA sc2 ar2 hs gs lg xs)) := by
  have hp12 := hv.1.1
  have hs24 := hv.2.1
  have hall2 := hv.2.2.2.2.2.2.2
  have hq0 := hq
  refine amet_of pf_Mod_behind (Nat.le_of_ble_eq_true rfl) ?_
  show AW G m_Mod_behind 5 0 0 _ 0 [(0, .ref a), (1, .int x), (2, .int s)] [] (nx, h) 0 0
  refine aw_aload_n (i := 0) d_Mod_behind_0 rfl rfl ?_
  refine aw_iconst (v := nI 0) d_Mod_behind_1 (by decide) ?_
  apply mo_put (f := 0) hm d_Mod_behind_2 pl_Mod_150 (ms_0 _ _ _) (by decide) rfl rfl; intro h hm
  have hq := hq0.kp (Kp.put (Ls := [0]) (La := []) (f := 0) (x := nI 0) rfl) rfl rfl rfl rfl
  have hh := hq.1
  have hg := hq.2.1
  have hr := hq.2.2.2.1
  refine aw_aload_n (i := 0) d_Mod_behind_5 rfl rfl ?_
  refine aw_iload_n (i := 1) d_Mod_behind_6 rfl rfl ?_
  apply aw_callv_MI (c_Mod_isCode hm hq hv x) d_Mod_behind_7 cl_Mod_265; exact hm.1.1; rfl; rfl; rfl; rfl; decide; exact Nat.le_of_ble_eq_true rfl; exact Nat.le_refl _; exact Nat.le_refl _
  rintro h sc1 ar1 hm ⟨hq, hf, h0_⟩
  have hh := hq.1
  have hw := hf.1
  have hb := hf.2.2.1
  have h29 := hf.2.2.2.1
  have h30 := hf.2.2.2.2
  refine aw_ifB_eq d_Mod_behind_10 (fun br10_ => ?_) (fun br10_ => ?_)
  · skip
    refine aw_iconst (v := -1) d_Mod_behind_35 (by decide) ?_
    refine aw_iret d_Mod_behind_36 rfl (Nat.le_refl _) (Nat.le_refl _) ?_
    exact ⟨_, _, _, rfl, hm, by rw [br10_]; rfl, h0_.trans rfl, hq⟩
  · skip
    obtain ⟨c, hc, rfl, hxc⟩ := isC_ex br10_ hv
    refine aw_aload_n (i := 0) d_Mod_behind_13 rfl rfl ?_
    refine aw_iload_n (i := 2) d_Mod_behind_14 rfl rfl ?_
    apply aw_callv_p (c_Mod_isStep hm.1 hh.1.2.1 (by omega) s) d_Mod_behind_15 cl_Mod_190; exact hm.1.1; rfl; rfl; rfl; rfl; decide; exact Nat.le_of_ble_eq_true rfl; exact (Nat.le_refl _); exact (Nat.le_refl _)
    refine aw_ifB_eq d_Mod_behind_18 (fun br18_ => ?_) (fun br18_ => ?_)
    · skip
      refine aw_iconst (v := -1) d_Mod_behind_35 (by decide) ?_
      refine aw_iret d_Mod_behind_36 rfl (Nat.le_refl _) (Nat.le_refl _) ?_
      exact ⟨_, _, _, rfl, hm, by unfold isSx; rw [br18_, Bool.and_false]; rfl, h0_.trans rfl, hq⟩
    · skip
      obtain ⟨s0, hs0, rfl⟩ := dec_ix br18_ (by omega)
      refine aw_aload_n (i := 0) d_Mod_behind_21 rfl rfl ?_
      refine mo_get (f := 28) hm d_Mod_behind_22 fl_Mod_79 rfl ?_
      refine aw_iload_n (i := 1) d_Mod_behind_25 rfl rfl ?_
      refine aw_bipush (v := nI 24) d_Mod_behind_26 (by decide) ?_
      refine aw_imulN d_Mod_behind_28 ?_
      refine aw_iload_n (i := 2) d_Mod_behind_29 rfl rfl ?_
      refine aw_iaddN d_Mod_behind_30 ?_
      apply mo_ld (f := 28) (N := 480000) hm d_Mod_behind_31 rfl rfl (by decide); omega; exact hb _ _ hc hs0
      refine aw_goto d_Mod_behind_32 ?_
      refine aw_iret d_Mod_behind_36 rfl (Nat.le_refl _) (Nat.le_refl _) ?_
      exact ⟨_, _, _, rfl, hm, by unfold isSx; rw [br10_, br18_, hxc, xN_nI (by omega)]; rfl, h0_.trans rfl, hq⟩

theorem far_bd {hs : HSt} (hF : FarOK hs) {c : Nat} (hc : c < hall hs) : far hs c < 2 ^ 31 := Nat.lt_of_le_of_lt (hF c hc).2 (by decide)
set_option maxHeartbeats 4000000 in
set_option maxRecDepth 20000 in
theorem c_Mod_least {G : aG} {nx : Nat} {h h0 : Nat → Option aC} {a : Nat} {A : Nat → Nat} {sc : Nat → Int32} {ar : Nat → Nat → Int32} (hm : MoF h0 h a A sc ar) {hs : HSt} {gs : List GSt} {lg : List (Nat × Nat × Nat)} {xs : List Int32} (hq : MoA sc ar hs gs lg xs) (hv : VH hs) (hF : FarOK hs) (x : Int32) : AMet G m_Mod_least 5 0 0 [.ref a, .int x] (nx, h) (MR nx a h0 A (fun r sc2 ar2 => r = some (.int (if isC hs x then lsI hs (xN x) else -1)) ∧ sc2 0 = 0 ∧ MoA sc2 ar2 hs gs lg xs)) := by
  have hp12 := hv.1.1
  have hs24 := hv.2.1
  have hall2 := hv.2.2.2.2.2.2.2
  have hq0 := hq
  refine amet_of pf_Mod_least (Nat.le_of_ble_eq_true rfl) ?_
  show AW G m_Mod_least 5 0 0 _ 0 [(0, .ref a), (1, .int x)] [] (nx, h) 0 0
  refine aw_aload_n (i := 0) d_Mod_least_0 rfl rfl ?_
  refine aw_iconst (v := nI 0) d_Mod_least_1 (by decide) ?_
  apply mo_put (f := 0) hm d_Mod_least_2 pl_Mod_150 (ms_0 _ _ _) (by decide) rfl rfl; intro h hm
  have hq := hq0.kp (Kp.put (Ls := [0]) (La := []) (f := 0) (x := nI 0) rfl) rfl rfl rfl rfl
  have hh := hq.1
  have hg := hq.2.1
  have hr := hq.2.2.2.1
  refine aw_aload_n (i := 0) d_Mod_least_5 rfl rfl ?_
  refine aw_iload_n (i := 1) d_Mod_least_6 rfl rfl ?_
  apply aw_callv_MI (c_Mod_isCode hm hq hv x) d_Mod_least_7 cl_Mod_265; exact hm.1.1; rfl; rfl; rfl; rfl; decide; exact Nat.le_of_ble_eq_true rfl; exact Nat.le_refl _; exact Nat.le_refl _
  rintro h sc1 ar1 hm ⟨hq, hf, h0_⟩
  have hh := hq.1
  have hw := hf.1
  have hb := hf.2.2.1
  have h29 := hf.2.2.2.1
  have h30 := hf.2.2.2.2
  refine aw_ifB_ne d_Mod_least_10 (fun br10_ => ?_) (fun br10_ => ?_)
  · skip
    obtain ⟨c, hc, rfl, hxc⟩ := isC_ex br10_ hv
    refine aw_aload_n (i := 0) d_Mod_least_17 rfl rfl ?_
    refine aw_iload_n (i := 1) d_Mod_least_18 rfl rfl ?_
    apply aw_callv_p (c_Mod_isOpen hm (c := c) (v := far hs (c)) (by omega) (h30 _ hc) (far_bd hF hc)) d_Mod_least_19 cl_Mod_268; exact hm.1.1; rfl; rfl; rfl; rfl; decide; exact Nat.le_of_ble_eq_true rfl; exact (Nat.le_refl _); exact (Nat.le_refl _)
    refine aw_ifB_eq d_Mod_least_22 (fun br22_ => ?_) (fun br22_ => ?_)
    · skip
      refine aw_bipush (v := -2) d_Mod_least_34 (by decide) ?_
      refine aw_iret d_Mod_least_36 rfl (Nat.le_refl _) (Nat.le_refl _) ?_
      exact ⟨_, _, _, rfl, hm, by rw [br10_, if_pos rfl, hxc]; unfold lsI isO; rw [br22_]; rfl, h0_.trans rfl, hq⟩
    · skip
      refine aw_aload_n (i := 0) d_Mod_least_25 rfl rfl ?_
      refine mo_get (f := 30) hm d_Mod_least_26 fl_Mod_86 rfl ?_
      refine aw_iload_n (i := 1) d_Mod_least_29 rfl rfl ?_
      apply mo_ld (f := 30) (N := 20000) hm d_Mod_least_30 rfl rfl (by decide); omega; exact h30 _ hc
      refine aw_goto d_Mod_least_31 ?_
      refine aw_iret d_Mod_least_36 rfl (Nat.le_refl _) (Nat.le_refl _) ?_
      exact ⟨_, _, _, rfl, hm, by rw [br10_, if_pos rfl, hxc]; unfold lsI isO; rw [br22_]; rfl, h0_.trans rfl, hq⟩
  · skip
    refine aw_iconst (v := -1) d_Mod_least_13 (by decide) ?_
    refine aw_goto d_Mod_least_14 ?_
    refine aw_iret d_Mod_least_36 rfl (Nat.le_refl _) (Nat.le_refl _) ?_
    exact ⟨_, _, _, rfl, hm, by rw [br10_]; rfl, h0_.trans rfl, hq⟩

set_option maxHeartbeats 4000000 in
set_option maxRecDepth 20000 in
theorem c_Mod_hinted {G : aG} {nx : Nat} {h h0 : Nat → Option aC} {a : Nat} {A : Nat → Nat} {sc : Nat → Int32} {ar : Nat → Nat → Int32} (hm : MoF h0 h a A sc ar) {hs : HSt} (hh : MoH sc ar hs) (hv : VH hs) (hF : FarOK hs) (hb : MoB ar hs) (h30 : ∀ c, c < hall hs → ar 30 c = nI (far hs c)) {c : Nat} (hc : c < hall hs) : AMet G m_Mod_hinted 1 0 0 [.ref a, .int (nI c)] (nx, h) (RV (.int (fsI (hnp hs c) hs.2.1.length)) (nx, h)) := by
  have hp12 := hv.1.1
  have hs24 := hv.2.1
  have hall2 := hv.2.2.2.2.2.2.2
  refine amet_of pf_Mod_hinted (Nat.le_of_ble_eq_true rfl) ?_
  show AW G m_Mod_hinted 1 0 0 _ 0 [(0, .ref a), (1, .int (nI c))] [] (nx, h) 0 0
  refine aw_iconst (v := nI 0) d_Mod_hinted_0 (by decide) ?_
  refine aw_istore_n (i := 2) (lv2 := [(0, _), (1, _), (2, _)]) d_Mod_hinted_1 rfl (by decide) rfl ?_
  show AW G m_Mod_hinted 1 0 0 _ 2 [(0, .ref a), (1, .int (nI c)), (2, .int (nI 0))] [] (nx, h) 0 0
  refine upto (σ := Nat) (fun i => AW G m_Mod_hinted 1 0 0 _ 2 [(0, .ref a), (1, .int (nI c)), (2, .int (nI i))] [] (nx, h) 0 0) (fun i s => i = s ∧ ∀ k, k < i → hnp hs c k = false) (hs.2.1.length) ?_ 0 0 (Nat.zero_le _) ⟨rfl, fun k hk => absurd hk (Nat.not_lt_zero _)⟩
  intro i s9 hi_i hI_i ih_i
  obtain ⟨rfl, hI_i⟩ := hI_i
  refine aw_iload_n (i := 2) d_Mod_hinted_2 rfl rfl ?_
  refine aw_aload_n (i := 0) d_Mod_hinted_3 rfl rfl ?_
  apply mo_gets (f := 4) hm d_Mod_hinted_4 fl_Mod_164 rfl; exact hh.1.2.1
  refine aw_icmpN_ge d_Mod_hinted_7 (by omega) (by omega) (fun br7_ => ?_) (fun br7_ => ?_)
  · skip
    have ei : i = hs.2.1.length := by omega
    subst ei
    refine aw_iconst (v := -1) d_Mod_hinted_64 (by decide) ?_
    refine aw_iret d_Mod_hinted_65 rfl (Nat.le_refl _) (Nat.le_refl _) ?_
    exact ⟨by rw [fsI_f hI_i], rfl⟩
  · skip
    have hal := aft_lt hv hc br7_
    have hfc := far_bd hF hc
    have hfa := far_bd hF hal
    have htk : tks hs i ≤ 100 := (hv.s br7_).2.2.2.2.1
    refine aw_aload_n (i := 0) d_Mod_hinted_10 rfl rfl ?_
    refine mo_get (f := 28) hm d_Mod_hinted_11 fl_Mod_79 rfl ?_
    refine aw_iload_n (i := 1) d_Mod_hinted_14 rfl rfl ?_
    refine aw_bipush (v := nI 24) d_Mod_hinted_15 (by decide) ?_
    refine aw_imulN d_Mod_hinted_17 ?_
    refine aw_iload_n (i := 2) d_Mod_hinted_18 rfl rfl ?_
    refine aw_iaddN d_Mod_hinted_19 ?_
    apply mo_ld (f := 28) (N := 480000) hm d_Mod_hinted_20 rfl rfl (by decide); omega; exact hb _ _ hc br7_
    refine aw_istore_n (i := 3) (lv2 := [(0, _), (1, _), (2, _), (3, _)]) d_Mod_hinted_21 rfl (by decide) rfl ?_
    refine aw_iload_n (i := 3) d_Mod_hinted_22 rfl rfl ?_
    refine aw_if_lt d_Mod_hinted_23 (fun br23_ => ?_) (fun br23_ => ?_)
    · skip
      have hno : hnp hs c i = false := by unfold hnp; rw [bh_neg br23_ (by omega)]; rfl
      refine aw_iincN (lv2 := [(0, _), (1, _), (2, _), (3, _)]) d_Mod_hinted_58 (by decide) rfl rfl ?_
      refine aw_goto d_Mod_hinted_61 ?_
      have hall9 : ∀ k, k < i + 1 → hnp hs c k = false := by
        intro k hk
        by_cases e : k = i
        · subst e; exact hno
        · exact hI_i k (by omega)
      first
        | exact ih_i br7_ (i + 1) ⟨rfl, hall9⟩
        | (refine aw_drop (lv2 := [(0, _), (1, _), (2, _)]) [0, 1, 2] rfl ?_
           exact ih_i br7_ (i + 1) ⟨rfl, hall9⟩)
    · skip
      have ho := bh_pos br23_
      rw [bh_t ho]
      refine aw_aload_n (i := 0) d_Mod_hinted_26 rfl rfl ?_
      refine aw_iload_n (i := 3) d_Mod_hinted_27 rfl rfl ?_
      apply aw_callv_p (c_Mod_isOpen hm (c := aft hs c i) (v := far hs (aft hs c i)) (by omega) (h30 _ hal) (far_bd hF hal)) d_Mod_hinted_28 cl_Mod_268; exact hm.1.1; rfl; rfl; rfl; rfl; decide; exact Nat.le_of_ble_eq_true rfl; exact (Nat.le_refl _); exact (Nat.le_refl _)
      refine aw_ifB_eq d_Mod_hinted_31 (fun br31_ => ?_) (fun br31_ => ?_)
      · skip
        have hno : hnp hs c i = false := by unfold hnp isO; rw [br31_]; simp
        refine aw_iincN (lv2 := [(0, _), (1, _), (2, _), (3, _)]) d_Mod_hinted_58 (by decide) rfl rfl ?_
        refine aw_goto d_Mod_hinted_61 ?_
        have hall9 : ∀ k, k < i + 1 → hnp hs c k = false := by
          intro k hk
          by_cases e : k = i
          · subst e; exact hno
          · exact hI_i k (by omega)
        first
          | exact ih_i br7_ (i + 1) ⟨rfl, hall9⟩
          | (refine aw_drop (lv2 := [(0, _), (1, _), (2, _)]) [0, 1, 2] rfl ?_
             exact ih_i br7_ (i + 1) ⟨rfl, hall9⟩)
      · skip
        have hfl : far hs (aft hs c i) < FAR := of_decide_eq_true br31_
        have hfl2 : far hs (aft hs c i) < 268435456 := hfl
        refine aw_aload_n (i := 0) d_Mod_hinted_34 rfl rfl ?_
        refine mo_get (f := 30) hm d_Mod_hinted_35 fl_Mod_86 rfl ?_
        refine aw_iload_n (i := 3) d_Mod_hinted_38 rfl rfl ?_
        apply mo_ld (f := 30) (N := 20000) hm d_Mod_hinted_39 rfl rfl (by decide); omega; exact h30 _ hal
        refine aw_aload_n (i := 0) d_Mod_hinted_40 rfl rfl ?_
        refine mo_get (f := 7) hm d_Mod_hinted_41 fl_Mod_22 rfl ?_
        refine aw_iload_n (i := 2) d_Mod_hinted_44 rfl rfl ?_
        apply mo_ld (f := 7) (N := 24) hm d_Mod_hinted_45 rfl rfl (by decide); omega; exact (show _ = nI (tks hs i) from (hh.2.2.1 _ br7_).2.2.1)
        refine aw_iaddN d_Mod_hinted_46 ?_
        refine aw_aload_n (i := 0) d_Mod_hinted_47 rfl rfl ?_
        refine mo_get (f := 30) hm d_Mod_hinted_48 fl_Mod_86 rfl ?_
        refine aw_iload_n (i := 1) d_Mod_hinted_51 rfl rfl ?_
        apply mo_ld (f := 30) (N := 20000) hm d_Mod_hinted_52 rfl rfl (by decide); omega; exact h30 _ hc
        refine aw_icmpN_ne d_Mod_hinted_53 (by omega) (by omega) (fun br53_ => ?_) (fun br53_ => ?_)
        · skip
          have hno : hnp hs c i = false := by unfold hnp; rw [decide_eq_false br53_, Bool.and_false]
          refine aw_iincN (lv2 := [(0, _), (1, _), (2, _), (3, _)]) d_Mod_hinted_58 (by decide) rfl rfl ?_
          refine aw_goto d_Mod_hinted_61 ?_
          have hall9 : ∀ k, k < i + 1 → hnp hs c k = false := by
            intro k hk
            by_cases e : k = i
            · subst e; exact hno
            · exact hI_i k (by omega)
          first
            | exact ih_i br7_ (i + 1) ⟨rfl, hall9⟩
            | (refine aw_drop (lv2 := [(0, _), (1, _), (2, _)]) [0, 1, 2] rfl ?_
               exact ih_i br7_ (i + 1) ⟨rfl, hall9⟩)
        · skip
          have hyes : hnp hs c i = true := by unfold hnp isO; rw [ho, br31_, decide_eq_true br53_]; rfl
          refine aw_iload_n (i := 2) d_Mod_hinted_56 rfl rfl ?_
          refine aw_iret d_Mod_hinted_57 rfl (Nat.le_refl _) (Nat.le_refl _) ?_
          exact ⟨by rw [fsI_t br7_ hI_i hyes], rfl⟩

set_option maxHeartbeats 4000000 in
set_option maxRecDepth 20000 in
theorem c_Mod_hint {G : aG} {nx : Nat} {h h0 : Nat → Option aC} {a : Nat} {A : Nat → Nat} {sc : Nat → Int32} {ar : Nat → Nat → Int32} (hm : MoF h0 h a A sc ar) {hs : HSt} {gs : List GSt} {lg : List (Nat × Nat × Nat)} {xs : List Int32} (hq : MoA sc ar hs gs lg xs) (hv : VH hs) (hF : FarOK hs) (x : Int32) : AMet G m_Mod_hint 5 0 0 [.ref a, .int x] (nx, h) (MR nx a h0 A (fun r sc2 ar2 => r = some (.int (if isC hs x && isO hs (xN x) then fsI (hnp hs (xN x)) hs.2.1.length else -1)) ∧ sc2 0 = 0 ∧ MoA sc2 ar2 hs gs lg xs)) := by
  have hp12 := hv.1.1
  have hs24 := hv.2.1
  have hall2 := hv.2.2.2.2.2.2.2
  have hq0 := hq
  refine amet_of pf_Mod_hint (Nat.le_of_ble_eq_true rfl) ?_
  show AW G m_Mod_hint 5 0 0 _ 0 [(0, .ref a), (1, .int x)] [] (nx, h) 0 0
  refine aw_aload_n (i := 0) d_Mod_hint_0 rfl rfl ?_
  refine aw_iconst (v := nI 0) d_Mod_hint_1 (by decide) ?_
  apply mo_put (f := 0) hm d_Mod_hint_2 pl_Mod_150 (ms_0 _ _ _) (by decide) rfl rfl; intro h hm
  have hq := hq0.kp (Kp.put (Ls := [0]) (La := []) (f := 0) (x := nI 0) rfl) rfl rfl rfl rfl
  have hh := hq.1
  have hg := hq.2.1
  have hr := hq.2.2.2.1
  refine aw_aload_n (i := 0) d_Mod_hint_5 rfl rfl ?_
  refine aw_iload_n (i := 1) d_Mod_hint_6 rfl rfl ?_
  apply aw_callv_MI (c_Mod_isCode hm hq hv x) d_Mod_hint_7 cl_Mod_265; exact hm.1.1; rfl; rfl; rfl; rfl; decide; exact Nat.le_of_ble_eq_true rfl; exact Nat.le_refl _; exact Nat.le_refl _
  rintro h sc1 ar1 hm ⟨hq, hf, h0_⟩
  have hh := hq.1
  have hw := hf.1
  have hb := hf.2.2.1
  have h29 := hf.2.2.2.1
  have h30 := hf.2.2.2.2
  refine aw_ifB_eq d_Mod_hint_10 (fun br10_ => ?_) (fun br10_ => ?_)
  · skip
    refine aw_iconst (v := -1) d_Mod_hint_29 (by decide) ?_
    refine aw_iret d_Mod_hint_30 rfl (Nat.le_refl _) (Nat.le_refl _) ?_
    exact ⟨_, _, _, rfl, hm, by rw [br10_]; rfl, h0_.trans rfl, hq⟩
  · skip
    obtain ⟨c, hc, rfl, hxc⟩ := isC_ex br10_ hv
    refine aw_aload_n (i := 0) d_Mod_hint_13 rfl rfl ?_
    refine aw_iload_n (i := 1) d_Mod_hint_14 rfl rfl ?_
    apply aw_callv_p (c_Mod_isOpen hm (c := c) (v := far hs (c)) (by omega) (h30 _ hc) (far_bd hF hc)) d_Mod_hint_15 cl_Mod_268; exact hm.1.1; rfl; rfl; rfl; rfl; decide; exact Nat.le_of_ble_eq_true rfl; exact (Nat.le_refl _); exact (Nat.le_refl _)
    refine aw_ifB_eq d_Mod_hint_18 (fun br18_ => ?_) (fun br18_ => ?_)
    · skip
      refine aw_iconst (v := -1) d_Mod_hint_29 (by decide) ?_
      refine aw_iret d_Mod_hint_30 rfl (Nat.le_refl _) (Nat.le_refl _) ?_
      exact ⟨_, _, _, rfl, hm, by rw [hxc]; unfold isO; rw [br18_, Bool.and_false]; rfl, h0_.trans rfl, hq⟩
    · skip
      refine aw_aload_n (i := 0) d_Mod_hint_21 rfl rfl ?_
      refine aw_iload_n (i := 1) d_Mod_hint_22 rfl rfl ?_
      apply aw_callv_p (c_Mod_hinted hm hh hv hF hb h30 hc) d_Mod_hint_23 cl_Mod_271; exact hm.1.1; rfl; rfl; rfl; rfl; decide; exact Nat.le_of_ble_eq_true rfl; exact (Nat.le_refl _); exact (Nat.le_refl _)
      refine aw_goto d_Mod_hint_26 ?_
      refine aw_iret d_Mod_hint_30 rfl (Nat.le_refl _) (Nat.le_refl _) ?_
      exact ⟨_, _, _, rfl, hm, by rw [hxc, br10_]; unfold isO; rw [br18_]; rfl, h0_.trans rfl, hq⟩

noncomputable def lostp (hs : HSt) (c : Nat) : Bool := rch hs c && !isO hs c
set_option maxHeartbeats 4000000 in
set_option maxRecDepth 20000 in
theorem c_Mod_lost {G : aG} {nx : Nat} {h h0 : Nat → Option aC} {a : Nat} {A : Nat → Nat} {sc : Nat → Int32} {ar : Nat → Nat → Int32} (hm : MoF h0 h a A sc ar) {hs : HSt} {gs : List GSt} {lg : List (Nat × Nat × Nat)} {xs : List Int32} (hq : MoA sc ar hs gs lg xs) (hv : VH hs) (hF : FarOK hs) : AMet G m_Mod_lost 4 0 0 [.ref a] (nx, h) (MR nx a h0 A (fun r sc2 ar2 => r = some (.int (nI (ctn (lostp hs) (hall hs)))) ∧ sc2 0 = 0 ∧ MoA sc2 ar2 hs gs lg xs ∧ MoFr sc2 ar2 hs)) := by
  have hp12 := hv.1.1
  have hs24 := hv.2.1
  have hall2 := hv.2.2.2.2.2.2.2
  have hq0 := hq
  refine amet_of pf_Mod_lost (Nat.le_of_ble_eq_true rfl) ?_
  show AW G m_Mod_lost 4 0 0 _ 0 [(0, .ref a)] [] (nx, h) 0 0
  refine aw_aload_n (i := 0) d_Mod_lost_0 rfl rfl ?_
  refine aw_iconst (v := nI 0) d_Mod_lost_1 (by decide) ?_
  apply mo_put (f := 0) hm d_Mod_lost_2 pl_Mod_150 (ms_0 _ _ _) (by decide) rfl rfl; intro h hm
  have hq := hq0.kp (Kp.put (Ls := [0]) (La := []) (f := 0) (x := nI 0) rfl) rfl rfl rfl rfl
  have hh := hq.1
  have hg := hq.2.1
  have hr := hq.2.2.2.1
  refine aw_aload_n (i := 0) d_Mod_lost_5 rfl rfl ?_
  apply aw_callv_M0 (c_Mod_fresh hm hq hv) d_Mod_lost_6 cl_Mod_259; exact hm.1.1; rfl; rfl; rfl; rfl; decide; exact Nat.le_of_ble_eq_true rfl; exact Nat.le_refl _; exact Nat.le_refl _
  rintro h sc1 ar1 hm ⟨hq, hf, h0_⟩
  have hh := hq.1
  have hw := hf.1
  have hb := hf.2.2.1
  have h29 := hf.2.2.2.1
  have h30 := hf.2.2.2.2
  refine aw_iconst (v := nI 0) d_Mod_lost_9 (by decide) ?_
  refine aw_istore_n (i := 1) (lv2 := [(0, _), (1, _)]) d_Mod_lost_10 rfl (by decide) rfl ?_
  refine aw_iconst (v := nI 0) d_Mod_lost_11 (by decide) ?_
  refine aw_istore_n (i := 2) (lv2 := [(0, _), (1, _), (2, _)]) d_Mod_lost_12 rfl (by decide) rfl ?_
  show AW G m_Mod_lost 4 0 0 _ 13 [(0, .ref a), (1, .int (nI (ctn (lostp hs) 0))), (2, .int (nI 0))] [] (nx, h) 0 0
  refine upto (σ := Nat) (fun i => AW G m_Mod_lost 4 0 0 _ 13 [(0, .ref a), (1, .int (nI (ctn (lostp hs) i))), (2, .int (nI i))] [] (nx, h) 0 0) (fun i s => i = s ∧ True) (hall hs) ?_ 0 0 (Nat.zero_le _) ⟨rfl, trivial⟩
  intro i s9 hi_i hI_i ih_i
  obtain ⟨rfl, hI_i⟩ := hI_i
  refine aw_iload_n (i := 2) d_Mod_lost_13 rfl rfl ?_
  refine aw_aload_n (i := 0) d_Mod_lost_14 rfl rfl ?_
  apply mo_gets (f := 26) hm d_Mod_lost_15 fl_Mod_206 rfl; exact hw.1
  refine aw_icmpN_ge d_Mod_lost_18 (by omega) (by omega) (fun br18_ => ?_) (fun br18_ => ?_)
  · skip
    have ei : i = hall hs := by omega
    subst ei
    refine aw_iload_n (i := 1) d_Mod_lost_52 rfl rfl ?_
    refine aw_iret d_Mod_lost_53 rfl (Nat.le_refl _) (Nat.le_refl _) ?_
    exact ⟨_, _, _, rfl, hm, rfl, h0_.trans rfl, hq, hf⟩
  · skip
    refine aw_iload_n (i := 1) d_Mod_lost_21 rfl rfl ?_
    refine aw_aload_n (i := 0) d_Mod_lost_22 rfl rfl ?_
    refine mo_get (f := 29) hm d_Mod_lost_23 fl_Mod_82 rfl ?_
    refine aw_iload_n (i := 2) d_Mod_lost_26 rfl rfl ?_
    apply mo_zld (f := 29) (N := 20000) hm d_Mod_lost_27 rfl rfl (by decide); omega; exact h29 _ br18_
    refine aw_ifB_eq d_Mod_lost_28 (fun br28_ => ?_) (fun br28_ => ?_)
    · skip
      have hst : ctn (lostp hs) (i + 1) = ctn (lostp hs) i + 0 := by show _ + _ = _; unfold lostp; rw [br28_]; rfl
      refine aw_iconst (v := nI 0) d_Mod_lost_43 (by decide) ?_
      refine aw_iaddN d_Mod_lost_44 ?_
      refine aw_istore_n (i := 1) (lv2 := [(0, _), (1, _), (2, _)]) d_Mod_lost_45 rfl (by decide) rfl ?_
      refine aw_iincN (lv2 := [(0, _), (1, _), (2, _)]) d_Mod_lost_46 (by decide) rfl rfl ?_
      refine aw_goto d_Mod_lost_49 ?_
      have k9 := ih_i br18_ (i + 1) ⟨rfl, trivial⟩
      rw [hst] at k9
      exact k9
    · skip
      refine aw_aload_n (i := 0) d_Mod_lost_31 rfl rfl ?_
      refine aw_iload_n (i := 2) d_Mod_lost_32 rfl rfl ?_
      apply aw_callv_p (c_Mod_isOpen hm (c := i) (v := far hs (i)) (by omega) (h30 _ br18_) (far_bd hF br18_)) d_Mod_lost_33 cl_Mod_268; exact hm.1.1; rfl; rfl; rfl; rfl; decide; exact Nat.le_of_ble_eq_true rfl; exact (Nat.le_refl _); exact (Nat.le_refl _)
      refine aw_ifB_ne d_Mod_lost_36 (fun br36_ => ?_) (fun br36_ => ?_)
      · skip
        have hst : ctn (lostp hs) (i + 1) = ctn (lostp hs) i + 0 := by show _ + _ = _; unfold lostp isO; rw [br28_, br36_]; rfl
        refine aw_iconst (v := nI 0) d_Mod_lost_43 (by decide) ?_
        refine aw_iaddN d_Mod_lost_44 ?_
        refine aw_istore_n (i := 1) (lv2 := [(0, _), (1, _), (2, _)]) d_Mod_lost_45 rfl (by decide) rfl ?_
        refine aw_iincN (lv2 := [(0, _), (1, _), (2, _)]) d_Mod_lost_46 (by decide) rfl rfl ?_
        refine aw_goto d_Mod_lost_49 ?_
        have k9 := ih_i br18_ (i + 1) ⟨rfl, trivial⟩
        rw [hst] at k9
        exact k9
      · skip
        have hst : ctn (lostp hs) (i + 1) = ctn (lostp hs) i + 1 := by show _ + _ = _; unfold lostp isO; rw [br28_, br36_]; rfl
        refine aw_iconst (v := nI 1) d_Mod_lost_39 (by decide) ?_
        refine aw_goto d_Mod_lost_40 ?_
        refine aw_iaddN d_Mod_lost_44 ?_
        refine aw_istore_n (i := 1) (lv2 := [(0, _), (1, _), (2, _)]) d_Mod_lost_45 rfl (by decide) rfl ?_
        refine aw_iincN (lv2 := [(0, _), (1, _), (2, _)]) d_Mod_lost_46 (by decide) rfl rfl ?_
        refine aw_goto d_Mod_lost_49 ?_
        have k9 := ih_i br18_ (i + 1) ⟨rfl, trivial⟩
        rw [hst] at k9
        exact k9

noncomputable def sPart (hs : HSt) (x w i : Int32) : Option Int32 := if isC hs x && (decide (w = 0) && isPx hs i) then some (nI (dg (pks hs.1) (xN x) (xN i))) else if isC hs x && (decide (w = 1) && isSx hs i) then some (bI (wdj hs (xN x) (xN i))) else none
set_option maxHeartbeats 4000000 in
set_option maxRecDepth 20000 in
theorem c_Mod_part {G : aG} {nx : Nat} {h h0 : Nat → Option aC} {a : Nat} {A : Nat → Nat} {sc : Nat → Int32} {ar : Nat → Nat → Int32} (hm : MoF h0 h a A sc ar) {hs : HSt} {gs : List GSt} {lg : List (Nat × Nat × Nat)} {xs : List Int32} (hq : MoA sc ar hs gs lg xs) (hv : VH hs) (x w9 i : Int32) : AMet G m_Mod_part 5 0 0 [.ref a, .int x, .int w9, .int i] (nx, h) (MR nx a h0 A (fun r sc2 ar2 => r = some (.int ((sPart hs x w9 i).getD 0)) ∧ sc2 0 = bI (sPart hs x w9 i).isNone ∧ MoA sc2 ar2 hs gs lg xs)) := by
  have hp12 := hv.1.1
  have hs24 := hv.2.1
  have hall2 := hv.2.2.2.2.2.2.2
  have hq0 := hq
  refine amet_of pf_Mod_part (Nat.le_of_ble_eq_true rfl) ?_
  show AW G m_Mod_part 5 0 0 _ 0 [(0, .ref a), (1, .int x), (2, .int w9), (3, .int i)] [] (nx, h) 0 0
  refine aw_aload_n (i := 0) d_Mod_part_0 rfl rfl ?_
  refine aw_iconst (v := nI 0) d_Mod_part_1 (by decide) ?_
  apply mo_put (f := 0) hm d_Mod_part_2 pl_Mod_150 (ms_0 _ _ _) (by decide) rfl rfl; intro h hm
  have hq := hq0.kp (Kp.put (Ls := [0]) (La := []) (f := 0) (x := nI 0) rfl) rfl rfl rfl rfl
  have hh := hq.1
  have hg := hq.2.1
  have hr := hq.2.2.2.1
  refine aw_aload_n (i := 0) d_Mod_part_5 rfl rfl ?_
  refine aw_iload_n (i := 1) d_Mod_part_6 rfl rfl ?_
  apply aw_callv_MI (c_Mod_isCode hm hq hv x) d_Mod_part_7 cl_Mod_265; exact hm.1.1; rfl; rfl; rfl; rfl; decide; exact Nat.le_of_ble_eq_true rfl; exact Nat.le_refl _; exact Nat.le_refl _
  rintro h sc1 ar1 hm ⟨hq, hf, h0_⟩
  have hh := hq.1
  have hw := hf.1
  have hb := hf.2.2.1
  have h29 := hf.2.2.2.1
  have h30 := hf.2.2.2.2
  refine aw_ifB_eq d_Mod_part_10 (fun br10_ => ?_) (fun br10_ => ?_)
  · skip
    have hr_ : sPart hs x w9 i = none := by unfold sPart; rw [br10_]; rfl
    refine aw_aload_n (i := 0) d_Mod_part_38 rfl rfl ?_
    apply aw_callv_MI (c_Mod_refuse hm) d_Mod_part_39 cl_Mod_262; exact hm.1.1; rfl; rfl; rfl; rfl; decide; exact Nat.le_of_ble_eq_true rfl; exact Nat.le_refl _; exact Nat.le_refl _
    rintro h sc2 ar2 hm ⟨h1_, hK⟩
    have hq := hq.kp hK rfl rfl rfl rfl
    refine aw_iret d_Mod_part_42 rfl (Nat.le_refl _) (Nat.le_refl _) ?_
    exact ⟨_, _, _, rfl, hm, by rw [hr_]; rfl, by rw [hr_]; exact h1_, hq⟩
  · skip
    obtain ⟨c, hc, rfl, hxc⟩ := isC_ex br10_ hv
    refine aw_iload_n (i := 2) d_Mod_part_13 rfl rfl ?_
    refine aw_if_ne d_Mod_part_14 (fun br14_ => ?_) (fun br14_ => ?_)
    · skip
      refine aw_iload_n (i := 2) d_Mod_part_25 rfl rfl ?_
      refine aw_iconst (v := 1) d_Mod_part_26 (by decide) ?_
      refine aw_icmp_ne d_Mod_part_27 (fun br27_ => ?_) (fun br27_ => ?_)
      · skip
        have hr_ : sPart hs (nI c) w9 i = none := by unfold sPart; rw [decide_eq_false br27_]; first | (rw [decide_eq_false br14_]; simp) | (unfold isPx; rw [br22_]; simp)
        refine aw_aload_n (i := 0) d_Mod_part_38 rfl rfl ?_
        apply aw_callv_MI (c_Mod_refuse hm) d_Mod_part_39 cl_Mod_262; exact hm.1.1; rfl; rfl; rfl; rfl; decide; exact Nat.le_of_ble_eq_true rfl; exact Nat.le_refl _; exact Nat.le_refl _
        rintro h sc2 ar2 hm ⟨h1_, hK⟩
        have hq := hq.kp hK rfl rfl rfl rfl
        refine aw_iret d_Mod_part_42 rfl (Nat.le_refl _) (Nat.le_refl _) ?_
        exact ⟨_, _, _, rfl, hm, by rw [hr_]; rfl, by rw [hr_]; exact h1_, hq⟩
      · skip
        refine aw_aload_n (i := 0) d_Mod_part_30 rfl rfl ?_
        refine aw_iload_n (i := 3) d_Mod_part_31 rfl rfl ?_
        apply aw_callv_p (c_Mod_isStep hm.1 hh.1.2.1 (by omega) i) d_Mod_part_32 cl_Mod_190; exact hm.1.1; rfl; rfl; rfl; rfl; decide; exact Nat.le_of_ble_eq_true rfl; exact (Nat.le_refl _); exact (Nat.le_refl _)
        refine aw_ifB_ne d_Mod_part_35 (fun br35_ => ?_) (fun br35_ => ?_)
        · skip
          obtain ⟨i0, hi0, rfl⟩ := dec_ix br35_ (by omega)
          have hw0 : ¬ w9 = 0 := by rw [br27_]; decide
          have hr_ : sPart hs (nI c) w9 (nI i0) = some (bI (wdj hs c i0)) := by unfold sPart isSx; rw [br10_, decide_eq_false hw0, decide_eq_true br27_, br35_, hxc, xN_nI (by omega)]; rfl
          refine aw_iload_n (i := 2) d_Mod_part_43 rfl rfl ?_
          refine aw_if_ne d_Mod_part_44 (fun br44_ => ?_) (fun br44_ => absurd br44_ (by rw [br27_]; decide))
          refine aw_aload_n (i := 0) d_Mod_part_56 rfl rfl ?_
          refine aw_iload_n (i := 1) d_Mod_part_57 rfl rfl ?_
          refine aw_iload_n (i := 3) d_Mod_part_58 rfl rfl ?_
          apply aw_callv_p (c_Mod_wasDone hm.1 hh hw hv (c := c) (by omega) hi0) d_Mod_part_59 cl_Mod_216; exact hm.1.1; rfl; rfl; rfl; rfl; decide; exact Nat.le_of_ble_eq_true rfl; exact (Nat.le_refl _); exact (Nat.le_refl _)
          refine aw_ifB_eq d_Mod_part_62 (fun br62_ => ?_) (fun br62_ => ?_)
          · skip
            refine aw_iconst (v := nI 0) d_Mod_part_69 (by decide) ?_
            refine aw_iret d_Mod_part_70 rfl (Nat.le_refl _) (Nat.le_refl _) ?_
            exact ⟨_, _, _, rfl, hm, by rw [hr_, br62_]; rfl, by rw [hr_]; exact h0_.trans rfl, hq⟩
          · skip
            refine aw_iconst (v := nI 1) d_Mod_part_65 (by decide) ?_
            refine aw_goto d_Mod_part_66 ?_
            refine aw_iret d_Mod_part_70 rfl (Nat.le_refl _) (Nat.le_refl _) ?_
            exact ⟨_, _, _, rfl, hm, by rw [hr_, br62_]; rfl, by rw [hr_]; exact h0_.trans rfl, hq⟩
        · skip
          have hw0 : ¬ w9 = 0 := by rw [br27_]; decide
          have hr_ : sPart hs (nI c) w9 i = none := by unfold sPart isSx; rw [decide_eq_false hw0, br35_]; simp
          refine aw_aload_n (i := 0) d_Mod_part_38 rfl rfl ?_
          apply aw_callv_MI (c_Mod_refuse hm) d_Mod_part_39 cl_Mod_262; exact hm.1.1; rfl; rfl; rfl; rfl; decide; exact Nat.le_of_ble_eq_true rfl; exact Nat.le_refl _; exact Nat.le_refl _
          rintro h sc2 ar2 hm ⟨h1_, hK⟩
          have hq := hq.kp hK rfl rfl rfl rfl
          refine aw_iret d_Mod_part_42 rfl (Nat.le_refl _) (Nat.le_refl _) ?_
          exact ⟨_, _, _, rfl, hm, by rw [hr_]; rfl, by rw [hr_]; exact h1_, hq⟩
    · skip
      refine aw_aload_n (i := 0) d_Mod_part_17 rfl rfl ?_
      refine aw_iload_n (i := 3) d_Mod_part_18 rfl rfl ?_
      apply aw_callv_p (c_Mod_isProp hm.1 hh.1.1 (by omega) i) d_Mod_part_19 cl_Mod_160; exact hm.1.1; rfl; rfl; rfl; rfl; decide; exact Nat.le_of_ble_eq_true rfl; exact (Nat.le_refl _); exact (Nat.le_refl _)
      refine aw_ifB_ne d_Mod_part_22 (fun br22_ => ?_) (fun br22_ => ?_)
      · skip
        obtain ⟨i0, hi0, rfl⟩ := dec_ix br22_ (by omega)
        have hr_ : sPart hs (nI c) w9 (nI i0) = some (nI (dg (pks hs.1) c i0)) := by unfold sPart isPx; rw [br10_, decide_eq_true br14_, br22_, hxc, xN_nI (by omega)]; rfl
        refine aw_iload_n (i := 2) d_Mod_part_43 rfl rfl ?_
        refine aw_if_ne d_Mod_part_44 (fun br44_ => absurd br14_ br44_) (fun br44_ => ?_)
        refine aw_aload_n (i := 0) d_Mod_part_47 rfl rfl ?_
        refine aw_iload_n (i := 1) d_Mod_part_48 rfl rfl ?_
        refine aw_iload_n (i := 3) d_Mod_part_49 rfl rfl ?_
        apply aw_callv_p (c_Mod_stateOf hm.1 hh hw hv (c := c) (by omega) hi0) d_Mod_part_50 cl_Mod_212; exact hm.1.1; rfl; rfl; rfl; rfl; decide; exact Nat.le_of_ble_eq_true rfl; exact (Nat.le_refl _); exact (Nat.le_refl _)
        refine aw_goto d_Mod_part_53 ?_
        refine aw_iret d_Mod_part_70 rfl (Nat.le_refl _) (Nat.le_refl _) ?_
        exact ⟨_, _, _, rfl, hm, by rw [hr_]; rfl, by rw [hr_]; exact h0_.trans rfl, hq⟩
      · skip
        refine aw_iload_n (i := 2) d_Mod_part_25 rfl rfl ?_
        refine aw_iconst (v := 1) d_Mod_part_26 (by decide) ?_
        refine aw_icmp_ne d_Mod_part_27 (fun br27_ => ?_) (fun br27_ => ?_)
        · skip
          have hr_ : sPart hs (nI c) w9 i = none := by unfold sPart; rw [decide_eq_false br27_]; first | (rw [decide_eq_false br14_]; simp) | (unfold isPx; rw [br22_]; simp)
          refine aw_aload_n (i := 0) d_Mod_part_38 rfl rfl ?_
          apply aw_callv_MI (c_Mod_refuse hm) d_Mod_part_39 cl_Mod_262; exact hm.1.1; rfl; rfl; rfl; rfl; decide; exact Nat.le_of_ble_eq_true rfl; exact Nat.le_refl _; exact Nat.le_refl _
          rintro h sc2 ar2 hm ⟨h1_, hK⟩
          have hq := hq.kp hK rfl rfl rfl rfl
          refine aw_iret d_Mod_part_42 rfl (Nat.le_refl _) (Nat.le_refl _) ?_
          exact ⟨_, _, _, rfl, hm, by rw [hr_]; rfl, by rw [hr_]; exact h1_, hq⟩
        · skip
          refine aw_aload_n (i := 0) d_Mod_part_30 rfl rfl ?_
          refine aw_iload_n (i := 3) d_Mod_part_31 rfl rfl ?_
          apply aw_callv_p (c_Mod_isStep hm.1 hh.1.2.1 (by omega) i) d_Mod_part_32 cl_Mod_190; exact hm.1.1; rfl; rfl; rfl; rfl; decide; exact Nat.le_of_ble_eq_true rfl; exact (Nat.le_refl _); exact (Nat.le_refl _)
          refine aw_ifB_ne d_Mod_part_35 (fun br35_ => ?_) (fun br35_ => ?_)
          · skip
            obtain ⟨i0, hi0, rfl⟩ := dec_ix br35_ (by omega)
            have hw0 : ¬ w9 = 0 := by rw [br27_]; decide
            have hr_ : sPart hs (nI c) w9 (nI i0) = some (bI (wdj hs c i0)) := by unfold sPart isSx; rw [br10_, decide_eq_false hw0, decide_eq_true br27_, br35_, hxc, xN_nI (by omega)]; rfl
            refine aw_iload_n (i := 2) d_Mod_part_43 rfl rfl ?_
            refine aw_if_ne d_Mod_part_44 (fun br44_ => ?_) (fun br44_ => absurd br44_ (by rw [br27_]; decide))
            refine aw_aload_n (i := 0) d_Mod_part_56 rfl rfl ?_
            refine aw_iload_n (i := 1) d_Mod_part_57 rfl rfl ?_
            refine aw_iload_n (i := 3) d_Mod_part_58 rfl rfl ?_
            apply aw_callv_p (c_Mod_wasDone hm.1 hh hw hv (c := c) (by omega) hi0) d_Mod_part_59 cl_Mod_216; exact hm.1.1; rfl; rfl; rfl; rfl; decide; exact Nat.le_of_ble_eq_true rfl; exact (Nat.le_refl _); exact (Nat.le_refl _)
            refine aw_ifB_eq d_Mod_part_62 (fun br62_ => ?_) (fun br62_ => ?_)
            · skip
              refine aw_iconst (v := nI 0) d_Mod_part_69 (by decide) ?_
              refine aw_iret d_Mod_part_70 rfl (Nat.le_refl _) (Nat.le_refl _) ?_
              exact ⟨_, _, _, rfl, hm, by rw [hr_, br62_]; rfl, by rw [hr_]; exact h0_.trans rfl, hq⟩
            · skip
              refine aw_iconst (v := nI 1) d_Mod_part_65 (by decide) ?_
              refine aw_goto d_Mod_part_66 ?_
              refine aw_iret d_Mod_part_70 rfl (Nat.le_refl _) (Nat.le_refl _) ?_
              exact ⟨_, _, _, rfl, hm, by rw [hr_, br62_]; rfl, by rw [hr_]; exact h0_.trans rfl, hq⟩
          · skip
            have hw0 : ¬ w9 = 0 := by rw [br27_]; decide
            have hr_ : sPart hs (nI c) w9 i = none := by unfold sPart isSx; rw [decide_eq_false hw0, br35_]; simp
            refine aw_aload_n (i := 0) d_Mod_part_38 rfl rfl ?_
            apply aw_callv_MI (c_Mod_refuse hm) d_Mod_part_39 cl_Mod_262; exact hm.1.1; rfl; rfl; rfl; rfl; decide; exact Nat.le_of_ble_eq_true rfl; exact Nat.le_refl _; exact Nat.le_refl _
            rintro h sc2 ar2 hm ⟨h1_, hK⟩
            have hq := hq.kp hK rfl rfl rfl rfl
            refine aw_iret d_Mod_part_42 rfl (Nat.le_refl _) (Nat.le_refl _) ?_
            exact ⟨_, _, _, rfl, hm, by rw [hr_]; rfl, by rw [hr_]; exact h1_, hq⟩

