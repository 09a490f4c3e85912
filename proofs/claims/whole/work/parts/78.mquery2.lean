/-- least sums exist: Dijkstra's own walk, without a machine -/
theorem dij_edges {hs : HSt} (hv : VH hs) {SL : List Nat} {x : Nat} (hxm : x ∈ SL) : ∀ (E : List (Nat × Nat)) {key : Nat → Nat} {Q : Nat → Prop} {dn : Nat → Nat → Prop}, (∀ q ∈ E, q.1 < hall hs ∧ q.2 < hs.2.1.length ∧ opn hs q.1 q.2 = true ∧ aft hs q.1 q.2 = x) → Dij hs key Q SL x dn → (∀ s ∈ SL, key s ≤ key x) → key x ≤ 100 * (SL.length - 1) → ∃ key2 Q2, Dij hs key2 Q2 SL x (fun b j => dn b j ∨ (b, j) ∈ E)
  | [], key, Q, dn, _, hD, _, _ => ⟨key, Q, hD.mono (fun b j _ _ h => h.elim id (fun q => absurd q List.not_mem_nil))⟩
  | (b, j) :: E, key, Q, dn, hE, hD, hxs, hxk => by
    obtain ⟨h1, h2, h3, h4⟩ := hE (b, j) List.mem_cons_self
    dsimp only at h1 h2 h3 h4
    by_cases e : key b ≤ key x + tks hs j
    · obtain ⟨k2, Q2, h⟩ := dij_edges hv hxm E (fun q hq => hE q (List.mem_cons_of_mem _ hq)) (hD.keep e) hxs hxk
      refine ⟨k2, Q2, h.mono (fun b2 j2 _ _ q => ?_)⟩
      rcases q with q | q
      · exact Or.inl (Or.inl q)
      · rcases List.mem_cons.mp q with q | q
        · cases q; exact Or.inl (Or.inr ⟨rfl, rfl⟩)
        · exact Or.inr q
    · obtain ⟨hb, -, hL⟩ := hD.less (b0 := b) (j0 := j) hv hxm hxs hxk h1 h2 h3 h4 (by omega)
      have hns : ∀ s ∈ SL, updn key b (key x + tks hs j) s = key s := fun s hs2 => un_n (fun e => hb (by rw [← e]; exact hs2))
      obtain ⟨k2, Q2, h⟩ := dij_edges hv hxm E (fun q hq => hE q (List.mem_cons_of_mem _ hq)) hL (fun s hs2 => by rw [hns s hs2, hns x hxm]; exact hxs s hs2) (by rw [hns x hxm]; exact hxk)
      refine ⟨k2, Q2, h.mono (fun b2 j2 _ _ q => ?_)⟩
      rcases q with q | q
      · exact Or.inl (Or.inl q)
      · rcases List.mem_cons.mp q with q | q
        · cases q; exact Or.inl (Or.inr ⟨rfl, rfl⟩)
        · exact Or.inr q
theorem min_ex {Q : Nat → Prop} (key : Nat → Nat) (h : ∃ c, Q c) : ∃ x, Q x ∧ ∀ q, Q q → key x ≤ key q := by
  have h2 : ∀ n, (∃ c, Q c ∧ key c ≤ n) → ∃ x, Q x ∧ ∀ q, Q q → key x ≤ key q := by
    intro n
    induction n with
    | zero => rintro ⟨c, h1, h2⟩; exact ⟨c, h1, fun q _ => by omega⟩
    | succ n ih =>
      rintro ⟨c, h1, h2⟩
      by_cases e : ∃ c, Q c ∧ key c ≤ n
      · exact ih e
      · exact ⟨c, h1, fun q hq => Nat.not_lt.mp (fun hl => e ⟨q, hq, by omega⟩)⟩
  obtain ⟨c, hc⟩ := h
  exact h2 (key c) ⟨c, hc, Nat.le_refl _⟩
def edgesTo (hs : HSt) (x : Nat) : List (Nat × Nat) := (List.range (hall hs)).flatMap (fun b => ((List.range hs.2.1.length).filter (fun j => opn hs b j && aft hs b j == x)).map (fun j => (b, j)))
theorem edgesTo_mem {hs : HSt} {x b j : Nat} : (b, j) ∈ edgesTo hs x ↔ b < hall hs ∧ j < hs.2.1.length ∧ opn hs b j = true ∧ aft hs b j = x := by
  unfold edgesTo
  rw [List.mem_flatMap]
  constructor
  · rintro ⟨b2, h1, h2⟩
    obtain ⟨j2, h3, h4⟩ := List.mem_map.mp h2
    cases h4
    have h5 := List.mem_filter.mp h3
    simp only [Bool.and_eq_true, beq_iff_eq] at h5
    exact ⟨List.mem_range.mp h1, List.mem_range.mp h5.1, h5.2.1, h5.2.2⟩
  · rintro ⟨h1, h2, h3, h4⟩
    refine ⟨b, List.mem_range.mpr h1, List.mem_map.mpr ⟨j, List.mem_filter.mpr ⟨List.mem_range.mpr h2, ?_⟩, rfl⟩⟩
    simp [h3, h4]
theorem dij_all {hs : HSt} (hv : VH hs) : ∀ (m : Nat) {key : Nat → Nat} {Q : Nat → Prop} {SL : List Nat} {x : Nat} {dn : Nat → Nat → Prop}, Dij hs key Q SL x dn → (∀ b j, b < hall hs → j < hs.2.1.length → opn hs b j = true → aft hs b j = x → dn b j) → hall hs ≤ SL.length + m → ∃ key2 : Nat → Nat, ∀ c, c < hall hs → LstR hs c (if key2 c < FAR then some (key2 c) else none) ∧ key2 c ≤ FAR
  | m, key, Q, SL, x, dn, hD, hd, hm => by
    by_cases hq : ∃ c, Q c
    · obtain ⟨y, hy, hmin⟩ := min_ex key hq
      have hyl := (hD.2.1 y hy).1
      have hkk := (hD.1 _ hyl).2.2.2.2 (((hD.1 _ hyl).2.2.1).mpr (Or.inr hy))
      have hord := hD.2.2.2.1
      have hD2 := hD.take hd hy hmin
      have hs2 := hD2.sl
      simp only [List.length_append, List.length_singleton] at hs2
      cases m with
      | zero => omega
      | succ m =>
        obtain ⟨k2, Q2, hD3⟩ := dij_edges hv (x := y) (SL := SL ++ [y]) (by simp) (edgesTo hs y) (fun q hq => edgesTo_mem.mp hq) hD2 (fun s hs2 => by
          rcases List.mem_append.mp hs2 with q | q
          · exact hord s q y hy
          · rw [List.mem_singleton.mp q]; exact Nat.le_refl _) (by simpa using hkk)
        exact dij_all hv m hD3 (fun b j hb hj ho ha => Or.inr (edgesTo_mem.mpr ⟨hb, hj, ho, ha⟩)) (by simp; omega)
    · exact ⟨key, fun c hc => ⟨hD.done hv hd (fun c q => hq ⟨c, q⟩) c hc, (hD.1 c hc).2.2.2.1⟩⟩
theorem far_ok {hs : HSt} (hv : VH hs) : FarOK hs := by
  obtain ⟨k2, h⟩ := dij_all hv (hall hs) (Dij.init hs) (fun _ _ _ _ _ _ => trivial) (by simp)
  intro c hc
  obtain ⟨h1, h2⟩ := h c hc
  rw [far_eq h1 h2]
  exact ⟨h1, h2⟩
theorem hnt_lt {hs : HSt} (hv : VH hs) {c s : Nat} (hc : c < hall hs) (h : hnt hs c = some s) : s < hs.2.1.length ∧ aft hs c s < hall hs ∧ isO hs (aft hs c s) = true ∧ opn hs c s = true ∧ far hs (aft hs c s) < far hs c := by
  obtain ⟨h1, h2⟩ := hnt_some h
  unfold hnp at h2
  simp only [Bool.and_eq_true, decide_eq_true_eq] at h2
  have := tks_pos hv h1
  exact ⟨h1, aft_lt hv hc h1, h2.1.2, h2.1.1, by omega⟩
theorem hnt_ex {hs : HSt} (hv : VH hs) {c : Nat} (hc : c < hall hs) (h : isO hs c = true) (h0 : 0 < far hs c) : ∃ s, hnt hs c = some s := by
  have he : isE hs c = false := by
    cases e : isE hs c
    · rfl
    · rw [far_E hc e] at h0; omega
  obtain ⟨s, h1, h2⟩ := far_step hv (far_ok hv) hc h he
  cases e : hnt hs c with
  | some s => exact ⟨s, rfl⟩
  | none =>
    unfold hnt at e
    rw [List.find?_eq_none] at e
    exact absurd h2 (e s (List.mem_range.mpr h1))
theorem fsI_hnt {hs : HSt} {c s : Nat} (h : hnt hs c = some s) : fsI (hnp hs c) hs.2.1.length = nI s := by unfold fsI; unfold hnt at h; rw [h]
theorem wayL_E {hs : HSt} {c : Nat} (he : isE hs c = true) (n : Nat) : wayL hs n c = [] := by
  cases n with
  | zero => rfl
  | succ n => unfold wayL; rw [hnt_E he]
theorem wayL_s {hs : HSt} {c s n : Nat} (h : hnt hs c = some s) : wayL hs (n + 1) c = s :: wayL hs n (aft hs c s) := by
  show (match hnt hs c with | none => [] | some s => s :: wayL hs n (aft hs c s)) = _
  rw [h]
/-- the way so far: its codes are apart -/
def Wyv (hs : HSt) (c at9 : Nat) (pre V : List Nat) : Prop := at9 < hall hs ∧ isO hs at9 = true ∧ (∃ n, wayL hs (hall hs) c = pre ++ wayL hs n at9 ∧ n + pre.length = hall hs) ∧ V.Nodup ∧ (∀ v ∈ V, v < hall hs ∧ far hs at9 < far hs v) ∧ V.length = pre.length
theorem Wyv.init {hs : HSt} {c : Nat} (hc : c < hall hs) (ho : isO hs c = true) : Wyv hs c c [] [] := ⟨hc, ho, ⟨hall hs, rfl, rfl⟩, by simp, fun v hv => absurd hv List.not_mem_nil, rfl⟩
theorem Wyv.len {hs : HSt} {c at9 : Nat} {pre V : List Nat} (h : Wyv hs c at9 pre V) : pre.length + 1 ≤ hall hs := by
  have := nd_len (L := at9 :: V) (n := hall hs) (List.nodup_cons.mpr ⟨fun hm => by have := (h.2.2.2.2.1 at9 hm).2; omega, h.2.2.2.1⟩) (fun d hd => by
    rcases List.mem_cons.mp hd with rfl | q
    · exact h.1
    · exact (h.2.2.2.2.1 d q).1)
  simp only [List.length_cons] at this
  rw [h.2.2.2.2.2] at this
  exact this
theorem Wyv.step {hs : HSt} (hv : VH hs) {c at9 s : Nat} {pre V : List Nat} (h : Wyv hs c at9 pre V) (hn : hnt hs at9 = some s) : Wyv hs c (aft hs at9 s) (pre ++ [s]) (at9 :: V) := by
  have hl := h.len
  obtain ⟨h1, h2, ⟨n, h3, h4⟩, h5, h6, h7⟩ := h
  obtain ⟨k1, k2, k3, k4, k5⟩ := hnt_lt hv h1 hn
  refine ⟨k2, k3, ⟨n - 1, ?_, by simp; omega⟩, List.nodup_cons.mpr ⟨fun hm => by have := (h6 at9 hm).2; omega, h5⟩, fun v hv2 => ?_, by simp [h7]⟩
  · rw [h3]
    obtain ⟨n, rfl⟩ : ∃ k, n = k + 1 := ⟨n - 1, by omega⟩
    rw [wayL_s hn]; simp
  · rcases List.mem_cons.mp hv2 with rfl | q
    · exact ⟨h1, k5⟩
    · have := h6 v q; exact ⟨this.1, by omega⟩
theorem Wyv.fin {hs : HSt} (hv : VH hs) {c at9 : Nat} {pre V : List Nat} (h : Wyv hs c at9 pre V) (h0 : far hs at9 = 0) : wayL hs (hall hs) c = pre := by
  obtain ⟨n, h3, h4⟩ := h.2.2.1
  rw [h3, wayL_E (far_0 hv (far_ok hv) h.1 h0), List.append_nil]
noncomputable def wyA (hs : HSt) (x : Int32) : Int32 := if isC hs x then (if isO hs (xN x) then nI (wayL hs (hall hs) (xN x)).length else -2) else -1
noncomputable def wyX (hs : HSt) (xs : List Int32) (x : Int32) : List Int32 := if isC hs x && isO hs (xN x) then (wayL hs (hall hs) (xN x)).map nI else xs
set_option maxHeartbeats 4000000 in
set_option maxRecDepth 20000 in
theorem c_Mod_way {G : aG} {nx : Nat} {h h0 : Nat → Option aC} {a : Nat} {A : Nat → Nat} {sc : Nat → Int32} {ar : Nat → Nat → Int32} (hm : MoF h0 h a A sc ar) {hs : HSt} {gs : List GSt} {lg : List (Nat × Nat × Nat)} {xs : List Int32} (hq : MoA sc ar hs gs lg xs) (hv : VH hs) (hF : FarOK hs) (x : Int32) : AMet G m_Mod_way 5 0 0 [.ref a, .int x] (nx, h) (MR nx a h0 A (fun r sc2 ar2 => r = some (.int (wyA hs x)) ∧ sc2 0 = 0 ∧ MoA sc2 ar2 hs gs lg (wyX hs xs x))) := by
  have hp12 := hv.1.1
  have hs24 := hv.2.1
  have hall2 := hv.2.2.2.2.2.2.2
  have hq0 := hq
  refine amet_of pf_Mod_way (Nat.le_of_ble_eq_true rfl) ?_
  show AW G m_Mod_way 5 0 0 _ 0 [(0, .ref a), (1, .int x)] [] (nx, h) 0 0
  refine aw_aload_n (i := 0) d_Mod_way_0 rfl rfl ?_
  refine aw_iconst (v := nI 0) d_Mod_way_1 (by decide) ?_
  apply mo_put (f := 0) hm d_Mod_way_2 pl_Mod_150 (ms_0 _ _ _) (by decide) rfl rfl; intro h hm
  have hq := hq0.kp (Kp.put (Ls := [0]) (La := []) (f := 0) (x := nI 0) rfl) rfl rfl rfl rfl
  have hh := hq.1
  have hg := hq.2.1
  have hr := hq.2.2.2.1
  refine aw_aload_n (i := 0) d_Mod_way_5 rfl rfl ?_
  refine aw_iload_n (i := 1) d_Mod_way_6 rfl rfl ?_
  apply aw_callv_MI (c_Mod_isCode hm hq hv x) d_Mod_way_7 cl_Mod_265; exact hm.1.1; rfl; rfl; rfl; rfl; decide; exact Nat.le_of_ble_eq_true rfl; exact Nat.le_refl _; exact Nat.le_refl _
  rintro h sc1 ar1 hm ⟨hq, hf, h0_⟩
  have hh := hq.1
  have hw := hf.1
  have hb := hf.2.2.1
  have h29 := hf.2.2.2.1
  have h30 := hf.2.2.2.2
  refine aw_ifB_ne d_Mod_way_10 (fun br10_ => ?_) (fun br10_ => ?_)
  · skip
    obtain ⟨c, hc, rfl, hxc⟩ := isC_ex br10_ hv
    have hf0 := hf
    have hq1 := hq
    refine aw_aload_n (i := 0) d_Mod_way_15 rfl rfl ?_
    refine aw_iload_n (i := 1) d_Mod_way_16 rfl rfl ?_
    apply aw_callv_p (c_Mod_isOpen hm (c := c) (v := far hs (c)) (by omega) (h30 _ hc) (far_bd hF hc)) d_Mod_way_17 cl_Mod_268; exact hm.1.1; rfl; rfl; rfl; rfl; decide; exact Nat.le_of_ble_eq_true rfl; exact (Nat.le_refl _); exact (Nat.le_refl _)
    refine aw_ifB_ne d_Mod_way_20 (fun br20_ => ?_) (fun br20_ => ?_)
    · skip
      refine aw_aload_n (i := 0) d_Mod_way_26 rfl rfl ?_
      refine aw_iconst (v := nI 0) d_Mod_way_27 (by decide) ?_
      apply mo_put (f := 39) hm d_Mod_way_28 pl_Mod_203 (ms_39 _ _ _) (by decide) rfl rfl; intro h hm
      refine aw_iload_n (i := 1) d_Mod_way_31 rfl rfl ?_
      refine aw_istore_n (i := 2) (lv2 := [(0, _), (1, _), (2, _)]) d_Mod_way_32 rfl (by decide) rfl ?_
      refine mdown (h0 := h0) (a := a) (A := A) (fun m h sc2 ar2 => ∀ (at9 : Nat) (pre V : List Nat), Kp [39] [38] sc1 ar1 sc2 ar2 ∧ MoR sc2 ar2 (pre.map nI) ∧ Wyv hs c at9 pre V ∧ m = far hs at9 → AW G m_Mod_way 5 0 0 _ 33 [(0, .ref a), (1, .int (nI c)), (2, .int (nI at9))] [] (nx, h) 0 0) (fun _ _ _ => True) ?_ (far hs c) _ _ _ hm trivial c [] [] ⟨Kp.put rfl, ⟨rfl, Nat.zero_le _, fun k hk => absurd hk (Nat.not_lt_zero _)⟩, Wyv.init hc br20_, rfl⟩
      intro m h sc2 ar2 hm _ ih at9 pre V hI
      obtain ⟨hK, hR, hW, hme⟩ := hI
      have hf := hf0.kp hK rfl rfl
      have hh := hq1.1.kp hK rfl rfl
      have hb := hf.2.2.1
      have h30 := hf.2.2.2.2
      have hat := hW.1
      have hlen := hW.len
      have hfb := far_bd hF hat
      refine aw_aload_n (i := 0) d_Mod_way_33 rfl rfl ?_
      refine mo_get (f := 30) hm d_Mod_way_34 fl_Mod_86 rfl ?_
      refine aw_iload_n (i := 2) d_Mod_way_37 rfl rfl ?_
      apply mo_ld (f := 30) (N := 20000) hm d_Mod_way_38 rfl rfl (by decide); omega; exact h30 _ hat
      refine aw_ifN_le d_Mod_way_39 (by omega) (fun br39_ => ?_) (fun br39_ => ?_)
      · skip
        have hfin := hW.fin hv (by omega)
        refine aw_aload_n (i := 0) d_Mod_way_68 rfl rfl ?_
        apply mo_gets (f := 39) hm d_Mod_way_69 fl_Mod_203 rfl; exact hR.1
        refine aw_iret d_Mod_way_72 rfl (Nat.le_refl _) (Nat.le_refl _) ?_
        have hqq := hq1.kpR hR hK rfl rfl
        exact ⟨_, _, _, rfl, hm, by unfold wyA; rw [br10_, hxc, show isO hs c = true from br20_, hfin, List.length_map]; rfl, (hK.1 0 rfl).trans (h0_.trans rfl), by unfold wyX; rw [br10_, hxc, show isO hs c = true from br20_, hfin]; exact hqq⟩
      · skip
        obtain ⟨s, hs9⟩ := hnt_ex hv hat hW.2.1 br39_
        have hlt := hnt_lt hv hat hs9
        refine aw_aload_n (i := 0) d_Mod_way_42 rfl rfl ?_
        refine aw_iload_n (i := 2) d_Mod_way_43 rfl rfl ?_
        apply aw_callv_p (c_Mod_hinted hm hh hv hF hb h30 hat) d_Mod_way_44 cl_Mod_271; exact hm.1.1; rfl; rfl; rfl; rfl; decide; exact Nat.le_of_ble_eq_true rfl; exact (Nat.le_refl _); exact (Nat.le_refl _)
        rw [fsI_hnt hs9]
        refine aw_istore_n (i := 3) (lv2 := [(0, _), (1, _), (2, _), (3, _)]) d_Mod_way_47 rfl (by decide) rfl ?_
        refine aw_aload_n (i := 0) d_Mod_way_48 rfl rfl ?_
        refine aw_iload_n (i := 3) d_Mod_way_49 rfl rfl ?_
        apply aw_callv_M0 (c_Mod_tells hm hR (by simp; omega) (nI s)) d_Mod_way_50 cl_Mod_275; exact hm.1.1; rfl; rfl; rfl; rfl; decide; exact Nat.le_of_ble_eq_true rfl; exact Nat.le_refl _; exact Nat.le_refl _
        rintro h sc3 ar3 hm ⟨hR3, hK3⟩
        refine aw_aload_n (i := 0) d_Mod_way_53 rfl rfl ?_
        refine mo_get (f := 28) hm d_Mod_way_54 fl_Mod_79 rfl ?_
        refine aw_iload_n (i := 2) d_Mod_way_57 rfl rfl ?_
        refine aw_bipush (v := nI 24) d_Mod_way_58 (by decide) ?_
        refine aw_imulN d_Mod_way_60 ?_
        refine aw_iload_n (i := 3) d_Mod_way_61 rfl rfl ?_
        refine aw_iaddN d_Mod_way_62 ?_
        apply mo_ld (f := 28) (N := 480000) hm d_Mod_way_63 rfl rfl (by decide); omega; exact ((congrFun (hK3.2 28 rfl) _).trans ((hb _ _ hat hlt.1).trans (bh_t hlt.2.2.2.1)))
        refine aw_istore_n (i := 2) (lv2 := [(0, _), (1, _), (2, _), (3, _)]) d_Mod_way_64 rfl (by decide) rfl ?_
        refine aw_goto d_Mod_way_65 ?_
        refine aw_drop (lv2 := [(0, _), (1, _), (2, _)]) [0, 1, 2] rfl ?_
        exact ih (far hs (aft hs at9 s)) _ _ _ (by omega) hm trivial _ (pre ++ [s]) (at9 :: V) ⟨hK.tr hK3, by rw [List.map_append]; exact hR3, hW.step hv hs9, rfl⟩
    · skip
      refine aw_bipush (v := -2) d_Mod_way_23 (by decide) ?_
      refine aw_iret d_Mod_way_25 rfl (Nat.le_refl _) (Nat.le_refl _) ?_
      exact ⟨_, _, _, rfl, hm, by unfold wyA isO; rw [br10_, hxc, br20_]; rfl, h0_.trans rfl, by unfold wyX isO; rw [hxc, br20_, Bool.and_false]; exact hq⟩
  · skip
    refine aw_iconst (v := -1) d_Mod_way_13 (by decide) ?_
    refine aw_iret d_Mod_way_14 rfl (Nat.le_refl _) (Nat.le_refl _) ?_
    exact ⟨_, _, _, rfl, hm, by unfold wyA; rw [br10_]; rfl, h0_.trans rfl, by unfold wyX; rw [br10_]; exact hq⟩

noncomputable def tps (hs : HSt) (c s : Nat) : Bool := opn hs c s && !isO hs (aft hs c s)
noncomputable def tpc (hs : HSt) (c : Nat) : Bool := rch hs c && isO hs c && (List.range hs.2.1.length).any (tps hs c)
noncomputable def trw (hs : HSt) : List Int32 := match (List.range (hall hs)).find? (tpc hs) with
  | none => []
  | some c => match (List.range hs.2.1.length).find? (tps hs c) with
    | none => []
    | some s => [nI c, nI s, nI (aft hs c s)]
noncomputable def trA (hs : HSt) : Int32 := if ctn (lostp hs) (hall hs) = 0 then 0 else if isO hs (hsta hs) then 1 else 2
noncomputable def trX (hs : HSt) (xs : List Int32) : List Int32 := if ctn (lostp hs) (hall hs) = 0 then xs else if isO hs (hsta hs) then trw hs else xs
theorem tpc_n {hs : HSt} {c : Nat} (h : rch hs c = true → isO hs c = true → ∀ k, k < hs.2.1.length → tps hs c k = false) : tpc hs c = false := by
  cases e : tpc hs c
  · rfl
  · unfold tpc at e
    simp only [Bool.and_eq_true] at e
    obtain ⟨k, hk, hp⟩ := List.any_eq_true.mp e.2
    rw [h e.1.1 e.1.2 k (List.mem_range.mp hk)] at hp; cases hp
theorem trw_t {hs : HSt} {c s : Nat} (hc : c < hall hs) (hs2 : s < hs.2.1.length) (h1 : ∀ k, k < c → tpc hs k = false) (hr : rch hs c = true) (ho : isO hs c = true) (h2 : ∀ k, k < s → tps hs c k = false) (h3 : tps hs c s = true) : trw hs = [nI c, nI s, nI (aft hs c s)] := by
  have h4 : tpc hs c = true := by
    unfold tpc
    rw [hr, ho, List.any_eq_true.mpr ⟨s, List.mem_range.mpr hs2, h3⟩]; rfl
  unfold trw
  rw [find_rng hc h1 h4]
  show (match (List.range hs.2.1.length).find? (tps hs c) with | none => [] | some s => [nI c, nI s, nI (aft hs c s)]) = _
  rw [find_rng hs2 h2 h3]
theorem ctn_pos {p : Nat → Bool} : ∀ {n : Nat}, ctn p n ≠ 0 → ∃ c, c < n ∧ p c = true
  | 0, h => absurd rfl h
  | n + 1, h => by
    by_cases e : p n = true
    · exact ⟨n, by omega, e⟩
    · have : ctn p (n + 1) = ctn p n + 0 := by show _ + _ = _; rw [if_neg e]
      rw [this] at h
      obtain ⟨c, h1, h2⟩ := ctn_pos (n := n) h
      exact ⟨c, by omega, h2⟩
theorem ctn_zero {p : Nat → Bool} : ∀ {n : Nat}, ctn p n = 0 → ∀ c, c < n → p c = false
  | 0, _, c, hc => absurd hc (Nat.not_lt_zero _)
  | n + 1, h, c, hc => by
    have h2 : ctn p n + (if p n then 1 else 0) = 0 := h
    by_cases e : c = n
    · subst e
      cases e2 : p c
      · rfl
      · rw [e2] at h2; simp at h2
    · exact ctn_zero (n := n) (by omega) c (by omega)
theorem trap_ex {hs : HSt} (hv : VH hs) (h1 : ctn (lostp hs) (hall hs) ≠ 0) (h2 : isO hs (hsta hs) = true) (h3 : ∀ c, c < hall hs → tpc hs c = false) : False := by
  obtain ⟨c, hc, hl⟩ := ctn_pos h1
  unfold lostp at hl
  simp only [Bool.and_eq_true, Bool.not_eq_true'] at hl
  have hr := rcs_iff.mp hl.1
  have := hr (fun c => Rch hs (fun _ => false) c ∧ isO hs c = true) (fun _ => ⟨Rch.start rfl, h2⟩) (fun c j ih hj ho _ => by
    refine ⟨ih.1.step hj ho rfl, ?_⟩
    cases e : isO hs (aft hs c j)
    · have h4 : tpc hs c = true := by
        unfold tpc
        rw [show rch hs c = true from rcs_iff.mpr ih.1, ih.2, List.any_eq_true.mpr ⟨j, List.mem_range.mpr hj, by unfold tps; rw [ho, e]; rfl⟩]; rfl
      rw [h3 c (ih.1.lt hv)] at h4; cases h4
    · rfl)
  rw [hl.2] at this
  cases this.2
set_option maxHeartbeats 4000000 in
set_option maxRecDepth 20000 in
theorem c_Mod_trap {G : aG} {nx : Nat} {h h0 : Nat → Option aC} {a : Nat} {A : Nat → Nat} {sc : Nat → Int32} {ar : Nat → Nat → Int32} (hm : MoF h0 h a A sc ar) {hs : HSt} {gs : List GSt} {lg : List (Nat × Nat × Nat)} {xs : List Int32} (hq : MoA sc ar hs gs lg xs) (hv : VH hs) (hF : FarOK hs) : AMet G m_Mod_trap 5 0 0 [.ref a] (nx, h) (MR nx a h0 A (fun r sc2 ar2 => r = some (.int (trA hs)) ∧ sc2 0 = 0 ∧ MoA sc2 ar2 hs gs lg (trX hs xs))) := by
  have hp12 := hv.1.1
  have hs24 := hv.2.1
  have hall2 := hv.2.2.2.2.2.2.2
  have hq0 := hq
  refine amet_of pf_Mod_trap (Nat.le_of_ble_eq_true rfl) ?_
  show AW G m_Mod_trap 5 0 0 _ 0 [(0, .ref a)] [] (nx, h) 0 0
  refine aw_aload_n (i := 0) d_Mod_trap_0 rfl rfl ?_
  refine aw_iconst (v := nI 0) d_Mod_trap_1 (by decide) ?_
  apply mo_put (f := 0) hm d_Mod_trap_2 pl_Mod_150 (ms_0 _ _ _) (by decide) rfl rfl; intro h hm
  have hq := hq0.kp (Kp.put (Ls := [0]) (La := []) (f := 0) (x := nI 0) rfl) rfl rfl rfl rfl
  have hh := hq.1
  have hg := hq.2.1
  have hr := hq.2.2.2.1
  refine aw_aload_n (i := 0) d_Mod_trap_5 rfl rfl ?_
  apply aw_callv_MI (c_Mod_lost hm hq hv hF) d_Mod_trap_6 cl_Mod_283; exact hm.1.1; rfl; rfl; rfl; rfl; decide; exact Nat.le_of_ble_eq_true rfl; exact Nat.le_refl _; exact Nat.le_refl _
  rintro h sc1 ar1 hm ⟨h0_, hq, hf⟩
  have hh := hq.1
  have hw := hf.1
  have hb := hf.2.2.1
  have h29 := hf.2.2.2.1
  have h30 := hf.2.2.2.2
  have hcl := ctn_le (lostp hs) (hall hs)
  have hst := hsta_lt hv
  refine aw_ifN_ne d_Mod_trap_9 (by omega) (fun br9_ => ?_) (fun br9_ => ?_)
  · skip
    refine aw_aload_n (i := 0) d_Mod_trap_14 rfl rfl ?_
    refine aw_aload_n (i := 0) d_Mod_trap_15 rfl rfl ?_
    apply mo_gets (f := 27) hm d_Mod_trap_16 fl_Mod_209 rfl; exact hf.2.1
    apply aw_callv_p (c_Mod_isOpen hm (c := hsta hs) (v := far hs (hsta hs)) (by omega) (h30 _ hst) (far_bd hF hst)) d_Mod_trap_19 cl_Mod_268; exact hm.1.1; rfl; rfl; rfl; rfl; decide; exact Nat.le_of_ble_eq_true rfl; exact (Nat.le_refl _); exact (Nat.le_refl _)
    refine aw_ifB_ne d_Mod_trap_22 (fun br22_ => ?_) (fun br22_ => ?_)
    · skip
      refine aw_iconst (v := nI 0) d_Mod_trap_27 (by decide) ?_
      refine aw_istore_n (i := 1) (lv2 := [(0, _), (1, _)]) d_Mod_trap_28 rfl (by decide) rfl ?_
      show AW G m_Mod_trap 5 0 0 _ 29 [(0, .ref a), (1, .int (nI 0))] [] (nx, h) 0 0
      refine upto (σ := Nat) (fun i => AW G m_Mod_trap 5 0 0 _ 29 [(0, .ref a), (1, .int (nI i))] [] (nx, h) 0 0) (fun i s => i = s ∧ ∀ k, k < i → tpc hs k = false) (hall hs) ?_ 0 0 (Nat.zero_le _) ⟨rfl, fun k hk => absurd hk (Nat.not_lt_zero _)⟩
      intro i s9 hi_i hI_i ih_i
      obtain ⟨rfl, hI_i⟩ := hI_i
      refine aw_iload_n (i := 1) d_Mod_trap_29 rfl rfl ?_
      refine aw_aload_n (i := 0) d_Mod_trap_30 rfl rfl ?_
      apply mo_gets (f := 26) hm d_Mod_trap_31 fl_Mod_206 rfl; exact hw.1
      refine aw_icmpN_ge d_Mod_trap_34 (by omega) (by omega) (fun br34_ => ?_) (fun br34_ => ?_)
      · skip
        exfalso
        have ei : i = hall hs := by omega
        subst ei
        exact trap_ex hv br9_ br22_ hI_i
        
      · skip
        refine aw_iconst (v := nI 0) d_Mod_trap_37 (by decide) ?_
        refine aw_istore_n (i := 2) (lv2 := [(0, _), (1, _), (2, _)]) d_Mod_trap_38 rfl (by decide) rfl ?_
        show AW G m_Mod_trap 5 0 0 _ 39 [(0, .ref a), (1, .int (nI i)), (2, .int (nI 0))] [] (nx, h) 0 0
        refine upto (σ := Nat) (fun j => AW G m_Mod_trap 5 0 0 _ 39 [(0, .ref a), (1, .int (nI i)), (2, .int (nI j))] [] (nx, h) 0 0) (fun j s => j = s ∧ ∀ k, k < j → tps hs i k = false) (hs.2.1.length) ?_ 0 0 (Nat.zero_le _) ⟨rfl, fun k hk => absurd hk (Nat.not_lt_zero _)⟩
        intro j s9 hi_j hI_j ih_j
        obtain ⟨rfl, hI_j⟩ := hI_j
        refine aw_iload_n (i := 2) d_Mod_trap_39 rfl rfl ?_
        refine aw_aload_n (i := 0) d_Mod_trap_40 rfl rfl ?_
        apply mo_gets (f := 4) hm d_Mod_trap_41 fl_Mod_164 rfl; exact hh.1.2.1
        refine aw_icmpN_ge d_Mod_trap_44 (by omega) (by omega) (fun br44_ => ?_) (fun br44_ => ?_)
        · skip
          have ej : j = hs.2.1.length := by omega
          subst ej
          have hno9 : tpc hs i = false := tpc_n (fun _ _ => hI_j)
          refine aw_iincN (lv2 := [(0, _), (1, _), (2, _)]) d_Mod_trap_116 (by decide) rfl rfl ?_
          refine aw_goto d_Mod_trap_119 ?_
          have hall9 : ∀ k, k < i + 1 → tpc hs k = false := by
            intro k hk
            by_cases e : k = i
            · subst e; exact hno9
            · exact hI_i k (by omega)
          first
            | exact ih_i br34_ (i + 1) ⟨rfl, hall9⟩
            | (refine aw_drop (lv2 := [(0, _), (1, _)]) [0, 1] rfl ?_
               exact ih_i br34_ (i + 1) ⟨rfl, hall9⟩)
        · skip
          refine aw_aload_n (i := 0) d_Mod_trap_47 rfl rfl ?_
          refine mo_get (f := 29) hm d_Mod_trap_48 fl_Mod_82 rfl ?_
          refine aw_iload_n (i := 1) d_Mod_trap_51 rfl rfl ?_
          apply mo_zld (f := 29) (N := 20000) hm d_Mod_trap_52 rfl rfl (by decide); omega; exact h29 _ br34_
          refine aw_ifB_eq d_Mod_trap_53 (fun br53_ => ?_) (fun br53_ => ?_)
          · skip
            have hno9 : tpc hs i = false := tpc_n (fun q => by rw [br53_] at q; cases q)
            refine aw_iincN (lv2 := [(0, _), (1, _), (2, _)]) d_Mod_trap_116 (by decide) rfl rfl ?_
            refine aw_goto d_Mod_trap_119 ?_
            have hall9 : ∀ k, k < i + 1 → tpc hs k = false := by
              intro k hk
              by_cases e : k = i
              · subst e; exact hno9
              · exact hI_i k (by omega)
            first
              | exact ih_i br34_ (i + 1) ⟨rfl, hall9⟩
              | (refine aw_drop (lv2 := [(0, _), (1, _)]) [0, 1] rfl ?_
                 exact ih_i br34_ (i + 1) ⟨rfl, hall9⟩)
          · skip
            refine aw_aload_n (i := 0) d_Mod_trap_56 rfl rfl ?_
            refine aw_iload_n (i := 1) d_Mod_trap_57 rfl rfl ?_
            apply aw_callv_p (c_Mod_isOpen hm (c := i) (v := far hs (i)) (by omega) (h30 _ br34_) (far_bd hF br34_)) d_Mod_trap_58 cl_Mod_268; exact hm.1.1; rfl; rfl; rfl; rfl; decide; exact Nat.le_of_ble_eq_true rfl; exact (Nat.le_refl _); exact (Nat.le_refl _)
            refine aw_ifB_eq d_Mod_trap_61 (fun br61_ => ?_) (fun br61_ => ?_)
            · skip
              have hno9 : tpc hs i = false := tpc_n (fun _ q => by unfold isO at q; rw [br61_] at q; cases q)
              refine aw_iincN (lv2 := [(0, _), (1, _), (2, _)]) d_Mod_trap_116 (by decide) rfl rfl ?_
              refine aw_goto d_Mod_trap_119 ?_
              have hall9 : ∀ k, k < i + 1 → tpc hs k = false := by
                intro k hk
                by_cases e : k = i
                · subst e; exact hno9
                · exact hI_i k (by omega)
              first
                | exact ih_i br34_ (i + 1) ⟨rfl, hall9⟩
                | (refine aw_drop (lv2 := [(0, _), (1, _)]) [0, 1] rfl ?_
                   exact ih_i br34_ (i + 1) ⟨rfl, hall9⟩)
            · skip
              have hal := aft_lt hv br34_ br44_
              refine aw_aload_n (i := 0) d_Mod_trap_64 rfl rfl ?_
              refine mo_get (f := 28) hm d_Mod_trap_65 fl_Mod_79 rfl ?_
              refine aw_iload_n (i := 1) d_Mod_trap_68 rfl rfl ?_
              refine aw_bipush (v := nI 24) d_Mod_trap_69 (by decide) ?_
              refine aw_imulN d_Mod_trap_71 ?_
              refine aw_iload_n (i := 2) d_Mod_trap_72 rfl rfl ?_
              refine aw_iaddN d_Mod_trap_73 ?_
              apply mo_ld (f := 28) (N := 480000) hm d_Mod_trap_74 rfl rfl (by decide); omega; exact hb _ _ br34_ br44_
              refine aw_istore_n (i := 3) (lv2 := [(0, _), (1, _), (2, _), (3, _)]) d_Mod_trap_75 rfl (by decide) rfl ?_
              refine aw_iload_n (i := 3) d_Mod_trap_76 rfl rfl ?_
              refine aw_if_lt d_Mod_trap_77 (fun br77_ => ?_) (fun br77_ => ?_)
              · skip
                have hno8 : tps hs i j = false := by unfold tps; rw [bh_neg br77_ (by omega)]; rfl
                refine aw_iincN (lv2 := [(0, _), (1, _), (2, _), (3, _)]) d_Mod_trap_110 (by decide) rfl rfl ?_
                refine aw_goto d_Mod_trap_113 ?_
                have hall9 : ∀ k, k < j + 1 → tps hs i k = false := by
                  intro k hk
                  by_cases e : k = j
                  · subst e; exact hno8
                  · exact hI_j k (by omega)
                refine aw_drop (lv2 := [(0, _), (1, _), (2, _)]) [0, 1, 2] rfl ?_
                exact ih_j br44_ (j + 1) ⟨rfl, hall9⟩
              · skip
                have ho := bh_pos br77_
                rw [bh_t ho]
                refine aw_aload_n (i := 0) d_Mod_trap_80 rfl rfl ?_
                refine aw_iload_n (i := 3) d_Mod_trap_81 rfl rfl ?_
                apply aw_callv_p (c_Mod_isOpen hm (c := aft hs i j) (v := far hs (aft hs i j)) (by omega) (h30 _ hal) (far_bd hF hal)) d_Mod_trap_82 cl_Mod_268; exact hm.1.1; rfl; rfl; rfl; rfl; decide; exact Nat.le_of_ble_eq_true rfl; exact (Nat.le_refl _); exact (Nat.le_refl _)
                refine aw_ifB_ne d_Mod_trap_85 (fun br85_ => ?_) (fun br85_ => ?_)
                · skip
                  have hno8 : tps hs i j = false := by unfold tps isO; rw [br85_]; simp
                  refine aw_iincN (lv2 := [(0, _), (1, _), (2, _), (3, _)]) d_Mod_trap_110 (by decide) rfl rfl ?_
                  refine aw_goto d_Mod_trap_113 ?_
                  have hall9 : ∀ k, k < j + 1 → tps hs i k = false := by
                    intro k hk
                    by_cases e : k = j
                    · subst e; exact hno8
                    · exact hI_j k (by omega)
                  refine aw_drop (lv2 := [(0, _), (1, _), (2, _)]) [0, 1, 2] rfl ?_
                  exact ih_j br44_ (j + 1) ⟨rfl, hall9⟩
                · skip
                  have hyes : tps hs i j = true := by unfold tps isO; rw [ho, br85_]; rfl
                  have htr := trw_t br34_ br44_ hI_i br53_ br61_ hI_j hyes
                  refine aw_aload_n (i := 0) d_Mod_trap_88 rfl rfl ?_
                  refine aw_iconst (v := nI 0) d_Mod_trap_89 (by decide) ?_
                  apply mo_put (f := 39) hm d_Mod_trap_90 pl_Mod_203 (ms_39 _ _ _) (by decide) rfl rfl; intro h hm
                  have hR0 : MoR (upd sc1 39 (nI 0)) ar1 [] := ⟨rfl, Nat.zero_le _, fun k hk => absurd hk (Nat.not_lt_zero _)⟩
                  refine aw_aload_n (i := 0) d_Mod_trap_93 rfl rfl ?_
                  refine aw_iload_n (i := 1) d_Mod_trap_94 rfl rfl ?_
                  apply aw_callv_M0 (c_Mod_tells hm hR0 (by simp) (nI i)) d_Mod_trap_95 cl_Mod_275; exact hm.1.1; rfl; rfl; rfl; rfl; decide; exact Nat.le_of_ble_eq_true rfl; exact Nat.le_refl _; exact Nat.le_refl _
                  rintro h sc2 ar2 hm ⟨hR1, hK1⟩
                  refine aw_aload_n (i := 0) d_Mod_trap_98 rfl rfl ?_
                  refine aw_iload_n (i := 2) d_Mod_trap_99 rfl rfl ?_
                  apply aw_callv_M0 (c_Mod_tells hm hR1 (by simp) (nI j)) d_Mod_trap_100 cl_Mod_275; exact hm.1.1; rfl; rfl; rfl; rfl; decide; exact Nat.le_of_ble_eq_true rfl; exact Nat.le_refl _; exact Nat.le_refl _
                  rintro h sc3 ar3 hm ⟨hR2, hK2⟩
                  refine aw_aload_n (i := 0) d_Mod_trap_103 rfl rfl ?_
                  refine aw_iload_n (i := 3) d_Mod_trap_104 rfl rfl ?_
                  apply aw_callv_M0 (c_Mod_tells hm hR2 (by simp) (nI (aft hs i j))) d_Mod_trap_105 cl_Mod_275; exact hm.1.1; rfl; rfl; rfl; rfl; decide; exact Nat.le_of_ble_eq_true rfl; exact Nat.le_refl _; exact Nat.le_refl _
                  rintro h sc4 ar4 hm ⟨hR3, hK3⟩
                  refine aw_iconst (v := nI 1) d_Mod_trap_108 (by decide) ?_
                  refine aw_iret d_Mod_trap_109 rfl (Nat.le_refl _) (Nat.le_refl _) ?_
                  have hk9 := (((Kp.put (Ls := [39]) (La := [38]) (sc := sc1) (ar := ar1) (f := 39) (x := nI 0) rfl).tr hK1).tr hK2).tr hK3
                  have hqq := hq.kpR hR3 hk9 rfl rfl
                  exact ⟨_, _, _, rfl, hm, by unfold trA; rw [if_neg br9_, show isO hs (hsta hs) = true from br22_]; rfl, (hk9.1 0 rfl).trans h0_, by unfold trX; rw [if_neg br9_, show isO hs (hsta hs) = true from br22_, if_pos rfl, htr]; exact hqq⟩
    · skip
      refine aw_iconst (v := nI 2) d_Mod_trap_25 (by decide) ?_
      refine aw_iret d_Mod_trap_26 rfl (Nat.le_refl _) (Nat.le_refl _) ?_
      exact ⟨_, _, _, rfl, hm, by unfold trA isO; rw [if_neg br9_, br22_]; rfl, h0_, by unfold trX isO; rw [if_neg br9_, br22_]; exact hq⟩
  · skip
    refine aw_iconst (v := nI 0) d_Mod_trap_12 (by decide) ?_
    refine aw_iret d_Mod_trap_13 rfl (Nat.le_refl _) (Nat.le_refl _) ?_
    exact ⟨_, _, _, rfl, hm, by unfold trA; rw [if_pos br9_]; rfl, h0_, by unfold trX; rw [if_pos br9_]; exact hq⟩

noncomputable def idp (hs : HSt) (s : Nat) : Bool := (List.range (hall hs)).all (fun c => !rch hs c || !opn hs c s)
noncomputable def idL (hs : HSt) (n : Nat) : List Nat := (List.range n).filter (idp hs)
theorem idL_s {hs : HSt} {n : Nat} : idL hs (n + 1) = idL hs n ++ (if idp hs n then [n] else []) := by
  unfold idL
  rw [List.range_succ, List.filter_append]
  congr 1
  cases e : idp hs n <;> simp [e]
theorem idL_len (hs : HSt) (n : Nat) : (idL hs n).length ≤ n := by
  have := List.length_filter_le (idp hs) (List.range n)
  simpa [idL] using this
noncomputable def idq (hs : HSt) (s i : Nat) : Bool := (List.range i).all (fun c => !rch hs c || !opn hs c s)
theorem idq_s {hs : HSt} {s i : Nat} : idq hs s (i + 1) = (idq hs s i && (!rch hs i || !opn hs i s)) := by
  unfold idq; rw [List.range_succ, List.all_append]; simp
theorem idq_f {hs : HSt} {s i n : Nat} (h : idq hs s i = false) (hi : i ≤ n) : idq hs s n = false := by
  unfold idq at h ⊢
  obtain ⟨c, h1, h2⟩ := List.all_eq_false.mp h
  exact List.all_eq_false.mpr ⟨c, List.mem_range.mpr (by have := List.mem_range.mp h1; omega), h2⟩
set_option maxHeartbeats 4000000 in
set_option maxRecDepth 20000 in
theorem c_Mod_idle {G : aG} {nx : Nat} {h h0 : Nat → Option aC} {a : Nat} {A : Nat → Nat} {sc : Nat → Int32} {ar : Nat → Nat → Int32} (hm : MoF h0 h a A sc ar) {hs : HSt} {gs : List GSt} {lg : List (Nat × Nat × Nat)} {xs : List Int32} (hq : MoA sc ar hs gs lg xs) (hv : VH hs) : AMet G m_Mod_idle 4 0 0 [.ref a] (nx, h) (MR nx a h0 A (fun r sc2 ar2 => r = some (.int (nI (idL hs hs.2.1.length).length)) ∧ sc2 0 = 0 ∧ MoA sc2 ar2 hs gs lg ((idL hs hs.2.1.length).map nI))) := by
  have hp12 := hv.1.1
  have hs24 := hv.2.1
  have hall2 := hv.2.2.2.2.2.2.2
  have hq0 := hq
  refine amet_of pf_Mod_idle (Nat.le_of_ble_eq_true rfl) ?_
  show AW G m_Mod_idle 4 0 0 _ 0 [(0, .ref a)] [] (nx, h) 0 0
  refine aw_aload_n (i := 0) d_Mod_idle_0 rfl rfl ?_
  refine aw_iconst (v := nI 0) d_Mod_idle_1 (by decide) ?_
  apply mo_put (f := 0) hm d_Mod_idle_2 pl_Mod_150 (ms_0 _ _ _) (by decide) rfl rfl; intro h hm
  have hq := hq0.kp (Kp.put (Ls := [0]) (La := []) (f := 0) (x := nI 0) rfl) rfl rfl rfl rfl
  have hh := hq.1
  have hg := hq.2.1
  have hr := hq.2.2.2.1
  refine aw_aload_n (i := 0) d_Mod_idle_5 rfl rfl ?_
  apply aw_callv_M0 (c_Mod_fresh hm hq hv) d_Mod_idle_6 cl_Mod_259; exact hm.1.1; rfl; rfl; rfl; rfl; decide; exact Nat.le_of_ble_eq_true rfl; exact Nat.le_refl _; exact Nat.le_refl _
  rintro h sc1 ar1 hm ⟨hq, hf, h0_⟩
  have hh := hq.1
  have hw := hf.1
  have hb := hf.2.2.1
  have h29 := hf.2.2.2.1
  have h30 := hf.2.2.2.2
  refine aw_aload_n (i := 0) d_Mod_idle_9 rfl rfl ?_
  refine aw_iconst (v := nI 0) d_Mod_idle_10 (by decide) ?_
  apply mo_put (f := 39) hm d_Mod_idle_11 pl_Mod_203 (ms_39 _ _ _) (by decide) rfl rfl; intro h hm
  have hf0 := hf
  have hq1 := hq
  refine aw_drop (lv2 := [(0, _)]) [0] rfl ?_
  refine aw_iconst (v := nI 0) d_Mod_idle_14 (by decide) ?_
  refine aw_istore_n (i := 1) (lv2 := [(0, _), (1, _)]) d_Mod_idle_15 rfl (by decide) rfl ?_
  refine mloop (h0 := h0) (a := a) (A := A) (hs.2.1.length) (fun i h sc2 ar2 => AW G m_Mod_idle 4 0 0 _ 16 [(0, .ref a), (1, .int (nI i))] [] (nx, h) 0 0) (fun i sc2 ar2 => Kp [39] [38] sc1 ar1 sc2 ar2 ∧ MoR sc2 ar2 ((idL hs i).map nI)) ?_ 0 _ _ _ (Nat.zero_le _) hm ⟨Kp.put rfl, ⟨rfl, Nat.zero_le _, fun k hk => absurd hk (Nat.not_lt_zero _)⟩⟩
  intro i h sc2 ar2 hi_i hm hI ih
  have hf := hf0.kp hI.1 rfl rfl
  have hw := hf.1
  have hh := hq1.1.kp hI.1 rfl rfl
  have hb := hf.2.2.1
  have h29 := hf.2.2.2.1
  have hidl := idL_len hs i
  refine aw_iload_n (i := 1) d_Mod_idle_16 rfl rfl ?_
  refine aw_aload_n (i := 0) d_Mod_idle_17 rfl rfl ?_
  apply mo_gets (f := 4) hm d_Mod_idle_18 fl_Mod_164 rfl; exact hh.1.2.1
  refine aw_icmpN_ge d_Mod_idle_21 (by omega) (by omega) (fun br21_ => ?_) (fun br21_ => ?_)
  · skip
    have ei : i = hs.2.1.length := by omega
    subst ei
    refine aw_aload_n (i := 0) d_Mod_idle_90 rfl rfl ?_
    apply mo_gets (f := 39) hm d_Mod_idle_91 fl_Mod_203 rfl; exact hI.2.1
    refine aw_iret d_Mod_idle_94 rfl (Nat.le_refl _) (Nat.le_refl _) ?_
    have hqq := hq1.kpR hI.2 hI.1 rfl rfl
    exact ⟨_, _, _, rfl, hm, by rw [List.length_map], (hI.1.1 0 rfl).trans (h0_.trans rfl), hqq⟩
  · skip
    refine aw_iconst (v := nI 1) d_Mod_idle_24 (by decide) ?_
    refine aw_istore_n (i := 2) (lv2 := [(0, _), (1, _), (2, _)]) d_Mod_idle_25 rfl (by decide) rfl ?_
    refine aw_iconst (v := nI 0) d_Mod_idle_26 (by decide) ?_
    refine aw_istore_n (i := 3) (lv2 := [(0, _), (1, _), (2, _), (3, _)]) d_Mod_idle_27 rfl (by decide) rfl ?_
    show AW G m_Mod_idle 4 0 0 _ 28 [(0, .ref a), (1, .int (nI i)), (2, .int (bI (idq hs i 0))), (3, .int (nI 0))] [] (nx, h) 0 0
    refine upto (σ := Nat) (fun j => AW G m_Mod_idle 4 0 0 _ 28 [(0, .ref a), (1, .int (nI i)), (2, .int (bI (idq hs i j))), (3, .int (nI j))] [] (nx, h) 0 0) (fun j s => j = s ∧ True) (hall hs) ?_ 0 0 (Nat.zero_le _) ⟨rfl, trivial⟩
    intro j s9 hi_j hI_j ih_j
    obtain ⟨rfl, hI_j⟩ := hI_j
    refine aw_iload_n (i := 3) d_Mod_idle_28 rfl rfl ?_
    refine aw_aload_n (i := 0) d_Mod_idle_29 rfl rfl ?_
    apply mo_gets (f := 26) hm d_Mod_idle_30 fl_Mod_206 rfl; exact hw.1
    refine aw_icmpN_ge d_Mod_idle_33 (by omega) (by omega) (fun br33_ => ?_) (fun br33_ => ?_)
    · skip
      have ej : j = hall hs := by omega
      subst ej
      have hid : idp hs i = idq hs i (hall hs) := rfl
      refine aw_iload_n (i := 2) d_Mod_idle_75 rfl rfl ?_
      refine aw_ifB_eq d_Mod_idle_76 (fun br76_ => ?_) (fun br76_ => ?_)
      · skip
        have hid2 : idL hs (i + 1) = idL hs i := by rw [idL_s, hid, br76_]; simp
        refine aw_iincN (lv2 := [(0, _), (1, _), (2, _), (3, _)]) d_Mod_idle_84 (by decide) rfl rfl ?_
        refine aw_goto d_Mod_idle_87 ?_
        refine aw_drop (lv2 := [(0, _), (1, _)]) [0, 1] rfl ?_
        exact ih br21_ _ _ _ hm ⟨hI.1, by rw [hid2]; exact hI.2⟩
      · skip
        have hid2 : idL hs (i + 1) = idL hs i ++ [i] := by rw [idL_s, hid, br76_]; simp
        refine aw_aload_n (i := 0) d_Mod_idle_79 rfl rfl ?_
        refine aw_iload_n (i := 1) d_Mod_idle_80 rfl rfl ?_
        apply aw_callv_M0 (c_Mod_tells hm hI.2 (by simp; omega) (nI i)) d_Mod_idle_81 cl_Mod_275; exact hm.1.1; rfl; rfl; rfl; rfl; decide; exact Nat.le_of_ble_eq_true rfl; exact Nat.le_refl _; exact Nat.le_refl _
        rintro h sc3 ar3 hm ⟨hR3, hK3⟩
        refine aw_iincN (lv2 := [(0, _), (1, _), (2, _), (3, _)]) d_Mod_idle_84 (by decide) rfl rfl ?_
        refine aw_goto d_Mod_idle_87 ?_
        refine aw_drop (lv2 := [(0, _), (1, _)]) [0, 1] rfl ?_
        exact ih br21_ _ _ _ hm ⟨hI.1.tr hK3, by rw [hid2, List.map_append]; exact hR3⟩
    · skip
      refine aw_iload_n (i := 2) d_Mod_idle_36 rfl rfl ?_
      refine aw_ifB_eq d_Mod_idle_37 (fun br37_ => ?_) (fun br37_ => ?_)
      · skip
        have hid : idp hs i = idq hs i j := by rw [br37_]; exact idq_f br37_ hi_j
        refine aw_iload_n (i := 2) d_Mod_idle_75 rfl rfl ?_
        refine aw_ifB_eq d_Mod_idle_76 (fun br76_ => ?_) (fun br76_ => ?_)
        · skip
          have hid2 : idL hs (i + 1) = idL hs i := by rw [idL_s, hid, br76_]; simp
          refine aw_iincN (lv2 := [(0, _), (1, _), (2, _), (3, _)]) d_Mod_idle_84 (by decide) rfl rfl ?_
          refine aw_goto d_Mod_idle_87 ?_
          refine aw_drop (lv2 := [(0, _), (1, _)]) [0, 1] rfl ?_
          exact ih br21_ _ _ _ hm ⟨hI.1, by rw [hid2]; exact hI.2⟩
        · skip
          have hid2 : idL hs (i + 1) = idL hs i ++ [i] := by rw [idL_s, hid, br76_]; simp
          refine aw_aload_n (i := 0) d_Mod_idle_79 rfl rfl ?_
          refine aw_iload_n (i := 1) d_Mod_idle_80 rfl rfl ?_
          apply aw_callv_M0 (c_Mod_tells hm hI.2 (by simp; omega) (nI i)) d_Mod_idle_81 cl_Mod_275; exact hm.1.1; rfl; rfl; rfl; rfl; decide; exact Nat.le_of_ble_eq_true rfl; exact Nat.le_refl _; exact Nat.le_refl _
          rintro h sc3 ar3 hm ⟨hR3, hK3⟩
          refine aw_iincN (lv2 := [(0, _), (1, _), (2, _), (3, _)]) d_Mod_idle_84 (by decide) rfl rfl ?_
          refine aw_goto d_Mod_idle_87 ?_
          refine aw_drop (lv2 := [(0, _), (1, _)]) [0, 1] rfl ?_
          exact ih br21_ _ _ _ hm ⟨hI.1.tr hK3, by rw [hid2, List.map_append]; exact hR3⟩
      · skip
        have hal := aft_lt hv br33_ br21_
        refine aw_aload_n (i := 0) d_Mod_idle_40 rfl rfl ?_
        refine mo_get (f := 29) hm d_Mod_idle_41 fl_Mod_82 rfl ?_
        refine aw_iload_n (i := 3) d_Mod_idle_44 rfl rfl ?_
        apply mo_zld (f := 29) (N := 20000) hm d_Mod_idle_45 rfl rfl (by decide); omega; exact h29 _ br33_
        refine aw_ifB_eq d_Mod_idle_46 (fun br46_ => ?_) (fun br46_ => ?_)
        · skip
          have hst : idq hs i (j + 1) = true := by rw [idq_s, br37_, br46_]; rfl
          refine aw_iconst (v := nI 1) d_Mod_idle_63 (by decide) ?_
          refine aw_goto d_Mod_idle_64 ?_
          refine aw_istore_n (i := 2) (lv2 := [(0, _), (1, _), (2, _), (3, _)]) d_Mod_idle_68 rfl (by decide) rfl ?_
          refine aw_iincN (lv2 := [(0, _), (1, _), (2, _), (3, _)]) d_Mod_idle_69 (by decide) rfl rfl ?_
          refine aw_goto d_Mod_idle_72 ?_
          have k9 := ih_j br33_ (j + 1) ⟨rfl, trivial⟩
          rw [hst] at k9
          exact k9
        · skip
          refine aw_aload_n (i := 0) d_Mod_idle_49 rfl rfl ?_
          refine mo_get (f := 28) hm d_Mod_idle_50 fl_Mod_79 rfl ?_
          refine aw_iload_n (i := 3) d_Mod_idle_53 rfl rfl ?_
          refine aw_bipush (v := nI 24) d_Mod_idle_54 (by decide) ?_
          refine aw_imulN d_Mod_idle_56 ?_
          refine aw_iload_n (i := 1) d_Mod_idle_57 rfl rfl ?_
          refine aw_iaddN d_Mod_idle_58 ?_
          apply mo_ld (f := 28) (N := 480000) hm d_Mod_idle_59 rfl rfl (by decide); omega; exact hb _ _ br33_ br21_
          refine aw_if_ge d_Mod_idle_60 (fun br60_ => ?_) (fun br60_ => ?_)
          · skip
            have hst : idq hs i (j + 1) = false := by
              have ho := bh_pos (fun q => absurd br60_ (Int32.not_le.mpr q))
              rw [idq_s, br46_, ho]; simp
            refine aw_iconst (v := nI 0) d_Mod_idle_67 (by decide) ?_
            refine aw_istore_n (i := 2) (lv2 := [(0, _), (1, _), (2, _), (3, _)]) d_Mod_idle_68 rfl (by decide) rfl ?_
            refine aw_iincN (lv2 := [(0, _), (1, _), (2, _), (3, _)]) d_Mod_idle_69 (by decide) rfl rfl ?_
            refine aw_goto d_Mod_idle_72 ?_
            have k9 := ih_j br33_ (j + 1) ⟨rfl, trivial⟩
            rw [hst] at k9
            exact k9
          · skip
            have hst : idq hs i (j + 1) = true := by
              have ho := bh_neg (Int32.not_le.mp br60_) (by omega)
              rw [idq_s, br37_, ho]; simp
            refine aw_iconst (v := nI 1) d_Mod_idle_63 (by decide) ?_
            refine aw_goto d_Mod_idle_64 ?_
            refine aw_istore_n (i := 2) (lv2 := [(0, _), (1, _), (2, _), (3, _)]) d_Mod_idle_68 rfl (by decide) rfl ?_
            refine aw_iincN (lv2 := [(0, _), (1, _), (2, _), (3, _)]) d_Mod_idle_69 (by decide) rfl rfl ?_
            refine aw_goto d_Mod_idle_72 ?_
            have k9 := ih_j br33_ (j + 1) ⟨rfl, trivial⟩
            rw [hst] at k9
            exact k9

def shn (hs : HSt) (b t : Nat) (c : Nat) : Bool := dg (pks hs.1) c b == t
noncomputable def mst (hs : HSt) (p s b t : Nat) : Bool := @decide (∃ c, Rch hs (shn hs b t) c ∧ dg (pks hs.1) c p = s) (Classical.propDecidable _)
theorem mst_t {hs : HSt} {p s b t c : Nat} (h : Rch hs (shn hs b t) c) (h2 : dg (pks hs.1) c p = s) : mst hs p s b t = true := by unfold mst; exact @decide_eq_true _ (Classical.propDecidable _) ⟨c, h, h2⟩
theorem mst_f {hs : HSt} {p s b t : Nat} (h : ∀ c, Rch hs (shn hs b t) c → dg (pks hs.1) c p ≠ s) : mst hs p s b t = false := by unfold mst; exact @decide_eq_false _ (Classical.propDecidable _) (fun ⟨c, h1, h2⟩ => h c h1 h2)
noncomputable def muA (hs : HSt) (p s b t : Int32) : Int32 := if prOK hs p s && prOK hs b t then (if mst hs (xN p) (xN s) (xN b) (xN t) then 0 else 1) else -1
theorem Bfs.rch {hs : HSt} {sh : Nat → Bool} {L : List Nat} {i j k : Nat} (h : Bfs hs sh L i j) (hk : k < L.length) : Rch hs sh (L.getD k 0) := h.2.1 _ (by rw [gDx hk]; exact List.getElem_mem hk)
set_option maxHeartbeats 4000000 in
set_option maxRecDepth 20000 in
theorem c_Mod_must {G : aG} {nx : Nat} {h h0 : Nat → Option aC} {a : Nat} {A : Nat → Nat} {sc : Nat → Int32} {ar : Nat → Nat → Int32} (hm : MoF h0 h a A sc ar) {hs : HSt} {gs : List GSt} {lg : List (Nat × Nat × Nat)} {xs : List Int32} (hq : MoA sc ar hs gs lg xs) (hv : VH hs) (p s b t : Int32) : AMet G m_Mod_must 4 0 0 [.ref a, .int p, .int s, .int b, .int t] (nx, h) (MR nx a h0 A (fun r sc2 ar2 => r = some (.int (muA hs p s b t)) ∧ sc2 0 = 0 ∧ MoA sc2 ar2 hs gs lg xs)) := by
  have hp12 := hv.1.1
  have hs24 := hv.2.1
  have hall2 := hv.2.2.2.2.2.2.2
  have hq0 := hq
  refine amet_of pf_Mod_must (Nat.le_of_ble_eq_true rfl) ?_
  show AW G m_Mod_must 4 0 0 _ 0 [(0, .ref a), (1, .int p), (2, .int s), (3, .int b), (4, .int t)] [] (nx, h) 0 0
  refine aw_aload_n (i := 0) d_Mod_must_0 rfl rfl ?_
  refine aw_iconst (v := nI 0) d_Mod_must_1 (by decide) ?_
  apply mo_put (f := 0) hm d_Mod_must_2 pl_Mod_150 (ms_0 _ _ _) (by decide) rfl rfl; intro h hm
  have hq := hq0.kp (Kp.put (Ls := [0]) (La := []) (f := 0) (x := nI 0) rfl) rfl rfl rfl rfl
  have hh := hq.1
  have hg := hq.2.1
  have hr := hq.2.2.2.1
  refine aw_aload_n (i := 0) d_Mod_must_5 rfl rfl ?_
  refine aw_iload_n (i := 1) d_Mod_must_6 rfl rfl ?_
  refine aw_iload_n (i := 2) d_Mod_must_7 rfl rfl ?_
  apply aw_callv_p (c_Mod_isPair hm hh hv p s) d_Mod_must_8 cl_Mod_193; exact hm.1.1; rfl; rfl; rfl; rfl; decide; exact Nat.le_of_ble_eq_true rfl; exact (Nat.le_refl _); exact (Nat.le_refl _)
  refine aw_ifB_eq d_Mod_must_11 (fun br11_ => ?_) (fun br11_ => ?_)
  · skip
    have hr_ : muA hs p s b t = -1 := by unfold muA; rw [br11_]; rfl
    refine aw_iconst (v := -1) d_Mod_must_24 (by decide) ?_
    refine aw_iret d_Mod_must_25 rfl (Nat.le_refl _) (Nat.le_refl _) ?_
    exact ⟨_, _, _, rfl, hm, by rw [hr_], rfl, hq⟩
  · skip
    obtain ⟨p0, s0, hp0, hs0, rfl, rfl⟩ := prOK_ex br11_ hv
    have hk1 := hv.1.k hp0
    refine aw_aload_n (i := 0) d_Mod_must_14 rfl rfl ?_
    refine aw_iload_n (i := 3) d_Mod_must_15 rfl rfl ?_
    refine aw_iload d_Mod_must_16 rfl ?_
    apply aw_callv_p (c_Mod_isPair hm hh hv b t) d_Mod_must_18 cl_Mod_193; exact hm.1.1; rfl; rfl; rfl; rfl; decide; exact Nat.le_of_ble_eq_true rfl; exact (Nat.le_refl _); exact (Nat.le_refl _)
    refine aw_ifB_ne d_Mod_must_21 (fun br21_ => ?_) (fun br21_ => ?_)
    · skip
      obtain ⟨b0, t0, hb0, ht0, rfl, rfl⟩ := prOK_ex br21_ hv
      have hk2 := hv.1.k hb0
      have hmu : muA hs (nI p0) (nI s0) (nI b0) (nI t0) = if mst hs p0 s0 b0 t0 then 0 else 1 := by unfold muA; rw [br11_, br21_, xN_nI (by omega), xN_nI (by omega), xN_nI (by omega), xN_nI (by omega)]; rfl
      refine aw_aload_n (i := 0) d_Mod_must_26 rfl rfl ?_
      apply aw_callv_M0 (c_Mod_fresh hm hq hv) d_Mod_must_27 cl_Mod_259; exact hm.1.1; rfl; rfl; rfl; rfl; decide; exact Nat.le_of_ble_eq_true rfl; exact Nat.le_refl _; exact Nat.le_refl _
      rintro h sc1 ar1 hm ⟨hq, hf, h0_⟩
      have hh := hq.1
      have hw := hf.1
      have hf0 := hf
      have hq1 := hq
      have hst := hsta_lt hv
      refine aw_iconst (v := nI 0) d_Mod_must_30 (by decide) ?_
      refine aw_istore (lv2 := [(0, _), (1, _), (2, _), (3, _), (4, _), (5, _)]) d_Mod_must_31 (by decide) rfl ?_
      refine mloop (h0 := h0) (a := a) (A := A) (hall hs) (fun i h sc2 ar2 => AW G m_Mod_must 4 0 0 _ 33 [(0, .ref a), (1, .int (nI p0)), (2, .int (nI s0)), (3, .int (nI b0)), (4, .int (nI t0)), (5, .int (nI i))] [] (nx, h) 0 0) (fun i sc2 ar2 => Kp [] [31, 42] sc1 ar1 sc2 ar2 ∧ ∀ k, k < i → ar2 42 k = 0) ?_ 0 _ _ _ (Nat.zero_le _) hm ⟨Kp.rf, fun k hk => absurd hk (Nat.not_lt_zero _)⟩
      intro i h sc2 ar2 hi_i hm hI ih
      have hf := hf0.kp hI.1 rfl rfl
      have hw := hf.1
      have hh := hq1.1.kp hI.1 rfl rfl
      have hb := hf.2.2.1
      refine aw_iload d_Mod_must_33 rfl ?_
      refine aw_aload_n (i := 0) d_Mod_must_35 rfl rfl ?_
      apply mo_gets (f := 26) hm d_Mod_must_36 fl_Mod_206 rfl; exact hw.1
      refine aw_icmpN_ge d_Mod_must_39 (by omega) (by omega) (fun br39_ => ?_) (fun br39_ => ?_)
      · skip
        have ei : i = hall hs := by omega
        subst ei
        have h27 := hf.2.1
        have hdl := dg_lt (hsta hs) b0 (by rw [pk_len]; exact hb0) hv.1.pos
        rw [pk_at hb0] at hdl
        refine aw_iconst (v := nI 0) d_Mod_must_56 (by decide) ?_
        refine aw_istore (lv2 := [(0, _), (1, _), (2, _), (3, _), (4, _), (5, _)]) d_Mod_must_57 (by decide) rfl ?_
        refine aw_aload_n (i := 0) d_Mod_must_59 rfl rfl ?_
        refine aw_aload_n (i := 0) d_Mod_must_60 rfl rfl ?_
        apply mo_gets (f := 27) hm d_Mod_must_61 fl_Mod_209 rfl; exact h27
        refine aw_iload_n (i := 3) d_Mod_must_64 rfl rfl ?_
        apply aw_callv_p (c_Mod_stateOf hm.1 hh hw hv (c := hsta hs) (i := b0) (by omega) hb0) d_Mod_must_65 cl_Mod_212; exact hm.1.1; rfl; rfl; rfl; rfl; decide; exact Nat.le_of_ble_eq_true rfl; exact (Nat.le_refl _); exact (Nat.le_refl _)
        refine aw_iload d_Mod_must_68 rfl ?_
        refine aw_icmpN_eq d_Mod_must_70 (by omega) (by omega) (fun br70_ => ?_) (fun br70_ => ?_)
        · skip
          have hQ0 : QF hs (shn hs b0 t0) 42 ar2 [] 0 0 := ⟨Bfs.init0 (by unfold shn; rw [beq_iff_eq.mpr br70_]), fun k hk => absurd hk (Nat.not_lt_zero _), fun c hc => by rw [hI.2 c hc]; rfl⟩
          refine aw_iconst (v := nI 0) d_Mod_must_96 (by decide) ?_
          refine aw_istore (lv2 := [(0, _), (1, _), (2, _), (3, _), (4, _), (5, _), (6, _)]) d_Mod_must_97 (by decide) rfl ?_
          refine mloop (h0 := h0) (a := a) (A := A) (hall hs) (fun i h sc2 ar2 => ∀ (L : List Nat), Kp [] [31, 42] sc1 ar1 sc2 ar2 ∧ QF hs (shn hs b0 t0) 42 ar2 L i 0 ∧ L.length ≤ hall hs ∧ (∀ k, k < i → dg (pks hs.1) (L.getD k 0) p0 ≠ s0) → AW G m_Mod_must 4 0 0 _ 99 [(0, .ref a), (1, .int (nI p0)), (2, .int (nI s0)), (3, .int (nI b0)), (4, .int (nI t0)), (5, .int (nI L.length)), (6, .int (nI i))] [] (nx, h) 0 0) (fun _ _ _ => True) ?_ 0 _ _ _ (Nat.zero_le _) hm trivial [] ⟨hI.1, hQ0, Nat.zero_le _, fun k hk => absurd hk (Nat.not_lt_zero _)⟩
          intro i h sc2 ar2 hi_i hm _ ih2 L hI
          obtain ⟨hK, hQ, hLl, hnj⟩ := hI
          have hf := hf0.kp hK rfl rfl
          have hw := hf.1
          have hh := hq1.1.kp hK rfl rfl
          have hb := hf.2.2.1
          refine aw_iload d_Mod_must_99 rfl ?_
          refine aw_iload d_Mod_must_101 rfl ?_
          refine aw_icmpN_ge d_Mod_must_103 (by omega) (by omega) (fun br103_ => ?_) (fun br103_ => ?_)
          · skip
            have hmf : mst hs p0 s0 b0 t0 = false := mst_f (fun c hc => by
              obtain ⟨k, hk, e⟩ := List.getElem_of_mem ((hQ.1.done br103_ c).mpr hc)
              have := hnj k (by omega)
              rw [gDx hk, e] at this
              exact this)
            refine aw_iconst (v := nI 1) d_Mod_must_214 (by decide) ?_
            refine aw_iret d_Mod_must_215 rfl (Nat.le_refl _) (Nat.le_refl _) ?_
            exact ⟨_, _, _, rfl, hm, by rw [hmu, hmf]; rfl, (hK.1 0 rfl).trans (h0_.trans rfl), hq1.kp hK rfl rfl rfl rfl⟩
          · skip
            have hcL := hQ.1.at hv br103_
            have hdl1 := dg_lt (L.getD i 0) p0 (by rw [pk_len]; exact hp0) hv.1.pos
            rw [pk_at hp0] at hdl1
            refine aw_aload_n (i := 0) d_Mod_must_106 rfl rfl ?_
            refine mo_get (f := 31) hm d_Mod_must_107 fl_Mod_89 rfl ?_
            refine aw_iload d_Mod_must_110 rfl ?_
            apply mo_ld (f := 31) (N := 20000) hm d_Mod_must_112 rfl rfl (by decide); omega; exact hQ.2.1 _ br103_
            refine aw_istore (lv2 := [(0, _), (1, _), (2, _), (3, _), (4, _), (5, _), (6, _), (7, _)]) d_Mod_must_113 (by decide) rfl ?_
            refine aw_aload_n (i := 0) d_Mod_must_115 rfl rfl ?_
            refine aw_iload d_Mod_must_116 rfl ?_
            refine aw_iload_n (i := 1) d_Mod_must_118 rfl rfl ?_
            apply aw_callv_p (c_Mod_stateOf hm.1 hh hw hv (c := L.getD i 0) (i := p0) (by omega) hp0) d_Mod_must_119 cl_Mod_212; exact hm.1.1; rfl; rfl; rfl; rfl; decide; exact Nat.le_of_ble_eq_true rfl; exact (Nat.le_refl _); exact (Nat.le_refl _)
            refine aw_iload_n (i := 2) d_Mod_must_122 rfl rfl ?_
            refine aw_icmpN_ne d_Mod_must_123 (by omega) (by omega) (fun br123_ => ?_) (fun br123_ => ?_)
            · skip
              refine aw_iconst (v := nI 0) d_Mod_must_128 (by decide) ?_
              refine aw_istore (lv2 := [(0, _), (1, _), (2, _), (3, _), (4, _), (5, _), (6, _), (7, _), (8, _)]) d_Mod_must_129 (by decide) rfl ?_
              refine mloop (h0 := h0) (a := a) (A := A) (hs.2.1.length) (fun j h sc3 ar3 => ∀ (L : List Nat), i < L.length ∧ Kp [] [31, 42] sc1 ar1 sc3 ar3 ∧ QF hs (shn hs b0 t0) 42 ar3 L i j ∧ (∀ k, k < i + 1 → dg (pks hs.1) (L.getD k 0) p0 ≠ s0) → AW G m_Mod_must 4 0 0 _ 131 [(0, .ref a), (1, .int (nI p0)), (2, .int (nI s0)), (3, .int (nI b0)), (4, .int (nI t0)), (5, .int (nI L.length)), (6, .int (nI i)), (7, .int (nI (L.getD i 0))), (8, .int (nI j))] [] (nx, h) 0 0) (fun _ _ _ => True) ?_ 0 _ _ _ (Nat.zero_le _) hm trivial L ⟨br103_, hK, hQ, fun k hk => by
                  by_cases e : k = i
                  · subst e; exact br123_
                  · exact hnj k (by omega)⟩
              intro j h sc3 ar3 hi_j hm _ ih3 L hJ
              obtain ⟨hiL, hK, hQ, hnj⟩ := hJ
              have hLl := hQ.1.len hv
              have hcL := hQ.1.at hv hiL
              have hf := hf0.kp hK rfl rfl
              have hw := hf.1
              have hh := hq1.1.kp hK rfl rfl
              have hb := hf.2.2.1
              refine aw_iload d_Mod_must_131 rfl ?_
              refine aw_aload_n (i := 0) d_Mod_must_133 rfl rfl ?_
              apply mo_gets (f := 4) hm d_Mod_must_134 fl_Mod_164 rfl; exact hh.1.2.1
              refine aw_icmpN_ge d_Mod_must_137 (by omega) (by omega) (fun br137_ => ?_) (fun br137_ => ?_)
              · skip
                refine aw_iincN (lv2 := [(0, _), (1, _), (2, _), (3, _), (4, _), (5, _), (6, _), (7, _), (8, _)]) d_Mod_must_208 (by decide) rfl rfl ?_
                refine aw_goto d_Mod_must_211 ?_
                refine aw_drop (lv2 := [(0, _), (1, _), (2, _), (3, _), (4, _), (5, _), (6, _)]) [0, 1, 2, 3, 4, 5, 6] rfl ?_
                exact ih2 (by omega) _ _ _ hm trivial L ⟨hK, hQ.next br137_, hLl, hnj⟩
              · skip
                have hal := aft_lt hv hcL br137_
                have hdl2 := dg_lt (aft hs (L.getD i 0) j) b0 (by rw [pk_len]; exact hb0) hv.1.pos
                rw [pk_at hb0] at hdl2
                refine aw_aload_n (i := 0) d_Mod_must_140 rfl rfl ?_
                refine mo_get (f := 28) hm d_Mod_must_141 fl_Mod_79 rfl ?_
                refine aw_iload d_Mod_must_144 rfl ?_
                refine aw_bipush (v := nI 24) d_Mod_must_146 (by decide) ?_
                refine aw_imulN d_Mod_must_148 ?_
                refine aw_iload d_Mod_must_149 rfl ?_
                refine aw_iaddN d_Mod_must_151 ?_
                apply mo_ld (f := 28) (N := 480000) hm d_Mod_must_152 rfl rfl (by decide); omega; exact hb _ _ hcL br137_
                refine aw_istore (lv2 := [(0, _), (1, _), (2, _), (3, _), (4, _), (5, _), (6, _), (7, _), (8, _), (9, _)]) d_Mod_must_153 (by decide) rfl ?_
                refine aw_iload d_Mod_must_155 rfl ?_
                refine aw_if_lt d_Mod_must_157 (fun br157_ => ?_) (fun br157_ => ?_)
                · skip
                  have ho := bh_neg br157_ (by omega)
                  have hQ2 := hQ.skip (fun q => by rw [ho] at q; cases q)
                  refine aw_iincN (lv2 := [(0, _), (1, _), (2, _), (3, _), (4, _), (5, _), (6, _), (7, _), (8, _), (9, _)]) d_Mod_must_202 (by decide) rfl rfl ?_
                  refine aw_goto d_Mod_must_205 ?_
                  refine aw_drop (lv2 := [(0, _), (1, _), (2, _), (3, _), (4, _), (5, _), (6, _), (7, _), (8, _)]) [0, 1, 2, 3, 4, 5, 6, 7, 8] rfl ?_
                  exact ih3 br137_ _ _ _ hm trivial L ⟨hiL, hK, hQ2, hnj⟩
                · skip
                  have ho := bh_pos br157_
                  rw [bh_t ho]
                  refine aw_aload_n (i := 0) d_Mod_must_160 rfl rfl ?_
                  refine mo_get (f := 42) hm d_Mod_must_161 fl_Mod_117 rfl ?_
                  refine aw_iload d_Mod_must_164 rfl ?_
                  apply mo_zld (f := 42) (N := 20000) hm d_Mod_must_166 rfl rfl (by decide); omega; exact hQ.2.2 _ hal
                  refine aw_ifB_ne d_Mod_must_167 (fun br167_ => ?_) (fun br167_ => ?_)
                  · skip
                    have hQ2 := hQ.skip (fun _ _ => List.contains_iff_mem.mp br167_)
                    refine aw_iincN (lv2 := [(0, _), (1, _), (2, _), (3, _), (4, _), (5, _), (6, _), (7, _), (8, _), (9, _)]) d_Mod_must_202 (by decide) rfl rfl ?_
                    refine aw_goto d_Mod_must_205 ?_
                    refine aw_drop (lv2 := [(0, _), (1, _), (2, _), (3, _), (4, _), (5, _), (6, _), (7, _), (8, _)]) [0, 1, 2, 3, 4, 5, 6, 7, 8] rfl ?_
                    exact ih3 br137_ _ _ _ hm trivial L ⟨hiL, hK, hQ2, hnj⟩
                  · skip
                    refine aw_aload_n (i := 0) d_Mod_must_170 rfl rfl ?_
                    refine aw_iload d_Mod_must_171 rfl ?_
                    refine aw_iload_n (i := 3) d_Mod_must_173 rfl rfl ?_
                    apply aw_callv_p (c_Mod_stateOf hm.1 hh hw hv (c := aft hs (L.getD i 0) j) (i := b0) (by omega) hb0) d_Mod_must_174 cl_Mod_212; exact hm.1.1; rfl; rfl; rfl; rfl; decide; exact Nat.le_of_ble_eq_true rfl; exact (Nat.le_refl _); exact (Nat.le_refl _)
                    refine aw_iload d_Mod_must_177 rfl ?_
                    refine aw_icmpN_eq d_Mod_must_179 (by omega) (by omega) (fun br179_ => ?_) (fun br179_ => ?_)
                    · skip
                      have hQ2 := hQ.skip (fun _ q => by unfold shn at q; rw [beq_iff_eq.mpr br179_] at q; cases q)
                      refine aw_iincN (lv2 := [(0, _), (1, _), (2, _), (3, _), (4, _), (5, _), (6, _), (7, _), (8, _), (9, _)]) d_Mod_must_202 (by decide) rfl rfl ?_
                      refine aw_goto d_Mod_must_205 ?_
                      refine aw_drop (lv2 := [(0, _), (1, _), (2, _), (3, _), (4, _), (5, _), (6, _), (7, _), (8, _)]) [0, 1, 2, 3, 4, 5, 6, 7, 8] rfl ?_
                      exact ih3 br137_ _ _ _ hm trivial L ⟨hiL, hK, hQ2, hnj⟩
                    · skip
                      have hsh : shn hs b0 t0 (aft hs (L.getD i 0) j) = false := by unfold shn; exact beq_eq_false_iff_ne.mpr br179_
                      refine aw_aload_n (i := 0) d_Mod_must_182 rfl rfl ?_
                      refine mo_get (f := 42) hm d_Mod_must_183 fl_Mod_117 rfl ?_
                      refine aw_iload d_Mod_must_186 rfl ?_
                      refine aw_iconst (v := nI 1) d_Mod_must_188 (by decide) ?_
                      apply mo_zst (f := 42) (N := 20000) hm d_Mod_must_189 rfl rfl (by decide); omega; exact (by decide); intro h hm
                      refine aw_aload_n (i := 0) d_Mod_must_190 rfl rfl ?_
                      refine mo_get (f := 31) hm d_Mod_must_191 fl_Mod_89 rfl ?_
                      refine aw_iload d_Mod_must_194 rfl ?_
                      refine aw_iload d_Mod_must_196 rfl ?_
                      apply mo_st (f := 31) (N := 20000) hm d_Mod_must_198 rfl rfl (by decide); (have hn_ := (hQ.join hiL br137_ ho rfl hsh (cf_mem br167_) (ar2 := ups (ups ar3 42 (upd (ar3 42) (aft hs (L.getD i 0) j) (nI 1))) 31 (upd (ar3 31) L.length (nI (aft hs (L.getD i 0) j)))) rfl rfl).1.len hv; simp at hn_; omega); intro h hm
                      have hQ2 := hQ.join hiL br137_ ho rfl hsh (cf_mem br167_) (ar2 := ups (ups ar3 42 (upd (ar3 42) (aft hs (L.getD i 0) j) (nI 1))) 31 (upd (ar3 31) L.length (nI (aft hs (L.getD i 0) j)))) rfl rfl
                      have hK2 := (hK.tr (Kp.st (f := 42) (g := upd (ar3 42) (aft hs (L.getD i 0) j) (nI 1)) rfl)).tr (Kp.st (f := 31) (g := upd (ar3 31) L.length (nI (aft hs (L.getD i 0) j))) rfl)
                      have hl2 : (L ++ [aft hs (L.getD i 0) j]).length = L.length + 1 := by simp
                      have hgd : ∀ k, k < i + 1 → (L ++ [aft hs (L.getD i 0) j]).getD k 0 = L.getD k 0 := fun k hk => by rw [gd_snoc (by omega), if_pos (by omega)]
                      refine aw_iincN (lv2 := [(0, _), (1, _), (2, _), (3, _), (4, _), (5, _), (6, _), (7, _), (8, _), (9, _)]) d_Mod_must_199 (by decide) rfl rfl ?_
                      refine aw_iincN (lv2 := [(0, _), (1, _), (2, _), (3, _), (4, _), (5, _), (6, _), (7, _), (8, _), (9, _)]) d_Mod_must_202 (by decide) rfl rfl ?_
                      refine aw_goto d_Mod_must_205 ?_
                      refine aw_drop (lv2 := [(0, _), (1, _), (2, _), (3, _), (4, _), (5, _), (6, _), (7, _), (8, _)]) [0, 1, 2, 3, 4, 5, 6, 7, 8] rfl ?_
                      have k9 := ih3 br137_ _ _ _ hm trivial (L ++ [aft hs (L.getD i 0) j]) ⟨by rw [hl2]; omega, hK2, hQ2, fun k hk => by rw [hgd k hk]; exact hnj k hk⟩
                      rw [hl2, hgd i (by omega)] at k9
                      exact k9
            · skip
              have hmt := mst_t (hQ.1.rch br103_) br123_
              refine aw_iconst (v := nI 0) d_Mod_must_126 (by decide) ?_
              refine aw_iret d_Mod_must_127 rfl (Nat.le_refl _) (Nat.le_refl _) ?_
              exact ⟨_, _, _, rfl, hm, by rw [hmu, hmt]; rfl, (hK.1 0 rfl).trans (h0_.trans rfl), hq1.kp hK rfl rfl rfl rfl⟩
        · skip
          refine aw_aload_n (i := 0) d_Mod_must_73 rfl rfl ?_
          refine mo_get (f := 31) hm d_Mod_must_74 fl_Mod_89 rfl ?_
          refine aw_iconst (v := nI 0) d_Mod_must_77 (by decide) ?_
          refine aw_aload_n (i := 0) d_Mod_must_78 rfl rfl ?_
          apply mo_gets (f := 27) hm d_Mod_must_79 fl_Mod_209 rfl; exact h27
          apply mo_st (f := 31) (N := 20000) hm d_Mod_must_82 rfl rfl (by decide); omega; intro h hm
          refine aw_aload_n (i := 0) d_Mod_must_83 rfl rfl ?_
          refine mo_get (f := 42) hm d_Mod_must_84 fl_Mod_117 rfl ?_
          refine aw_aload_n (i := 0) d_Mod_must_87 rfl rfl ?_
          apply mo_gets (f := 27) hm d_Mod_must_88 fl_Mod_209 rfl; exact h27
          refine aw_iconst (v := nI 1) d_Mod_must_91 (by decide) ?_
          apply mo_zst (f := 42) (N := 20000) hm d_Mod_must_92 rfl rfl (by decide); omega; exact (by decide); intro h hm
          have hQ0 : QF hs (shn hs b0 t0) 42 (ups (ups ar2 31 (upd (ar2 31) 0 (nI (hsta hs)))) 42 (upd (ar2 42) (hsta hs) (nI 1))) [hsta hs] 0 0 := by
            refine ⟨Bfs.init (by unfold shn; exact beq_eq_false_iff_ne.mpr br70_), fun k hk => ?_, fun c hc => ?_⟩
            · have e : k = 0 := by simp at hk; omega
              subst e; rfl
            · show upd (ar2 42) (hsta hs) _ c = _
              by_cases e : c = hsta hs
              · subst e; rw [pk_us]; simp [bI, nI]
              · rw [pk_un e, hI.2 c hc]; simp [e, bI]
          refine aw_iconst (v := nI 1) d_Mod_must_93 (by decide) ?_
          refine aw_istore (lv2 := [(0, _), (1, _), (2, _), (3, _), (4, _), (5, _)]) d_Mod_must_94 (by decide) rfl ?_
          refine aw_iconst (v := nI 0) d_Mod_must_96 (by decide) ?_
          refine aw_istore (lv2 := [(0, _), (1, _), (2, _), (3, _), (4, _), (5, _), (6, _)]) d_Mod_must_97 (by decide) rfl ?_
          refine mloop (h0 := h0) (a := a) (A := A) (hall hs) (fun i h sc2 ar2 => ∀ (L : List Nat), Kp [] [31, 42] sc1 ar1 sc2 ar2 ∧ QF hs (shn hs b0 t0) 42 ar2 L i 0 ∧ L.length ≤ hall hs ∧ (∀ k, k < i → dg (pks hs.1) (L.getD k 0) p0 ≠ s0) → AW G m_Mod_must 4 0 0 _ 99 [(0, .ref a), (1, .int (nI p0)), (2, .int (nI s0)), (3, .int (nI b0)), (4, .int (nI t0)), (5, .int (nI L.length)), (6, .int (nI i))] [] (nx, h) 0 0) (fun _ _ _ => True) ?_ 0 _ _ _ (Nat.zero_le _) hm trivial [hsta hs] ⟨(hI.1.tr (Kp.st rfl)).tr (Kp.st rfl), hQ0, by simp; omega, fun k hk => absurd hk (Nat.not_lt_zero _)⟩
          intro i h sc2 ar2 hi_i hm _ ih2 L hI
          obtain ⟨hK, hQ, hLl, hnj⟩ := hI
          have hf := hf0.kp hK rfl rfl
          have hw := hf.1
          have hh := hq1.1.kp hK rfl rfl
          have hb := hf.2.2.1
          refine aw_iload d_Mod_must_99 rfl ?_
          refine aw_iload d_Mod_must_101 rfl ?_
          refine aw_icmpN_ge d_Mod_must_103 (by omega) (by omega) (fun br103_ => ?_) (fun br103_ => ?_)
          · skip
            have hmf : mst hs p0 s0 b0 t0 = false := mst_f (fun c hc => by
              obtain ⟨k, hk, e⟩ := List.getElem_of_mem ((hQ.1.done br103_ c).mpr hc)
              have := hnj k (by omega)
              rw [gDx hk, e] at this
              exact this)
            refine aw_iconst (v := nI 1) d_Mod_must_214 (by decide) ?_
            refine aw_iret d_Mod_must_215 rfl (Nat.le_refl _) (Nat.le_refl _) ?_
            exact ⟨_, _, _, rfl, hm, by rw [hmu, hmf]; rfl, (hK.1 0 rfl).trans (h0_.trans rfl), hq1.kp hK rfl rfl rfl rfl⟩
          · skip
            have hcL := hQ.1.at hv br103_
            have hdl1 := dg_lt (L.getD i 0) p0 (by rw [pk_len]; exact hp0) hv.1.pos
            rw [pk_at hp0] at hdl1
            refine aw_aload_n (i := 0) d_Mod_must_106 rfl rfl ?_
            refine mo_get (f := 31) hm d_Mod_must_107 fl_Mod_89 rfl ?_
            refine aw_iload d_Mod_must_110 rfl ?_
            apply mo_ld (f := 31) (N := 20000) hm d_Mod_must_112 rfl rfl (by decide); omega; exact hQ.2.1 _ br103_
            refine aw_istore (lv2 := [(0, _), (1, _), (2, _), (3, _), (4, _), (5, _), (6, _), (7, _)]) d_Mod_must_113 (by decide) rfl ?_
            refine aw_aload_n (i := 0) d_Mod_must_115 rfl rfl ?_
            refine aw_iload d_Mod_must_116 rfl ?_
            refine aw_iload_n (i := 1) d_Mod_must_118 rfl rfl ?_
            apply aw_callv_p (c_Mod_stateOf hm.1 hh hw hv (c := L.getD i 0) (i := p0) (by omega) hp0) d_Mod_must_119 cl_Mod_212; exact hm.1.1; rfl; rfl; rfl; rfl; decide; exact Nat.le_of_ble_eq_true rfl; exact (Nat.le_refl _); exact (Nat.le_refl _)
            refine aw_iload_n (i := 2) d_Mod_must_122 rfl rfl ?_
            refine aw_icmpN_ne d_Mod_must_123 (by omega) (by omega) (fun br123_ => ?_) (fun br123_ => ?_)
            · skip
              refine aw_iconst (v := nI 0) d_Mod_must_128 (by decide) ?_
              refine aw_istore (lv2 := [(0, _), (1, _), (2, _), (3, _), (4, _), (5, _), (6, _), (7, _), (8, _)]) d_Mod_must_129 (by decide) rfl ?_
              refine mloop (h0 := h0) (a := a) (A := A) (hs.2.1.length) (fun j h sc3 ar3 => ∀ (L : List Nat), i < L.length ∧ Kp [] [31, 42] sc1 ar1 sc3 ar3 ∧ QF hs (shn hs b0 t0) 42 ar3 L i j ∧ (∀ k, k < i + 1 → dg (pks hs.1) (L.getD k 0) p0 ≠ s0) → AW G m_Mod_must 4 0 0 _ 131 [(0, .ref a), (1, .int (nI p0)), (2, .int (nI s0)), (3, .int (nI b0)), (4, .int (nI t0)), (5, .int (nI L.length)), (6, .int (nI i)), (7, .int (nI (L.getD i 0))), (8, .int (nI j))] [] (nx, h) 0 0) (fun _ _ _ => True) ?_ 0 _ _ _ (Nat.zero_le _) hm trivial L ⟨br103_, hK, hQ, fun k hk => by
                  by_cases e : k = i
                  · subst e; exact br123_
                  · exact hnj k (by omega)⟩
              intro j h sc3 ar3 hi_j hm _ ih3 L hJ
              obtain ⟨hiL, hK, hQ, hnj⟩ := hJ
              have hLl := hQ.1.len hv
              have hcL := hQ.1.at hv hiL
              have hf := hf0.kp hK rfl rfl
              have hw := hf.1
              have hh := hq1.1.kp hK rfl rfl
              have hb := hf.2.2.1
              refine aw_iload d_Mod_must_131 rfl ?_
              refine aw_aload_n (i := 0) d_Mod_must_133 rfl rfl ?_
              apply mo_gets (f := 4) hm d_Mod_must_134 fl_Mod_164 rfl; exact hh.1.2.1
              refine aw_icmpN_ge d_Mod_must_137 (by omega) (by omega) (fun br137_ => ?_) (fun br137_ => ?_)
              · skip
                refine aw_iincN (lv2 := [(0, _), (1, _), (2, _), (3, _), (4, _), (5, _), (6, _), (7, _), (8, _)]) d_Mod_must_208 (by decide) rfl rfl ?_
                refine aw_goto d_Mod_must_211 ?_
                refine aw_drop (lv2 := [(0, _), (1, _), (2, _), (3, _), (4, _), (5, _), (6, _)]) [0, 1, 2, 3, 4, 5, 6] rfl ?_
                exact ih2 (by omega) _ _ _ hm trivial L ⟨hK, hQ.next br137_, hLl, hnj⟩
              · skip
                have hal := aft_lt hv hcL br137_
                have hdl2 := dg_lt (aft hs (L.getD i 0) j) b0 (by rw [pk_len]; exact hb0) hv.1.pos
                rw [pk_at hb0] at hdl2
                refine aw_aload_n (i := 0) d_Mod_must_140 rfl rfl ?_
                refine mo_get (f := 28) hm d_Mod_must_141 fl_Mod_79 rfl ?_
                refine aw_iload d_Mod_must_144 rfl ?_
                refine aw_bipush (v := nI 24) d_Mod_must_146 (by decide) ?_
                refine aw_imulN d_Mod_must_148 ?_
                refine aw_iload d_Mod_must_149 rfl ?_
                refine aw_iaddN d_Mod_must_151 ?_
                apply mo_ld (f := 28) (N := 480000) hm d_Mod_must_152 rfl rfl (by decide); omega; exact hb _ _ hcL br137_
                refine aw_istore (lv2 := [(0, _), (1, _), (2, _), (3, _), (4, _), (5, _), (6, _), (7, _), (8, _), (9, _)]) d_Mod_must_153 (by decide) rfl ?_
                refine aw_iload d_Mod_must_155 rfl ?_
                refine aw_if_lt d_Mod_must_157 (fun br157_ => ?_) (fun br157_ => ?_)
                · skip
                  have ho := bh_neg br157_ (by omega)
                  have hQ2 := hQ.skip (fun q => by rw [ho] at q; cases q)
                  refine aw_iincN (lv2 := [(0, _), (1, _), (2, _), (3, _), (4, _), (5, _), (6, _), (7, _), (8, _), (9, _)]) d_Mod_must_202 (by decide) rfl rfl ?_
                  refine aw_goto d_Mod_must_205 ?_
                  refine aw_drop (lv2 := [(0, _), (1, _), (2, _), (3, _), (4, _), (5, _), (6, _), (7, _), (8, _)]) [0, 1, 2, 3, 4, 5, 6, 7, 8] rfl ?_
                  exact ih3 br137_ _ _ _ hm trivial L ⟨hiL, hK, hQ2, hnj⟩
                · skip
                  have ho := bh_pos br157_
                  rw [bh_t ho]
                  refine aw_aload_n (i := 0) d_Mod_must_160 rfl rfl ?_
                  refine mo_get (f := 42) hm d_Mod_must_161 fl_Mod_117 rfl ?_
                  refine aw_iload d_Mod_must_164 rfl ?_
                  apply mo_zld (f := 42) (N := 20000) hm d_Mod_must_166 rfl rfl (by decide); omega; exact hQ.2.2 _ hal
                  refine aw_ifB_ne d_Mod_must_167 (fun br167_ => ?_) (fun br167_ => ?_)
                  · skip
                    have hQ2 := hQ.skip (fun _ _ => List.contains_iff_mem.mp br167_)
                    refine aw_iincN (lv2 := [(0, _), (1, _), (2, _), (3, _), (4, _), (5, _), (6, _), (7, _), (8, _), (9, _)]) d_Mod_must_202 (by decide) rfl rfl ?_
                    refine aw_goto d_Mod_must_205 ?_
                    refine aw_drop (lv2 := [(0, _), (1, _), (2, _), (3, _), (4, _), (5, _), (6, _), (7, _), (8, _)]) [0, 1, 2, 3, 4, 5, 6, 7, 8] rfl ?_
                    exact ih3 br137_ _ _ _ hm trivial L ⟨hiL, hK, hQ2, hnj⟩
                  · skip
                    refine aw_aload_n (i := 0) d_Mod_must_170 rfl rfl ?_
                    refine aw_iload d_Mod_must_171 rfl ?_
                    refine aw_iload_n (i := 3) d_Mod_must_173 rfl rfl ?_
                    apply aw_callv_p (c_Mod_stateOf hm.1 hh hw hv (c := aft hs (L.getD i 0) j) (i := b0) (by omega) hb0) d_Mod_must_174 cl_Mod_212; exact hm.1.1; rfl; rfl; rfl; rfl; decide; exact Nat.le_of_ble_eq_true rfl; exact (Nat.le_refl _); exact (Nat.le_refl _)
                    refine aw_iload d_Mod_must_177 rfl ?_
                    refine aw_icmpN_eq d_Mod_must_179 (by omega) (by omega) (fun br179_ => ?_) (fun br179_ => ?_)
                    · skip
                      have hQ2 := hQ.skip (fun _ q => by unfold shn at q; rw [beq_iff_eq.mpr br179_] at q; cases q)
                      refine aw_iincN (lv2 := [(0, _), (1, _), (2, _), (3, _), (4, _), (5, _), (6, _), (7, _), (8, _), (9, _)]) d_Mod_must_202 (by decide) rfl rfl ?_
                      refine aw_goto d_Mod_must_205 ?_
                      refine aw_drop (lv2 := [(0, _), (1, _), (2, _), (3, _), (4, _), (5, _), (6, _), (7, _), (8, _)]) [0, 1, 2, 3, 4, 5, 6, 7, 8] rfl ?_
                      exact ih3 br137_ _ _ _ hm trivial L ⟨hiL, hK, hQ2, hnj⟩
                    · skip
                      have hsh : shn hs b0 t0 (aft hs (L.getD i 0) j) = false := by unfold shn; exact beq_eq_false_iff_ne.mpr br179_
                      refine aw_aload_n (i := 0) d_Mod_must_182 rfl rfl ?_
                      refine mo_get (f := 42) hm d_Mod_must_183 fl_Mod_117 rfl ?_
                      refine aw_iload d_Mod_must_186 rfl ?_
                      refine aw_iconst (v := nI 1) d_Mod_must_188 (by decide) ?_
                      apply mo_zst (f := 42) (N := 20000) hm d_Mod_must_189 rfl rfl (by decide); omega; exact (by decide); intro h hm
                      refine aw_aload_n (i := 0) d_Mod_must_190 rfl rfl ?_
                      refine mo_get (f := 31) hm d_Mod_must_191 fl_Mod_89 rfl ?_
                      refine aw_iload d_Mod_must_194 rfl ?_
                      refine aw_iload d_Mod_must_196 rfl ?_
                      apply mo_st (f := 31) (N := 20000) hm d_Mod_must_198 rfl rfl (by decide); (have hn_ := (hQ.join hiL br137_ ho rfl hsh (cf_mem br167_) (ar2 := ups (ups ar3 42 (upd (ar3 42) (aft hs (L.getD i 0) j) (nI 1))) 31 (upd (ar3 31) L.length (nI (aft hs (L.getD i 0) j)))) rfl rfl).1.len hv; simp at hn_; omega); intro h hm
                      have hQ2 := hQ.join hiL br137_ ho rfl hsh (cf_mem br167_) (ar2 := ups (ups ar3 42 (upd (ar3 42) (aft hs (L.getD i 0) j) (nI 1))) 31 (upd (ar3 31) L.length (nI (aft hs (L.getD i 0) j)))) rfl rfl
                      have hK2 := (hK.tr (Kp.st (f := 42) (g := upd (ar3 42) (aft hs (L.getD i 0) j) (nI 1)) rfl)).tr (Kp.st (f := 31) (g := upd (ar3 31) L.length (nI (aft hs (L.getD i 0) j))) rfl)
                      have hl2 : (L ++ [aft hs (L.getD i 0) j]).length = L.length + 1 := by simp
                      have hgd : ∀ k, k < i + 1 → (L ++ [aft hs (L.getD i 0) j]).getD k 0 = L.getD k 0 := fun k hk => by rw [gd_snoc (by omega), if_pos (by omega)]
                      refine aw_iincN (lv2 := [(0, _), (1, _), (2, _), (3, _), (4, _), (5, _), (6, _), (7, _), (8, _), (9, _)]) d_Mod_must_199 (by decide) rfl rfl ?_
                      refine aw_iincN (lv2 := [(0, _), (1, _), (2, _), (3, _), (4, _), (5, _), (6, _), (7, _), (8, _), (9, _)]) d_Mod_must_202 (by decide) rfl rfl ?_
                      refine aw_goto d_Mod_must_205 ?_
                      refine aw_drop (lv2 := [(0, _), (1, _), (2, _), (3, _), (4, _), (5, _), (6, _), (7, _), (8, _)]) [0, 1, 2, 3, 4, 5, 6, 7, 8] rfl ?_
                      have k9 := ih3 br137_ _ _ _ hm trivial (L ++ [aft hs (L.getD i 0) j]) ⟨by rw [hl2]; omega, hK2, hQ2, fun k hk => by rw [hgd k hk]; exact hnj k hk⟩
                      rw [hl2, hgd i (by omega)] at k9
                      exact k9
            · skip
              have hmt := mst_t (hQ.1.rch br103_) br123_
              refine aw_iconst (v := nI 0) d_Mod_must_126 (by decide) ?_
              refine aw_iret d_Mod_must_127 rfl (Nat.le_refl _) (Nat.le_refl _) ?_
              exact ⟨_, _, _, rfl, hm, by rw [hmu, hmt]; rfl, (hK.1 0 rfl).trans (h0_.trans rfl), hq1.kp hK rfl rfl rfl rfl⟩
      · skip
        refine aw_aload_n (i := 0) d_Mod_must_42 rfl rfl ?_
        refine mo_get (f := 42) hm d_Mod_must_43 fl_Mod_117 rfl ?_
        refine aw_iload d_Mod_must_46 rfl ?_
        refine aw_iconst (v := nI 0) d_Mod_must_48 (by decide) ?_
        apply mo_zst (f := 42) (N := 20000) hm d_Mod_must_49 rfl rfl (by decide); omega; exact (by decide); intro h hm
        refine aw_iincN (lv2 := [(0, _), (1, _), (2, _), (3, _), (4, _), (5, _)]) d_Mod_must_50 (by decide) rfl rfl ?_
        refine aw_goto d_Mod_must_53 ?_
        refine ih br39_ _ _ _ hm ⟨hI.1.tr (Kp.st rfl), fun k hk => ?_⟩
        show upd (ar2 42) i _ k = _
        by_cases e : k = i
        · subst e; rw [pk_us]; rfl
        · rw [pk_un e]; exact hI.2 k (by omega)
    · skip
      have hr_ : muA hs (nI p0) (nI s0) b t = -1 := by unfold muA; rw [br21_, Bool.and_false]; rfl
      refine aw_iconst (v := -1) d_Mod_must_24 (by decide) ?_
      refine aw_iret d_Mod_must_25 rfl (Nat.le_refl _) (Nat.le_refl _) ?_
      exact ⟨_, _, _, rfl, hm, by rw [hr_], rfl, hq⟩

