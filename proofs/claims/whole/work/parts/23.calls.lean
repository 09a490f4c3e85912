section RUC
variable {G : aG} {My : MethodName} {Mc : ByteArray} {Ml : Nat} {Mr : Option FieldType} {d mc ms : Nat} {F : FT} {pc pc2 tgt : Nat} {lv lv2 : List (Nat × Value)} {st : List Value} {w : aH} {k n : Nat} {nx t t1 : Nat} {h : Nat → Option aC}
/-- ends -/
theorem aw_iret {Q : Option Value → aH → Prop} {v : Int32} (hd : DN Mc pc .ireturn 1 pc2) (hM : Mr = some .int) (hk : k ≤ mc) (hn : n ≤ ms) (hq : Q (some (.int v)) w) : AW G (My, Mc, Ml, Mr) d mc ms (FQ G mc ms Q) pc lv [.int v] w k n := by
  obtain ⟨hd, rfl⟩ := hd
  intro p l e R s m args below meth c H locs ls X hR hl
  have hS := X.2.2.2.2.2.2.2.2.2.1
  refine W.widen hk hn ?_
  exact W.iret X.1 X.2.1 (by rw [X.2.2.2.2.2.1]; exact hM) (fun t ht hW => ⟨⟨some (.int v), w, rfl, hq, by rw [ht]; exact hR⟩, K0.moved hW hS ht X.2.2.2.2.2.2.2.2.1, hS.F ht⟩) hS.2.2 hd X.2.2.2.2.2.2.1
theorem aw_zret {Q : Option Value → aH → Prop} {v : Int32} (hd : DN Mc pc .ireturn 1 pc2) (hM : Mr = some .boolean) (hv : narrow .boolean (.int v) = .int v) (hk : k ≤ mc) (hn : n ≤ ms) (hq : Q (some (.int v)) w) : AW G (My, Mc, Ml, Mr) d mc ms (FQ G mc ms Q) pc lv [.int v] w k n := by
  obtain ⟨hd, rfl⟩ := hd
  intro p l e R s m args below meth c H locs ls X hR hl
  have hS := X.2.2.2.2.2.2.2.2.2.1
  refine W.widen hk hn ?_
  exact W.zret (ty := .boolean) X.1 X.2.1 (by rw [X.2.2.2.2.2.1]; exact hM) hv (fun t ht hW => ⟨⟨some (.int v), w, rfl, hq, by rw [ht]; exact hR⟩, K0.moved hW hS ht X.2.2.2.2.2.2.2.2.1, hS.F ht⟩) hS.2.2 hd X.2.2.2.2.2.2.1
theorem aw_vret {Q : Option Value → aH → Prop} (hd : DN Mc pc .return_ 1 pc2) (hM : Mr = none) (hk : k ≤ mc) (hn : n ≤ ms) (hq : Q none w) : AW G (My, Mc, Ml, Mr) d mc ms (FQ G mc ms Q) pc lv [] w k n := by
  obtain ⟨hd, rfl⟩ := hd
  intro p l e R s m args below meth c H locs ls X hR hl
  have hS := X.2.2.2.2.2.2.2.2.2.1
  refine W.widen hk hn ?_
  exact W.vret X.1 X.2.1 (by rw [X.2.2.2.2.2.1]; exact hM) (fun t ht hW => ⟨⟨none, w, rfl, hq, by rw [ht]; exact hR⟩, K0.moved hW hS ht X.2.2.2.2.2.2.2.2.1, hS.F ht⟩) hS.2.2 hd X.2.2.2.2.2.2.1
theorem aw_aret {Q : Option Value → aH → Prop} {v : Value} {rt : FieldType} (hd : DN Mc pc .areturn 1 pc2) (hM : Mr = some rt) (hrt : (∃ n, rt = .object n) ∨ ∃ t, rt = .array t) (hv : v = .null ∨ ∃ a, v = .ref a) (hk : k ≤ mc) (hn : n ≤ ms) (hq : Q (some v) w) : AW G (My, Mc, Ml, Mr) d mc ms (FQ G mc ms Q) pc lv [v] w k n := by
  obtain ⟨hd, rfl⟩ := hd
  intro p l e R s m args below meth c H locs ls X hR hl
  have hS := X.2.2.2.2.2.2.2.2.2.1
  refine W.widen hk hn ?_
  exact W.aret (v := tv G v) (rt := rt) X.1 X.2.1 (by rw [X.2.2.2.2.2.1]; exact hM) hrt (hv.elim (fun e => Or.inl (by rw [e]; rfl)) (fun ⟨a, e⟩ => Or.inr ⟨ta G a, by rw [e]; rfl⟩)) (fun t ht hW => ⟨⟨some v, w, rfl, hq, by rw [ht]; exact hR⟩, K0.moved hW hS ht X.2.2.2.2.2.2.2.2.1, hS.F ht⟩) hS.2.2 hd X.2.2.2.2.2.2.1
/-- constants of the pool -/
theorem aw_ldc {idx : Nat} {v : Int32} (hd : DN Mc pc (.ldc idx) 2 pc2) (hc : Cond.constant My.cls idx v ∈ gw) (kk : AW G (My, Mc, Ml, Mr) d mc ms F pc2 lv (.int v :: st) w k n) : AW G (My, Mc, Ml, Mr) d mc ms F pc lv st w k n := by
  obtain ⟨hd, rfl⟩ := hd
  exact fun p l e R s m args below meth c H locs ls X hR hl => lv_ldc X.1 X.2.1 X.2.2.2.1 (X.2.2.2.2.1 _ hc) hd (kk p l e R s m args below meth c H locs ls X hR hl)
theorem aw_ldcw {idx : Nat} {v : Int32} (hd : DN Mc pc (.ldc_w idx) 3 pc2) (hc : Cond.constant My.cls idx v ∈ gw) (kk : AW G (My, Mc, Ml, Mr) d mc ms F pc2 lv (.int v :: st) w k n) : AW G (My, Mc, Ml, Mr) d mc ms F pc lv st w k n := by
  obtain ⟨hd, rfl⟩ := hd
  exact fun p l e R s m args below meth c H locs ls X hR hl => lv_ldcw X.1 X.2.1 X.2.2.2.1 (X.2.2.2.2.1 _ hc) hd (kk p l e R s m args below meth c H locs ls X hR hl)
theorem aw_ldc2 {idx : Nat} {v : Int64} (hd : DN Mc pc (.ldc2_w idx) 3 pc2) (hc : Cond.constantLong My.cls idx v ∈ gw) (kk : AW G (My, Mc, Ml, Mr) d mc ms F pc2 lv (.long v :: st) w k n) : AW G (My, Mc, Ml, Mr) d mc ms F pc lv st w k n := by
  obtain ⟨hd, rfl⟩ := hd
  exact fun p l e R s m args below meth c H locs ls X hR hl => lv_ldc2 X.1 X.2.1 X.2.2.2.1 (X.2.2.2.2.1 _ hc) hd (kk p l e R s m args below meth c H locs ls X hR hl)
theorem aw_lconst {z : Fin 2} {v : Int64} (hd : DN Mc pc (.lconst z) 1 pc2) (hv : Int64.ofNat (z : Nat) = v) (kk : AW G (My, Mc, Ml, Mr) d mc ms F pc2 lv (.long v :: st) w k n) : AW G (My, Mc, Ml, Mr) d mc ms F pc lv st w k n := by
  obtain ⟨hd, rfl⟩ := hd
  exact fun p l e R s m args below meth c H locs ls X hR hl => lv_lconst X.1 X.2.1 hd hv (kk p l e R s m args below meth c H locs ls X hR hl)
/-- Object's constructor -/
def OI (own : String) (idx : Nat) : Prop := Cond.methodLink own idx objectInit ∈ gw
theorem oi_i : Cond.instanceMethod objectInit ∈ gw := by decide +kernel
theorem oi_c : Cond.code objectInit ⟨#[0xb1]⟩ 1 none ∈ gw := by decide +kernel
theorem tv_cats (G : aG) (l : List Value) : ((l.map (tv G)).map fun v => v.category) = l.map fun v => v.category := by
  rw [List.map_map]
  exact List.map_congr_left fun v _ => tv_cat G v
theorem aw_objInit {idx a : Nat} (hd : DN Mc pc (.invokespecial idx) 3 pc2) (ho : OI My.cls idx) (hdd : 1 ≤ d) (hst : (st.map fun v => v.category).sum ≤ 8) (kk : AW G (My, Mc, Ml, Mr) d mc ms F pc2 lv st w k n) : AW G (My, Mc, Ml, Mr) d mc ms F pc lv (.ref a :: st) w k n := by
  obtain ⟨hd, rfl⟩ := hd
  intro p l e R s m args below meth c H locs ls X hR hl
  have hts := X.2.2.2.2.1
  have hRm := X.2.2.2.2.2.2.2.2.2.2
  exact W.objInit X.1 X.2.1 X.2.2.2.1 (hts _ ho) (hts _ oi_i) (hts _ oi_c) rfl (by show ls.size = _; rw [hl.1, X.2.2.1]) rfl hd (Nat.le_trans hdd hRm.1) (by show 2 * 0 + _ + 12 ≤ _; rw [tv_cats]; have := hRm.2.1; omega) (kk p l e R s m args below meth c H locs ls X hR hl)
/-- calls -/
def CLB (own : String) (idx : Nat) (M' : MI) (a : Nat) : Prop := Cond.methodLink own idx M'.1 ∈ gw ∧ Cond.initialized M'.1.cls ∈ gw ∧ Cond.code M'.1 M'.2.1 M'.2.2.1 M'.2.2.2 ∈ gw ∧ M'.2.2.1 ≤ 41 ∧ (M'.1.cls ≠ "java/lang/invoke/MethodHandle" ∧ M'.1.cls ≠ "java/lang/invoke/VarHandle" ∧ (parseMethodDescriptor M'.1.desc).map (fun d => d.parameters.length) = some a)
def CLv (own : String) (idx : Nat) (M' : MI) (a : Nat) : Prop := CLB own idx M' a ∧ Cond.instanceMethod M'.1 ∈ gw ∧ Cond.selects M'.1.cls M'.1 M'.1 ∈ gw
def CLs (own : String) (idx : Nat) (M' : MI) (a : Nat) : Prop := CLB own idx M' a ∧ Cond.static M'.1 ∈ gw
def CLi (own : String) (idx : Nat) (M' : MI) (a : Nat) : Prop := CLB own idx M' a ∧ M'.1.name = "<init>" ∧ Cond.instanceMethod M'.1 ∈ gw ∧ M'.2.2.2 = none
def CLn (own : String) (idx : Nat) (M' : MI) (a : Nat) : Prop := (∃ host, Cond.methodLinkNest own idx M'.1 host ∈ nws) ∧ Cond.initialized M'.1.cls ∈ gw ∧ Cond.code M'.1 M'.2.1 M'.2.2.1 M'.2.2.2 ∈ gw ∧ M'.2.2.1 ≤ 41 ∧ (M'.1.cls ≠ "java/lang/invoke/MethodHandle" ∧ M'.1.cls ≠ "java/lang/invoke/VarHandle" ∧ (parseMethodDescriptor M'.1.desc).map (fun d => d.parameters.length) = some a) ∧ M'.1.name = "<init>" ∧ Cond.instanceMethod M'.1 ∈ gw ∧ M'.2.2.2 = none
def rmOf (d mc ms : Nat) : Room := { frames := d, cells := mc, slots := ms, locals := 60 * d }
/-- behind a call -/
theorem aw_back {p : Program} {l : LN} {e : Env} {R : Room} {s : State} {m : MethodId} {args : Array Value} {below : List Frame} {meth : Method} {c : Code} {H : Heap} {locs : List Loc} {ls : Array Slot} {mc2 ms2 : Nat} {st0 rest : List Value} {av : Array Value} {Q : Option Value → aH → Prop} (X : AX G (My, Mc, Ml, Mr) d mc ms p R s m args meth c H locs) (hl : lv_has ls Ml (lv.map (tl G)))
    (hr : va_Run p l.1 e R s m args below meth c H locs k n mc2 ms2 (F0 m pc ls st0) (rest.map (tv G)) (AQ G Q av) (gA G)) (kk : ∀ (r : Option Value) (w2 : aH), Q r w2 → AW G (My, Mc, Ml, Mr) d mc ms F (pc + 3) lv (r.toList ++ rest) w2 (k + mc2) (n + ms2)) : W p l.1 e R s m args below meth c H locs k n (F below args s) (F0 m pc ls st0) := by
  have hS := X.2.2.2.2.2.2.2.2.2.1
  intro T hT XT
  obtain ⟨v, st₀, t, T', L, h0, X', hL, e1, e2, ⟨⟨r, w2, hv, hq, hR2⟩, hK2, hz, hk⟩, go⟩ := hr T hT XT
  cases hv
  rw [h0] at hz hk
  have hS2 : va_S (gA G) s.heap T'.heap (locs ++ L) := ⟨Nat.le_trans hS.1 (by rw [e1]; exact hz), fun q h1 h2 => by rw [e1, hk q (Nat.lt_of_lt_of_le h1 hS.1) h2]; exact hS.2.1 q h1 h2, fun q hq => by
      rcases List.mem_append.mp hq with h | h
      · exact hS.2.2 q h
      · exact hL q h⟩
  obtain ⟨t2, a1, b1⟩ := kk r w2 hq p l e R s m args below meth c T'.heap (locs ++ L) ls (axS X hS2) (by rw [e1]; exact hR2) hl T' rfl X'
  refine ⟨t2, go t2 ?_, b1⟩
  rw [List.map_append] at a1
  have e3 : (r.toList).map (tv G) = (r.map (tv G)).toList := by cases r <;> rfl
  rw [e3] at a1
  exact a1
theorem apc_at {s : State} {H : Heap} {locs : List Loc} {av : List Value} (hR : Rel G w H) (hK : K0 G s) (hS : va_S (gA G) s.heap H locs) : PreS s H (APc G av w) (av.map (tv G)) :=
  ⟨APc.blind G av w, fun U hU hW => ⟨rfl, by rw [hU]; exact hR, K0.moved hW hS hU hK⟩⟩
theorem aw_callv {M' : MI} {d2 mc2 ms2 idx ci a b : Nat} {fs av rest stk : List Value} {q : vw_C} {Q : Option Value → aH → Prop} (hd : DN Mc pc (.invokevirtual idx) 3 pc2) (hc : CLv My.cls idx M' a) (hm : AMet G M' d2 mc2 ms2 (.ref b :: av) w Q) (hb : w.2 b = some (t, .inr (ci, fs))) (hq : cls[ci]? = some q) (hcl : q.1 = M'.1.cls) (hs : stk = av.reverse ++ .ref b :: rest) (ha : av.length = a) (hdd : d2 + 1 ≤ d) (hk : k + mc2 ≤ mc) (hn : n + ms2 ≤ ms) (hst : (rest.map fun v => v.category).sum ≤ 8)
    (kk : ∀ (r : Option Value) (w2 : aH), Q r w2 → AW G (My, Mc, Ml, Mr) d mc ms F pc2 lv (r.toList ++ rest) w2 (k + mc2) (n + ms2)) : AW G (My, Mc, Ml, Mr) d mc ms F pc lv stk w k n := by
  obtain ⟨hd, rfl⟩ := hd
  obtain ⟨⟨c1, c2, c3, c4, c5⟩, c6, c7⟩ := hc
  subst hs
  intro p l e R s m args below meth c H locs ls X hR hl
  have hts := X.2.2.2.2.1
  have hRm := X.2.2.2.2.2.2.2.2.2.2
  have hP := apc_at (av := .ref b :: av) hR X.2.2.2.2.2.2.2.2.1 X.2.2.2.2.2.2.2.2.2.1
  have hrec := va_recv X.2.2.2.2.2.2.2.2.1.1 (hR.at hb) hq (q0 := 0) rfl
  rw [hcl] at hrec
  refine aw_back X hl (va_runV (As := av.map (tv G)) (rest := rest.map (tv G)) (b := ta G b) (C := M'.1.cls) ⟨X.1, X.2.1, X.2.2.1, X.2.2.2.1, hts⟩ (hm l (rmOf d2 mc2 ms2) (Nat.le_refl _) (Nat.le_refl _) rfl rfl) ⟨callB_of (rm := rmOf d2 mc2 ms2) a hts (gw_in c3) rfl rfl rfl (hts _ c2) (hts _ c1) c5 ⟨by show d2 + 1 ≤ _; omega, by show 8 + (M'.2.2.1 + 11) + 60 * d2 ≤ R.locals; have := hRm.2.1; omega⟩, hts _ c6, hts _ c7⟩ ⟨hP.1, hrec, hP.2⟩ rfl (by simpa using ha) hl.1 (by show (av.reverse ++ .ref b :: rest).map (tv G) = _; simp [List.map_append, tv]) (by show 2 * 0 + _ ≤ 8; rw [tv_cats]; omega) hd ⟨Nat.le_trans hk hRm.2.2.1, Nat.le_trans hn hRm.2.2.2⟩) kk
theorem aw_calls {M' : MI} {d2 mc2 ms2 idx a : Nat} {av rest stk : List Value} {Q : Option Value → aH → Prop} (hd : DN Mc pc (.invokestatic idx) 3 pc2) (hc : CLs My.cls idx M' a) (hm : AMet G M' d2 mc2 ms2 av w Q) (hs : stk = av.reverse ++ rest) (ha : av.length = a) (hdd : d2 + 1 ≤ d) (hk : k + mc2 ≤ mc) (hn : n + ms2 ≤ ms) (hst : (rest.map fun v => v.category).sum ≤ 8)
    (kk : ∀ (r : Option Value) (w2 : aH), Q r w2 → AW G (My, Mc, Ml, Mr) d mc ms F pc2 lv (r.toList ++ rest) w2 (k + mc2) (n + ms2)) : AW G (My, Mc, Ml, Mr) d mc ms F pc lv stk w k n := by
  obtain ⟨hd, rfl⟩ := hd
  obtain ⟨⟨c1, c2, c3, c4, c5⟩, c6⟩ := hc
  subst hs
  intro p l e R s m args below meth c H locs ls X hR hl
  have hts := X.2.2.2.2.1
  have hRm := X.2.2.2.2.2.2.2.2.2.2
  have hP := apc_at (av := av) hR X.2.2.2.2.2.2.2.2.1 X.2.2.2.2.2.2.2.2.2.1
  refine aw_back X hl (va_runS (As := av.map (tv G)) (rest := rest.map (tv G)) ⟨X.1, X.2.1, X.2.2.1, X.2.2.2.1, hts⟩ (hm l (rmOf d2 mc2 ms2) (Nat.le_refl _) (Nat.le_refl _) rfl rfl) ⟨callB_of (rm := rmOf d2 mc2 ms2) a hts (gw_in c3) rfl rfl rfl (hts _ c2) (hts _ c1) c5 ⟨by show d2 + 1 ≤ _; omega, by show 8 + (M'.2.2.1 + 11) + 60 * d2 ≤ R.locals; have := hRm.2.1; omega⟩, hts _ c6⟩ hP rfl (by simpa using ha) hl.1 (by show (av.reverse ++ rest).map (tv G) = _; simp [List.map_append]) (by show 2 * 0 + _ ≤ 8; rw [tv_cats]; omega) hd ⟨Nat.le_trans hk hRm.2.2.1, Nat.le_trans hn hRm.2.2.2⟩) kk
theorem aw_calli {M' : MI} {d2 mc2 ms2 idx a b : Nat} {av rest stk : List Value} {Q : Option Value → aH → Prop} (hd : DN Mc pc (.invokespecial idx) 3 pc2) (hc : CLi My.cls idx M' a) (hm : AMet G M' d2 mc2 ms2 (.ref b :: av) w Q) (hs : stk = av.reverse ++ .ref b :: rest) (ha : av.length = a) (hdd : d2 + 1 ≤ d) (hk : k + mc2 ≤ mc) (hn : n + ms2 ≤ ms) (hst : (rest.map fun v => v.category).sum ≤ 8)
    (kk : ∀ (r : Option Value) (w2 : aH), Q r w2 → AW G (My, Mc, Ml, Mr) d mc ms F pc2 lv (r.toList ++ rest) w2 (k + mc2) (n + ms2)) : AW G (My, Mc, Ml, Mr) d mc ms F pc lv stk w k n := by
  obtain ⟨hd, rfl⟩ := hd
  obtain ⟨⟨c1, c2, c3, c4, c5⟩, c6, c7, c8⟩ := hc
  subst hs
  intro p l e R s m args below meth c H locs ls X hR hl
  have hts := X.2.2.2.2.1
  have hRm := X.2.2.2.2.2.2.2.2.2.2
  have hP := apc_at (av := .ref b :: av) hR X.2.2.2.2.2.2.2.2.1 X.2.2.2.2.2.2.2.2.2.1
  have hm2 := hm l (rmOf d2 mc2 ms2) (Nat.le_refl _) (Nat.le_refl _) rfl rfl
  rw [c8] at hm2 c3
  refine aw_back X hl (va_runI (As := av.map (tv G)) (rest := rest.map (tv G)) (b := ta G b) ⟨X.1, X.2.1, X.2.2.1, X.2.2.2.1, hts⟩ hm2 ⟨callB_of (rm := rmOf d2 mc2 ms2) a hts (gw_in c3) rfl rfl rfl (hts _ c2) (hts _ c1) c5 ⟨by show d2 + 1 ≤ _; omega, by show 8 + (M'.2.2.1 + 11) + 60 * d2 ≤ R.locals; have := hRm.2.1; omega⟩, c6, hts _ c7⟩ hP rfl (by simpa using ha) hl.1 (by show (av.reverse ++ .ref b :: rest).map (tv G) = _; simp [List.map_append, tv]) (by show 2 * 0 + _ ≤ 8; rw [tv_cats]; omega) hd ⟨Nat.le_trans hk hRm.2.2.1, Nat.le_trans hn hRm.2.2.2⟩) kk
theorem aw_calln {M' : MI} {d2 mc2 ms2 idx a b : Nat} {av rest stk : List Value} {Q : Option Value → aH → Prop} (hd : DN Mc pc (.invokespecial idx) 3 pc2) (hc : CLn My.cls idx M' a) (hm : AMet G M' d2 mc2 ms2 (.ref b :: av) w Q) (hs : stk = av.reverse ++ .ref b :: rest) (ha : av.length = a) (hdd : d2 + 1 ≤ d) (hk : k + mc2 ≤ mc) (hn : n + ms2 ≤ ms) (hst : (rest.map fun v => v.category).sum ≤ 8)
    (kk : ∀ (r : Option Value) (w2 : aH), Q r w2 → AW G (My, Mc, Ml, Mr) d mc ms F pc2 lv (r.toList ++ rest) w2 (k + mc2) (n + ms2)) : AW G (My, Mc, Ml, Mr) d mc ms F pc lv stk w k n := by
  obtain ⟨hd, rfl⟩ := hd
  obtain ⟨⟨host, c1⟩, c2, c3, c4, c5, c6, c7, c8⟩ := hc
  subst hs
  intro p l e R s m args below meth c H locs ls X hR hl
  have hts := X.2.2.2.2.1
  have hRm := X.2.2.2.2.2.2.2.2.2.2
  have hP := apc_at (av := .ref b :: av) hR X.2.2.2.2.2.2.2.2.1 X.2.2.2.2.2.2.2.2.2.1
  have hm2 := hm l (rmOf d2 mc2 ms2) (Nat.le_refl _) (Nat.le_refl _) rfl rfl
  rw [c8] at hm2 c3
  refine aw_back X hl (va_runIN (As := av.map (tv G)) (rest := rest.map (tv G)) (b := ta G b) ⟨X.1, X.2.1, X.2.2.1, X.2.2.2.1, hts⟩ hm2 ⟨va_cnB (rm := rmOf d2 mc2 ms2) a hts (gw_in c3) rfl rfl rfl (X.2.2.2.2.2.2.2.2.1.2.1 _ c1) (hts _ c2) c5 ⟨by show d2 + 1 ≤ _; omega, by show 8 + (M'.2.2.1 + 11) + 60 * d2 ≤ R.locals; have := hRm.2.1; omega⟩, c6, hts _ c7⟩ hP rfl (by simpa using ha) hl.1 (by show (av.reverse ++ .ref b :: rest).map (tv G) = _; simp [List.map_append, tv]) (by show 2 * 0 + _ ≤ 8; rw [tv_cats]; omega) hd ⟨Nat.le_trans hk hRm.2.2.1, Nat.le_trans hn hRm.2.2.2⟩) kk
/-- new objects -/
def NL (own : String) (idx ci : Nat) (dfs : List Value) : Prop := ∃ r : vw_C, CK ci r ∧ Cond.classLink own idx r.1 ∈ gw ∧ Cond.instantiable r.1 r.2.2 ∈ gw ∧ Cond.initialized r.1 ∈ gw ∧ r.2.2 = dfs.length ∧ ∀ j, j < r.2.2 → defaultValue (cty ci j) = vp_V dfs j
theorem tv_def (ty : FieldType) : tv G (defaultValue ty) = defaultValue ty := by cases ty <;> rfl
theorem aw_new (t : Nat) {idx ci N : Nat} {dfs : List Value} (hd : DN Mc pc (.new idx) 3 pc2) (hf : NL My.cls idx ci dfs) (hN : dfs.length = N) (hk : k + 1 ≤ mc) (hs : n + N ≤ ms) (kk : AW G (My, Mc, Ml, Mr) d mc ms F pc2 lv (.ref nx :: st) (nx + 1, hset h nx (t, .inr (ci, dfs))) (k + 1) (n + N)) : AW G (My, Mc, Ml, Mr) d mc ms F pc lv st (nx, h) k n := by
  obtain ⟨hd, rfl⟩ := hd
  obtain ⟨r, ⟨hc, hin, hty, hnm⟩, c1, c2, c3, c4, c5⟩ := hf
  subst hN
  intro p l e R s m args below meth c H locs ls X hR hl
  have hK := X.2.2.2.2.2.2.2.2.1
  have hS := X.2.2.2.2.2.2.2.2.2.1
  have hts := X.2.2.2.2.1
  have hRm := X.2.2.2.2.2.2.2.2.2.2
  have hKn := hK.1.1 ci _ hc
  rw [← c4] at hs kk
  refine W.newcK X.1 X.2.1 X.2.2.2.1 (hts _ c1) (hts _ c2) (hts _ c3) rfl hd (Nat.le_trans hk hRm.2.2.1) (Nat.le_trans hs hRm.2.2.2) hKn.2.1 rfl fun H1 kC hkC e1 z1 o1 => ?_
  have hst : (Value.ref nx :: st).map (tv G) = .ref H.size :: st.map (tv G) := by rw [List.map_cons]; show Value.ref (ta G nx) :: _ = _; rw [hR.nx]
  have := kk p l e R s m args below meth c H1 locs ls (axS X ⟨Nat.le_trans hS.1 (by omega), fun x h1 h2 => (o1 x (Nat.lt_of_lt_of_le h1 hS.1)).trans (hS.2.1 x h1 h2), hS.2.2⟩) (Rel.new hR z1 o1 ⟨_, hc, (u_born (cty ci) hts hin hKn hkC e1 hty).to (fun j hj => by
    rw [c5 j hj]
    have := tv_def (G := G) (cty ci j)
    rw [c5 j hj] at this
    rw [← this]
    show tv G (dfs.getD j .null) = (dfs.map (tv G)).getD j .null
    simp only [List.getD_eq_getElem?_getD, List.getElem?_map]
    cases dfs[j]? <;> rfl)⟩) hl
  rw [hst] at this
  exact this
/-- arrays of references -/
theorem aw_anew (t : Nat) {idx N : Nat} {v : Int32} (hd : DN Mc pc (.anewarray idx) 3 pc2) (hc : Cond.classLink My.cls idx "java/lang/Object" ∈ gw) (hv : v = nI N) (hN : N ≤ 1000000) (hk : k + 1 ≤ mc) (hs : n + N ≤ ms) (kk : AW G (My, Mc, Ml, Mr) d mc ms F pc2 lv (.ref nx :: st) (nx + 1, hset h nx (cO t N (fun _ => none))) (k + 1) (n + N)) : AW G (My, Mc, Ml, Mr) d mc ms F pc lv (.int v :: st) (nx, h) k n := by
  obtain ⟨hd, rfl⟩ := hd
  intro p l e R s m args below meth c H locs ls X hR hl
  have hK := X.2.2.2.2.2.2.2.2.1
  have hS := X.2.2.2.2.2.2.2.2.2.1
  have hts := X.2.2.2.2.1
  have hRm := X.2.2.2.2.2.2.2.2.2.2
  have hcl : v.toNatClampNeg = N := by rw [hv]; exact nI_clamp (by omega)
  refine W.anew X.1 X.2.1 X.2.2.2.1 (hts _ hc) (va_AO.use hK.2.2.2.2.2.1) rfl hd rfl (by rw [hv]; exact nI_pos (by omega)) (by rw [hcl]; omega) (Nat.le_trans hk hRm.2.2.1) (by rw [hcl]; exact Nat.le_trans hs hRm.2.2.2) fun cA kA comp f1 f2 f3 f4 => ?_
  rw [hcl]
  generalize hH1 : H.push ({ cls := cA, slots := Array.replicate N .null, vm := .none } : Cell) = H1
  have z1 : H1.size = H.size + 1 := by rw [← hH1, Array.size_push]
  have e1 : H1[H.size]? = some (arrV cA N (fun _ => .null)) := by rw [← hH1, Array.getElem?_push_size, ← arrV_new]
  have o1 : ∀ q : Nat, q < H.size → H1[q]? = H[q]? := fun q hq => by rw [← hH1, Array.getElem?_push, if_neg (Nat.ne_of_lt hq)]
  obtain ⟨-, -, -, -, -, g4⟩ := (hK.1.2 4 _ rfl).2
  have ec : cA = gC G 4 := Option.some.inj (f1.symm.trans g4)
  subst ec
  have hst : (Value.ref nx :: st).map (tv G) = .ref H.size :: st.map (tv G) := by rw [List.map_cons]; show Value.ref (ta G nx) :: _ = _; rw [hR.nx]
  have := kk p l e R s m args below meth c H1 locs ls (axS X ⟨Nat.le_trans hS.1 (by omega), fun x h1 h2 => (o1 x (Nat.lt_of_lt_of_le h1 hS.1)).trans (hS.2.1 x h1 h2), hS.2.2⟩) (Rel.new hR z1 o1 e1) hl
  rw [hst] at this
  exact this
theorem aw_aastore {a b N ci : Nat} {f : Nat → Option Nat} {fs : List Value} {i : Int32} {q : vw_C} (hd : DN Mc pc .aastore 1 pc2) (ha : h a = some (cO t1 N f)) (hb : h b = some (t, .inr (ci, fs))) (hq : cls[ci]? = some q) (hcast : Cond.castable q.1 "java/lang/Object" ∈ nws) (hin : vp_in i N) (kk : AW G (My, Mc, Ml, Mr) d mc ms F pc2 lv st (nx, hset h a (cO t1 N (va_up f i.toNatClampNeg (some b)))) k n) : AW G (My, Mc, Ml, Mr) d mc ms F pc lv (.ref b :: .int i :: .ref a :: st) (nx, h) k n := by
  obtain ⟨hd, rfl⟩ := hd
  intro p l e R s m args below meth c H locs ls X hR hl
  have hK := X.2.2.2.2.2.2.2.2.1
  have hS := X.2.2.2.2.2.2.2.2.2.1
  have hlt : i.toNatClampNeg < N := Nat.not_le.mp fun q => hin (Or.inr q)
  have h0 : ¬ i < 0 := fun q => hin (Or.inl q)
  obtain ⟨cellV, g1, g3, g2⟩ := va_recv hK.1 (hR.at hb) hq (q0 := 0) rfl
  obtain ⟨kC, hkC, -⟩ := Vm.findClass_spec g2
  obtain ⟨kA, comp, k1, k2, k3, -⟩ := (hK.1.2 4 _ rfl).2
  obtain ⟨kE, hkE, -⟩ := Vm.findClass_spec k3
  obtain ⟨c0, t0, f1, f2, f3⟩ := Cond.castable_spec (va_Nw.use (A := args) rfl (hK.2.1 _ hcast))
  have ec : c0 = cellV.cls := Option.some.inj (f1.symm.trans g2)
  have et : t0 = comp := Option.some.inj (f2.symm.trans k3)
  subst ec; subst et
  refine W.aast X.1 X.2.1 (hR.2.2 a _ ha).2.2 (fun q h => by cases h) (fun h => by cases h) k1 k2 rfl hkE ⟨h0, by show _ < (arrV _ _ _).slots.size; rw [arrV_size]; exact hlt⟩ g1 (fun q h => by rw [h] at g3; cases g3) hkC f3 rfl rfl hd fun H1 e1 z oq => ?_
  refine kk p l e R s m args below meth c H1 _ ls (axS X (hS.put z oq (ta_A (hR.ge ha)))) (Rel.set hR ha z oq ?_) hl
  show H1[ta G a]? = some (vp_cell _ _)
  rw [e1]
  show some ((vp_cell (gC G 4) (N, .inr (.inr (.inr (.inr (fun j => (f j).map (ta G))))))).setSlot i.toNatClampNeg (.ref (ta G b))) = some (vp_cell (gC G 4) (N, .inr (.inr (.inr (.inr (fun j => (va_up f i.toNatClampNeg (some b) j).map (ta G)))))))
  rw [vp_cell_q, vp_cell_q, arrV_store]
  congr 2
  funext q
  by_cases hq : q = i.toNatClampNeg
  · subst hq
    simp [updV, va_up, va_rf]
  · simp [updV, va_up, hq]
theorem aw_aastoreN {a N : Nat} {f : Nat → Option Nat} {i : Int32} (hd : DN Mc pc .aastore 1 pc2) (ha : h a = some (cO t1 N f)) (hin : vp_in i N) (kk : AW G (My, Mc, Ml, Mr) d mc ms F pc2 lv st (nx, hset h a (cO t1 N (va_up f i.toNatClampNeg none))) k n) : AW G (My, Mc, Ml, Mr) d mc ms F pc lv (.null :: .int i :: .ref a :: st) (nx, h) k n := by
  obtain ⟨hd, rfl⟩ := hd
  intro p l e R s m args below meth c H locs ls X hR hl
  have hK := X.2.2.2.2.2.2.2.2.1
  have hS := X.2.2.2.2.2.2.2.2.2.1
  refine va_WaastN (C := "java/lang/Object") X.1 X.2.1 (hR.2.2 a _ ha).2.2 ((hK.1.2 4 _ rfl).1 N (fun j => va_rf ((f j).map (ta G)))) (fun h => by cases h) (by show ¬ (i < 0 ∨ (arrV _ _ _).slots.size ≤ _); rw [arrV_size]; exact hin) rfl rfl hd fun H1 e1 z oq => ?_
  refine kk p l e R s m args below meth c H1 _ ls (axS X (hS.put z oq (ta_A (hR.ge ha)))) (Rel.set hR ha z oq ?_) hl
  show H1[ta G a]? = some (vp_cell _ _)
  rw [e1]
  show some ((vp_cell (gC G 4) (N, .inr (.inr (.inr (.inr (fun j => (f j).map (ta G))))))).setSlot i.toNatClampNeg .null) = some (vp_cell (gC G 4) (N, .inr (.inr (.inr (.inr (fun j => (va_up f i.toNatClampNeg none j).map (ta G)))))))
  rw [vp_cell_q, vp_cell_q, arrV_store]
  congr 2
  funext q
  by_cases hq : q = i.toNatClampNeg
  · subst hq
    simp [updV, va_up, va_rf]
  · simp [updV, va_up, hq]
/-- the empty row of the library, compared -/
theorem aw_getsE {idx : Nat} (hd : DN Mc pc (.getstatic idx) 3 pc2) (hc : Cond.fieldLink My.cls idx "java/util/ArrayList" "DEFAULTCAPACITY_EMPTY_ELEMENTDATA" "[Ljava/lang/Object;" ∈ gw) (kk : AW G (My, Mc, Ml, Mr) d mc ms F pc2 lv (.ref 0 :: st) w k n) : AW G (My, Mc, Ml, Mr) d mc ms F pc lv st w k n := by
  obtain ⟨hd, rfl⟩ := hd
  intro p l e R s m args below meth c H locs ls X hR hl
  exact va_gets X.1 X.2.1 X.2.2.2.2.2.2.2.2.1.2.2.1 X.2.2.2.2.2.2.2.2.2.1 X.2.2.2.1 (X.2.2.2.2.1 _ hc) (fun _ h => h) hd (kk p l e R s m args below meth c H locs ls X hR hl)
theorem aw_acmp_eq {a b : Nat} (hd : BR Mc pc (.if_acmp .eq) tgt pc2) (hab : a = b) (kk : AW G (My, Mc, Ml, Mr) d mc ms F tgt lv st w k n) : AW G (My, Mc, Ml, Mr) d mc ms F pc lv (.ref b :: .ref a :: st) w k n := by
  obtain ⟨off, hd, ht, rfl⟩ := hd
  subst hab
  exact fun p l e R s m args below meth c H locs ls X hR hl => lv_acmp_eq (rx := some (ta G a)) (ry := some (ta G a)) X.1 X.2.1 hd ht (fun _ => kk p l e R s m args below meth c H locs ls X hR hl) (fun q => absurd rfl q)
theorem aw_acmp_ne {a b : Nat} (hd : BR Mc pc (.if_acmp .ne) tgt pc2) (hab : a = b) (kk : AW G (My, Mc, Ml, Mr) d mc ms F pc2 lv st w k n) : AW G (My, Mc, Ml, Mr) d mc ms F pc lv (.ref b :: .ref a :: st) w k n := by
  obtain ⟨off, hd, ht, rfl⟩ := hd
  subst hab
  exact fun p l e R s m args below meth c H locs ls X hR hl => lv_acmp_ne (rx := some (ta G a)) (ry := some (ta G a)) X.1 X.2.1 hd ht (fun q => absurd rfl q) (fun _ => kk p l e R s m args below meth c H locs ls X hR hl)
theorem aw_cast {idx a ci : Nat} {fs : List Value} {q : vw_C} (hd : DN Mc pc (.checkcast idx) 3 pc2) (ha : w.2 a = some (t, .inr (ci, fs))) (hq : cls[ci]? = some q) (hc : Cond.classLink My.cls idx q.1 ∈ gw) (kk : AW G (My, Mc, Ml, Mr) d mc ms F pc2 lv (.ref a :: st) w k n) : AW G (My, Mc, Ml, Mr) d mc ms F pc lv (.ref a :: st) w k n := by
  obtain ⟨hd, rfl⟩ := hd
  intro p l e R s m args below meth c H locs ls X hR hl
  have hK := X.2.2.2.2.2.2.2.2.1
  exact va_castS X.1 X.2.1 X.2.2.2.1 (X.2.2.2.2.1 _ hc) (hK.1.1 ci q hq).2 (va_recv hK.1 (hR.at ha) hq (q0 := 0) rfl) hd (kk p l e R s m args below meth c H locs ls X hR hl)
end RUC
