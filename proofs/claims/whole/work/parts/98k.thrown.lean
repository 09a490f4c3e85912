/-! methods that may throw; the law's own methods with a table -/
theorem xw_k : Cond.classLink "LockedHouse" 186 xnse ∈ gw := gw_t 989 (by decide +kernel) rfl
theorem xw_i : Cond.initialized xnse ∈ gw := gw_t 26 (by decide +kernel) rfl
theorem xw_all : ∀ w ∈ xown.filter vx_no, w ∈ gw ∨ w ∈ xws := by decide +kernel
theorem xw_ot : ∀ w ∈ Cond.classLink "LockedHouse" 186 xnse :: Cond.initialized xnse :: xown.filter vx_no, vx_ot w = true := by decide +kernel
def P9 (y : MethodName) (below : List Frame) (args : Array Value) (s : State) : Prop := ∃ m : MethodId, s.frames = .invoking m args :: below ∧ s.methodNamed? y = some m
def XQ (G : aG) (QX : aH → Prop) : String → State → State → Prop := fun E st t => E = xnse ∧ (∃ w : aH, QX w ∧ Rel G w t.heap) ∧ va_F (gA G) st t
def FQX (G : aG) (y : MethodName) (mc ms : Nat) (Q : Option Value → aH → Prop) (QX : aH → Prop) : FT := fun below args s t => P9 y below args s → vx_MQ below (AQ G Q) (XQ G QX) args s mc ms (gA G) t
def FQW (G : aG) (y : MethodName) (mc ms : Nat) (Q : Option Value → aH → Prop) : FT := fun below args s t => P9 y below args s → MQ below (AQ G Q) args s mc ms (gA G) t
def AMetX (G : aG) (M : MI) (d mc ms : Nat) (av : List Value) (w : aH) (Q : Option Value → aH → Prop) (QX : aH → Prop) : Prop :=
  ∀ (l : LN) (rm : Room), d ≤ rm.frames → 60 * d ≤ rm.locals → rm.cells = mc → rm.slots = ms → vx_Met l.1 M.1 (.code M.1 M.2.1 M.2.2.1 M.2.2.2 :: gw) rm (APc G av w) (AQ G Q) (XQ G QX) mc ms (gA G)
def AMetW (G : aG) (M : MI) (hh : List (Nat × Nat × Nat × Nat)) (d mc ms : Nat) (av : List Value) (w : aH) (Q : Option Value → aH → Prop) : Prop :=
  ∀ (l : LN) (rm : Room), d ≤ rm.frames → 60 * d ≤ rm.locals → rm.cells = mc → rm.slots = ms → Met l.1 M.1 (.codeWith M.1 M.2.1 M.2.2.1 M.2.2.2 hh :: gw) rm (APc G av w) (AQ G Q) mc ms (gA G)
theorem aw_post {G : aG} {M : MI} {d mc ms : Nat} {F F2 : FT} {pc : Nat} {lv : List (Nat × Value)} {st : List Value} {w : aH} {k n : Nat} (h : AW G M d mc ms F pc lv st w k n) (hF : ∀ below args s t, F below args s t → F2 below args s t) : AW G M d mc ms F2 pc lv st w k n :=
  fun p l e R s m args below meth c H locs ls X hR hl T hT XT => by
    obtain ⟨t, a1, b1⟩ := h p l e R s m args below meth c H locs ls X hR hl T hT XT
    exact ⟨t, a1, hF _ _ _ _ b1⟩
theorem aw_toX {G : aG} {M : MI} {y : MethodName} {d mc ms : Nat} {Q : Option Value → aH → Prop} {QX : aH → Prop} {pc : Nat} {lv : List (Nat × Value)} {st : List Value} {w : aH} {k n : Nat} (h : AW G M d mc ms (FQ G mc ms Q) pc lv st w k n) : AW G M d mc ms (FQX G y mc ms Q QX) pc lv st w k n :=
  aw_post h (fun below args s t hq _ => by
    obtain ⟨o, b1, b2, b3, b4⟩ := hq
    exact ⟨o, b1, b2, Or.inl ⟨b3, b4⟩⟩)
theorem aw_toW {G : aG} {M : MI} {y : MethodName} {d mc ms : Nat} {Q : Option Value → aH → Prop} {pc : Nat} {lv : List (Nat × Value)} {st : List Value} {w : aH} {k n : Nat} (h : AW G M d mc ms (FQ G mc ms Q) pc lv st w k n) : AW G M d mc ms (FQW G y mc ms Q) pc lv st w k n :=
  aw_post h (fun below args s t hq _ => hq)
theorem AMetX.mono {G : aG} {M : MI} {d mc ms : Nat} {av : List Value} {w : aH} {Q Q2 : Option Value → aH → Prop} {QX QX2 : aH → Prop} (hm : AMetX G M d mc ms av w Q QX) (hq : ∀ r w, Q r w → Q2 r w) (hx : ∀ w, QX w → QX2 w) : AMetX G M d mc ms av w Q2 QX2 := by
  intro l rm h1 h2 h3 h4 p e ha hc hk s m args below hf happ hP hK
  obtain ⟨t, o, a1, a2, a3, a4⟩ := hm l rm h1 h2 h3 h4 p e ha hc hk s m args below hf happ hP hK
  refine ⟨t, o, a1, a2, a3, ?_⟩
  rcases a4 with ⟨⟨⟨r, w2, b1, b2, b3⟩, b4⟩, c1⟩ | ⟨q, e1, E, ce, L, ⟨x1, ⟨w2, x2, x3⟩, x4⟩, y1⟩
  · exact Or.inl ⟨⟨⟨r, w2, b1, hq r w2 b2, b3⟩, b4⟩, c1⟩
  · exact Or.inr ⟨q, e1, E, ce, L, ⟨x1, ⟨w2, hx w2 x2, x3⟩, x4⟩, y1⟩
theorem amet_ofX {G : aG} {M : MI} {d mc ms : Nat} {av : List Value} {w : aH} {Q : Option Value → aH → Prop} {QX : aH → Prop} (hy : plainName M.1.cls = true) (hlen : (lg_sl av).length ≤ M.2.2.1) (h : AW G M d mc ms (FQX G M.1 mc ms Q QX) 0 (lv_args 0 av) [] w 0 0) : AMetX G M d mc ms av w Q QX := by
  intro l rm h1 h2 h3 h4
  refine vx_ofW (cc := M.2.1) (maxL := M.2.2.1) (ret := M.2.2.2) hy rfl ?_
  intro p e s m args below meth c s₁ B hml _ hv
  obtain ⟨rfl, hR, hK⟩ := hv
  have hts := atoms_spec (ws := Cond.code M.1 M.2.1 M.2.2.1 M.2.2.2 :: gw) B.pre
  have hl := lv_entry (av.map (tv G)) (n := M.2.2.1) (by rw [lgt_len]; exact hlen)
  rw [lg_entry_eq]
  rw [lvt_args] at hl
  have key := h p l e rm s m _ below meth c s.heap [] _ ⟨B.exec, B.bytes, hml, findClass_of_methodNamed B.named, fun w hw => hts w (List.mem_cons_of_mem _ hw), B.returns, B.notSynchronized, (name_of_methodNamed B.named B.method).1, hK, va_S.rf, h1, h2, Nat.le_of_eq h3.symm, Nat.le_of_eq h4.symm⟩ hR hl
  intro T hT XT
  obtain ⟨t, a1, b1⟩ := key T hT XT
  exact ⟨t, a1, b1 ⟨m, XT.frames, B.named⟩⟩
theorem amet_ofW {G : aG} {M : MI} {hh : List (Nat × Nat × Nat × Nat)} {d mc ms : Nat} {av : List Value} {w : aH} {Q : Option Value → aH → Prop} (hy : plainName M.1.cls = true) (hlen : (lg_sl av).length ≤ M.2.2.1) (h : AW G M d mc ms (FQW G M.1 mc ms Q) 0 (lv_args 0 av) [] w 0 0) : AMetW G M hh d mc ms av w Q := by
  intro l rm h1 h2 h3 h4
  refine va_MetW (hh := hh) (cc := M.2.1) (maxL := M.2.2.1) (ret := M.2.2.2) hy rfl ?_
  intro p e s m args below meth c s₁ B hml hv
  obtain ⟨rfl, hR, hK⟩ := hv
  have hts := atoms_spec (ws := Cond.codeWith M.1 M.2.1 M.2.2.1 M.2.2.2 hh :: gw) B.pre
  have hl := lv_entry (av.map (tv G)) (n := M.2.2.1) (by rw [lgt_len]; exact hlen)
  rw [lg_entry_eq]
  rw [lvt_args] at hl
  have key := h p l e rm s m _ below meth c s.heap [] _ ⟨B.exec, B.bytes, hml, findClass_of_methodNamed B.named, fun w hw => hts w (List.mem_cons_of_mem _ hw), B.returns, B.notSynchronized, (name_of_methodNamed B.named B.method).1, hK, va_S.rf, h1, h2, Nat.le_of_eq h3.symm, Nat.le_of_eq h4.symm⟩ hR hl
  intro T hT XT
  obtain ⟨t, a1, b1⟩ := key T hT XT
  exact ⟨t, a1, b1 ⟨m, XT.frames, B.named⟩⟩
theorem Rel.grow {G : aG} {n : Nat} {f : Nat → Option aC} {H H1 : Heap} (h : Rel G (n, f) H) (hz : H.size ≤ H1.size) (oq : ∀ q : Nat, q < H.size → H1[q]? = H[q]?) : Rel G (n + (H1.size - H.size), f) H1 := by
  obtain ⟨h1, h2, h3⟩ := h
  refine ⟨by dsimp only at h1 ⊢; omega, by dsimp only at h2 ⊢; omega, fun j x hj => ?_⟩
  have hb := h3 j x hj
  exact ⟨hb.1, by dsimp only at hb ⊢; omega, hb.2.2.kept (oq _ hb.2.2.lt)⟩
section XRU
variable {G : aG} {My : MethodName} {Mc : ByteArray} {Ml : Nat} {Mr : Option FieldType} {d mc ms : Nat} {F : FT} {pc pc2 pc3 pc4 pc6 pc9 pc10 tgt : Nat} {lv lv2 : List (Nat × Value)} {st : List Value} {w : aH} {k n : Nat} {nx t t1 : Nat} {h : Nat → Option aC} {Q : Option Value → aH → Prop} {QX : aH → Prop}
/-- 'throw new NoSuchElementException(text)' -/
theorem aw_throwS {is : Nat} {text : String} (d0 : DN Mc pc (.new 186) 3 pc3) (d3 : DN Mc pc3 .dup 1 pc4) (d4 : DN Mc pc4 (.ldc is) 2 pc6) (d6 : DN Mc pc6 (.invokespecial 190) 3 pc9) (d9 : DN Mc pc9 .athrow 1 pc10) (hC : My.cls = "LockedHouse") (hcode : Cond.code My Mc Ml Mr ∈ gw) (hx : (is, text) ∈ xstr) (hd : 6 ≤ d) (hst : (st.map fun v => v.category).sum ≤ 8) (hk : k + 1 ≤ mc) (hn : n + 6 ≤ ms) (hq : ∀ n2, nx ≤ n2 → QX (n2, h)) : AW G (My, Mc, Ml, Mr) d mc ms (FQX G My mc ms Q QX) pc lv st (nx, h) k n := by
  obtain ⟨d0, rfl⟩ := d0
  obtain ⟨d3, rfl⟩ := d3
  obtain ⟨d4, rfl⟩ := d4
  obtain ⟨d6, rfl⟩ := d6
  obtain ⟨d9, -⟩ := d9
  intro p l e R s m args below meth c H locs ls X hR hl
  by_cases hn9 : s.methodNamed? My = some m
  · intro T hT XT
    have htab : ∀ x ∈ c.exceptionTable.toList, False := by
      obtain ⟨meth9, c9, h1, h2, -, -, -, -, h7, -⟩ := Cond.code_spec hn9 (X.2.2.2.2.1 _ hcode)
      cases Option.some.inj (h1.symm.trans XT.method)
      cases Option.some.inj (h2.symm.trans XT.code)
      intro x hx
      rw [Array.isEmpty_iff.mp h7] at hx
      cases hx
    have hK := X.2.2.2.2.2.2.2.2.1
    have hS := X.2.2.2.2.2.2.2.2.2.1
    have hRm := X.2.2.2.2.2.2.2.2.2.2
    have hTX := hK.2.2.2.2.2.2.1.2
    obtain ⟨sa, hsa⟩ := hTX.2.2 _ hx
    have hown : s.vm.findClass "LockedHouse" = some m.cls := by have := X.2.2.2.1; dsimp only at this; rw [hC] at this; exact this
    have key := xthrowS (p := p) (l := l.1) (e := e) (below := below) (meth := meth) (H := H) (cells := k) (slots := n) (Qc := AQ G Q) (XC := XQ G QX) (free := gA G) (mc := mc) (ms := ms) (A := gA G) (is := is) (text := text) (sa := sa) (ls := ls) (rest := st.map (tv G)) X.1 X.2.1 l.2 hown (X.2.2.2.2.1 _ xw_k) (X.2.2.2.2.1 _ xw_i) hsa
      (fun w hw => (xw_all w hw).elim (fun h => X.2.2.2.2.1 _ h) (fun h => va_Nw.use (xws_tab w h) (hTX.2.1 w h))) xw_ot hTX.1.1 hTX.1.2 hS (by rw [hl.1, X.2.2.1]) d0 d3 d4 d6 d9 (fun x hx => (htab x hx).elim)
      (by have := hRm.1; omega) (by rw [tv_cats]; have := hRm.2.1; omega) (Nat.le_trans hk hRm.2.2.1) (Nat.le_trans hn hRm.2.2.2) X.2.2.2.2.2.2.1
      (fun t _ hz hq9 => ⟨rfl, ⟨_, hq _ (Nat.le_add_right _ _), hR.grow hz hq9⟩, Nat.le_trans hS.1 hz, fun q g1 g2 => by rw [hq9 q (Nat.lt_of_lt_of_le g1 hS.1)]; exact hS.2.1 q g1 g2⟩) hS.2.2 hk hn
    obtain ⟨t, a1, b1⟩ := key T hT XT
    exact ⟨t, a1, fun _ => b1⟩
  · intro T hT XT
    refine ⟨_, Steps.refl _, fun hp => ?_⟩
    obtain ⟨m2, e1, e2⟩ := hp
    have e3 := XT.frames.symm.trans e1
    injection e3 with e4 e5
    injection e4 with e6 e7
    rw [← e6] at e2
    exact absurd e2 hn9
theorem aw_throwSW {is : Nat} {text : String} (d0 : DN Mc pc (.new 186) 3 pc3) (d3 : DN Mc pc3 .dup 1 pc4) (d4 : DN Mc pc4 (.ldc_w is) 3 pc6) (d6 : DN Mc pc6 (.invokespecial 190) 3 pc9) (d9 : DN Mc pc9 .athrow 1 pc10) (hC : My.cls = "LockedHouse") (hcode : Cond.code My Mc Ml Mr ∈ gw) (hx : (is, text) ∈ xstr) (hd : 6 ≤ d) (hst : (st.map fun v => v.category).sum ≤ 8) (hk : k + 1 ≤ mc) (hn : n + 6 ≤ ms) (hq : ∀ n2, nx ≤ n2 → QX (n2, h)) : AW G (My, Mc, Ml, Mr) d mc ms (FQX G My mc ms Q QX) pc lv st (nx, h) k n := by
  obtain ⟨d0, rfl⟩ := d0
  obtain ⟨d3, rfl⟩ := d3
  obtain ⟨d4, rfl⟩ := d4
  obtain ⟨d6, rfl⟩ := d6
  obtain ⟨d9, -⟩ := d9
  intro p l e R s m args below meth c H locs ls X hR hl
  by_cases hn9 : s.methodNamed? My = some m
  · intro T hT XT
    have htab : ∀ x ∈ c.exceptionTable.toList, False := by
      obtain ⟨meth9, c9, h1, h2, -, -, -, -, h7, -⟩ := Cond.code_spec hn9 (X.2.2.2.2.1 _ hcode)
      cases Option.some.inj (h1.symm.trans XT.method)
      cases Option.some.inj (h2.symm.trans XT.code)
      intro x hx
      rw [Array.isEmpty_iff.mp h7] at hx
      cases hx
    have hK := X.2.2.2.2.2.2.2.2.1
    have hS := X.2.2.2.2.2.2.2.2.2.1
    have hRm := X.2.2.2.2.2.2.2.2.2.2
    have hTX := hK.2.2.2.2.2.2.1.2
    obtain ⟨sa, hsa⟩ := hTX.2.2 _ hx
    have hown : s.vm.findClass "LockedHouse" = some m.cls := by have := X.2.2.2.1; dsimp only at this; rw [hC] at this; exact this
    have key := xthrowSW (p := p) (l := l.1) (e := e) (below := below) (meth := meth) (H := H) (cells := k) (slots := n) (Qc := AQ G Q) (XC := XQ G QX) (free := gA G) (mc := mc) (ms := ms) (A := gA G) (is := is) (text := text) (sa := sa) (ls := ls) (rest := st.map (tv G)) X.1 X.2.1 l.2 hown (X.2.2.2.2.1 _ xw_k) (X.2.2.2.2.1 _ xw_i) hsa
      (fun w hw => (xw_all w hw).elim (fun h => X.2.2.2.2.1 _ h) (fun h => va_Nw.use (xws_tab w h) (hTX.2.1 w h))) xw_ot hTX.1.1 hTX.1.2 hS (by rw [hl.1, X.2.2.1]) d0 d3 d4 d6 d9 (fun x hx => (htab x hx).elim)
      (by have := hRm.1; omega) (by rw [tv_cats]; have := hRm.2.1; omega) (Nat.le_trans hk hRm.2.2.1) (Nat.le_trans hn hRm.2.2.2) X.2.2.2.2.2.2.1
      (fun t _ hz hq9 => ⟨rfl, ⟨_, hq _ (Nat.le_add_right _ _), hR.grow hz hq9⟩, Nat.le_trans hS.1 hz, fun q g1 g2 => by rw [hq9 q (Nat.lt_of_lt_of_le g1 hS.1)]; exact hS.2.1 q g1 g2⟩) hS.2.2 hk hn
    obtain ⟨t, a1, b1⟩ := key T hT XT
    exact ⟨t, a1, fun _ => b1⟩
  · intro T hT XT
    refine ⟨_, Steps.refl _, fun hp => ?_⟩
    obtain ⟨m2, e1, e2⟩ := hp
    have e3 := XT.frames.symm.trans e1
    injection e3 with e4 e5
    injection e4 with e6 e7
    rw [← e6] at e2
    exact absurd e2 hn9
/-- a call that may throw, caught by the one row of the method's table; the handler stores what it got -/
theorem aw_callvX {M' : MI} {d2 mc2 ms2 idx ci a b ta9 tb9 th9 hi : Nat} {fs av rest stk : List Value} {q : vw_C} {Q2 : Option Value → aH → Prop} (hm : AMetX G M' d2 mc2 ms2 (.ref b :: av) w Q2 QX) (hd : DN Mc pc (.invokevirtual idx) 3 pc2) (hc : CLv My.cls idx M' a) (hb : w.2 b = some (t, .inr (ci, fs))) (hq : cls[ci]? = some q) (hcl : q.1 = M'.1.cls) (hs : stk = av.reverse ++ .ref b :: rest) (ha : av.length = a) (hdd : d2 + 1 ≤ d) (hk : k + mc2 ≤ mc) (hn : n + ms2 ≤ ms) (hst : (rest.map fun v => v.category).sum ≤ 8)
    (hcode : Cond.codeWith My Mc Ml Mr [(ta9, tb9, th9, 13)] ∈ gw) (hlink : Cond.classLink My.cls 13 xnse ∈ gw) (h1 : ta9 ≤ pc) (h2 : pc < tb9)
    (hst9 : (∃ j : Fin 4, (j : Nat) = hi ∧ DN Mc th9 (.astore_n j) 1 pc3) ∨ DN Mc th9 (.astore hi) 2 pc3) (hhi : hi < Ml) (hlv : ∀ q ∈ lv, q.1 < hi ∧ q.2.category = 1)
    (kk : ∀ (r : Option Value) (w2 : aH), Q2 r w2 → AW G (My, Mc, Ml, Mr) d mc ms (FQW G My mc ms Q) pc2 lv (r.toList ++ rest) w2 (k + mc2) (n + ms2))
    (kx : ∀ (w2 : aH), QX w2 → AW G (My, Mc, Ml, Mr) d mc ms (FQW G My mc ms Q) pc3 lv [] w2 (k + mc2) (n + ms2)) : AW G (My, Mc, Ml, Mr) d mc ms (FQW G My mc ms Q) pc lv stk w k n := by
  obtain ⟨hd, rfl⟩ := hd
  obtain ⟨⟨c1, c2, c3, c4, c5⟩, c6, c7⟩ := hc
  subst hs
  intro p l e R s m args below meth c H locs ls X hR hl
  have hts := X.2.2.2.2.1
  have hRm := X.2.2.2.2.2.2.2.2.2.2
  have hS := X.2.2.2.2.2.2.2.2.2.1
  have hK := X.2.2.2.2.2.2.2.2.1
  have hP := apc_at (av := .ref b :: av) hR hK hS
  have hrec := va_recv hK.1 (hR.at hb) hq (q0 := 0) rfl
  rw [hcl] at hrec
  by_cases hn9 : s.methodNamed? My = some m
  · intro T hT XT
    have htab : c.exceptionTable.toList = tableOf [(ta9, tb9, th9, 13)] := by
      obtain ⟨m9, meth9, c9, hn8, g1, g2, -, -, g6, -⟩ := Cond.codeWith_spec (hts _ hcode)
      cases Option.some.inj (hn8.symm.trans hn9)
      cases Option.some.inj (g1.symm.trans XT.method)
      cases Option.some.inj (g2.symm.trans XT.code)
      rw [← g6, table_eq]
    rcases vx_runV (As := av.map (tv G)) (rest := rest.map (tv G)) (b := ta G b) (C := M'.1.cls) (g := F0 m pc ls ((av.reverse ++ .ref b :: rest).map (tv G))) ⟨X.1, X.2.1, X.2.2.1, X.2.2.2.1, hts⟩ (hm l (rmOf d2 mc2 ms2) (Nat.le_refl _) (Nat.le_refl _) rfl rfl) ⟨callB_of (rm := rmOf d2 mc2 ms2) a hts (gw_in c3) rfl rfl rfl (hts _ c2) (hts _ c1) c5 ⟨by show d2 + 1 ≤ _; omega, by show 8 + (M'.2.2.1 + 11) + 60 * d2 ≤ R.locals; have := hRm.2.1; omega⟩, hts _ c6, hts _ c7⟩ ⟨hP.1, hrec, hP.2⟩ rfl (by simpa using ha) hl.1 (by show (av.reverse ++ .ref b :: rest).map (tv G) = _; simp [List.map_append, tv]) (by show 2 * 0 + _ ≤ 8; rw [tv_cats]; omega) hd ⟨Nat.le_trans hk hRm.2.2.1, Nat.le_trans hn hRm.2.2.2⟩ T hT XT with ⟨v, st₀, t, T', L, h0, X', hL, e1, e2, ⟨⟨r, w2, hv, hq, hR2⟩, hK2, hz, hk⟩, go⟩ | ⟨q9, st₀, t, T', L, E, ce, h0, X', hL, e1, e2, ⟨rfl, ⟨w2, hq, hR2⟩, hz, hk⟩, hce, hcv, hcl9, go⟩
    · cases hv
      rw [h0] at hz hk
      have hS2 : va_S (gA G) s.heap T'.heap (locs ++ L) := ⟨Nat.le_trans hS.1 (by rw [e1]; exact hz), fun q h1 h2 => by rw [e1, hk q (Nat.lt_of_lt_of_le h1 hS.1) h2]; exact hS.2.1 q h1 h2, fun q hq => by
          rcases List.mem_append.mp hq with h | h
          · exact hS.2.2 q h
          · exact hL q h⟩
      obtain ⟨t2, a1, b1⟩ := kk r w2 hq p l e R s m args below meth c T'.heap (locs ++ L) ls (axS X hS2) (by rw [e1]; exact hR2) hl T' rfl X'
      refine ⟨t2, go t2 ?_, b1⟩
      rw [List.map_append] at a1
      have e3 : (r.toList).map (tv G) = (r.map (tv G)).toList := by cases r <;> rfl
      rw [e3] at a1
      exact a1
    · rw [h0] at hz hk
      have hS2 : va_S (gA G) s.heap T'.heap (locs ++ L) := ⟨Nat.le_trans hS.1 (by rw [e1]; exact hz), fun q h1 h2 => by rw [e1, hk q (Nat.lt_of_lt_of_le h1 hS.1) h2]; exact hS.2.1 q h1 h2, fun q hq => by
          rcases List.mem_append.mp hq with h | h
          · exact hS.2.2 q h
          · exact hL q h⟩
      have hcast : (Cond.castable xnse xnse).before args s = true := va_Nw.use rfl (hK.2.2.2.2.2.2.1.2.2.1 _ (by simp [xws, xnse]))
      have hfil : ∀ f : Nat × Value → Bool, (∀ q ∈ lv, f (tl G q) = true) → (lv.map (tl G)).filter f = lv.map (tl G) := fun f hf => List.filter_eq_self.mpr (fun q hq => by
        obtain ⟨q0, hq0, rfl⟩ := List.mem_map.mp hq
        exact hf q0 hq0)
      have kkW : W p l.1 e R s m args below meth c T'.heap (locs ++ L) (k + mc2) (n + ms2) (FQW G My mc ms Q below args s) (F0 m th9 ls [.ref q9]) := by
        have hf9 : (lv.map (tl G)).filter (fun q => !(q.1 == hi) && !(q.1 + 1 == hi && q.2.category == 2)) = lv.map (tl G) := hfil _ (fun q hq => by
          have hh := hlv q hq
          have e5 : (tl G q).2.category = 1 := (tv_cat G q.2).trans hh.2
          have e6 : (tl G q).1 = q.1 := rfl
          simp only [e5, e6]
          have : (q.1 == hi) = false := by simp; omega
          simp [this])
        have fin : ∀ ls' : Array Slot, lv_has ls' Ml ((hi, Value.ref q9) :: lv.map (tl G)) → W p l.1 e R s m args below meth c T'.heap (locs ++ L) (k + mc2) (n + ms2) (FQW G My mc ms Q below args s) (F0 m pc3 ls' []) := fun ls' hl' =>
          kx w2 hq p l e R s m args below meth c T'.heap (locs ++ L) ls' (axS X hS2) (by rw [e1]; exact hR2) ⟨hl'.1, hl'.2.1, fun q hq => hl'.2.2 q (List.mem_cons_of_mem _ hq)⟩
        rcases hst9 with ⟨j, hj, hdj⟩ | hdj
        · obtain ⟨hdj, rfl⟩ := hdj
          exact lv_astore_n X.1 X.2.1 hdj hj hl hhi rfl (fun ls' hl' => fin ls' (by rw [hf9] at hl'; exact hl'))
        · obtain ⟨hdj, rfl⟩ := hdj
          exact lv_astore X.1 X.2.1 hdj hl hhi rfl (fun ls' hl' => fin ls' (by rw [hf9] at hl'; exact hl'))
      have hcov : covers ⟨ta9, tb9, th9, 13⟩ pc = true := by simp [covers]; omega
      obtain ⟨t2, a1, b1⟩ := vx_catch (own := My.cls) (name := xnse) (E := xnse) (ce := ce) (q := q9) (ls := ls) (rest := rest.map (tv G)) X.2.2.2.1 [] ⟨ta9, tb9, th9, 13⟩ [] htab (fun z hz => absurd hz List.not_mem_nil) hcov (show (13 : Nat) ≠ 0 by decide) (hts _ hlink) hcast (by rw [e1]; exact hce) hcv hcl9 kkW T' rfl X'
      exact ⟨t2, go.trans a1, b1⟩
  · intro T hT XT
    refine ⟨_, Steps.refl _, fun hp => ?_⟩
    obtain ⟨m2, e1, e2⟩ := hp
    have e3 := XT.frames.symm.trans e1
    injection e3 with e4 e5
    injection e4 with e6 e7
    rw [← e6] at e2
    exact absurd e2 hn9
/-- a call of a method of the law's own that has a table -/
theorem aw_callsW {M' : MI} {hh : List (Nat × Nat × Nat × Nat)} {d2 mc2 ms2 idx a : Nat} {av rest stk : List Value} {Q2 : Option Value → aH → Prop} (hm : AMetW G M' hh d2 mc2 ms2 av w Q2) (hd : DN Mc pc (.invokestatic idx) 3 pc2) (c1 : Cond.methodLink My.cls idx M'.1 ∈ gw) (c2 : Cond.initialized M'.1.cls ∈ gw) (c3 : Cond.codeWith M'.1 M'.2.1 M'.2.2.1 M'.2.2.2 hh ∈ gw) (c4 : M'.2.2.1 ≤ 41) (c5 : M'.1.cls ≠ "java/lang/invoke/MethodHandle" ∧ M'.1.cls ≠ "java/lang/invoke/VarHandle" ∧ (parseMethodDescriptor M'.1.desc).map (fun d => d.parameters.length) = some a) (c6 : Cond.static M'.1 ∈ gw) (hs : stk = av.reverse ++ rest) (ha : av.length = a) (hdd : d2 + 1 ≤ d) (hk : k + mc2 ≤ mc) (hn : n + ms2 ≤ ms) (hst : (rest.map fun v => v.category).sum ≤ 8)
    (kk : ∀ (r : Option Value) (w2 : aH), Q2 r w2 → AW G (My, Mc, Ml, Mr) d mc ms F pc2 lv (r.toList ++ rest) w2 (k + mc2) (n + ms2)) : AW G (My, Mc, Ml, Mr) d mc ms F pc lv stk w k n := by
  obtain ⟨hd, rfl⟩ := hd
  subst hs
  intro p l e R s m args below meth c H locs ls X hR hl
  have hts := X.2.2.2.2.1
  have hRm := X.2.2.2.2.2.2.2.2.2.2
  have hP := apc_at (av := av) hR X.2.2.2.2.2.2.2.2.1 X.2.2.2.2.2.2.2.2.2.1
  refine aw_back X hl (vx_runSW (As := av.map (tv G)) (rest := rest.map (tv G)) (hh := hh) (bytes := M'.2.1) (maxL := M'.2.2.1) (ret := M'.2.2.2) (n := a) ⟨X.1, X.2.1, X.2.2.1, X.2.2.2.1, hts⟩ (hm l (rmOf d2 mc2 ms2) (Nat.le_refl _) (Nat.le_refl _) rfl rfl) ⟨⟨rfl, rfl, by show d2 + 1 ≤ _; omega, by show 8 + (M'.2.2.1 + 11) + 60 * d2 ≤ R.locals; have := hRm.2.1; omega, pay_in hts (gw_in c3), List.mem_cons_self⟩, hts _ c3, hts _ c2, ⟨c5.1, c5.2.1⟩, fun sig h => by
      have h2 := c5.2.2
      rw [h] at h2
      exact (Option.some.inj h2).symm, hts _ c1, hts _ c6⟩ hP rfl (by simpa using ha) hl.1 (by show (av.reverse ++ rest).map (tv G) = _; simp [List.map_append]) (by show 2 * 0 + _ ≤ 8; rw [tv_cats]; omega) hd ⟨Nat.le_trans hk hRm.2.2.1, Nat.le_trans hn hRm.2.2.2⟩) kk
end XRU
