/-! LIGHT: one judgement over an abstract heap, proved once over the kit's rows -/
abbrev aC : Type := Nat × ((Nat × vp_A) ⊕ (Nat × List Value))
abbrev aH : Type := Nat × (Nat → Option aC)
abbrev aG : Type := (Nat × Nat × Nat × Nat) × va_G × (Nat → ClassId)
abbrev MI : Type := MethodName × ByteArray × Nat × Option FieldType
abbrev cI (t n : Nat) (f : Nat → Int32) : aC := (t, .inl (0, n, .inl f))
abbrev cZ (t n : Nat) (f : Nat → Int32) : aC := (t, .inl (1, n, .inl f))
abbrev cB (t n : Nat) (f : Nat → Int32) : aC := (t, .inl (2, n, .inl f))
abbrev cL (t n : Nat) (f : Nat → Int64) : aC := (t, .inl (3, n, .inr (.inl f)))
abbrev cO (t n : Nat) (f : Nat → Option Nat) : aC := (t, .inl (4, n, .inr (.inr (.inr (.inr f)))))
abbrev ob (t ci : Nat) (fs : List Value) : aC := (t, .inr (ci, fs))
def gB (G : aG) : Nat := G.1.1
def gE (G : aG) : Nat := G.1.2.1
def gS (G : aG) : Nat := G.1.2.2.1
def gM (G : aG) : Nat := G.1.2.2.2
def gD (G : aG) : va_G := G.2.1
def gC (G : aG) : Nat → ClassId := G.2.2
def gA (G : aG) : Nat → Prop := fun q => gB G ≤ q
def ta (G : aG) : Nat → Nat
  | 0 => gE G
  | 1 => gS G
  | 2 => gM G
  | 3 => 0
  | a + 4 => gB G + a
def tv (G : aG) : Value → Value
  | .ref a => .ref (ta G a)
  | v => v
def tl (G : aG) (q : Nat × Value) : Nat × Value := (q.1, tv G q.2)
def tp (G : aG) (x : vp_A) : vp_A := match x.2 with
  | .inr (.inr (.inr (.inr f))) => (x.1, .inr (.inr (.inr (.inr (fun j => (f j).map (ta G))))))
  | _ => x
def tc (G : aG) (c : aC) : va_E := match c.2 with
  | .inl x => .inl (gC G x.1, tp G x.2)
  | .inr o => .inr (o.1, o.2.map (tv G))
def gT (G : aG) : List (ClassId × FieldType) := [(gC G 0, .int), (gC G 1, .boolean), (gC G 2, .byte), (gC G 3, .long), (gC G 4, .object "java/lang/Object")]
def Rel (G : aG) (w : aH) (H : Heap) : Prop := H.size + 4 = gB G + w.1 ∧ 4 ≤ w.1 ∧ ∀ (a : Nat) (c : aC), w.2 a = some c → 4 ≤ a ∧ a < w.1 ∧ va_at (gD G) cls (ta G a, tc G c) H
def hset (h : Nat → Option aC) (a : Nat) (c : aC) : Nat → Option aC := fun j => if j = a then some c else h j
def gw : List Cond := lw_tbl.filter goodWord
def nws : List Cond := [.methodLinkNest "LockedHouse" 9 ⟨"LockedHouse$House", "<init>", "()V"⟩ "LockedHouse", .methodLinkNest "LockedHouse" 18 ⟨"LockedHouse$Row", "<init>", "()V"⟩ "LockedHouse", .methodLinkNest "LockedHouse" 25 ⟨"LockedHouse$Diary", "<init>", "()V"⟩ "LockedHouse", .methodLinkNest "LockedHouse" 39 ⟨"LockedHouse$Group", "<init>", "()V"⟩ "LockedHouse", .fieldLinkNest "LockedHouse" 295 "LockedHouse$Row" "numbers" "[I" "LockedHouse", .fieldLinkNest "LockedHouse" 154 "LockedHouse$Row" "size" "I" "LockedHouse", .fieldLinkNest "LockedHouse" 156 "LockedHouse$Diary" "made" "I" "LockedHouse", .castable "LockedHouse$Prop" "java/lang/Object", .castable "LockedHouse$Step" "java/lang/Object", .castable "LockedHouse$Group" "java/lang/Object", .castable "LockedHouse$Pair" "java/lang/Object"]
theorem nws_moved {s U : State} (hW : s.WarmedH U.vm) (h : ∀ w ∈ nws, va_Nw w s) : ∀ w ∈ nws, va_Nw w U := by
  simp only [nws, List.forall_mem_cons] at h ⊢
  obtain ⟨h0, h1, h2, h3, h4, h5, h6, h7, h8, h9, h10, -⟩ := h
  exact ⟨va_Nw.warmM hW h0, va_Nw.warmM hW h1, va_Nw.warmM hW h2, va_Nw.warmM hW h3, va_Nw.warmF hW h4, va_Nw.warmF hW h5, va_Nw.warmF hW h6, va_Nw.warmC hW h7, va_Nw.warmC hW h8, va_Nw.warmC hW h9, va_Nw.warmC hW h10, fun _ h => absurd h List.not_mem_nil⟩
theorem nws_tab : ∀ w ∈ nws, w.onTables = true := by decide +kernel
theorem nws_same {u U : State} (hv : u.vm = U.vm) (h : ∀ w ∈ nws, va_Nw w u) : ∀ w ∈ nws, va_Nw w U := fun w hw => va_Nw.same (nws_tab w hw) hv (h w hw)
/-- a launch without stack traces; what a throw of the class asks of the world -/
abbrev LN : Type := {l : Launch // l.stackTraces = false}
def xws : List Cond := [.declares ⟨"java/lang/RuntimeException", "<init>", "(Ljava/lang/String;)V"⟩, .declares ⟨"java/lang/Exception", "<init>", "(Ljava/lang/String;)V"⟩, .declares ⟨"java/lang/Throwable", "<init>", "(Ljava/lang/String;)V"⟩, .castable "java/util/NoSuchElementException" "java/util/NoSuchElementException"]
def xstr : List (Nat × String) := [(188, "no such CODE, PROP, STEP or what"), (277, "no such GROUP"), (287, "no such what"), (298, "no such number of the ROW")]
theorem xws_tab : ∀ w ∈ xws, w.onTables = true := by decide +kernel
def XW (U : State) : Prop := (∀ w ∈ xws, va_Nw w U) ∧ ∀ q ∈ xstr, ∃ sa : Nat, vk_R "LockedHouse" q.1 q.2 sa U
theorem xw_moved {s U : State} (hW : s.WarmedH U.vm) (h : XW s) : XW U := by
  obtain ⟨h1, h2⟩ := h
  refine ⟨?_, fun q hq => (h2 q hq).imp fun sa h => vk_R.warm hW h⟩
  simp only [xws, List.forall_mem_cons] at h1 ⊢
  obtain ⟨a0, a1, a2, a3, -⟩ := h1
  exact ⟨va_Nw.warmD hW a0, va_Nw.warmD hW a1, va_Nw.warmD hW a2, va_Nw.warmC hW a3, fun _ h => absurd h List.not_mem_nil⟩
theorem xw_same {u U : State} (hv : u.vm = U.vm) (h : XW u) : XW U := ⟨fun w hw => va_Nw.same (xws_tab w hw) hv (h.1 w hw), fun q hq => (h.2 q hq).imp fun sa h => vk_R.same hv.symm h⟩
def TX (G : aG) (U : State) : Prop := (vx_Zq Bundle.tN "UNASSIGNED_STACK" Bundle.steD (gA G) U U.heap ∧ vx_Zq Bundle.tN "SUPPRESSED_SENTINEL" Bundle.listD (gA G) U U.heap) ∧ XW U
def K0 (G : aG) (U : State) : Prop := va_K (gD G) cls (gT G) U ∧ (∀ w ∈ nws, va_Nw w U) ∧ va_Z "java/util/ArrayList" "DEFAULTCAPACITY_EMPTY_ELEMENTDATA" "[Ljava/lang/Object;" (.ref (gE G)) (gA G) U U.heap ∧ va_T (.object "java/lang/Object") (gE G) 0 (fun _ => .null) (gA G) U U.heap ∧ va_Mi "[Ljava/lang/Object;" (gM G) U ∧ va_AO "java/lang/Object" U ∧ (va_Dc U ∧ TX G U) ∧ gB G ≤ U.heap.size
theorem K0.at {G : aG} {s U : State} (hv : s.vm.Alike U.vm) (hn : (∀ w ∈ nws, va_Nw w s) → ∀ w ∈ nws, va_Nw w U) (hx : XW s → XW U) (hz : s.heap.size ≤ U.heap.size) (hq : ∀ q : Nat, q < s.heap.size → ¬ gA G q → U.heap[q]? = s.heap[q]?) (h : K0 G s) : K0 G U := by
  obtain ⟨h1, h2, h3, h4, h5, h6, h7, h8⟩ := h
  exact ⟨h1.moved hv, hn h2, (h3.moved hv).kept hq, (h4.moved hv).kept hq, h5.moved hv, h6.moved hv, ⟨h7.1.moved hv, ⟨(h7.2.1.1.moved hv).kept hq, (h7.2.1.2.moved hv).kept hq⟩, hx h7.2.2⟩, Nat.le_trans h8 hz⟩
theorem K0.same {G : aG} {u U : State} (hv : u.vm = U.vm) (hh : u.heap = U.heap) (h : K0 G u) : K0 G U :=
  K0.at (by rw [hv]; exact Vm.Alike.refl _) (nws_same hv) (xw_same hv) (by rw [hh]; exact Nat.le_refl _) (fun q _ _ => by rw [hh]) h
theorem K0.moved {G : aG} {s U : State} {H : Heap} {locs : List Loc} (hW : s.WarmedH U.vm) (hS : va_S (gA G) s.heap H locs) (hU : U.heap = H) (h : K0 G s) : K0 G U :=
  K0.at hW.alike (nws_moved hW) (xw_moved hW) (by rw [hU]; exact hS.1) (fun q h1 h2 => by rw [hU]; exact hS.2.1 q h1 h2) h
theorem gw_good {w : Cond} (h : w ∈ gw) : goodWord w = true := (List.mem_filter.mp h).2
theorem gw_t {w : Cond} (i : Nat) (h : tables_1[i]? = some w) (g : goodWord w = true) : w ∈ gw := List.mem_filter.mpr ⟨List.mem_append_right _ (List.mem_of_getElem? h), g⟩
theorem gw_s {w : Cond} (i : Nat) (h : (k2_sels lw_privs)[i]? = some w) (g : goodWord w = true) : w ∈ gw := List.mem_filter.mpr ⟨List.mem_append_left _ (List.mem_of_getElem? h), g⟩
theorem gw_in {c : Cond} (h : c ∈ gw) : GoodIn gw (c :: gw) := fun w hw => by
  rcases List.mem_cons.mp hw with e | h1
  · subst e; exact ⟨h, good_of_word (gw_good h)⟩
  · exact ⟨h1, good_of_word (gw_good h1)⟩
/-- ta is one to one on the cells -/
theorem ta_ge {G : aG} {a : Nat} (h : 4 ≤ a) : ta G a + 4 = gB G + a := by
  obtain ⟨b, rfl⟩ : ∃ b, a = b + 4 := ⟨a - 4, by omega⟩
  show gB G + b + 4 = gB G + (b + 4)
  omega
theorem ta_inj {G : aG} {a b : Nat} (ha : 4 ≤ a) (hb : 4 ≤ b) (h : ta G a = ta G b) : a = b := by
  have := ta_ge (G := G) ha
  have := ta_ge (G := G) hb
  omega
theorem ta_A {G : aG} {a : Nat} (h : 4 ≤ a) : gA G (ta G a) := by
  have := ta_ge (G := G) h
  show gB G ≤ ta G a
  omega
theorem tv_cat (G : aG) (v : Value) : (tv G v).category = v.category := by cases v <;> rfl
theorem Rel.at {G : aG} {w : aH} {H : Heap} (h : Rel G w H) {a : Nat} {c : aC} (hc : w.2 a = some c) : va_P (gD G) cls [(ta G a, tc G c)] H := by
  intro k q hk
  match k, hk with
  | 0, hk => cases hk; exact (h.2.2 a c hc).2.2
  | k + 1, hk => simp at hk
theorem Rel.ge {G : aG} {w : aH} {H : Heap} (h : Rel G w H) {a : Nat} {c : aC} (hc : w.2 a = some c) : 4 ≤ a := (h.2.2 a c hc).1
theorem Rel.set {G : aG} {n : Nat} {f : Nat → Option aC} {H H1 : Heap} (h : Rel G (n, f) H) {a : Nat} {c0 c : aC} (hc : f a = some c0) (hz : H1.size = H.size) (oq : ∀ q, q ≠ ta G a → H1[q]? = H[q]?) (he : va_at (gD G) cls (ta G a, tc G c) H1) : Rel G (n, hset f a c) H1 := by
  obtain ⟨h1, h2, h3⟩ := h
  refine ⟨by rw [hz]; exact h1, h2, fun j x hj => ?_⟩
  have ha := h3 a c0 hc
  by_cases e : j = a
  · subst e
    have e2 : some c = some x := by simpa [hset] using hj
    cases e2
    exact ⟨ha.1, ha.2.1, he⟩
  · have e2 : f j = some x := by simpa [hset, e] using hj
    have hb := h3 j x e2
    exact ⟨hb.1, hb.2.1, hb.2.2.kept (oq _ (fun z => e (ta_inj hb.1 ha.1 z)))⟩
theorem Rel.new {G : aG} {n : Nat} {f : Nat → Option aC} {H H1 : Heap} (h : Rel G (n, f) H) {c : aC} (hz : H1.size = H.size + 1) (oq : ∀ q, q < H.size → H1[q]? = H[q]?) (he : va_at (gD G) cls (H.size, tc G c) H1) : Rel G (n + 1, hset f n c) H1 := by
  obtain ⟨h1, h2, h3⟩ := h
  have e0 : ta G n = H.size := by have := ta_ge (G := G) (a := n) h2; dsimp only at h1 h2; omega
  refine ⟨by dsimp only at h1 ⊢; omega, by dsimp only at h2 ⊢; omega, fun j x hj => ?_⟩
  by_cases e : j = n
  · subst e
    have e2 : some c = some x := by simpa [hset] using hj
    cases e2
    exact ⟨h2, Nat.lt_succ_self _, by rw [e0]; exact he⟩
  · have e2 : f j = some x := by simpa [hset, e] using hj
    have hb := h3 j x e2
    exact ⟨hb.1, Nat.lt_succ_of_lt hb.2.1, hb.2.2.kept (oq _ hb.2.2.lt)⟩
theorem Rel.nx {G : aG} {n : Nat} {f : Nat → Option aC} {H : Heap} (h : Rel G (n, f) H) : ta G n = H.size := by
  have := ta_ge (G := G) h.2.1
  have := h.1
  dsimp only at *
  omega
def AX (G : aG) (M : MI) (d mc ms : Nat) (p : Program) (R : Room) (s : State) (m : MethodId) (args : Array Value) (meth : Method) (c : Code) (H : Heap) (locs : List Loc) : Prop :=
  p.tables.exec = Jvm.exec ∧ c.code = M.2.1 ∧ c.maxLocals = M.2.2.1 ∧ s.vm.findClass M.1.cls = some m.cls ∧ (∀ w ∈ gw, w.before args s = true) ∧ meth.sig.returnType = M.2.2.2 ∧ meth.locks = false ∧ meth.name = M.1.name ∧ K0 G s ∧ va_S (gA G) s.heap H locs ∧ d ≤ R.frames ∧ 60 * d ≤ R.locals ∧ mc ≤ R.cells ∧ ms ≤ R.slots
abbrev FT : Type := List Frame → Array Value → State → State → Prop
def AW (G : aG) (M : MI) (d mc ms : Nat) (F : FT) (pc : Nat) (lv : List (Nat × Value)) (st : List Value) (w : aH) (k n : Nat) : Prop :=
  ∀ (p : Program) (l : LN) (e : Env) (R : Room) (s : State) (m : MethodId) (args : Array Value) (below : List Frame) (meth : Method) (c : Code) (H : Heap) (locs : List Loc) (ls : Array Slot), AX G M d mc ms p R s m args meth c H locs → Rel G w H → lv_has ls M.2.2.1 (lv.map (tl G)) → W p l.1 e R s m args below meth c H locs k n (F below args s) (F0 m pc ls (st.map (tv G)))
def AQ (G : aG) (Q : Option Value → aH → Prop) : Array Value → State → Outcome → State → Prop := fun _ st oc t => (∃ (r : Option Value) (w : aH), oc = .returned (r.map (tv G)) ∧ Q r w ∧ Rel G w t.heap) ∧ K0 G t ∧ va_F (gA G) st t
def FQ (G : aG) (mc ms : Nat) (Q : Option Value → aH → Prop) : FT := fun below args s => MQ below (AQ G Q) args s mc ms (gA G)
def APc (G : aG) (av : List Value) (w : aH) : Array Value → State → Prop := va_Pc (av.map (tv G)) (fun U => Rel G w U.heap ∧ K0 G U)
def AMet (G : aG) (M : MI) (d mc ms : Nat) (av : List Value) (w : aH) (Q : Option Value → aH → Prop) : Prop :=
  ∀ (l : LN) (rm : Room), d ≤ rm.frames → 60 * d ≤ rm.locals → rm.cells = mc → rm.slots = ms → Met l.1 M.1 (.code M.1 M.2.1 M.2.2.1 M.2.2.2 :: gw) rm (APc G av w) (AQ G Q) mc ms (gA G)
theorem APc.blind (G : aG) (av : List Value) (w : aH) : FrameBlind (APc G av w) := fun a U g mk h => ⟨h.1, h.2.1, K0.same (u := U) rfl rfl h.2.2⟩
theorem lvt_args (G : aG) : ∀ (i : Nat) (av : List Value), lv_args i (av.map (tv G)) = (lv_args i av).map (tl G)
  | _, [] => rfl
  | i, v :: vs => by
    simp only [List.map_cons, lv_args, tv_cat, lvt_args G _ vs]
    rfl
theorem lgt_len (G : aG) (av : List Value) : (lg_sl (av.map (tv G))).length = (lg_sl av).length := by
  induction av with
  | nil => rfl
  | cons v t ih =>
    simp only [lg_sl, List.map_cons, List.flatMap_cons, List.length_append] at ih ⊢
    rw [ih, tv_cat]
    split <;> rfl
theorem amet_of {G : aG} {M : MI} {d mc ms : Nat} {av : List Value} {w : aH} {Q : Option Value → aH → Prop} (hy : plainFor M.1 = true) (hlen : (lg_sl av).length ≤ M.2.2.1) (h : AW G M d mc ms (FQ G mc ms Q) 0 (lv_args 0 av) [] w 0 0) : AMet G M d mc ms av w Q := by
  intro l rm h1 h2 h3 h4
  refine va_MetF (cc := M.2.1) (maxL := M.2.2.1) (ret := M.2.2.2) hy rfl ?_
  intro p e s m args below meth c s₁ B hml hv
  obtain ⟨rfl, hR, hK⟩ := hv
  have hts := atoms_spec (ws := Cond.code M.1 M.2.1 M.2.2.1 M.2.2.2 :: gw) B.pre
  have hl := lv_entry (av.map (tv G)) (n := M.2.2.1) (by rw [lgt_len]; exact hlen)
  rw [lg_entry_eq]
  rw [lvt_args] at hl
  exact h p l e rm s m _ below meth c s.heap [] _ ⟨B.exec, B.bytes, hml, findClass_of_methodNamed B.named, fun w hw => hts w (List.mem_cons_of_mem _ hw), B.returns, B.notSynchronized, (name_of_methodNamed B.named B.method).1, hK, va_S.rf, h1, h2, Nat.le_of_eq h3.symm, Nat.le_of_eq h4.symm⟩ hR hl
